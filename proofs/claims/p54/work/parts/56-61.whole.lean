section
/-! PART 60: the class, exactly: tape, texts, lay, and two more -/
def fdC (B : Nat → Int32) (z : Nat) (x : Int32) (ν : Nat) : Nat → Nat → Int32
  | 0 => B
  | t + 1 => sf (fdC B z x ν t) (z + t) (vp_nar .byte ((x >>> (nI (8 * (ν - 1 - t)) &&& 31)).toInt8.toInt32))
theorem fdC_s {B : Nat → Int32} {z ν j : Nat} {x : Int32} (h : j + 1 ≤ ν) : fdC B z x ν (ν - j) = sf (fdC B z x ν (ν - (j + 1))) (z + (ν - (j + 1))) (vp_nar .byte ((x >>> (nI (8 * j) &&& 31)).toInt8.toInt32)) := by
  rw [show ν - j = (ν - (j + 1)) + 1 by omega]
  simp only [fdC]
  rw [show ν - 1 - (ν - (j + 1)) = j by omega]
def feedC (B : Nat → Int32) (z : Nat) (x n : Int32) : Nat → Int32 := if feedZ z n = z then B else fdC B z x n.toNatClampNeg n.toNatClampNeg
theorem ri_ex (B : Nat → Int32) (z : Nat) : ∀ (f n : Nat) (q : Tkn) (v : Vg), (riS B z f n q v).1 = -1 ∨ ∃ m, m < n + f ∧ (riS B z f n q v).1 = nI m
  | 0, _, _, _ => Or.inl rfl
  | f + 1, n, q, v => by
    simp only [riS]
    split
    · exact Or.inl rfl
    · split
      · exact Or.inr ⟨n, by omega, rfl⟩
      · split
        · exact (ri_ex B z f (n + 1) _ _).imp id (fun ⟨m, h, e⟩ => ⟨m, by omega, e⟩)
        · exact Or.inl rfl
theorem vl_pos {B : Nat → Int32} {z : Nat} {v : Vg} (h : 0 ≤ (riS B z 250 1 (stp B z 0) v).1) : vlA B z v = (riS B z 250 1 (stp B z 0) v).1 ∧ vlV B z v = (riS B z 250 1 (stp B z 0) v).2.2 := by
  have n : ¬ (vlW B z v).1 = -1 := fun e => by
    have h2 : (0 : Int32) ≤ (vlW B z v).1 := h
    rw [e] at h2; exact absurd h2 (by decide)
  unfold vlA vlV
  rw [if_neg n, if_neg n]; exact ⟨rfl, rfl⟩
theorem vl_neg {B : Nat → Int32} {z : Nat} {v : Vg} (h : ¬ 0 ≤ (riS B z 250 1 (stp B z 0) v).1) : vlA B z v = -20 - nI (riS B z 250 1 (stp B z 0) v).2.1.2.1 ∧ vlV B z v = v := by
  have n : (vlW B z v).1 = -1 := by
    rcases ri_ex B z 250 1 (stp B z 0) v with e | ⟨m, hm, e⟩
    · exact e
    · exact absurd (by rw [e]; exact Int32.not_lt.mp (nI_pos (by omega))) h
  unfold vlA vlV
  rw [if_pos n, if_pos n]; exact ⟨rfl, rfl⟩
theorem lay_y {v : Vg} {g : Sg} {s : Int32} {κ1 b1 : Nat} (c1 : inR s 8 = true) (c2 : hfV g s = 0) (ek : kdV g s = nI κ1) (eb : byV g s = nI b1) (h5 : κ1 ≤ 5) (hb : b1 < 100) : layV v g s = hAR v κ1 b1 := by
  unfold layV nhA
  rw [if_pos c1, if_pos c2, ek, eb, clN (by omega), clN (by omega)]
theorem lay_n {v : Vg} {g : Sg} {s : Int32} (h : ¬ (inR s 8 = true ∧ hfV g s = 0)) : layV v g s = v := by
  unfold layV nhA
  by_cases c : inR s 8 = true
  · rw [if_pos c, if_neg (fun e => h ⟨c, e⟩)]
  · rw [if_neg c, if_neg (by decide)]
set_option maxHeartbeats 4000000 in
theorem x_spare {l : Launch} {h : Hp} {v u w : Vg} {g : Sg} {B : Nat → Int32} {z : Nat} {κ : Int32} (o : Ow h v u w g B z κ) (hg : GOk g)  : Ms l yX6_spare cX6_spare 8 (some .int) 20 [vr 6 0] h (xK h) (fun r h' => PI r ∧ OwX h h' v w g B z κ) := by
  refine Ms.of (by decide) (Nat.le_of_ble_eq_true rfl) (fun G C X F => ?_)
  have C : Cx G cX6_spare 8 RX6 := C
  show Rr G 0 [(0, vr 6 0)] [] h
  have bP := o.pv.bP
  have bM := o.pv.bM
  have bN := o.pv.bN
  have bz := o.pt.2.2
  refine r_aload_n C (dx dX6_spare 0 rfl) rfl ?_
  refine g_X6_16 C (dx dX6_spare 1 rfl) ?_
  refine r_aload_n C (dx dX6_spare 2 rfl) rfl ?_
  refine g_X6_10 C (dx dX6_spare 3 rfl) ?_
  refine r_cv (as := [vr 5 1]) (st := []) C X I_X5_takeOver l_X6_191 (c_X5_takeOver o.pu o.pv (by omega)) (by decide) (Nat.le_of_ble_eq_true rfl) List.prefix_rfl List.prefix_rfl rfl rfl (Nat.le_of_ble_eq_true rfl) rfl (dx dX6_spare 4 rfl) ?_
  intro rh1 h1 hph1 kkh1
  obtain ⟨rfl, wh1, gh1⟩ := hph1
  have oh1 : Ow h1 v v w g B z κ := o.tri wh1 gh1
  have fh1 : Fr 0 63 h h1 := gh1.mono (by omega) (by omega)
  have kh1 : xK h1 = xK h := kkh1
  refine r_iconst (v := -1) C (dx dX6_spare 5 rfl) rfl ?_
  refine r_istore_n (ls' := [(0, vr 6 0), (1, vi (-1))]) C (dx dX6_spare 6 rfl) (by decide) [1, 0] rfl ?_
  refine r_aload_n C (dx dX6_spare 7 rfl) rfl ?_
  refine g_X6_29 C (dx dX6_spare 8 rfl) ?_
  refine r_aload_n C (dx dX6_spare 9 rfl) rfl ?_
  refine g_X6_16 C (dx dX6_spare 10 rfl) ?_
  refine r_cv (as := [vr 5 10]) (st := []) C X I_X4_worthOfDay l_X6_244 (c_worthOfDayW oh1.pu (by omega)) (by decide) (Nat.le_of_ble_eq_true rfl) List.prefix_rfl (pfx_eq kh1) rfl rfl (Nat.le_of_ble_eq_true rfl) rfl (dx dX6_spare 11 rfl) ?_
  intro rh2 h2 hph2 kkh2
  obtain ⟨rfl, qh2, gh2⟩ := hph2
  have oh2 : Ow h2 v v w g B z κ := oh1.tm (gh2.mono (by omega) (by omega))
  have fh2 : Fr 0 63 h h2 := fh1.tr (gh2.mono (by omega) (by omega))
  have kh2 : xK h2 = xK h := (kkh2).trans kh1
  have sh2 : SpI v v h2 := ⟨rfl, fun _ => rfl, fun _ => rfl, qh2⟩
  refine r_lstore_n (ls' := [(0, vr 6 0), (1, vi (-1)), (2, vl (dayC v))]) C (dx dX6_spare 12 rfl) (by decide) [1, 2, 0] rfl ?_
  refine r_iconst (v := nI 0) C (dx dX6_spare 13 rfl) rfl ?_
  refine r_istore (ls' := [(0, vr 6 0), (1, vi (-1)), (2, vl (dayC v)), (4, vi (nI 0))]) C (dx dX6_spare 14 rfl) (by decide) [1, 2, 3, 0] rfl ?_
  refine loopU (Φ := fun p => ∀ (x1 : Int32), ∀ (x2 : Int64), ∀ (h9p : Hp) (u9p : Vg), Ow h9p v u9p w g B z κ → Fr 0 63 h h9p → xK h9p = xK h → SpI v u9p h9p → Rr G 28 [(0, vr 6 0), (1, vi x1), (2, vl x2), (4, vi (nI p))] [] h9p) (N := vP v) ?_ ?_ 0 (by omega) (-1) (dayC v) h2 v oh2 fh2 kh2 sh2
  ·
    intro  x1 x2 h9p u9p oh9p fh9p kh9p sp9p
    refine r_iload C (dx dX6_spare 15 rfl) rfl ?_
    refine r_aload_n C (dx dX6_spare 16 rfl) rfl ?_
    refine g_X6_10 C (dx dX6_spare 17 rfl) ?_
    refine g_X6_138 (x := nI (vP v)) C (dx dX6_spare 18 rfl) oh9p.pv.eP ?_
    refine rn_ge (a := vP v) (b := vP v) (tgt := 163) C (by omega) (by omega) (dx dX6_spare 19 rfl) (by decide) (fun c3 => ?_) (fun c3 => ?_)
    · first
      | (omega; done)
      | (
          have c3 : vP v ≤ vP v := c3
          refine r_iload_n C (dx dX6_spare 80 rfl) rfl ?_
          exact F.1 _ _ _ _ _ rfl rfl (dx dX6_spare 81 rfl) kh9p ⟨⟨_, rfl⟩, ⟨_, oh9p⟩, fh9p⟩)
    · first
      | (omega; done)
  ·
    intro p hp ihp x1 x2 h9p u9p oh9p fh9p kh9p sp9p
    refine r_iload C (dx dX6_spare 15 rfl) rfl ?_
    refine r_aload_n C (dx dX6_spare 16 rfl) rfl ?_
    refine g_X6_10 C (dx dX6_spare 17 rfl) ?_
    refine g_X6_138 (x := nI (vP v)) C (dx dX6_spare 18 rfl) oh9p.pv.eP ?_
    refine rn_ge (a := p) (b := vP v) (tgt := 163) C (by omega) (by omega) (dx dX6_spare 19 rfl) (by decide) (fun c5 => ?_) (fun c5 => ?_)
    · first
      | (omega; done)
      | (
          have c5 : vP v ≤ p := c5
          refine r_iload_n C (dx dX6_spare 80 rfl) rfl ?_
          exact F.1 _ _ _ _ _ rfl rfl (dx dX6_spare 81 rfl) kh9p ⟨⟨_, rfl⟩, ⟨_, oh9p⟩, fh9p⟩)
    · first
      | (omega; done)
      | (
          have c5 : p < vP v := c5
          refine r_aload_n C (dx dX6_spare 20 rfl) rfl ?_
          refine g_X6_10 C (dx dX6_spare 21 rfl) ?_
          refine g_X6_173 C (dx dX6_spare 22 rfl) ?_
          refine r_iload C (dx dX6_spare 23 rfl) rfl ?_
          refine r_iald (j := p) (x := vF v 1 p) C rfl rfl (by decide) rfl (by omega) (dx dX6_spare 24 rfl) (oh9p.pv.e1 (by omega)) ?_
          refine r_iconst (v := -1) C (dx dX6_spare 25 rfl) rfl ?_
          refine r_icmp_ne (tgt := 157) C (dx dX6_spare 26 rfl) (by decide) (fun c6 => ?_) (fun c6 => ?_)
          ·
            have c6 : ¬ vF v 1 p = -1 := c6
            refine rn_iinc (a := p) (k := 1) (ls' := [(0, vr 6 0), (1, vi x1), (2, vl x2), (4, vi (nI (p + 1)))]) C (dx dX6_spare 78 rfl) rfl rfl (by decide) [1, 2, 3, 0] rfl ?_
            refine r_goto (tgt := 28) C (dx dX6_spare 79 rfl) (by decide) ?_
            exact ihp x1 x2 h9p u9p oh9p fh9p kh9p sp9p
          ·
            have c6 : vF v 1 p = -1 := c6
            refine r_iconst (v := nI 0) C (dx dX6_spare 27 rfl) rfl ?_
            refine r_istore (ls' := [(0, vr 6 0), (1, vi x1), (2, vl x2), (4, vi (nI p)), (5, vi (nI 0))]) C (dx dX6_spare 28 rfl) (by decide) [1, 2, 3, 4, 0] rfl ?_
            refine loopU (Φ := fun q => ∀ (x1 : Int32), ∀ (x2 : Int64), ∀ (h9q : Hp) (u9q : Vg), Ow h9q v u9q w g B z κ → Fr 0 63 h h9q → xK h9q = xK h → SpI v u9q h9q → Rr G 57 [(0, vr 6 0), (1, vi x1), (2, vl x2), (4, vi (nI p)), (5, vi (nI q))] [] h9q) (N := vN v) ?_ ?_ 0 (by omega) x1 x2 h9p u9p oh9p fh9p kh9p sp9p
            ·
              intro  x1 x2 h9q u9q oh9q fh9q kh9q sp9q
              refine r_iload C (dx dX6_spare 29 rfl) rfl ?_
              refine r_aload_n C (dx dX6_spare 30 rfl) rfl ?_
              refine g_X6_10 C (dx dX6_spare 31 rfl) ?_
              refine g_X6_154 (x := nI (vN v)) C (dx dX6_spare 32 rfl) oh9q.pv.eN ?_
              refine rn_ge (a := vN v) (b := vN v) (tgt := 146) C (by omega) (by omega) (dx dX6_spare 33 rfl) (by decide) (fun c7 => ?_) (fun c7 => ?_)
              · first
                | (omega; done)
                | (
                    have c7 : vN v ≤ vN v := c7
                    refine r_aload_n C (dx dX6_spare 72 rfl) rfl ?_
                    refine g_X6_16 C (dx dX6_spare 73 rfl) ?_
                    refine g_X6_173 C (dx dX6_spare 74 rfl) ?_
                    refine r_iload C (dx dX6_spare 75 rfl) rfl ?_
                    refine r_iconst (v := -1) C (dx dX6_spare 76 rfl) rfl ?_
                    refine r_iast (j := p) C rfl rfl (by decide) rfl (by omega) (dx dX6_spare 77 rfl) ?_
                    have sh8 : SpI v (vset u9q 1 p (-1)) (sI h9q 12 p (-1)) := sp9q.st (by omega)
                    have oh8 : Ow (sI h9q 12 p (-1)) v (vset u9q 1 p (-1)) w g B z κ := oh9q.tri (oh9q.pu.s1) (Fr.sI (by omega) (by omega))
                    have fh8 : Fr 0 63 h (sI h9q 12 p (-1)) := fh9q.tr (Fr.sI (by omega) (by omega))
                    have kh8 : xK (sI h9q 12 p (-1)) = xK h := kh9q
                    generalize sI h9q 12 p (-1) = h8 at oh8 fh8 kh8 sh8 ⊢
                    refine rn_iinc (a := p) (k := 1) (ls' := [(0, vr 6 0), (1, vi x1), (2, vl x2), (4, vi (nI (p + 1))), (5, vi (nI (vN v)))]) C (dx dX6_spare 78 rfl) rfl rfl (by decide) [1, 2, 3, 0, 4] rfl ?_
                    refine r_goto (tgt := 28) C (dx dX6_spare 79 rfl) (by decide) ?_
                    refine r_weak C [0, 1, 2, 3] rfl ?_
                    exact ihp x1 x2 h8 (vset u9q 1 p (-1)) oh8 fh8 kh8 sh8)
              · first
                | (omega; done)
            ·
              intro q hq ihq x1 x2 h9q u9q oh9q fh9q kh9q sp9q
              refine r_iload C (dx dX6_spare 29 rfl) rfl ?_
              refine r_aload_n C (dx dX6_spare 30 rfl) rfl ?_
              refine g_X6_10 C (dx dX6_spare 31 rfl) ?_
              refine g_X6_154 (x := nI (vN v)) C (dx dX6_spare 32 rfl) oh9q.pv.eN ?_
              refine rn_ge (a := q) (b := vN v) (tgt := 146) C (by omega) (by omega) (dx dX6_spare 33 rfl) (by decide) (fun c10 => ?_) (fun c10 => ?_)
              · first
                | (omega; done)
              · first
                | (omega; done)
                | (
                    have c10 : q < vN v := c10
                    refine r_iload C (dx dX6_spare 34 rfl) rfl ?_
                    refine r_aload_n C (dx dX6_spare 35 rfl) rfl ?_
                    refine g_X6_10 C (dx dX6_spare 36 rfl) ?_
                    refine g_X6_176 C (dx dX6_spare 37 rfl) ?_
                    refine r_iload C (dx dX6_spare 38 rfl) rfl ?_
                    refine r_iald (j := p) (x := vF v 0 p) C rfl rfl (by decide) rfl (by omega) (dx dX6_spare 39 rfl) (oh9q.pv.e0 (by omega)) ?_
                    refine r_icmp_eq (tgt := 140) C (dx dX6_spare 40 rfl) (by decide) (fun c12 => ?_) (fun c12 => ?_)
                    ·
                      have c12 : nI q = vF v 0 p := c12
                      refine rn_iinc (a := q) (k := 1) (ls' := [(0, vr 6 0), (1, vi x1), (2, vl x2), (4, vi (nI p)), (5, vi (nI (q + 1)))]) C (dx dX6_spare 70 rfl) rfl rfl (by decide) [1, 2, 3, 4, 0] rfl ?_
                      refine r_goto (tgt := 57) C (dx dX6_spare 71 rfl) (by decide) ?_
                      exact ihq x1 x2 h9q u9q oh9q fh9q kh9q sp9q
                    ·
                      have c12 : ¬ nI q = vF v 0 p := c12
                      refine r_aload_n C (dx dX6_spare 41 rfl) rfl ?_
                      refine g_X6_10 C (dx dX6_spare 42 rfl) ?_
                      refine r_iload C (dx dX6_spare 43 rfl) rfl ?_
                      refine r_cvP (as := [vi (nI q)]) (st := []) (v := vi (b2i (hasRm v (nI q)))) C X I_X5_hasRoom l_X6_179 (c_X5_hasRoom oh9q.pv _) (by decide) (Nat.le_of_ble_eq_true rfl) (pfx_eq kh9q) rfl rfl (Nat.le_of_ble_eq_true rfl) rfl (dx dX6_spare 44 rfl) ?_
                      refine rb_eq (b := hasRm v (nI q)) (tgt := 140) C (dx dX6_spare 45 rfl) (by decide) (fun c13 => ?_) (fun c13 => ?_)
                      ·
                        have c13 : (hasRm v (nI q)) = false := c13
                        refine rn_iinc (a := q) (k := 1) (ls' := [(0, vr 6 0), (1, vi x1), (2, vl x2), (4, vi (nI p)), (5, vi (nI (q + 1)))]) C (dx dX6_spare 70 rfl) rfl rfl (by decide) [1, 2, 3, 4, 0] rfl ?_
                        refine r_goto (tgt := 57) C (dx dX6_spare 71 rfl) (by decide) ?_
                        exact ihq x1 x2 h9q u9q oh9q fh9q kh9q sp9q
                      ·
                        have c13 : (hasRm v (nI q)) = true := c13
                        refine r_aload_n C (dx dX6_spare 46 rfl) rfl ?_
                        refine g_X6_16 C (dx dX6_spare 47 rfl) ?_
                        refine g_X6_173 C (dx dX6_spare 48 rfl) ?_
                        refine r_iload C (dx dX6_spare 49 rfl) rfl ?_
                        refine r_iload C (dx dX6_spare 50 rfl) rfl ?_
                        refine r_iast (j := p) C rfl rfl (by decide) rfl (by omega) (dx dX6_spare 51 rfl) ?_
                        have sh14 : SpI v (vset u9q 1 p (nI q)) (sI h9q 12 p (nI q)) := sp9q.st (by omega)
                        have oh14 : Ow (sI h9q 12 p (nI q)) v (vset u9q 1 p (nI q)) w g B z κ := oh9q.tri (oh9q.pu.s1) (Fr.sI (by omega) (by omega))
                        have fh14 : Fr 0 63 h (sI h9q 12 p (nI q)) := fh9q.tr (Fr.sI (by omega) (by omega))
                        have kh14 : xK (sI h9q 12 p (nI q)) = xK h := kh9q
                        generalize sI h9q 12 p (nI q) = h14 at oh14 fh14 kh14 sh14 ⊢
                        refine r_aload_n C (dx dX6_spare 52 rfl) rfl ?_
                        refine g_X6_29 C (dx dX6_spare 53 rfl) ?_
                        refine r_aload_n C (dx dX6_spare 54 rfl) rfl ?_
                        refine g_X6_16 C (dx dX6_spare 55 rfl) ?_
                        refine r_cv (as := [vr 5 10]) (st := []) C X I_X4_worthAsWeighed l_X6_299 (c_X4_worthAsWeighed oh14.pu (by omega) sh14.w) (by decide) (Nat.le_of_ble_eq_true rfl) List.prefix_rfl (pfx_eq kh14) rfl rfl (Nat.le_of_ble_eq_true rfl) rfl (dx dX6_spare 56 rfl) ?_
                        intro rh15 h15 hph15 kkh15
                        obtain ⟨rfl, gh15⟩ := hph15
                        have oh15 : Ow h15 v (vset u9q 1 p (nI q)) w g B z κ := oh14.tm (gh15.mono (by omega) (by omega))
                        have fh15 : Fr 0 63 h h15 := fh14.tr (gh15.mono (by omega) (by omega))
                        have kh15 : xK h15 = xK h := (kkh15).trans kh14
                        have sh15 : SpI v (vset u9q 1 p (nI q)) h15 := sh14.fr gh15
                        refine r_lstore (ls' := [(0, vr 6 0), (1, vi x1), (2, vl x2), (4, vi (nI p)), (5, vi (nI q)), (6, vl (dayC (vset u9q 1 p (nI q))))]) C (dx dX6_spare 57 rfl) (by decide) [1, 2, 3, 4, 5, 0] rfl ?_
                        refine r_lload C (dx dX6_spare 58 rfl) rfl ?_
                        refine r_lload_n C (dx dX6_spare 59 rfl) rfl ?_
                        refine r_lcmp C (dx dX6_spare 60 rfl) ?_
                        refine r_if_le (tgt := 140) C (dx dX6_spare 61 rfl) (by decide) (fun c16 => ?_) (fun c16 => ?_)
                        ·
                          have c16 : dayC (vset u9q 1 p (nI q)) ≤ x2 := (lg_cmp_le _ _).mp c16
                          refine rn_iinc (a := q) (k := 1) (ls' := [(0, vr 6 0), (1, vi x1), (2, vl x2), (4, vi (nI p)), (5, vi (nI (q + 1))), (6, vl (dayC (vset u9q 1 p (nI q))))]) C (dx dX6_spare 70 rfl) rfl rfl (by decide) [1, 2, 3, 4, 0, 5] rfl ?_
                          refine r_goto (tgt := 57) C (dx dX6_spare 71 rfl) (by decide) ?_
                          refine r_weak C [0, 1, 2, 3, 4] rfl ?_
                          exact ihq x1 x2 h15 (vset u9q 1 p (nI q)) oh15 fh15 kh15 sh15
                        ·
                          have c16 : ¬ (dayC (vset u9q 1 p (nI q)) ≤ x2) := fun q => c16 ((lg_cmp_le _ _).mpr q)
                          refine r_lload C (dx dX6_spare 62 rfl) rfl ?_
                          refine r_lstore_n (ls' := [(0, vr 6 0), (1, vi x1), (2, vl (dayC (vset u9q 1 p (nI q)))), (4, vi (nI p)), (5, vi (nI q)), (6, vl (dayC (vset u9q 1 p (nI q))))]) C (dx dX6_spare 63 rfl) (by decide) [1, 2, 0, 3, 4, 5] rfl ?_
                          refine r_bipush (v := nI 10) C (dx dX6_spare 64 rfl) rfl ?_
                          refine r_iload C (dx dX6_spare 65 rfl) rfl ?_
                          refine rn_imul (a := 10) (b := p) C (dx dX6_spare 66 rfl) ?_
                          refine r_iload C (dx dX6_spare 67 rfl) rfl ?_
                          refine rn_iadd (a := 10 * p) (b := q) C (dx dX6_spare 68 rfl) ?_
                          refine r_istore_n (ls' := [(0, vr 6 0), (1, vi (nI (10 * p + q))), (2, vl (dayC (vset u9q 1 p (nI q)))), (4, vi (nI p)), (5, vi (nI q)), (6, vl (dayC (vset u9q 1 p (nI q))))]) C (dx dX6_spare 69 rfl) (by decide) [1, 0, 2, 3, 4, 5] rfl ?_
                          refine rn_iinc (a := q) (k := 1) (ls' := [(0, vr 6 0), (1, vi (nI (10 * p + q))), (2, vl (dayC (vset u9q 1 p (nI q)))), (4, vi (nI p)), (5, vi (nI (q + 1))), (6, vl (dayC (vset u9q 1 p (nI q))))]) C (dx dX6_spare 70 rfl) rfl rfl (by decide) [1, 2, 3, 4, 0, 5] rfl ?_
                          refine r_goto (tgt := 57) C (dx dX6_spare 71 rfl) (by decide) ?_
                          refine r_weak C [0, 1, 2, 3, 4] rfl ?_
                          exact ihq (nI (10 * p + q)) (dayC (vset u9q 1 p (nI q))) h15 (vset u9q 1 p (nI q)) oh15 fh15 kh15 sh15))
set_option maxHeartbeats 4000000 in
theorem x_safe {l : Launch} {h : Hp} {v u w : Vg} {g : Sg} {B : Nat → Int32} {z : Nat} {κ : Int32} (o : Ow h v u w g B z κ) (hg : GOk g) (k : Int32) : Ms l yX6_safe cX6_safe 4 (some .int) 20 [vr 6 0, vi k] h (xK h) (fun r h' => PI r ∧ OwX h h' v w g B z κ) := by
  refine Ms.of (by decide) (Nat.le_of_ble_eq_true rfl) (fun G C X F => ?_)
  have C : Cx G cX6_safe 4 RX6 := C
  show Rr G 0 [(0, vr 6 0), (1, vi k)] [] h
  have bP := o.pv.bP
  have bM := o.pv.bM
  have bN := o.pv.bN
  have bz := o.pt.2.2
  refine r_iload_n C (dx dX6_safe 0 rfl) rfl ?_
  refine r_if_lt (tgt := 10) C (dx dX6_safe 1 rfl) (by decide) (fun c1 => ?_) (fun c1 => ?_)
  ·
    have c1 : k < 0 := c1
    refine r_aload_n C (dx dX6_safe 5 rfl) rfl ?_
    refine r_bipush (v := -2) C (dx dX6_safe 6 rfl) rfl ?_
    refine r_cv (as := [vi (-2)]) (st := []) C X I_X6_refuse l_X6_76 (c_X6_refuse (-2)) (by decide) (Nat.le_of_ble_eq_true rfl) List.prefix_rfl List.prefix_rfl rfl rfl (Nat.le_of_ble_eq_true rfl) rfl (dx dX6_safe 7 rfl) ?_
    intro rh2 h2 hph2 kkh2
    obtain ⟨rfl, gh2⟩ := hph2
    have oh2 : Ow h2 v u w g B z κ := o.ref gh2
    have fh2 : Fr 0 63 h h2 := gh2.mono (by omega) (by omega)
    have kh2 : xK h2 = xK h := kkh2
    exact F.1 _ _ _ _ _ rfl rfl (dx dX6_safe 8 rfl) kh2 ⟨⟨_, rfl⟩, ⟨_, oh2⟩, fh2⟩
  ·
    have c1 : ¬ k < 0 := c1
    refine r_iload_n C (dx dX6_safe 2 rfl) rfl ?_
    refine r_bipush (v := nI 8) C (dx dX6_safe 3 rfl) rfl ?_
    refine r_icmp_le (tgt := 17) C (dx dX6_safe 4 rfl) (by decide) (fun c3 => ?_) (fun c3 => ?_)
    ·
      have c3 : k ≤ nI 8 := c3
      obtain ⟨η, hη, rfl⟩ := btw0 (b := 8) (by omega) c1 (Int32.not_lt.mpr c3)
      refine r_aload_n C (dx dX6_safe 9 rfl) rfl ?_
      refine g_X6_29 C (dx dX6_safe 10 rfl) ?_
      refine r_aload_n C (dx dX6_safe 11 rfl) rfl ?_
      refine g_X6_10 C (dx dX6_safe 12 rfl) ?_
      refine r_cv (as := [vr 5 1]) (st := []) C X I_X4_gather l_X6_248 (c_X4_gather o.pv (by omega)) (by decide) (Nat.le_of_ble_eq_true rfl) List.prefix_rfl List.prefix_rfl rfl rfl (Nat.le_of_ble_eq_true rfl) rfl (dx dX6_safe 13 rfl) ?_
      intro rh4 h4 hph4 kkh4
      obtain ⟨rfl, qh4, gh4⟩ := hph4
      have oh4 : Ow h4 v u w g B z κ := o.tm (gh4.mono (by omega) (by omega))
      have fh4 : Fr 0 63 h h4 := gh4.mono (by omega) (by omega)
      have kh4 : xK h4 = xK h := kkh4
      refine r_iconst (v := nI 0) C (dx dX6_safe 14 rfl) rfl ?_
      refine r_istore_n (ls' := [(0, vr 6 0), (1, vi (nI η)), (2, vi (nI 0))]) C (dx dX6_safe 15 rfl) (by decide) [1, 2, 0] rfl ?_
      refine r_iconst (v := nI 0) C (dx dX6_safe 16 rfl) rfl ?_
      refine r_istore_n (ls' := [(0, vr 6 0), (1, vi (nI η)), (2, vi (nI 0)), (3, vi (nI 0))]) C (dx dX6_safe 17 rfl) (by decide) [1, 2, 3, 0] rfl ?_
      refine loopU (Φ := fun p => ∀ (x2 : Int32), Rr G 32 [(0, vr 6 0), (1, vi (nI η)), (2, vi x2), (3, vi (nI p))] [] h4) (N := vM v) ?_ ?_ 0 (by omega) (nI 0)
      ·
        intro  x2
        refine r_iload_n C (dx dX6_safe 18 rfl) rfl ?_
        refine r_aload_n C (dx dX6_safe 19 rfl) rfl ?_
        refine g_X6_10 C (dx dX6_safe 20 rfl) ?_
        refine g_X6_147 (x := nI (vM v)) C (dx dX6_safe 21 rfl) oh4.pv.eM ?_
        refine rn_ge (a := vM v) (b := vM v) (tgt := 71) C (by omega) (by omega) (dx dX6_safe 22 rfl) (by decide) (fun c5 => ?_) (fun c5 => ?_)
        · first
          | (omega; done)
          | (
              have c5 : vM v ≤ vM v := c5
              refine r_iload_n C (dx dX6_safe 39 rfl) rfl ?_
              exact F.1 _ _ _ _ _ rfl rfl (dx dX6_safe 40 rfl) kh4 ⟨⟨_, rfl⟩, ⟨_, oh4⟩, fh4⟩)
        · first
          | (omega; done)
      ·
        intro p hp ihp x2
        refine r_iload_n C (dx dX6_safe 18 rfl) rfl ?_
        refine r_aload_n C (dx dX6_safe 19 rfl) rfl ?_
        refine g_X6_10 C (dx dX6_safe 20 rfl) ?_
        refine g_X6_147 (x := nI (vM v)) C (dx dX6_safe 21 rfl) oh4.pv.eM ?_
        refine rn_ge (a := p) (b := vM v) (tgt := 71) C (by omega) (by omega) (dx dX6_safe 22 rfl) (by decide) (fun c7 => ?_) (fun c7 => ?_)
        · first
          | (omega; done)
          | (
              have c7 : vM v ≤ p := c7
              refine r_iload_n C (dx dX6_safe 39 rfl) rfl ?_
              exact F.1 _ _ _ _ _ rfl rfl (dx dX6_safe 40 rfl) kh4 ⟨⟨_, rfl⟩, ⟨_, oh4⟩, fh4⟩)
        · first
          | (omega; done)
          | (
              have c7 : p < vM v := c7
              refine r_aload_n C (dx dX6_safe 23 rfl) rfl ?_
              refine g_X6_29 C (dx dX6_safe 24 rfl) ?_
              refine r_aload_n C (dx dX6_safe 25 rfl) rfl ?_
              refine g_X6_10 C (dx dX6_safe 26 rfl) ?_
              refine r_iload_n C (dx dX6_safe 27 rfl) rfl ?_
              refine r_cvP (as := [vr 5 1, vi (nI p)]) (st := []) (v := vi (bornV v p)) C X I_X4_bornBy l_X6_278 (c_X4_bornBy oh4.pv (by omega) p qh4) (by decide) (Nat.le_of_ble_eq_true rfl) (pfx_eq kh4) rfl rfl (Nat.le_of_ble_eq_true rfl) rfl (dx dX6_safe 28 rfl) ?_
              refine r_iload_n C (dx dX6_safe 29 rfl) rfl ?_
              refine r_icmp_lt (tgt := 65) C (dx dX6_safe 30 rfl) (by decide) (fun c8 => ?_) (fun c8 => ?_)
              ·
                have c8 : bornV v p < nI η := c8
                refine rn_iinc (a := p) (k := 1) (ls' := [(0, vr 6 0), (1, vi (nI η)), (2, vi x2), (3, vi (nI (p + 1)))]) C (dx dX6_safe 37 rfl) rfl rfl (by decide) [1, 2, 3, 0] rfl ?_
                refine r_goto (tgt := 32) C (dx dX6_safe 38 rfl) (by decide) ?_
                exact ihp x2
              ·
                have c8 : ¬ bornV v p < nI η := c8
                refine r_iload_n C (dx dX6_safe 31 rfl) rfl ?_
                refine r_iconst (v := nI 1) C (dx dX6_safe 32 rfl) rfl ?_
                refine r_iload_n C (dx dX6_safe 33 rfl) rfl ?_
                refine r_ishl C (dx dX6_safe 34 rfl) ?_
                refine r_ior C (dx dX6_safe 35 rfl) ?_
                refine r_istore_n (ls' := [(0, vr 6 0), (1, vi (nI η)), (2, vi (x2 ||| ((nI 1) <<< ((nI p) &&& 31)))), (3, vi (nI p))]) C (dx dX6_safe 36 rfl) (by decide) [1, 2, 0, 3] rfl ?_
                refine rn_iinc (a := p) (k := 1) (ls' := [(0, vr 6 0), (1, vi (nI η)), (2, vi (x2 ||| ((nI 1) <<< ((nI p) &&& 31)))), (3, vi (nI (p + 1)))]) C (dx dX6_safe 37 rfl) rfl rfl (by decide) [1, 2, 3, 0] rfl ?_
                refine r_goto (tgt := 32) C (dx dX6_safe 38 rfl) (by decide) ?_
                exact ihp (x2 ||| ((nI 1) <<< ((nI p) &&& 31))))
    ·
      have c3 : ¬ k ≤ nI 8 := c3
      refine r_aload_n C (dx dX6_safe 5 rfl) rfl ?_
      refine r_bipush (v := -2) C (dx dX6_safe 6 rfl) rfl ?_
      refine r_cv (as := [vi (-2)]) (st := []) C X I_X6_refuse l_X6_76 (c_X6_refuse (-2)) (by decide) (Nat.le_of_ble_eq_true rfl) List.prefix_rfl List.prefix_rfl rfl rfl (Nat.le_of_ble_eq_true rfl) rfl (dx dX6_safe 7 rfl) ?_
      intro rh9 h9 hph9 kkh9
      obtain ⟨rfl, gh9⟩ := hph9
      have oh9 : Ow h9 v u w g B z κ := o.ref gh9
      have fh9 : Fr 0 63 h h9 := gh9.mono (by omega) (by omega)
      have kh9 : xK h9 = xK h := kkh9
      exact F.1 _ _ _ _ _ rfl rfl (dx dX6_safe 8 rfl) kh9 ⟨⟨_, rfl⟩, ⟨_, oh9⟩, fh9⟩
set_option maxHeartbeats 4000000 in
theorem x_copy {l : Launch} {h : Hp} {v u w : Vg} {g : Sg} {B : Nat → Int32} {z : Nat} {κ : Int32} (o : Ow h v u w g B z κ) (hg : GOk g) (p q i j n : Int32) : Ms l yX6_copy cX6_copy 6 (some .int) 20 [vr 6 0, vi p, vi q, vi i, vi j, vi n] h (xK h) (fun r h' => r = some (vi (copA g p q i j n)) ∧ OwX h h' v w (copG g p q i j n) B z κ) := by
  refine Ms.of (by decide) (Nat.le_of_ble_eq_true rfl) (fun G C X F => ?_)
  have C : Cx G cX6_copy 6 RX6 := C
  show Rr G 0 [(0, vr 6 0), (1, vi p), (2, vi q), (3, vi i), (4, vi j), (5, vi n)] [] h
  have bP := o.pv.bP
  have bM := o.pv.bM
  have bN := o.pv.bN
  have bz := o.pt.2.2
  refine r_aload_n C (dx dX6_copy 0 rfl) rfl ?_
  refine g_X6_57 C (dx dX6_copy 1 rfl) ?_
  refine r_iload_n C (dx dX6_copy 2 rfl) rfl ?_
  refine r_cvP (as := [vi p]) (st := []) (v := vi (b2i (inR p 8))) C X I_X2_isShelf l_X6_72 (c_X2_isShelf _) (by decide) (Nat.le_of_ble_eq_true rfl) List.prefix_rfl rfl rfl (Nat.le_of_ble_eq_true rfl) rfl (dx dX6_copy 3 rfl) ?_
  refine rb_eq (b := inR p 8) (tgt := 22) C (dx dX6_copy 4 rfl) (by decide) (fun c1 => ?_) (fun c1 => ?_)
  ·
    have c1 : (inR p 8) = false := c1
    refine r_aload_n C (dx dX6_copy 10 rfl) rfl ?_
    refine r_bipush (v := -2) C (dx dX6_copy 11 rfl) rfl ?_
    refine r_cv (as := [vi (-2)]) (st := []) C X I_X6_refuse l_X6_76 (c_X6_refuse (-2)) (by decide) (Nat.le_of_ble_eq_true rfl) List.prefix_rfl List.prefix_rfl rfl rfl (Nat.le_of_ble_eq_true rfl) rfl (dx dX6_copy 12 rfl) ?_
    intro rh2 h2 hph2 kkh2
    obtain ⟨rfl, gh2⟩ := hph2
    have oh2 : Ow h2 v u w g B z κ := o.ref gh2
    have fh2 : Fr 0 63 h h2 := gh2.mono (by omega) (by omega)
    have kh2 : xK h2 = xK h := kkh2
    have eA : copA g p q i j n = -2 := by simp [copA, copG, copF, cpOk, c1]
    have eG : copG g p q i j n = g := by simp [copA, copG, copF, cpOk, c1]
    exact F.1 _ _ _ _ _ rfl rfl (dx dX6_copy 13 rfl) kh2 (show some (vi (-2)) = some (vi (copA g p q i j n)) ∧ OwX h h2 v w (copG g p q i j n) B z κ from by rw [eA, eG]; exact ⟨rfl, ⟨_, oh2⟩, fh2⟩)
  ·
    have c1 : (inR p 8) = true := c1
    obtain ⟨π, hπ, rfl⟩ := inR_ex (n := 8) (by omega) c1
    refine r_aload_n C (dx dX6_copy 5 rfl) rfl ?_
    refine g_X6_57 C (dx dX6_copy 6 rfl) ?_
    refine r_iload_n C (dx dX6_copy 7 rfl) rfl ?_
    refine r_cvP (as := [vi q]) (st := []) (v := vi (b2i (inR q 8))) C X I_X2_isShelf l_X6_72 (c_X2_isShelf _) (by decide) (Nat.le_of_ble_eq_true rfl) List.prefix_rfl rfl rfl (Nat.le_of_ble_eq_true rfl) rfl (dx dX6_copy 8 rfl) ?_
    refine rb_ne (b := inR q 8) (tgt := 29) C (dx dX6_copy 9 rfl) (by decide) (fun c3 => ?_) (fun c3 => ?_)
    ·
      have c3 : (inR q 8) = true := c3
      obtain ⟨θ, hθ, rfl⟩ := inR_ex (n := 8) (by omega) c3
      refine r_aload_n C (dx dX6_copy 14 rfl) rfl ?_
      refine g_X6_57 C (dx dX6_copy 15 rfl) ?_
      refine r_iload_n C (dx dX6_copy 16 rfl) rfl ?_
      refine r_cvP (as := [vi (nI π)]) (st := []) (v := vi (b2i (holdB g (nI π)))) C X I_X2_isOfHolding l_X6_94 (c_X2_isOfHolding o.pg _) (by decide) (Nat.le_of_ble_eq_true rfl) List.prefix_rfl rfl rfl (Nat.le_of_ble_eq_true rfl) rfl (dx dX6_copy 17 rfl) ?_
      refine rb_ne (b := holdB g (nI π)) (tgt := 51) C (dx dX6_copy 18 rfl) (by decide) (fun c4 => ?_) (fun c4 => ?_)
      ·
        have c4 : (holdB g (nI π)) = true := c4
        refine r_aload_n C (dx dX6_copy 24 rfl) rfl ?_
        refine r_bipush (v := -3) C (dx dX6_copy 25 rfl) rfl ?_
        refine r_cv (as := [vi (-3)]) (st := []) C X I_X6_refuse l_X6_76 (c_X6_refuse (-3)) (by decide) (Nat.le_of_ble_eq_true rfl) List.prefix_rfl List.prefix_rfl rfl rfl (Nat.le_of_ble_eq_true rfl) rfl (dx dX6_copy 26 rfl) ?_
        intro rh5 h5 hph5 kkh5
        obtain ⟨rfl, gh5⟩ := hph5
        have oh5 : Ow h5 v u w g B z κ := o.ref gh5
        have fh5 : Fr 0 63 h h5 := gh5.mono (by omega) (by omega)
        have kh5 : xK h5 = xK h := kkh5
        have eA : copA g (nI π) (nI θ) i j n = -3 := by simp [copA, copG, copF, cpOk, clN (show π < 2 ^ 31 by omega), clN (show θ < 2 ^ 31 by omega), inR_nI (show π < 2 ^ 31 by omega), inR_nI (show θ < 2 ^ 31 by omega), show π < 8 by omega, show θ < 8 by omega, c1, c3, c4]
        have eG : copG g (nI π) (nI θ) i j n = g := by simp [copA, copG, copF, cpOk, clN (show π < 2 ^ 31 by omega), clN (show θ < 2 ^ 31 by omega), inR_nI (show π < 2 ^ 31 by omega), inR_nI (show θ < 2 ^ 31 by omega), show π < 8 by omega, show θ < 8 by omega, c1, c3, c4]
        exact F.1 _ _ _ _ _ rfl rfl (dx dX6_copy 27 rfl) kh5 (show some (vi (-3)) = some (vi (copA g (nI π) (nI θ) i j n)) ∧ OwX h h5 v w (copG g (nI π) (nI θ) i j n) B z κ from by rw [eA, eG]; exact ⟨rfl, ⟨_, oh5⟩, fh5⟩)
      ·
        have c4 : (holdB g (nI π)) = false := c4
        refine r_aload_n C (dx dX6_copy 19 rfl) rfl ?_
        refine g_X6_57 C (dx dX6_copy 20 rfl) ?_
        refine r_iload_n C (dx dX6_copy 21 rfl) rfl ?_
        refine r_cvP (as := [vi (nI θ)]) (st := []) (v := vi (b2i (holdB g (nI θ)))) C X I_X2_isOfHolding l_X6_94 (c_X2_isOfHolding o.pg _) (by decide) (Nat.le_of_ble_eq_true rfl) List.prefix_rfl rfl rfl (Nat.le_of_ble_eq_true rfl) rfl (dx dX6_copy 22 rfl) ?_
        refine rb_eq (b := holdB g (nI θ)) (tgt := 58) C (dx dX6_copy 23 rfl) (by decide) (fun c6 => ?_) (fun c6 => ?_)
        ·
          have c6 : (holdB g (nI θ)) = false := c6
          refine r_aload_n C (dx dX6_copy 28 rfl) rfl ?_
          refine g_X6_57 C (dx dX6_copy 29 rfl) ?_
          refine r_iload_n C (dx dX6_copy 30 rfl) rfl ?_
          refine r_cvP (as := [vi (nI π)]) (st := []) (v := vi (b2i (bareB g (nI π)))) C X I_X2_isBare l_X6_97 (c_X2_isBare o.pg _) (by decide) (Nat.le_of_ble_eq_true rfl) List.prefix_rfl rfl rfl (Nat.le_of_ble_eq_true rfl) rfl (dx dX6_copy 31 rfl) ?_
          refine rb_ne (b := bareB g (nI π)) (tgt := 80) C (dx dX6_copy 32 rfl) (by decide) (fun c7 => ?_) (fun c7 => ?_)
          ·
            have c7 : (bareB g (nI π)) = true := c7
            refine r_aload_n C (dx dX6_copy 38 rfl) rfl ?_
            refine r_bipush (v := -4) C (dx dX6_copy 39 rfl) rfl ?_
            refine r_cv (as := [vi (-4)]) (st := []) C X I_X6_refuse l_X6_76 (c_X6_refuse (-4)) (by decide) (Nat.le_of_ble_eq_true rfl) List.prefix_rfl List.prefix_rfl rfl rfl (Nat.le_of_ble_eq_true rfl) rfl (dx dX6_copy 40 rfl) ?_
            intro rh8 h8 hph8 kkh8
            obtain ⟨rfl, gh8⟩ := hph8
            have oh8 : Ow h8 v u w g B z κ := o.ref gh8
            have fh8 : Fr 0 63 h h8 := gh8.mono (by omega) (by omega)
            have kh8 : xK h8 = xK h := kkh8
            have eA : copA g (nI π) (nI θ) i j n = -4 := by simp [copA, copG, copF, cpOk, clN (show π < 2 ^ 31 by omega), clN (show θ < 2 ^ 31 by omega), inR_nI (show π < 2 ^ 31 by omega), inR_nI (show θ < 2 ^ 31 by omega), show π < 8 by omega, show θ < 8 by omega, c1, c3, c4, c6, c7]
            have eG : copG g (nI π) (nI θ) i j n = g := by simp [copA, copG, copF, cpOk, clN (show π < 2 ^ 31 by omega), clN (show θ < 2 ^ 31 by omega), inR_nI (show π < 2 ^ 31 by omega), inR_nI (show θ < 2 ^ 31 by omega), show π < 8 by omega, show θ < 8 by omega, c1, c3, c4, c6, c7]
            exact F.1 _ _ _ _ _ rfl rfl (dx dX6_copy 41 rfl) kh8 (show some (vi (-4)) = some (vi (copA g (nI π) (nI θ) i j n)) ∧ OwX h h8 v w (copG g (nI π) (nI θ) i j n) B z κ from by rw [eA, eG]; exact ⟨rfl, ⟨_, oh8⟩, fh8⟩)
          ·
            have c7 : (bareB g (nI π)) = false := c7
            refine r_aload_n C (dx dX6_copy 33 rfl) rfl ?_
            refine g_X6_57 C (dx dX6_copy 34 rfl) ?_
            refine r_iload_n C (dx dX6_copy 35 rfl) rfl ?_
            refine r_cvP (as := [vi (nI θ)]) (st := []) (v := vi (b2i (bareB g (nI θ)))) C X I_X2_isBare l_X6_97 (c_X2_isBare o.pg _) (by decide) (Nat.le_of_ble_eq_true rfl) List.prefix_rfl rfl rfl (Nat.le_of_ble_eq_true rfl) rfl (dx dX6_copy 36 rfl) ?_
            refine rb_eq (b := bareB g (nI θ)) (tgt := 87) C (dx dX6_copy 37 rfl) (by decide) (fun c9 => ?_) (fun c9 => ?_)
            ·
              have c9 : (bareB g (nI θ)) = false := c9
              refine r_aload_n C (dx dX6_copy 42 rfl) rfl ?_
              refine g_X6_57 C (dx dX6_copy 43 rfl) ?_
              refine r_iload_n C (dx dX6_copy 44 rfl) rfl ?_
              refine r_cvP (as := [vi (nI π)]) (st := []) (v := vi (tOn g (nI π))) C X I_X2_thingOn l_X6_100 (c_X2_thingOn o.pg _) (by decide) (Nat.le_of_ble_eq_true rfl) List.prefix_rfl rfl rfl (Nat.le_of_ble_eq_true rfl) rfl (dx dX6_copy 45 rfl) ?_
              refine r_aload_n C (dx dX6_copy 46 rfl) rfl ?_
              refine g_X6_57 C (dx dX6_copy 47 rfl) ?_
              refine r_iload_n C (dx dX6_copy 48 rfl) rfl ?_
              refine r_cvP (as := [vi (nI θ)]) (st := [vi (tOn g (nI π))]) (v := vi (tOn g (nI θ))) C X I_X2_thingOn l_X6_100 (c_X2_thingOn o.pg _) (by decide) (Nat.le_of_ble_eq_true rfl) List.prefix_rfl rfl rfl (Nat.le_of_ble_eq_true rfl) rfl (dx dX6_copy 49 rfl) ?_
              refine r_icmp_eq (tgt := 113) C (dx dX6_copy 50 rfl) (by decide) (fun c10 => ?_) (fun c10 => ?_)
              ·
                have c10 : tOn g (nI π) = tOn g (nI θ) := c10
                refine r_iload C (dx dX6_copy 55 rfl) rfl ?_
                refine r_if_lt (tgt := 158) C (dx dX6_copy 56 rfl) (by decide) (fun c11 => ?_) (fun c11 => ?_)
                ·
                  have c11 : n < 0 := c11
                  refine r_aload_n C (dx dX6_copy 77 rfl) rfl ?_
                  refine r_bipush (v := -2) C (dx dX6_copy 78 rfl) rfl ?_
                  refine r_cv (as := [vi (-2)]) (st := []) C X I_X6_refuse l_X6_76 (c_X6_refuse (-2)) (by decide) (Nat.le_of_ble_eq_true rfl) List.prefix_rfl List.prefix_rfl rfl rfl (Nat.le_of_ble_eq_true rfl) rfl (dx dX6_copy 79 rfl) ?_
                  intro rh12 h12 hph12 kkh12
                  obtain ⟨rfl, gh12⟩ := hph12
                  have oh12 : Ow h12 v u w g B z κ := o.ref gh12
                  have fh12 : Fr 0 63 h h12 := gh12.mono (by omega) (by omega)
                  have kh12 : xK h12 = xK h := kkh12
                  have eA : copA g (nI π) (nI θ) i j n = -2 := by simp [copA, copG, copF, cpOk, clN (show π < 2 ^ 31 by omega), clN (show θ < 2 ^ 31 by omega), inR_nI (show π < 2 ^ 31 by omega), inR_nI (show θ < 2 ^ 31 by omega), show π < 8 by omega, show θ < 8 by omega, c1, c3, c4, c6, c7, c9, c10, (fun n9 => inR_neg (n := n9) c11 : ∀ n9, inR n n9 = false), c11]
                  have eG : copG g (nI π) (nI θ) i j n = g := by simp [copA, copG, copF, cpOk, clN (show π < 2 ^ 31 by omega), clN (show θ < 2 ^ 31 by omega), inR_nI (show π < 2 ^ 31 by omega), inR_nI (show θ < 2 ^ 31 by omega), show π < 8 by omega, show θ < 8 by omega, c1, c3, c4, c6, c7, c9, c10, (fun n9 => inR_neg (n := n9) c11 : ∀ n9, inR n n9 = false), c11]
                  exact F.1 _ _ _ _ _ rfl rfl (dx dX6_copy 80 rfl) kh12 (show some (vi (-2)) = some (vi (copA g (nI π) (nI θ) i j n)) ∧ OwX h h12 v w (copG g (nI π) (nI θ) i j n) B z κ from by rw [eA, eG]; exact ⟨rfl, ⟨_, oh12⟩, fh12⟩)
                ·
                  have c11 : ¬ n < 0 := c11
                  obtain ⟨ν, hν, rfl⟩ := nI_of c11
                  refine r_iload_n C (dx dX6_copy 57 rfl) rfl ?_
                  refine r_if_lt (tgt := 158) C (dx dX6_copy 58 rfl) (by decide) (fun c13 => ?_) (fun c13 => ?_)
                  ·
                    have c13 : i < 0 := c13
                    refine r_aload_n C (dx dX6_copy 77 rfl) rfl ?_
                    refine r_bipush (v := -2) C (dx dX6_copy 78 rfl) rfl ?_
                    refine r_cv (as := [vi (-2)]) (st := []) C X I_X6_refuse l_X6_76 (c_X6_refuse (-2)) (by decide) (Nat.le_of_ble_eq_true rfl) List.prefix_rfl List.prefix_rfl rfl rfl (Nat.le_of_ble_eq_true rfl) rfl (dx dX6_copy 79 rfl) ?_
                    intro rh14 h14 hph14 kkh14
                    obtain ⟨rfl, gh14⟩ := hph14
                    have oh14 : Ow h14 v u w g B z κ := o.ref gh14
                    have fh14 : Fr 0 63 h h14 := gh14.mono (by omega) (by omega)
                    have kh14 : xK h14 = xK h := kkh14
                    have eA : copA g (nI π) (nI θ) i j (nI ν) = -2 := by simp [copA, copG, copF, cpOk, clN (show π < 2 ^ 31 by omega), clN (show θ < 2 ^ 31 by omega), clN (show ν < 2 ^ 31 by omega), inR_nI (show π < 2 ^ 31 by omega), inR_nI (show θ < 2 ^ 31 by omega), inR_nI (show ν < 2 ^ 31 by omega), show π < 8 by omega, show θ < 8 by omega, c1, c3, c4, c6, c7, c9, c10, c11, (fun n9 => inR_neg (n := n9) c13 : ∀ n9, inR i n9 = false), c13]
                    have eG : copG g (nI π) (nI θ) i j (nI ν) = g := by simp [copA, copG, copF, cpOk, clN (show π < 2 ^ 31 by omega), clN (show θ < 2 ^ 31 by omega), clN (show ν < 2 ^ 31 by omega), inR_nI (show π < 2 ^ 31 by omega), inR_nI (show θ < 2 ^ 31 by omega), inR_nI (show ν < 2 ^ 31 by omega), show π < 8 by omega, show θ < 8 by omega, c1, c3, c4, c6, c7, c9, c10, c11, (fun n9 => inR_neg (n := n9) c13 : ∀ n9, inR i n9 = false), c13]
                    exact F.1 _ _ _ _ _ rfl rfl (dx dX6_copy 80 rfl) kh14 (show some (vi (-2)) = some (vi (copA g (nI π) (nI θ) i j (nI ν))) ∧ OwX h h14 v w (copG g (nI π) (nI θ) i j (nI ν)) B z κ from by rw [eA, eG]; exact ⟨rfl, ⟨_, oh14⟩, fh14⟩)
                  ·
                    have c13 : ¬ i < 0 := c13
                    obtain ⟨ι, hι, rfl⟩ := nI_of c13
                    refine r_iload C (dx dX6_copy 59 rfl) rfl ?_
                    refine r_if_lt (tgt := 158) C (dx dX6_copy 60 rfl) (by decide) (fun c15 => ?_) (fun c15 => ?_)
                    ·
                      have c15 : j < 0 := c15
                      refine r_aload_n C (dx dX6_copy 77 rfl) rfl ?_
                      refine r_bipush (v := -2) C (dx dX6_copy 78 rfl) rfl ?_
                      refine r_cv (as := [vi (-2)]) (st := []) C X I_X6_refuse l_X6_76 (c_X6_refuse (-2)) (by decide) (Nat.le_of_ble_eq_true rfl) List.prefix_rfl List.prefix_rfl rfl rfl (Nat.le_of_ble_eq_true rfl) rfl (dx dX6_copy 79 rfl) ?_
                      intro rh16 h16 hph16 kkh16
                      obtain ⟨rfl, gh16⟩ := hph16
                      have oh16 : Ow h16 v u w g B z κ := o.ref gh16
                      have fh16 : Fr 0 63 h h16 := gh16.mono (by omega) (by omega)
                      have kh16 : xK h16 = xK h := kkh16
                      have eA : copA g (nI π) (nI θ) (nI ι) j (nI ν) = -2 := by simp [copA, copG, copF, cpOk, clN (show π < 2 ^ 31 by omega), clN (show θ < 2 ^ 31 by omega), clN (show ν < 2 ^ 31 by omega), clN (show ι < 2 ^ 31 by omega), inR_nI (show π < 2 ^ 31 by omega), inR_nI (show θ < 2 ^ 31 by omega), inR_nI (show ν < 2 ^ 31 by omega), inR_nI (show ι < 2 ^ 31 by omega), show π < 8 by omega, show θ < 8 by omega, c1, c3, c4, c6, c7, c9, c10, c11, c13, (fun n9 => inR_neg (n := n9) c15 : ∀ n9, inR j n9 = false), c15]
                      have eG : copG g (nI π) (nI θ) (nI ι) j (nI ν) = g := by simp [copA, copG, copF, cpOk, clN (show π < 2 ^ 31 by omega), clN (show θ < 2 ^ 31 by omega), clN (show ν < 2 ^ 31 by omega), clN (show ι < 2 ^ 31 by omega), inR_nI (show π < 2 ^ 31 by omega), inR_nI (show θ < 2 ^ 31 by omega), inR_nI (show ν < 2 ^ 31 by omega), inR_nI (show ι < 2 ^ 31 by omega), show π < 8 by omega, show θ < 8 by omega, c1, c3, c4, c6, c7, c9, c10, c11, c13, (fun n9 => inR_neg (n := n9) c15 : ∀ n9, inR j n9 = false), c15]
                      exact F.1 _ _ _ _ _ rfl rfl (dx dX6_copy 80 rfl) kh16 (show some (vi (-2)) = some (vi (copA g (nI π) (nI θ) (nI ι) j (nI ν))) ∧ OwX h h16 v w (copG g (nI π) (nI θ) (nI ι) j (nI ν)) B z κ from by rw [eA, eG]; exact ⟨rfl, ⟨_, oh16⟩, fh16⟩)
                    ·
                      have c15 : ¬ j < 0 := c15
                      obtain ⟨ξ, hξ, rfl⟩ := nI_of c15
                      refine r_iload_n C (dx dX6_copy 61 rfl) rfl ?_
                      refine r_aload_n C (dx dX6_copy 62 rfl) rfl ?_
                      refine g_X6_57 C (dx dX6_copy 63 rfl) ?_
                      refine r_iload_n C (dx dX6_copy 64 rfl) rfl ?_
                      refine r_cvP (as := [vi (nI π)]) (st := [vi (nI ι)]) (v := vi (szV g (nI π))) C X I_X2_sizeOf l_X6_87 (c_X2_sizeOf o.pg _) (by decide) (Nat.le_of_ble_eq_true rfl) List.prefix_rfl rfl rfl (Nat.le_of_ble_eq_true rfl) rfl (dx dX6_copy 65 rfl) ?_
                      refine r_iload C (dx dX6_copy 66 rfl) rfl ?_
                      refine r_isub C (dx dX6_copy 67 rfl) ?_
                      refine r_icmp_gt (tgt := 158) C (dx dX6_copy 68 rfl) (by decide) (fun c17 => ?_) (fun c17 => ?_)
                      ·
                        have c17 : (szV g (nI π)) - (nI ν) < nI ι := c17
                        refine r_aload_n C (dx dX6_copy 77 rfl) rfl ?_
                        refine r_bipush (v := -2) C (dx dX6_copy 78 rfl) rfl ?_
                        refine r_cv (as := [vi (-2)]) (st := []) C X I_X6_refuse l_X6_76 (c_X6_refuse (-2)) (by decide) (Nat.le_of_ble_eq_true rfl) List.prefix_rfl List.prefix_rfl rfl rfl (Nat.le_of_ble_eq_true rfl) rfl (dx dX6_copy 79 rfl) ?_
                        intro rh18 h18 hph18 kkh18
                        obtain ⟨rfl, gh18⟩ := hph18
                        have oh18 : Ow h18 v u w g B z κ := o.ref gh18
                        have fh18 : Fr 0 63 h h18 := gh18.mono (by omega) (by omega)
                        have kh18 : xK h18 = xK h := kkh18
                        have eA : copA g (nI π) (nI θ) (nI ι) (nI ξ) (nI ν) = -2 := by simp [copA, copG, copF, cpOk, clN (show π < 2 ^ 31 by omega), clN (show θ < 2 ^ 31 by omega), clN (show ν < 2 ^ 31 by omega), clN (show ι < 2 ^ 31 by omega), clN (show ξ < 2 ^ 31 by omega), inR_nI (show π < 2 ^ 31 by omega), inR_nI (show θ < 2 ^ 31 by omega), inR_nI (show ν < 2 ^ 31 by omega), inR_nI (show ι < 2 ^ 31 by omega), inR_nI (show ξ < 2 ^ 31 by omega), show π < 8 by omega, show θ < 8 by omega, c1, c3, c4, c6, c7, c9, c10, c11, c13, c15, c17, (Int32.not_le.mpr c17)]
                        have eG : copG g (nI π) (nI θ) (nI ι) (nI ξ) (nI ν) = g := by simp [copA, copG, copF, cpOk, clN (show π < 2 ^ 31 by omega), clN (show θ < 2 ^ 31 by omega), clN (show ν < 2 ^ 31 by omega), clN (show ι < 2 ^ 31 by omega), clN (show ξ < 2 ^ 31 by omega), inR_nI (show π < 2 ^ 31 by omega), inR_nI (show θ < 2 ^ 31 by omega), inR_nI (show ν < 2 ^ 31 by omega), inR_nI (show ι < 2 ^ 31 by omega), inR_nI (show ξ < 2 ^ 31 by omega), show π < 8 by omega, show θ < 8 by omega, c1, c3, c4, c6, c7, c9, c10, c11, c13, c15, c17, (Int32.not_le.mpr c17)]
                        exact F.1 _ _ _ _ _ rfl rfl (dx dX6_copy 80 rfl) kh18 (show some (vi (-2)) = some (vi (copA g (nI π) (nI θ) (nI ι) (nI ξ) (nI ν))) ∧ OwX h h18 v w (copG g (nI π) (nI θ) (nI ι) (nI ξ) (nI ν)) B z κ from by rw [eA, eG]; exact ⟨rfl, ⟨_, oh18⟩, fh18⟩)
                      ·
                        have c17 : ¬ (szV g (nI π)) - (nI ν) < nI ι := c17
                        refine r_iload C (dx dX6_copy 69 rfl) rfl ?_
                        refine r_aload_n C (dx dX6_copy 70 rfl) rfl ?_
                        refine g_X6_57 C (dx dX6_copy 71 rfl) ?_
                        refine r_iload_n C (dx dX6_copy 72 rfl) rfl ?_
                        refine r_cvP (as := [vi (nI θ)]) (st := [vi (nI ξ)]) (v := vi (szV g (nI θ))) C X I_X2_sizeOf l_X6_87 (c_X2_sizeOf o.pg _) (by decide) (Nat.le_of_ble_eq_true rfl) List.prefix_rfl rfl rfl (Nat.le_of_ble_eq_true rfl) rfl (dx dX6_copy 73 rfl) ?_
                        refine r_iload C (dx dX6_copy 74 rfl) rfl ?_
                        refine r_isub C (dx dX6_copy 75 rfl) ?_
                        refine r_icmp_le (tgt := 165) C (dx dX6_copy 76 rfl) (by decide) (fun c19 => ?_) (fun c19 => ?_)
                        ·
                          have c19 : nI ξ ≤ (szV g (nI θ)) - (nI ν) := c19
                          refine r_aload_n C (dx dX6_copy 81 rfl) rfl ?_
                          refine g_X6_57 C (dx dX6_copy 82 rfl) ?_
                          refine r_iload_n C (dx dX6_copy 83 rfl) rfl ?_
                          refine r_iload_n C (dx dX6_copy 84 rfl) rfl ?_
                          refine r_iload_n C (dx dX6_copy 85 rfl) rfl ?_
                          refine r_iload C (dx dX6_copy 86 rfl) rfl ?_
                          refine r_iload C (dx dX6_copy 87 rfl) rfl ?_
                          obtain ⟨zp, lp, ep⟩ := sz_nat hg (nI π)
                          obtain ⟨zq, lq, eq⟩ := sz_nat hg (nI θ)
                          refine r_cv (as := [vi (nI π), vi (nI θ), vi (nI ι), vi (nI ξ), vi (nI ν)]) (st := []) C X I_X2_copyElements l_X6_103 (c_X2_copyElements o.pg hπ hθ (not_row c7 c4) (not_row c9 c6) ep eq lp lq (cp_le ep lp (by omega) (by omega) (Int32.not_lt.mp c17)) (cp_le eq lq (by omega) (by omega) c19)) (by decide) (Nat.le_of_ble_eq_true rfl) List.prefix_rfl List.prefix_rfl rfl rfl (Nat.le_of_ble_eq_true rfl) rfl (dx dX6_copy 88 rfl) ?_
                          intro rh20 h20 hph20 kkh20
                          obtain ⟨rfl, wh20, gh20⟩ := hph20
                          have oh20 : Ow h20 v u w (pCp g π θ ι ξ ν) B z κ := o.she wh20 gh20
                          have fh20 : Fr 0 63 h h20 := gh20.mono (by omega) (by omega)
                          have kh20 : xK h20 = xK h := kkh20
                          refine r_iload C (dx dX6_copy 89 rfl) rfl ?_
                          have eA : copA g (nI π) (nI θ) (nI ι) (nI ξ) (nI ν) = nI ν := by simp [copA, copG, copF, cpOk, clN (show π < 2 ^ 31 by omega), clN (show θ < 2 ^ 31 by omega), clN (show ν < 2 ^ 31 by omega), clN (show ι < 2 ^ 31 by omega), clN (show ξ < 2 ^ 31 by omega), inR_nI (show π < 2 ^ 31 by omega), inR_nI (show θ < 2 ^ 31 by omega), inR_nI (show ν < 2 ^ 31 by omega), inR_nI (show ι < 2 ^ 31 by omega), inR_nI (show ξ < 2 ^ 31 by omega), show π < 8 by omega, show θ < 8 by omega, c1, c3, c4, c6, c7, c9, c10, c11, c13, c15, c17, c19, (Int32.not_lt.mp c17)]
                          have eG : copG g (nI π) (nI θ) (nI ι) (nI ξ) (nI ν) = pCp g π θ ι ξ ν := by simp [copA, copG, copF, cpOk, clN (show π < 2 ^ 31 by omega), clN (show θ < 2 ^ 31 by omega), clN (show ν < 2 ^ 31 by omega), clN (show ι < 2 ^ 31 by omega), clN (show ξ < 2 ^ 31 by omega), inR_nI (show π < 2 ^ 31 by omega), inR_nI (show θ < 2 ^ 31 by omega), inR_nI (show ν < 2 ^ 31 by omega), inR_nI (show ι < 2 ^ 31 by omega), inR_nI (show ξ < 2 ^ 31 by omega), show π < 8 by omega, show θ < 8 by omega, c1, c3, c4, c6, c7, c9, c10, c11, c13, c15, c17, c19, (Int32.not_lt.mp c17)]
                          exact F.1 _ _ _ _ _ rfl rfl (dx dX6_copy 90 rfl) kh20 (show some (vi (nI ν)) = some (vi (copA g (nI π) (nI θ) (nI ι) (nI ξ) (nI ν))) ∧ OwX h h20 v w (copG g (nI π) (nI θ) (nI ι) (nI ξ) (nI ν)) B z κ from by rw [eA, eG]; exact ⟨rfl, ⟨_, oh20⟩, fh20⟩)
                        ·
                          have c19 : ¬ nI ξ ≤ (szV g (nI θ)) - (nI ν) := c19
                          refine r_aload_n C (dx dX6_copy 77 rfl) rfl ?_
                          refine r_bipush (v := -2) C (dx dX6_copy 78 rfl) rfl ?_
                          refine r_cv (as := [vi (-2)]) (st := []) C X I_X6_refuse l_X6_76 (c_X6_refuse (-2)) (by decide) (Nat.le_of_ble_eq_true rfl) List.prefix_rfl List.prefix_rfl rfl rfl (Nat.le_of_ble_eq_true rfl) rfl (dx dX6_copy 79 rfl) ?_
                          intro rh21 h21 hph21 kkh21
                          obtain ⟨rfl, gh21⟩ := hph21
                          have oh21 : Ow h21 v u w g B z κ := o.ref gh21
                          have fh21 : Fr 0 63 h h21 := gh21.mono (by omega) (by omega)
                          have kh21 : xK h21 = xK h := kkh21
                          have eA : copA g (nI π) (nI θ) (nI ι) (nI ξ) (nI ν) = -2 := by simp [copA, copG, copF, cpOk, clN (show π < 2 ^ 31 by omega), clN (show θ < 2 ^ 31 by omega), clN (show ν < 2 ^ 31 by omega), clN (show ι < 2 ^ 31 by omega), clN (show ξ < 2 ^ 31 by omega), inR_nI (show π < 2 ^ 31 by omega), inR_nI (show θ < 2 ^ 31 by omega), inR_nI (show ν < 2 ^ 31 by omega), inR_nI (show ι < 2 ^ 31 by omega), inR_nI (show ξ < 2 ^ 31 by omega), show π < 8 by omega, show θ < 8 by omega, c1, c3, c4, c6, c7, c9, c10, c11, c13, c15, c17, c19, (Int32.not_lt.mp c17), (Int32.not_le.mp c19)]
                          have eG : copG g (nI π) (nI θ) (nI ι) (nI ξ) (nI ν) = g := by simp [copA, copG, copF, cpOk, clN (show π < 2 ^ 31 by omega), clN (show θ < 2 ^ 31 by omega), clN (show ν < 2 ^ 31 by omega), clN (show ι < 2 ^ 31 by omega), clN (show ξ < 2 ^ 31 by omega), inR_nI (show π < 2 ^ 31 by omega), inR_nI (show θ < 2 ^ 31 by omega), inR_nI (show ν < 2 ^ 31 by omega), inR_nI (show ι < 2 ^ 31 by omega), inR_nI (show ξ < 2 ^ 31 by omega), show π < 8 by omega, show θ < 8 by omega, c1, c3, c4, c6, c7, c9, c10, c11, c13, c15, c17, c19, (Int32.not_lt.mp c17), (Int32.not_le.mp c19)]
                          exact F.1 _ _ _ _ _ rfl rfl (dx dX6_copy 80 rfl) kh21 (show some (vi (-2)) = some (vi (copA g (nI π) (nI θ) (nI ι) (nI ξ) (nI ν))) ∧ OwX h h21 v w (copG g (nI π) (nI θ) (nI ι) (nI ξ) (nI ν)) B z κ from by rw [eA, eG]; exact ⟨rfl, ⟨_, oh21⟩, fh21⟩)
              ·
                have c10 : ¬ tOn g (nI π) = tOn g (nI θ) := c10
                refine r_aload_n C (dx dX6_copy 51 rfl) rfl ?_
                refine r_bipush (v := -3) C (dx dX6_copy 52 rfl) rfl ?_
                refine r_cv (as := [vi (-3)]) (st := []) C X I_X6_refuse l_X6_76 (c_X6_refuse (-3)) (by decide) (Nat.le_of_ble_eq_true rfl) List.prefix_rfl List.prefix_rfl rfl rfl (Nat.le_of_ble_eq_true rfl) rfl (dx dX6_copy 53 rfl) ?_
                intro rh22 h22 hph22 kkh22
                obtain ⟨rfl, gh22⟩ := hph22
                have oh22 : Ow h22 v u w g B z κ := o.ref gh22
                have fh22 : Fr 0 63 h h22 := gh22.mono (by omega) (by omega)
                have kh22 : xK h22 = xK h := kkh22
                have eA : copA g (nI π) (nI θ) i j n = -3 := by simp [copA, copG, copF, cpOk, clN (show π < 2 ^ 31 by omega), clN (show θ < 2 ^ 31 by omega), inR_nI (show π < 2 ^ 31 by omega), inR_nI (show θ < 2 ^ 31 by omega), show π < 8 by omega, show θ < 8 by omega, c1, c3, c4, c6, c7, c9, c10]
                have eG : copG g (nI π) (nI θ) i j n = g := by simp [copA, copG, copF, cpOk, clN (show π < 2 ^ 31 by omega), clN (show θ < 2 ^ 31 by omega), inR_nI (show π < 2 ^ 31 by omega), inR_nI (show θ < 2 ^ 31 by omega), show π < 8 by omega, show θ < 8 by omega, c1, c3, c4, c6, c7, c9, c10]
                exact F.1 _ _ _ _ _ rfl rfl (dx dX6_copy 54 rfl) kh22 (show some (vi (-3)) = some (vi (copA g (nI π) (nI θ) i j n)) ∧ OwX h h22 v w (copG g (nI π) (nI θ) i j n) B z κ from by rw [eA, eG]; exact ⟨rfl, ⟨_, oh22⟩, fh22⟩)
            ·
              have c9 : (bareB g (nI θ)) = true := c9
              refine r_aload_n C (dx dX6_copy 38 rfl) rfl ?_
              refine r_bipush (v := -4) C (dx dX6_copy 39 rfl) rfl ?_
              refine r_cv (as := [vi (-4)]) (st := []) C X I_X6_refuse l_X6_76 (c_X6_refuse (-4)) (by decide) (Nat.le_of_ble_eq_true rfl) List.prefix_rfl List.prefix_rfl rfl rfl (Nat.le_of_ble_eq_true rfl) rfl (dx dX6_copy 40 rfl) ?_
              intro rh23 h23 hph23 kkh23
              obtain ⟨rfl, gh23⟩ := hph23
              have oh23 : Ow h23 v u w g B z κ := o.ref gh23
              have fh23 : Fr 0 63 h h23 := gh23.mono (by omega) (by omega)
              have kh23 : xK h23 = xK h := kkh23
              have eA : copA g (nI π) (nI θ) i j n = -4 := by simp [copA, copG, copF, cpOk, clN (show π < 2 ^ 31 by omega), clN (show θ < 2 ^ 31 by omega), inR_nI (show π < 2 ^ 31 by omega), inR_nI (show θ < 2 ^ 31 by omega), show π < 8 by omega, show θ < 8 by omega, c1, c3, c4, c6, c7, c9]
              have eG : copG g (nI π) (nI θ) i j n = g := by simp [copA, copG, copF, cpOk, clN (show π < 2 ^ 31 by omega), clN (show θ < 2 ^ 31 by omega), inR_nI (show π < 2 ^ 31 by omega), inR_nI (show θ < 2 ^ 31 by omega), show π < 8 by omega, show θ < 8 by omega, c1, c3, c4, c6, c7, c9]
              exact F.1 _ _ _ _ _ rfl rfl (dx dX6_copy 41 rfl) kh23 (show some (vi (-4)) = some (vi (copA g (nI π) (nI θ) i j n)) ∧ OwX h h23 v w (copG g (nI π) (nI θ) i j n) B z κ from by rw [eA, eG]; exact ⟨rfl, ⟨_, oh23⟩, fh23⟩)
        ·
          have c6 : (holdB g (nI θ)) = true := c6
          refine r_aload_n C (dx dX6_copy 24 rfl) rfl ?_
          refine r_bipush (v := -3) C (dx dX6_copy 25 rfl) rfl ?_
          refine r_cv (as := [vi (-3)]) (st := []) C X I_X6_refuse l_X6_76 (c_X6_refuse (-3)) (by decide) (Nat.le_of_ble_eq_true rfl) List.prefix_rfl List.prefix_rfl rfl rfl (Nat.le_of_ble_eq_true rfl) rfl (dx dX6_copy 26 rfl) ?_
          intro rh24 h24 hph24 kkh24
          obtain ⟨rfl, gh24⟩ := hph24
          have oh24 : Ow h24 v u w g B z κ := o.ref gh24
          have fh24 : Fr 0 63 h h24 := gh24.mono (by omega) (by omega)
          have kh24 : xK h24 = xK h := kkh24
          have eA : copA g (nI π) (nI θ) i j n = -3 := by simp [copA, copG, copF, cpOk, clN (show π < 2 ^ 31 by omega), clN (show θ < 2 ^ 31 by omega), inR_nI (show π < 2 ^ 31 by omega), inR_nI (show θ < 2 ^ 31 by omega), show π < 8 by omega, show θ < 8 by omega, c1, c3, c4, c6]
          have eG : copG g (nI π) (nI θ) i j n = g := by simp [copA, copG, copF, cpOk, clN (show π < 2 ^ 31 by omega), clN (show θ < 2 ^ 31 by omega), inR_nI (show π < 2 ^ 31 by omega), inR_nI (show θ < 2 ^ 31 by omega), show π < 8 by omega, show θ < 8 by omega, c1, c3, c4, c6]
          exact F.1 _ _ _ _ _ rfl rfl (dx dX6_copy 27 rfl) kh24 (show some (vi (-3)) = some (vi (copA g (nI π) (nI θ) i j n)) ∧ OwX h h24 v w (copG g (nI π) (nI θ) i j n) B z κ from by rw [eA, eG]; exact ⟨rfl, ⟨_, oh24⟩, fh24⟩)
    ·
      have c3 : (inR q 8) = false := c3
      refine r_aload_n C (dx dX6_copy 10 rfl) rfl ?_
      refine r_bipush (v := -2) C (dx dX6_copy 11 rfl) rfl ?_
      refine r_cv (as := [vi (-2)]) (st := []) C X I_X6_refuse l_X6_76 (c_X6_refuse (-2)) (by decide) (Nat.le_of_ble_eq_true rfl) List.prefix_rfl List.prefix_rfl rfl rfl (Nat.le_of_ble_eq_true rfl) rfl (dx dX6_copy 12 rfl) ?_
      intro rh25 h25 hph25 kkh25
      obtain ⟨rfl, gh25⟩ := hph25
      have oh25 : Ow h25 v u w g B z κ := o.ref gh25
      have fh25 : Fr 0 63 h h25 := gh25.mono (by omega) (by omega)
      have kh25 : xK h25 = xK h := kkh25
      have eA : copA g (nI π) q i j n = -2 := by simp [copA, copG, copF, cpOk, clN (show π < 2 ^ 31 by omega), inR_nI (show π < 2 ^ 31 by omega), show π < 8 by omega, c1, c3]
      have eG : copG g (nI π) q i j n = g := by simp [copA, copG, copF, cpOk, clN (show π < 2 ^ 31 by omega), inR_nI (show π < 2 ^ 31 by omega), show π < 8 by omega, c1, c3]
      exact F.1 _ _ _ _ _ rfl rfl (dx dX6_copy 13 rfl) kh25 (show some (vi (-2)) = some (vi (copA g (nI π) q i j n)) ∧ OwX h h25 v w (copG g (nI π) q i j n) B z κ from by rw [eA, eG]; exact ⟨rfl, ⟨_, oh25⟩, fh25⟩)
set_option maxHeartbeats 4000000 in
theorem x_feed {l : Launch} {h : Hp} {v u w : Vg} {g : Sg} {B : Nat → Int32} {z : Nat} {κ : Int32} (o : Ow h v u w g B z κ) (hg : GOk g) (x n : Int32) : Ms l yX6_feed cX6_feed 4 (some .int) 20 [vr 6 0, vi x, vi n] h (xK h) (fun r h' => r = some (vi (feedA z n)) ∧ OwX h h' v w g (feedC B z x n) (feedZ z n) κ) := by
  refine Ms.of (by decide) (Nat.le_of_ble_eq_true rfl) (fun G C X F => ?_)
  have C : Cx G cX6_feed 4 RX6 := C
  show Rr G 0 [(0, vr 6 0), (1, vi x), (2, vi n)] [] h
  have bP := o.pv.bP
  have bM := o.pv.bM
  have bN := o.pv.bN
  have bz := o.pt.2.2
  refine r_iload_n C (dx dX6_feed 0 rfl) rfl ?_
  refine r_iconst (v := nI 1) C (dx dX6_feed 1 rfl) rfl ?_
  refine r_icmp_lt (tgt := 10) C (dx dX6_feed 2 rfl) (by decide) (fun c1 => ?_) (fun c1 => ?_)
  ·
    have c1 : n < nI 1 := c1
    refine r_aload_n C (dx dX6_feed 6 rfl) rfl ?_
    refine r_bipush (v := -2) C (dx dX6_feed 7 rfl) rfl ?_
    refine r_cv (as := [vi (-2)]) (st := []) C X I_X6_refuse l_X6_76 (c_X6_refuse (-2)) (by decide) (Nat.le_of_ble_eq_true rfl) List.prefix_rfl List.prefix_rfl rfl rfl (Nat.le_of_ble_eq_true rfl) rfl (dx dX6_feed 8 rfl) ?_
    intro rh2 h2 hph2 kkh2
    obtain ⟨rfl, gh2⟩ := hph2
    have oh2 : Ow h2 v u w g B z κ := o.ref gh2
    have fh2 : Fr 0 63 h h2 := gh2.mono (by omega) (by omega)
    have kh2 : xK h2 = xK h := kkh2
    have eA : feedA z n = -2 := by first | (simp [feedA, feedZ, c1]; done) | ((first | unfold feedA | unfold feedZ); rw [clN (by omega), if_neg (fun q => by have q2 := (nI_ltI (by omega) (by omega)).mp q; omega), if_neg (fun q => by have q2 := (nI_ltI (by omega) (by omega)).mp q; omega)]; first | (rw [if_pos (by omega)]; first | rfl | omega | (congr 1; omega)) | (rw [if_neg (by omega)]))
    have eZ : feedZ z n = z := by first | (simp [feedA, feedZ, c1]; done) | ((first | unfold feedA | unfold feedZ); rw [clN (by omega), if_neg (fun q => by have q2 := (nI_ltI (by omega) (by omega)).mp q; omega), if_neg (fun q => by have q2 := (nI_ltI (by omega) (by omega)).mp q; omega)]; first | (rw [if_pos (by omega)]; first | rfl | omega | (congr 1; omega)) | (rw [if_neg (by omega)]))
    have eB : feedC B z x n = B := by unfold feedC; rw [eZ, if_pos rfl]
    exact F.1 _ _ _ _ _ rfl rfl (dx dX6_feed 9 rfl) kh2 (show some (vi (-2)) = some (vi (feedA z n)) ∧ OwX h h2 v w g (feedC B z x n) (feedZ z n) κ from by rw [eA, eB, eZ]; exact ⟨rfl, ⟨_, oh2⟩, fh2⟩)
  ·
    have c1 : ¬ n < nI 1 := c1
    refine r_iload_n C (dx dX6_feed 3 rfl) rfl ?_
    refine r_iconst (v := nI 4) C (dx dX6_feed 4 rfl) rfl ?_
    refine r_icmp_le (tgt := 17) C (dx dX6_feed 5 rfl) (by decide) (fun c3 => ?_) (fun c3 => ?_)
    ·
      have c3 : n ≤ nI 4 := c3
      obtain ⟨ν, hν, hν2, rfl⟩ := btw (a := 1) (b := 4) (by omega) (by omega) c1 (Int32.not_lt.mpr c3)
      refine r_aload_n C (dx dX6_feed 10 rfl) rfl ?_
      refine g_X6_50 C (dx dX6_feed 11 rfl) ?_
      refine r_cvP (as := []) (st := []) (v := vi (nI z)) C X I_X3_length l_X6_182 (c_X3_length o.pt) (by decide) (Nat.le_of_ble_eq_true rfl) List.prefix_rfl rfl rfl (Nat.le_of_ble_eq_true rfl) rfl (dx dX6_feed 12 rfl) ?_
      refine r_iload_n C (dx dX6_feed 13 rfl) rfl ?_
      refine rn_iadd (a := z) (b := ν) C (dx dX6_feed 14 rfl) ?_
      refine r_sipush (v := nI 250) C (dx dX6_feed 15 rfl) rfl ?_
      refine rn_le (a := z + ν) (b := 250) (tgt := 39) C (by omega) (by omega) (dx dX6_feed 16 rfl) (by decide) (fun c4 => ?_) (fun c4 => ?_)
      · first
        | (omega; done)
        | (
            have c4 : z + ν ≤ 250 := c4
            refine r_iload_n C (dx dX6_feed 21 rfl) rfl ?_
            refine r_iconst (v := nI 1) C (dx dX6_feed 22 rfl) rfl ?_
            refine r_isub C (dx dX6_feed 23 rfl) ?_
            refine r_istore_n (ls' := [(0, vr 6 0), (1, vi x), (2, vi (nI ν)), (3, vi ((nI ν) - (nI 1)))]) C (dx dX6_feed 24 rfl) (by decide) [1, 2, 3, 0] rfl ?_
            refine loopDn (Φ := fun j => j ≤ ν → ∀ (h9 : Hp), Ow h9 v u w g (fdC B z x ν (ν - j)) (z + (ν - j)) κ → Fr 0 63 h h9 → xK h9 = xK h → Rr G 43 [(0, vr 6 0), (1, vi x), (2, vi (nI ν)), (3, vi (nI j - nI 1))] [] h9) ?_ ?_ ν (Nat.le_refl _) _ (by rw [show z + (ν - ν) = z by omega, Nat.sub_self]; exact o) Fr.rf rfl
            ·
              intro hj h9 o9 f9 k9
              rw [show nI 0 - nI 1 = -1 from by decide]
              refine r_iload_n C (dx dX6_feed 25 rfl) rfl ?_
              refine r_if_lt (tgt := 66) C (dx dX6_feed 26 rfl) (by decide) (fun c5 => ?_) (fun c5 => ?_)
              ·
                have c5 : (-1 : Int32) < 0 := c5
                refine r_aload_n C (dx dX6_feed 37 rfl) rfl ?_
                refine g_X6_50 C (dx dX6_feed 38 rfl) ?_
                refine r_cvP (as := []) (st := []) (v := vi (nI (z + (ν - 0)))) C X I_X3_length l_X6_182 (c_X3_length o9.pt) (by decide) (Nat.le_of_ble_eq_true rfl) (pfx_eq k9) rfl rfl (Nat.le_of_ble_eq_true rfl) rfl (dx dX6_feed 39 rfl) ?_
                have eA : feedA z (nI ν) = nI (z + (ν - 0)) := by first | (simp [feedA, feedZ, c5]; done) | ((first | unfold feedA | unfold feedZ); rw [clN (by omega), if_neg (fun q => by have q2 := (nI_ltI (by omega) (by omega)).mp q; omega), if_neg (fun q => by have q2 := (nI_ltI (by omega) (by omega)).mp q; omega)]; first | (rw [if_pos (by omega)]; first | rfl | omega | (congr 1; omega)) | (rw [if_neg (by omega)]))
                have eZ : feedZ z (nI ν) = (z + (ν - 0)) := by first | (simp [feedA, feedZ, c5]; done) | ((first | unfold feedA | unfold feedZ); rw [clN (by omega), if_neg (fun q => by have q2 := (nI_ltI (by omega) (by omega)).mp q; omega), if_neg (fun q => by have q2 := (nI_ltI (by omega) (by omega)).mp q; omega)]; first | (rw [if_pos (by omega)]; first | rfl | omega | (congr 1; omega)) | (rw [if_neg (by omega)]))
                have eB : feedC B z x (nI ν) = fdC B z x ν (ν - 0) := by unfold feedC; rw [eZ, if_neg (by omega), clN (by omega)]; rfl
                exact F.1 _ _ _ _ _ rfl rfl (dx dX6_feed 40 rfl) k9 (show some (vi (nI (z + (ν - 0)))) = some (vi (feedA z (nI ν))) ∧ OwX h h9 v w g (feedC B z x (nI ν)) (feedZ z (nI ν)) κ from by rw [eA, eB, eZ]; exact ⟨rfl, ⟨_, o9⟩, f9⟩)
              · exact absurd (show (-1 : Int32) < 0 by decide) c5
            ·
              intro j ihj hj h9 o9 f9 k9
              rw [show nI (j + 1) - nI 1 = nI j from pk_sub (a := j + 1) (b := 1) (by omega)]
              refine r_iload_n C (dx dX6_feed 25 rfl) rfl ?_
              refine r_if_lt (tgt := 66) C (dx dX6_feed 26 rfl) (by decide) (fun c6 => ?_) (fun c6 => ?_)
              · exact absurd c6 (nI_pos (by omega))
              ·
                have c6 : ¬ nI j < 0 := c6
                refine r_aload_n C (dx dX6_feed 27 rfl) rfl ?_
                refine g_X6_50 C (dx dX6_feed 28 rfl) ?_
                refine r_iload_n C (dx dX6_feed 29 rfl) rfl ?_
                refine r_bipush (v := nI 8) C (dx dX6_feed 30 rfl) rfl ?_
                refine r_iload_n C (dx dX6_feed 31 rfl) rfl ?_
                refine rn_imul (a := 8) (b := j) C (dx dX6_feed 32 rfl) ?_
                refine r_ishr C (dx dX6_feed 33 rfl) ?_
                obtain ⟨t9, s9, e9, hk9⟩ := tk_ex o9.pt
                refine r_cv (as := [vi (x >>> ((nI (8 * j)) &&& 31))]) (st := []) C X I_X3_append l_X6_185 (c_X3_append hk9 (by omega) _) (by decide) (Nat.le_of_ble_eq_true rfl) List.prefix_rfl (pfx_eq k9) rfl rfl (Nat.le_of_ble_eq_true rfl) rfl (dx dX6_feed 34 rfl) ?_
                intro rh7 h7 hph7 kkh7
                obtain ⟨rfl, wh7, gh7⟩ := hph7
                have oh7 : Ow h7 v u w g (sf (fdC B z x ν (ν - (j + 1))) (z + (ν - (j + 1))) (vp_nar .byte ((x >>> ((nI (8 * j)) &&& 31)).toInt8.toInt32))) ((z + (ν - (j + 1))) + 1) κ := o9.tap wh7.1 (gh7.mono (by omega) (by omega))
                have fh7 : Fr 0 63 h h7 := f9.tr (gh7.mono (by omega) (by omega))
                have kh7 : xK h7 = xK h := (kkh7).trans k9
                refine r_iinc (ls' := [(0, vr 6 0), (1, vi x), (2, vi (nI ν)), (3, vi (nI j + (-1)))]) C (dx dX6_feed 35 rfl) rfl rfl (by decide) [1, 2, 3, 0] rfl ?_
                refine r_goto (tgt := 43) C (dx dX6_feed 36 rfl) (by decide) ?_
                rw [add_m1]
                exact ihj (by omega) _ (by rw [show z + (ν - j) = (z + (ν - (j + 1))) + 1 by omega, fdC_s (by omega)]; exact oh7) fh7 kh7)
      · first
        | (omega; done)
        | (
            have c4 : 250 < z + ν := c4
            refine r_aload_n C (dx dX6_feed 17 rfl) rfl ?_
            refine r_bipush (v := -6) C (dx dX6_feed 18 rfl) rfl ?_
            refine r_cv (as := [vi (-6)]) (st := []) C X I_X6_refuse l_X6_76 (c_X6_refuse (-6)) (by decide) (Nat.le_of_ble_eq_true rfl) List.prefix_rfl List.prefix_rfl rfl rfl (Nat.le_of_ble_eq_true rfl) rfl (dx dX6_feed 19 rfl) ?_
            intro rh8 h8 hph8 kkh8
            obtain ⟨rfl, gh8⟩ := hph8
            have oh8 : Ow h8 v u w g B z κ := o.ref gh8
            have fh8 : Fr 0 63 h h8 := gh8.mono (by omega) (by omega)
            have kh8 : xK h8 = xK h := kkh8
            have eA : feedA z (nI ν) = -6 := by first | (simp [feedA, feedZ]; done) | ((first | unfold feedA | unfold feedZ); rw [clN (by omega), if_neg (fun q => by have q2 := (nI_ltI (by omega) (by omega)).mp q; omega), if_neg (fun q => by have q2 := (nI_ltI (by omega) (by omega)).mp q; omega)]; first | (rw [if_pos (by omega)]; first | rfl | omega | (congr 1; omega)) | (rw [if_neg (by omega)]))
            have eZ : feedZ z (nI ν) = z := by first | (simp [feedA, feedZ]; done) | ((first | unfold feedA | unfold feedZ); rw [clN (by omega), if_neg (fun q => by have q2 := (nI_ltI (by omega) (by omega)).mp q; omega), if_neg (fun q => by have q2 := (nI_ltI (by omega) (by omega)).mp q; omega)]; first | (rw [if_pos (by omega)]; first | rfl | omega | (congr 1; omega)) | (rw [if_neg (by omega)]))
            have eB : feedC B z x (nI ν) = B := by unfold feedC; rw [eZ, if_pos rfl]
            exact F.1 _ _ _ _ _ rfl rfl (dx dX6_feed 20 rfl) kh8 (show some (vi (-6)) = some (vi (feedA z (nI ν))) ∧ OwX h h8 v w g (feedC B z x (nI ν)) (feedZ z (nI ν)) κ from by rw [eA, eB, eZ]; exact ⟨rfl, ⟨_, oh8⟩, fh8⟩))
    ·
      have c3 : ¬ n ≤ nI 4 := c3
      refine r_aload_n C (dx dX6_feed 6 rfl) rfl ?_
      refine r_bipush (v := -2) C (dx dX6_feed 7 rfl) rfl ?_
      refine r_cv (as := [vi (-2)]) (st := []) C X I_X6_refuse l_X6_76 (c_X6_refuse (-2)) (by decide) (Nat.le_of_ble_eq_true rfl) List.prefix_rfl List.prefix_rfl rfl rfl (Nat.le_of_ble_eq_true rfl) rfl (dx dX6_feed 8 rfl) ?_
      intro rh9 h9 hph9 kkh9
      obtain ⟨rfl, gh9⟩ := hph9
      have oh9 : Ow h9 v u w g B z κ := o.ref gh9
      have fh9 : Fr 0 63 h h9 := gh9.mono (by omega) (by omega)
      have kh9 : xK h9 = xK h := kkh9
      have eA : feedA z n = -2 := by first | (simp [feedA, feedZ, c1, c3, (Int32.not_le.mp c3)]; done) | ((first | unfold feedA | unfold feedZ); rw [clN (by omega), if_neg (fun q => by have q2 := (nI_ltI (by omega) (by omega)).mp q; omega), if_neg (fun q => by have q2 := (nI_ltI (by omega) (by omega)).mp q; omega)]; first | (rw [if_pos (by omega)]; first | rfl | omega | (congr 1; omega)) | (rw [if_neg (by omega)]))
      have eZ : feedZ z n = z := by first | (simp [feedA, feedZ, c1, c3, (Int32.not_le.mp c3)]; done) | ((first | unfold feedA | unfold feedZ); rw [clN (by omega), if_neg (fun q => by have q2 := (nI_ltI (by omega) (by omega)).mp q; omega), if_neg (fun q => by have q2 := (nI_ltI (by omega) (by omega)).mp q; omega)]; first | (rw [if_pos (by omega)]; first | rfl | omega | (congr 1; omega)) | (rw [if_neg (by omega)]))
      have eB : feedC B z x n = B := by unfold feedC; rw [eZ, if_pos rfl]
      exact F.1 _ _ _ _ _ rfl rfl (dx dX6_feed 9 rfl) kh9 (show some (vi (-2)) = some (vi (feedA z n)) ∧ OwX h h9 v w g (feedC B z x n) (feedZ z n) κ from by rw [eA, eB, eZ]; exact ⟨rfl, ⟨_, oh9⟩, fh9⟩)
set_option maxHeartbeats 4000000 in
theorem x_village {l : Launch} {h : Hp} {v u w : Vg} {g : Sg} {B : Nat → Int32} {z : Nat} {κ : Int32} (o : Ow h v u w g B z κ) (hg : GOk g)  : Ms l yX6_village cX6_village 3 (some .int) 20 [vr 6 0] h (xK h) (fun r h' => r = some (vi (vlA B z v)) ∧ OwX h h' (vlV B z v) w g B 0 κ) := by
  refine Ms.of (by decide) (Nat.le_of_ble_eq_true rfl) (fun G C X F => ?_)
  have C : Cx G cX6_village 3 RX6 := C
  show Rr G 0 [(0, vr 6 0)] [] h
  have bP := o.pv.bP
  have bM := o.pv.bM
  have bN := o.pv.bN
  have bz := o.pt.2.2
  refine r_aload_n C (dx dX6_village 0 rfl) rfl ?_
  refine g_X6_16 C (dx dX6_village 1 rfl) ?_
  refine r_aload_n C (dx dX6_village 2 rfl) rfl ?_
  refine g_X6_10 C (dx dX6_village 3 rfl) ?_
  refine r_cv (as := [vr 5 1]) (st := []) C X I_X5_takeOver l_X6_191 (c_X5_takeOver o.pu o.pv (by omega)) (by decide) (Nat.le_of_ble_eq_true rfl) List.prefix_rfl List.prefix_rfl rfl rfl (Nat.le_of_ble_eq_true rfl) rfl (dx dX6_village 4 rfl) ?_
  intro rh1 h1 hph1 kkh1
  obtain ⟨rfl, wh1, gh1⟩ := hph1
  have oh1 : Ow h1 v v w g B z κ := o.tri wh1 gh1
  have fh1 : Fr 0 63 h h1 := gh1.mono (by omega) (by omega)
  have kh1 : xK h1 = xK h := kkh1
  refine r_aload_n C (dx dX6_village 5 rfl) rfl ?_
  refine g_X6_50 C (dx dX6_village 6 rfl) ?_
  refine r_aload_n C (dx dX6_village 7 rfl) rfl ?_
  refine g_X6_16 C (dx dX6_village 8 rfl) ?_
  obtain ⟨t9, s9, e9, hk9⟩ := tk_ex oh1.pt
  refine r_cv (as := [vr 5 10]) (st := []) C X I_X3_readInto l_X6_195 (c_X3_readInto hk9 oh1.pu (by omega)) (by decide) (Nat.le_of_ble_eq_true rfl) List.prefix_rfl (pfx_eq kh1) rfl rfl (Nat.le_of_ble_eq_true rfl) rfl (dx dX6_village 9 rfl) ?_
  intro rh2 h2 hph2 kkh2
  obtain ⟨rfl, th2, wh2, gh2⟩ := hph2
  have oh2 : Ow h2 v (riS B z 250 1 (stp B z 0) v).2.2 w g B z κ := oh1.rea wh2 th2.1 gh2
  have fh2 : Fr 0 63 h h2 := fh1.tr (gh2.to (fun b q => RT.lo q))
  have kh2 : xK h2 = xK h := (kkh2).trans kh1
  refine r_istore_n (ls' := [(0, vr 6 0), (1, vi ((riS B z 250 1 (stp B z 0) v).1))]) C (dx dX6_village 10 rfl) (by decide) [1, 0] rfl ?_
  refine r_aload_n C (dx dX6_village 11 rfl) rfl ?_
  refine g_X6_50 C (dx dX6_village 12 rfl) ?_
  refine r_cvP (as := []) (st := []) (v := vi (nI (riS B z 250 1 (stp B z 0) v).2.1.2.1)) C X I_X3_faultPlace l_X6_199 (c_X3_faultPlace th2) (by decide) (Nat.le_of_ble_eq_true rfl) (pfx_eq kh2) rfl rfl (Nat.le_of_ble_eq_true rfl) rfl (dx dX6_village 13 rfl) ?_
  refine r_istore_n (ls' := [(0, vr 6 0), (1, vi ((riS B z 250 1 (stp B z 0) v).1)), (2, vi (nI (riS B z 250 1 (stp B z 0) v).2.1.2.1))]) C (dx dX6_village 14 rfl) (by decide) [1, 2, 0] rfl ?_
  refine r_aload_n C (dx dX6_village 15 rfl) rfl ?_
  refine g_X6_50 C (dx dX6_village 16 rfl) ?_
  refine r_cv (as := []) (st := []) C X I_X3_clear l_X6_188 (c_X3_clear oh2.pt) (by decide) (Nat.le_of_ble_eq_true rfl) List.prefix_rfl (pfx_eq kh2) rfl rfl (Nat.le_of_ble_eq_true rfl) rfl (dx dX6_village 17 rfl) ?_
  intro rh3 h3 hph3 kkh3
  obtain ⟨rfl, wh3, gh3⟩ := hph3
  have oh3 : Ow h3 v (riS B z 250 1 (stp B z 0) v).2.2 w g B 0 κ := oh2.tap wh3 (gh3.mono (by omega) (by omega))
  have fh3 : Fr 0 63 h h3 := fh2.tr (gh3.mono (by omega) (by omega))
  have kh3 : xK h3 = xK h := (kkh3).trans kh2
  refine r_iload_n C (dx dX6_village 18 rfl) rfl ?_
  refine r_if_ge (tgt := 54) C (dx dX6_village 19 rfl) (by decide) (fun c4 => ?_) (fun c4 => ?_)
  ·
    have c4 : 0 ≤ (riS B z 250 1 (stp B z 0) v).1 := c4
    refine r_aload_n C (dx dX6_village 28 rfl) rfl ?_
    refine g_X6_10 C (dx dX6_village 29 rfl) ?_
    refine r_aload_n C (dx dX6_village 30 rfl) rfl ?_
    refine g_X6_16 C (dx dX6_village 31 rfl) ?_
    refine r_cv (as := [vr 5 10]) (st := []) C X I_X5_takeOver l_X6_191 (c_X5_takeOver oh3.pv oh3.pu (by omega)) (by decide) (Nat.le_of_ble_eq_true rfl) List.prefix_rfl (pfx_eq kh3) rfl rfl (Nat.le_of_ble_eq_true rfl) rfl (dx dX6_village 32 rfl) ?_
    intro rh5 h5 hph5 kkh5
    obtain ⟨rfl, wh5, gh5⟩ := hph5
    have oh5 : Ow h5 (riS B z 250 1 (stp B z 0) v).2.2 (riS B z 250 1 (stp B z 0) v).2.2 w g B 0 κ := oh3.now wh5 gh5
    have fh5 : Fr 0 63 h h5 := fh3.tr (gh5.mono (by omega) (by omega))
    have kh5 : xK h5 = xK h := (kkh5).trans kh3
    refine r_iload_n C (dx dX6_village 33 rfl) rfl ?_
    exact F.1 _ _ _ _ _ rfl rfl (dx dX6_village 34 rfl) kh5 ⟨by rw [(vl_pos c4).1], by rw [(vl_pos c4).2]; exact ⟨⟨_, oh5⟩, fh5⟩⟩
  ·
    have c4 : ¬ 0 ≤ (riS B z 250 1 (stp B z 0) v).1 := c4
    refine r_aload_n C (dx dX6_village 20 rfl) rfl ?_
    refine r_bipush (v := -2) C (dx dX6_village 21 rfl) rfl ?_
    refine r_cv (as := [vi (-2)]) (st := []) C X I_X6_refuse l_X6_76 (c_X6_refuse (-2)) (by decide) (Nat.le_of_ble_eq_true rfl) List.prefix_rfl (pfx_eq kh3) rfl rfl (Nat.le_of_ble_eq_true rfl) rfl (dx dX6_village 22 rfl) ?_
    intro rh6 h6 hph6 kkh6
    obtain ⟨rfl, gh6⟩ := hph6
    have oh6 : Ow h6 v (riS B z 250 1 (stp B z 0) v).2.2 w g B 0 κ := oh3.ref gh6
    have fh6 : Fr 0 63 h h6 := fh3.tr (gh6.mono (by omega) (by omega))
    have kh6 : xK h6 = xK h := (kkh6).trans kh3
    refine r_popI C (dx dX6_village 23 rfl) ?_
    refine r_bipush (v := -20) C (dx dX6_village 24 rfl) rfl ?_
    refine r_iload_n C (dx dX6_village 25 rfl) rfl ?_
    refine r_isub C (dx dX6_village 26 rfl) ?_
    exact F.1 _ _ _ _ _ rfl rfl (dx dX6_village 27 rfl) kh6 ⟨by rw [(vl_neg c4).1], by rw [(vl_neg c4).2]; exact ⟨⟨_, oh6⟩, fh6⟩⟩
set_option maxHeartbeats 4000000 in
theorem x_lay {l : Launch} {h : Hp} {v u w : Vg} {g : Sg} {B : Nat → Int32} {z : Nat} {κ : Int32} (o : Ow h v u w g B z κ) (hg : GOk g) (ok : VOk v) (s : Int32) : Ms l yX6_lay cX6_lay 3 (some .int) 20 [vr 6 0, vi s] h (xK h) (fun r h' => PI r ∧ OwX h h' (layV v g s) w g B z κ) := by
  refine Ms.of (by decide) (Nat.le_of_ble_eq_true rfl) (fun G C X F => ?_)
  have C : Cx G cX6_lay 3 RX6 := C
  show Rr G 0 [(0, vr 6 0), (1, vi s)] [] h
  have bP := o.pv.bP
  have bM := o.pv.bM
  have bN := o.pv.bN
  have bz := o.pt.2.2
  refine r_aload_n C (dx dX6_lay 0 rfl) rfl ?_
  refine g_X6_57 C (dx dX6_lay 1 rfl) ?_
  refine r_iload_n C (dx dX6_lay 2 rfl) rfl ?_
  refine r_cvP (as := [vi s]) (st := []) (v := vi (b2i (inR s 8))) C X I_X2_isShelf l_X6_72 (c_X2_isShelf _) (by decide) (Nat.le_of_ble_eq_true rfl) List.prefix_rfl rfl rfl (Nat.le_of_ble_eq_true rfl) rfl (dx dX6_lay 3 rfl) ?_
  refine rb_ne (b := inR s 8) (tgt := 18) C (dx dX6_lay 4 rfl) (by decide) (fun c1 => ?_) (fun c1 => ?_)
  ·
    have c1 : (inR s 8) = true := c1
    refine r_aload_n C (dx dX6_lay 9 rfl) rfl ?_
    refine g_X6_57 C (dx dX6_lay 10 rfl) ?_
    refine r_iload_n C (dx dX6_lay 11 rfl) rfl ?_
    refine r_cvP (as := [vi s]) (st := []) (v := vi (hfV g s)) C X I_X2_holdingFault l_X6_114 (c_X2_holdingFault o.pg _) (by decide) (Nat.le_of_ble_eq_true rfl) List.prefix_rfl rfl rfl (Nat.le_of_ble_eq_true rfl) rfl (dx dX6_lay 12 rfl) ?_
    refine r_istore_n (ls' := [(0, vr 6 0), (1, vi s), (2, vi (hfV g s))]) C (dx dX6_lay 13 rfl) (by decide) [1, 2, 0] rfl ?_
    refine r_iload_n C (dx dX6_lay 14 rfl) rfl ?_
    refine r_if_eq (tgt := 37) C (dx dX6_lay 15 rfl) (by decide) (fun c2 => ?_) (fun c2 => ?_)
    ·
      have c2 : hfV g s = 0 := c2
      refine r_aload_n C (dx dX6_lay 20 rfl) rfl ?_
      refine g_X6_36 C (dx dX6_lay 21 rfl) ?_
      refine r_aload_n C (dx dX6_lay 22 rfl) rfl ?_
      refine g_X6_10 C (dx dX6_lay 23 rfl) ?_
      refine r_aload_n C (dx dX6_lay 24 rfl) rfl ?_
      refine g_X6_57 C (dx dX6_lay 25 rfl) ?_
      refine r_iload_n C (dx dX6_lay 26 rfl) rfl ?_
      obtain ⟨κ1, b1, hκ1, hκ2, hκ3, ek, eb⟩ := hg.hold (hf_hold c2)
      refine r_cvP (as := [vi s]) (st := [vr 5 1, vr 0 32]) (v := vi (nI κ1)) C X I_X2_kindOn l_X6_117 (c_kdN o.pg ek) (by decide) (Nat.le_of_ble_eq_true rfl) List.prefix_rfl rfl rfl (Nat.le_of_ble_eq_true rfl) rfl (dx dX6_lay 27 rfl) ?_
      refine r_aload_n C (dx dX6_lay 28 rfl) rfl ?_
      refine g_X6_57 C (dx dX6_lay 29 rfl) ?_
      refine r_iload_n C (dx dX6_lay 30 rfl) rfl ?_
      refine r_cvP (as := [vi s]) (st := [vi (nI κ1), vr 5 1, vr 0 32]) (v := vi (nI b1)) C X I_X2_byOn l_X6_124 (c_byN o.pg eb) (by decide) (Nat.le_of_ble_eq_true rfl) List.prefix_rfl rfl rfl (Nat.le_of_ble_eq_true rfl) rfl (dx dX6_lay 31 rfl) ?_
      refine r_cv (as := [vr 5 1, vi (nI κ1), vi (nI b1)]) (st := []) C X I_X0_tellAnew l_X6_260 (c_X0_tellAnew (r := fun i => xI h (32 + 1) i) (κ := κ1) (b := b1) o.pv (fun i _ => rfl) (by omega) ⟨by omega, by omega⟩ (by omega)) (by decide) (Nat.le_of_ble_eq_true rfl) List.prefix_rfl List.prefix_rfl rfl rfl (Nat.le_of_ble_eq_true rfl) rfl (dx dX6_lay 32 rfl) ?_
      intro rh3 h3 hph3 kkh3
      obtain ⟨rfl, wh3, gh3⟩ := hph3
      have oh3 : Ow h3 (layV v g s) u w g B z κ := by rw [lay_y c1 c2 ek eb (by omega) (by omega), tell_eq (r := fun i => xI h (32 + 1) i) ok ⟨by omega, by omega⟩ (by omega)]; exact o.rul1 wh3 gh3
      have fh3 : Fr 0 63 h h3 := gh3.to (fun b q => RA.lo1 q)
      have kh3 : xK h3 = xK h := kkh3
      have bPh3 := oh3.pv.bP
      have bMh3 := oh3.pv.bM
      have bNh3 := oh3.pv.bN
      refine r_aload_n C (dx dX6_lay 33 rfl) rfl ?_
      refine g_X6_10 C (dx dX6_lay 34 rfl) ?_
      refine r_cvP (as := []) (st := []) (v := vi (nI (cnt (fun p => decide (¬ vF (layV v g s) 0 p = -1)) (vP (layV v g s))))) C X I_X5_holderCount l_X6_135 (c_X5_holderCount oh3.pv) (by decide) (Nat.le_of_ble_eq_true rfl) (pfx_eq kh3) rfl rfl (Nat.le_of_ble_eq_true rfl) rfl (dx dX6_lay 35 rfl) ?_
      exact F.1 _ _ _ _ _ rfl rfl (dx dX6_lay 36 rfl) kh3 ⟨⟨_, rfl⟩, ⟨_, oh3⟩, fh3⟩
    ·
      have c2 : ¬ hfV g s = 0 := c2
      refine r_aload_n C (dx dX6_lay 16 rfl) rfl ?_
      refine r_iload_n C (dx dX6_lay 17 rfl) rfl ?_
      refine r_cv (as := [vi (hfV g s)]) (st := []) C X I_X6_refuse l_X6_76 (c_X6_refuse (hfV g s)) (by decide) (Nat.le_of_ble_eq_true rfl) List.prefix_rfl List.prefix_rfl rfl rfl (Nat.le_of_ble_eq_true rfl) rfl (dx dX6_lay 18 rfl) ?_
      intro rh4 h4 hph4 kkh4
      obtain ⟨rfl, gh4⟩ := hph4
      have oh4 : Ow h4 v u w g B z κ := o.ref gh4
      have fh4 : Fr 0 63 h h4 := gh4.mono (by omega) (by omega)
      have kh4 : xK h4 = xK h := kkh4
      exact F.1 _ _ _ _ _ rfl rfl (dx dX6_lay 19 rfl) kh4 ⟨⟨_, rfl⟩, (by rw [lay_n (fun z9 => c2 z9.2)]; exact ⟨⟨_, oh4⟩, fh4⟩)⟩
  ·
    have c1 : (inR s 8) = false := c1
    refine r_aload_n C (dx dX6_lay 5 rfl) rfl ?_
    refine r_bipush (v := -2) C (dx dX6_lay 6 rfl) rfl ?_
    refine r_cv (as := [vi (-2)]) (st := []) C X I_X6_refuse l_X6_76 (c_X6_refuse (-2)) (by decide) (Nat.le_of_ble_eq_true rfl) List.prefix_rfl List.prefix_rfl rfl rfl (Nat.le_of_ble_eq_true rfl) rfl (dx dX6_lay 7 rfl) ?_
    intro rh5 h5 hph5 kkh5
    obtain ⟨rfl, gh5⟩ := hph5
    have oh5 : Ow h5 v u w g B z κ := o.ref gh5
    have fh5 : Fr 0 63 h h5 := gh5.mono (by omega) (by omega)
    have kh5 : xK h5 = xK h := kkh5
    exact F.1 _ _ _ _ _ rfl rfl (dx dX6_lay 8 rfl) kh5 ⟨⟨_, rfl⟩, (by rw [lay_n (fun z9 => by rw [c1] at z9; exact absurd z9.1 (by decide))]; exact ⟨⟨_, oh5⟩, fh5⟩)⟩
end
section
/-! PART 61: what a village keeps to, whatever is called -/
section OKS
variable {v : Vg}
theorem ok_hold (h : VOk v) {c p : Nat} {x : Int32} (hc : c = 0 ∨ c = 1) (hx : x = -1 ∨ ∃ o, o < vN v ∧ x = nI o) : VOk (vset v c p x) := by
  obtain ⟨a1, a2, a3, a4, a5, a6, a7, b1, b2, b3⟩ := h
  have e : ∀ c' i, 2 ≤ c' → vF (vset v c p x) c' i = vF v c' i := fun c' i h2 => by rw [vset_f, if_neg (by omega)]
  refine ⟨fun o ho => by rw [e 4 o (by decide)]; exact a1 o ho, fun o ho => by rw [e 5 o (by decide)]; exact a2 o ho, fun m hm => by rw [e 3 m (by decide)]; exact a3 m hm, fun o ho => by rw [e 6 o (by decide)]; exact a4 o ho, fun q hq => ?_, fun q hq => ?_, fun m hm => by rw [e 2 m (by decide)]; exact a7 m hm, b1, b2, b3⟩
  · rw [vset_f]; split
    · split
      · exact hx
      · exact a5 q hq
    · exact a5 q hq
  · rw [vset_f]; split
    · split
      · exact hx
      · exact a6 q hq
    · exact a6 q hq
theorem ok_part (h : VOk v) (hP : vP v < 12) : VOk (addPartV v) := by
  obtain ⟨a1, a2, a3, a4, a5, a6, a7, b1, b2, b3⟩ := h
  have e : ∀ c i, 2 ≤ c → vF (addPartV v) c i = vF v c i := fun c i hc => by simp [addPartV, vsP, vset, vF, show ¬ c = 0 by omega, show ¬ c = 1 by omega]
  have e2 : ∀ c i, c < 2 → vF (addPartV v) c i = if i = vP v then -1 else vF v c i := fun c i hc => by
    have : c = 0 ∨ c = 1 := by omega
    rcases this with rfl | rfl <;> simp [addPartV, vsP, vset, vF, vP]
  refine ⟨fun o ho => by rw [e 4 o (by decide)]; exact a1 o ho, fun o ho => by rw [e 5 o (by decide)]; exact a2 o ho, fun m hm => by rw [e 3 m (by decide)]; exact a3 m hm, fun o ho => by rw [e 6 o (by decide)]; exact a4 o ho, fun q hq => ?_, fun q hq => ?_, fun m hm => ?_, by show vP v + 1 ≤ 12; omega, b2, b3⟩
  · have hq : q < vP v + 1 := hq
    rw [e2 0 q (by decide)]; split
    · exact Or.inl rfl
    · exact a5 q (by omega)
  · have hq : q < vP v + 1 := hq
    rw [e2 1 q (by decide)]; split
    · exact Or.inl rfl
    · exact a6 q (by omega)
  · rw [e 2 m (by decide)]
    obtain ⟨S, s1, s2, s3⟩ := a7 m hm
    exact ⟨S, s1, Nat.lt_of_lt_of_le s2 (Nat.pow_le_pow_right (by omega) (show vP v ≤ vP v + 1 by omega)), s3⟩
theorem ok_mac (h : VOk v) {x y : Int32} (hM : vM v < 6) (hx : ∃ S, 1 ≤ S ∧ S < 2 ^ vP v ∧ x = nI S) (hy : ∃ W, 1 ≤ W ∧ W ≤ 99 ∧ y = nI W) : VOk (addMacV v x y) := by
  obtain ⟨a1, a2, a3, a4, a5, a6, a7, b1, b2, b3⟩ := h
  have e : ∀ c i, ¬ c = 2 → ¬ c = 3 → vF (addMacV v x y) c i = vF v c i := fun c i h2 h3 => by simp [addMacV, vsM, vset, vF, h2, h3]
  have e2 : ∀ i, vF (addMacV v x y) 2 i = if i = vM v then x else vF v 2 i := fun i => by simp [addMacV, vsM, vset, vF, vM]
  have e3 : ∀ i, vF (addMacV v x y) 3 i = if i = vM v then y else vF v 3 i := fun i => by simp [addMacV, vsM, vset, vF, vM]
  refine ⟨fun o ho => by rw [e 4 o (by decide) (by decide)]; exact a1 o ho, fun o ho => by rw [e 5 o (by decide) (by decide)]; exact a2 o ho, fun m hm => ?_, fun o ho => by rw [e 6 o (by decide) (by decide)]; exact a4 o ho, fun q hq => by rw [e 0 q (by decide) (by decide)]; exact a5 q hq, fun q hq => by rw [e 1 q (by decide) (by decide)]; exact a6 q hq, fun m hm => ?_, b1, by show vM v + 1 ≤ 6; omega, b3⟩
  · have hm : m < vM v + 1 := hm
    rw [e3]; split
    · exact hy
    · exact a3 m (by omega)
  · have hm : m < vM v + 1 := hm
    rw [e2]; split
    · exact hx
    · exact a7 m (by omega)
theorem ok_one (h : VOk v) {x y : Int32} (hN : vN v < 8) (hx : ∃ H, H ≤ 9 ∧ x = nI H) (hy : ∃ A, A ≤ 10 ∧ y = nI A) : VOk (addOneV v x y) := by
  obtain ⟨a1, a2, a3, a4, a5, a6, a7, b1, b2, b3⟩ := h
  have e : ∀ c i, c < 4 → vF (addOneV v x y) c i = vF v c i := fun c i hc => by simp [addOneV, vsN, vset, vF, show ¬ c = 4 by omega, show ¬ c = 5 by omega, show ¬ c = 6 by omega, show ¬ c = 7 by omega]
  have e4 : ∀ i, vF (addOneV v x y) 4 i = if i = vN v then x else vF v 4 i := fun i => by simp [addOneV, vsN, vset, vF, vN]
  have e5 : ∀ i, vF (addOneV v x y) 5 i = if i = vN v then y else vF v 5 i := fun i => by simp [addOneV, vsN, vset, vF, vN]
  have e6 : ∀ i, vF (addOneV v x y) 6 i = if i = vN v then 0 else vF v 6 i := fun i => by simp [addOneV, vsN, vset, vF, vN]
  refine ⟨fun o ho => ?_, fun o ho => ?_, fun m hm => by rw [e 3 m (by decide)]; exact a3 m hm, fun o ho => ?_, fun q hq => ?_, fun q hq => ?_, fun m hm => by rw [e 2 m (by decide)]; exact a7 m hm, b1, b2, by show vN v + 1 ≤ 8; omega⟩
  · have ho : o < vN v + 1 := ho
    rw [e4]; split
    · exact hx
    · exact a1 o (by omega)
  · have ho : o < vN v + 1 := ho
    rw [e5]; split
    · exact hy
    · exact a2 o (by omega)
  · have ho : o < vN v + 1 := ho
    rw [e6]; split
    · exact Or.inl rfl
    · exact a4 o (by omega)
  · rw [e 0 q (by decide)]; exact (a5 q hq).imp id (fun ⟨o, a, b⟩ => ⟨o, by show o < vN v + 1; omega, b⟩)
  · rw [e 1 q (by decide)]; exact (a6 q hq).imp id (fun ⟨o, a, b⟩ => ⟨o, by show o < vN v + 1; omega, b⟩)
theorem ok_c5 (h : VOk v) {p : Nat} {x : Int32} (hx : ∃ A, A ≤ 10 ∧ x = nI A) : VOk (vset v 5 p x) := by
  obtain ⟨a1, a2, a3, a4, a5, a6, a7, b1, b2, b3⟩ := h
  have e : ∀ c' i, ¬ c' = 5 → vF (vset v 5 p x) c' i = vF v c' i := fun c' i h2 => by rw [vset_f, if_neg h2]
  refine ⟨fun o ho => by rw [e 4 o (by decide)]; exact a1 o ho, fun o ho => ?_, fun m hm => by rw [e 3 m (by decide)]; exact a3 m hm, fun o ho => by rw [e 6 o (by decide)]; exact a4 o ho, fun q hq => by rw [e 0 q (by decide)]; exact a5 q hq, fun q hq => by rw [e 1 q (by decide)]; exact a6 q hq, fun m hm => by rw [e 2 m (by decide)]; exact a7 m hm, b1, b2, b3⟩
  rw [vset_f, if_pos rfl]; split
  · exact hx
  · exact a2 o ho
theorem ok_c6 (h : VOk v) {p : Nat} {x : Int32} (hx : x = nI 0 ∨ x = nI 1) : VOk (vset v 6 p x) := by
  obtain ⟨a1, a2, a3, a4, a5, a6, a7, b1, b2, b3⟩ := h
  have e : ∀ c' i, ¬ c' = 6 → vF (vset v 6 p x) c' i = vF v c' i := fun c' i h2 => by rw [vset_f, if_neg h2]
  refine ⟨fun o ho => by rw [e 4 o (by decide)]; exact a1 o ho, fun o ho => by rw [e 5 o (by decide)]; exact a2 o ho, fun m hm => by rw [e 3 m (by decide)]; exact a3 m hm, fun o ho => ?_, fun q hq => by rw [e 0 q (by decide)]; exact a5 q hq, fun q hq => by rw [e 1 q (by decide)]; exact a6 q hq, fun m hm => by rw [e 2 m (by decide)]; exact a7 m hm, b1, b2, b3⟩
  rw [vset_f, if_pos rfl]; split
  · exact hx
  · exact a4 o ho
/-- the same but for shares and seed -/
theorem ok_cp {u : Vg} (h : VOk v) (e1 : vP u = vP v) (e2 : vM u = vM v) (e3 : vN u = vN v) (e : ∀ c i, c < 7 → vF u c i = vF v c i) : VOk u := by
  obtain ⟨a1, a2, a3, a4, a5, a6, a7, b1, b2, b3⟩ := h
  refine ⟨fun o ho => by rw [e 4 o (by decide)]; exact a1 o (e3 ▸ ho), fun o ho => by rw [e 5 o (by decide)]; exact a2 o (e3 ▸ ho), fun m hm => by rw [e 3 m (by decide)]; exact a3 m (e2 ▸ hm), fun o ho => by rw [e 6 o (by decide)]; exact a4 o (e3 ▸ ho), fun q hq => by rw [e 0 q (by decide), e3]; exact a5 q (e1 ▸ hq), fun q hq => by rw [e 1 q (by decide), e3]; exact a6 q (e1 ▸ hq), fun m hm => by rw [e 2 m (by decide), e1]; exact a7 m (e2 ▸ hm), e1 ▸ b1, e2 ▸ b2, e3 ▸ b3⟩
theorem ok_seed (h : VOk v) (x : Int32) : VOk (vsS v x) := ok_cp h rfl rfl rfl (fun _ _ _ => rfl)
theorem ok_day (h : VOk v) : VOk (dayV v) := ok_cp h rfl rfl rfl (fun c i hc => goV_c v (dayP v) _ (by omega) i _)
theorem ok_daysV (h : VOk v) : ∀ n, VOk (daysV v n)
  | 0 => h
  | n + 1 => ok_day (ok_daysV h n)
theorem ok_days (h : VOk v) (n : Int32) : VOk (daysX v n) := by
  unfold daysX; split
  · exact ok_daysV h _
  · exact h
theorem ok_partV (h : VOk v) : VOk (partV v) := by
  unfold partV; split
  · next c => exact ok_part h c
  · exact h
theorem ok_machV (h : VOk v) (x y : Int32) : VOk (machV v x y) := by
  unfold machV; split
  · next c =>
    split
    · next c2 =>
      unfold machB at c
      simp only [Bool.and_eq_true, Bool.not_eq_true', decide_eq_false_iff_not] at c
      obtain ⟨⟨c3, c4⟩, c5, c6⟩ := c
      have hP := h.2.2.2.2.2.2.2.1
      have h12 : 2 ^ vP v ≤ 2 ^ 12 := Nat.pow_le_pow_right (by omega) hP
      obtain ⟨S, s1, rfl⟩ := inR_ex (Nat.lt_of_le_of_lt h12 (by decide)) c4
      exact ok_mac h c2 ⟨S, by rcases Nat.eq_zero_or_pos S with z | z; exact absurd (by rw [z]; rfl) c3; exact z, s1, rfl⟩ (by obtain ⟨j, j1, j2, j3⟩ := btw (by decide) (by decide) c5 c6; exact ⟨j, j1, j2, j3⟩)
    · exact h
  · exact h
theorem ok_oneV (h : VOk v) (x y : Int32) : VOk (oneV v x y) := by
  unfold oneV; split
  · next c =>
    split
    · next c2 =>
      unfold oneB at c
      simp only [Bool.and_eq_true, Bool.not_eq_true', decide_eq_false_iff_not] at c
      exact ok_one h c2 (btw0 (by decide) c.1.1 c.1.2) (btw0 (by decide) c.2.1 c.2.2)
    · exact h
  · exact h
theorem ok_awayV (h : VOk v) (o x : Int32) : VOk (awayV v o x) := by
  unfold awayV; split
  · next c =>
    unfold awayB at c
    simp only [Bool.and_eq_true, Bool.not_eq_true', decide_eq_false_iff_not] at c
    exact ok_c5 h (btw0 (by decide) c.2.1 c.2.2)
  · exact h
theorem ok_crossV (h : VOk v) (o : Int32) (b : Bool) : VOk (crossV v o b) := by
  unfold crossV; split
  · split
    · exact h
    · exact ok_c6 h (by cases b; exact Or.inl rfl; exact Or.inr rfl)
  · exact h
theorem ok_giveV (h : VOk v) (p o : Int32) (b : Bool) : VOk (giveV v p o b) := by
  unfold giveV; split
  · next c =>
    refine ok_hold h (by cases b; exact Or.inl rfl; exact Or.inr rfl) ?_
    unfold giveF at c
    split at c
    · next c2 =>
      simp only [Bool.and_eq_true, Bool.or_eq_true, decide_eq_true_eq] at c2
      rcases c2.2 with q | q
      · exact Or.inl q
      · have hN := h.2.2.2.2.2.2.2.2.2
        exact Or.inr (inR_ex (by omega) q)
    · exact absurd c (by decide)
  · exact h
theorem ok_swapV (h : VOk v) (p q : Int32) : VOk (swapV v p q) := by
  unfold swapV; split
  · next c =>
    split
    · exact h
    · simp only [Bool.and_eq_true] at c
      have hP := h.2.2.2.2.2.2.2.1
      have i1 := inR_at (by omega) c.1
      have i2 := inR_at (by omega) c.2
      have h5 := h.2.2.2.2.1
      exact ok_hold (v := vset v 0 p.toNatClampNeg (vF v 0 q.toNatClampNeg)) (ok_hold h (Or.inl rfl) (h5 _ i2.2)) (Or.inl rfl) (h5 _ i1.2)
  · exact h
/-- holdings -/
theorem ok_vcol (h : VOk v) {c : Nat} {f : Nat → Int32} (hc : c = 0 ∨ c = 1) (hf : HK v f) : VOk (vcol v c f) := by
  obtain ⟨a1, a2, a3, a4, a5, a6, a7, b1, b2, b3⟩ := h
  have e : ∀ c' i, vF (vcol v c f) c' i = if c' = c then f i else vF v c' i := fun _ _ => rfl
  have e2 : ∀ c' i, 2 ≤ c' → vF (vcol v c f) c' i = vF v c' i := fun c' i h2 => by rw [e, if_neg (by omega)]
  refine ⟨fun o ho => by rw [e2 4 o (by decide)]; exact a1 o ho, fun o ho => by rw [e2 5 o (by decide)]; exact a2 o ho, fun m hm => by rw [e2 3 m (by decide)]; exact a3 m hm, fun o ho => by rw [e2 6 o (by decide)]; exact a4 o ho, fun q hq => ?_, fun q hq => ?_, fun m hm => by rw [e2 2 m (by decide)]; exact a7 m hm, b1, b2, b3⟩
  · rw [e]; split
    · exact hf q hq
    · exact a5 q hq
  · rw [e]; split
    · exact hf q hq
    · exact a6 q hq
theorem hk_setn {F : Nat → Int32} {p : Nat} (h : HK v F) : HK v (sf F p (-1)) := fun q hq => by
  by_cases e : q = p
  · rw [e, sfx_at]; exact Or.inl rfl
  · rw [sfx_ne e]; exact h q hq
theorem hk_sx {F : Nat → Int32} {p : Nat} {x : Int32} (h : HK v F) (hx : x = -1 ∨ ∃ o, o < vN v ∧ x = nI o) : HK v (sf F p x) := by
  rcases hx with e | ⟨o, ho, e⟩
  · rw [e]; exact hk_setn h
  · rw [e]; exact hk_set h ho
theorem hk_rn {f : Nat → Int32} {su : Bool} {a : Nat} (h : HK v f) : ∀ p, HK v (rnF v su f a p).1
  | 0 => h
  | p + 1 => hk_sx (hk_rn h p) (rn_e rfl)
theorem hk_rs {f : Nat → Int32} {a : Nat} (h : HK v f) : ∀ p, HK v (rsF v f a p).1
  | 0 => h
  | p + 1 => hk_sx (hk_rs h p) (nw_ex2 (vcol v 1 (rsF v f a p).1) _ _)
theorem hk_pk {am b : Nat} {F : Nat → Int32} (ha : am ≤ vN v) : pkR v am b F = -1 ∨ ∃ o, o < vN v ∧ pkR v am b F = nI o :=
  pkR_sat.imp (fun z => z.1) (fun ⟨o, a, _, e⟩ => ⟨o, by omega, e⟩)
theorem hk_hn {f : Nat → Int32} {gn : Int32} {am b : Nat} (ha : am ≤ vN v) (h : HK v f) : ∀ p, HK v (hnF v am b f gn p).1
  | 0 => h
  | p + 1 => by
    have ih := hk_hn (gn := gn) (b := b) ha h p
    simp only [hnF]; split
    · exact hk_sx ih (hk_pk ha)
    · exact ih
theorem hk_hw {f : Nat → Int32} {am : Nat} (ha : am ≤ vN v) (h : HK v f) : ∀ t, HK v (hwF v am f t).1
  | 0 => h
  | t + 1 => hk_hn ha (hk_hw ha h t) _
theorem hk_hf {f : Nat → Int32} {gn : Int32} {am : Nat} (ha : am ≤ vN v) (h : HK v f) : ∀ p, p ≤ vP v → HK v (hfF v am gn f p)
  | 0, _ => h
  | p + 1, hp => by
    have ih := hk_hf (gn := gn) ha h p (by omega)
    simp only [hfF]
    split
    · exact hk_sx ih (ih p (by omega))
    · exact hk_sx ih (fwA_sat.imp id (fun ⟨o, a, _, e⟩ => ⟨o, by omega, e⟩))
theorem ok_clr (h : VOk v) : VOk (clr v (vP v)) := by
  obtain ⟨a1, a2, a3, a4, a5, a6, a7, b1, b2, b3⟩ := h
  have e : ∀ c i, 2 ≤ c → vF (clr v (vP v)) c i = vF v c i := fun c i hc => by simp only [clr, vF]; rw [if_neg (by omega)]
  have e2 : ∀ c i, c < 2 → i < vP v → vF (clr v (vP v)) c i = -1 := fun c i hc hi => by simp only [clr, vF]; rw [if_pos ⟨hc, hi⟩]
  exact ⟨fun o ho => by rw [e 4 o (by decide)]; exact a1 o ho, fun o ho => by rw [e 5 o (by decide)]; exact a2 o ho, fun m hm => by rw [e 3 m (by decide)]; exact a3 m hm, fun o ho => by rw [e 6 o (by decide)]; exact a4 o ho, fun q hq => Or.inl (e2 0 q (by decide) hq), fun q hq => Or.inl (e2 1 q (by decide) hq), fun m hm => by rw [e 2 m (by decide)]; exact a7 m hm, b1, b2, b3⟩
theorem ok_hAR (h : VOk v) (κ b : Nat) : VOk (hAR v κ b) := by
  have hc := ok_clr h
  have k0 : HK (clr v (vP v)) (vF (clr v (vP v)) 0) := fun q hq => hc.2.2.2.2.1 q hq
  have k1 : HK (clr v (vP v)) (vF (clr v (vP v)) 1) := fun q hq => hc.2.2.2.2.2.1 q hq
  unfold hAR
  split
  · refine ok_vcol hc (Or.inl rfl) ?_
    have ha : (if κ = 5 ∧ 0 < b ∧ b < vN v then b else vN v) ≤ vN (clr v (vP v)) := by
      show _ ≤ vN v
      split <;> omega
    exact hk_hf ha (hk_hw ha k0 _) _ (Nat.le_refl _)
  · split
    · have h2 := ok_vcol hc (c := 0) (Or.inl rfl) (hk_rn (su := false) (a := plc v b) k0 (vP v))
      exact ok_vcol h2 (Or.inr rfl) (hk_rs (v := vcol (clr v (vP v)) 0 (rnF (clr v (vP v)) false (vF (clr v (vP v)) 0) (plc v b) (vP v)).1) k1 (vP v))
    · exact ok_vcol hc (Or.inl rfl) (hk_rn k0 _)
theorem ok_layV (h : VOk v) (g : Sg) (s : Int32) : VOk (layV v g s) := by
  unfold layV; split
  · exact ok_hAR h _ _
  · exact h
/-- texts -/
theorem nm_btw {B : Nat → Int32} {z a b : Nat} {q : Tkn} (ha : a < 2 ^ 30) (hb : b < 2 ^ 30) (h : ¬ nmQ B z q (nI a) (nI b) = -1) : ∃ j, a ≤ j ∧ j ≤ b ∧ nmQ B z q (nI a) (nI b) = nI j := by
  unfold nmQ nmV at h ⊢
  split at h
  · next c =>
    rw [if_pos c]
    split at h
    · exact absurd rfl h
    · next c2 =>
      rw [if_neg c2]
      split at h
      · next c3 => rw [if_pos c3]; exact btw ha hb c2 (Int32.not_lt.mpr c3)
      · exact absurd rfl h
  · exact absurd rfl h
theorem nm_one {B : Nat → Int32} {z n : Nat} {q : Tkn} (hn : n < 2 ^ 30) (h : ¬ nmQ B z q (nI 0) (nI n - nI 1) = -1) : ∃ o, o < n ∧ nmQ B z q (nI 0) (nI n - nI 1) = nI o := inR_ex (by omega) (nm_in hn h)
theorem ok_by {B : Nat → Int32} {z c i p : Nat} {q : Tkn} (h : VOk v) (hc : c = 0 ∨ c = 1) : VOk (byS B z c i p q v).2.2 := by
  unfold byS
  split
  · split
    · next r =>
      unfold hasRm at r
      simp only [Bool.and_eq_true] at r
      have hN := h.2.2.2.2.2.2.2.2.2
      exact ok_hold h hc (Or.inr (inR_ex (by omega) r.1))
    · exact h
  · exact h
theorem ok_pt {B : Nat → Int32} {z : Nat} {q : Tkn} (h : VOk v) : VOk (ptW B z q v).2.2 := by
  unfold ptW
  split
  · next c =>
    have h1 := ok_part h c
    split
    · exact ok_by (ok_by h1 (Or.inl rfl)) (Or.inr rfl)
    · exact ok_by h1 (Or.inl rfl)
  · exact h
theorem ok_gv {B : Nat → Int32} {z e : Nat} (h : VOk v) : VOk (gvW B z e v).2.2 := by
  unfold gvW
  split
  · exact h
  · split
    · exact h
    · next c =>
      have hN := h.2.2.2.2.2.2.2.2.2
      exact ok_hold h (Or.inl rfl) (Or.inr (nm_one (by omega) (fun z9 => c (Or.inl z9))))
theorem ok_oe {B : Nat → Int32} {z : Nat} {q : Tkn} {x y : Int32} (h : VOk v) (hN : vN v < 8) (hx : ∃ H, H ≤ 9 ∧ x = nI H) (hy : ∃ A, A ≤ 10 ∧ y = nI A) : VOk (oneE B z q v x y).2.2 := by
  unfold oneE
  split
  · exact ok_c6 (ok_one h hN hx hy) (Or.inr rfl)
  · exact ok_one h hN hx hy
theorem ok_oa {B : Nat → Int32} {z : Nat} {q : Tkn} {x : Int32} (h : VOk v) (hN : vN v < 8) (hx : ∃ H, H ≤ 9 ∧ x = nI H) : VOk (oneA B z q v x).2.2 := by
  unfold oneA
  split
  · split
    · exact h
    · next c => exact ok_oe h hN hx (by obtain ⟨j, _, b, c⟩ := nm_btw (by decide) (by decide) c; exact ⟨j, b, c⟩)
  · exact ok_oe h hN hx ⟨0, by omega, rfl⟩
theorem ok_on {B : Nat → Int32} {z : Nat} {q : Tkn} (h : VOk v) : VOk (oneW B z q v).2.2 := by
  unfold oneW
  split
  · next hN =>
    split
    · exact h
    · next c => exact ok_oa h hN (by obtain ⟨j, _, b, c⟩ := nm_btw (by decide) (by decide) c; exact ⟨j, b, c⟩)
  · exact h
theorem ok_nd {B : Nat → Int32} {z : Nat} (hP : vP v ≤ 12) : ∀ (n : Nat) (q : Tkn) (S : Nat), S < 2 ^ vP v → ∃ S', S' < 2 ^ vP v ∧ S ≤ S' ∧ (ndR B z v n q (nI S)).2.2 = nI S' ∧ (0 < n → (ndR B z v n q (nI S)).1 = true → 1 ≤ S')
  | 0, q, S, hS => ⟨S, hS, Nat.le_refl _, rfl, fun z => absurd z (by omega)⟩
  | n + 1, q, S, hS => by
    simp only [ndR]
    split
    · exact ⟨S, hS, Nat.le_refl _, rfl, fun _ z9 => absurd (show false = true from z9) (by decide)⟩
    · next c =>
      obtain ⟨p, hp, e⟩ := nm_one (by omega) c
      have e2 : (nI S ||| (nI 1 <<< (nmQ B z (stp B z q.2.2) (nI 0) (nI (vP v) - nI 1) &&& 31))) = nI (S ||| 2 ^ p) := by rw [e, sh1 (by omega), nI_or]
      have l2 : S ||| 2 ^ p < 2 ^ vP v := Nat.or_lt_two_pow hS (Nat.pow_lt_pow_right (by omega) hp)
      have g1 : 2 ^ p ≤ S ||| 2 ^ p := Nat.right_le_or
      have g0 : S ≤ S ||| 2 ^ p := Nat.left_le_or
      have g2 : 1 ≤ 2 ^ p := Nat.one_le_two_pow
      rw [e2]
      split
      · obtain ⟨S', s1, s2, s3, s4⟩ := ok_nd hP n (stp B z (stp B z q.2.2).2.2) (S ||| 2 ^ p) l2
        exact ⟨S', s1, by omega, s3, fun _ _ => by omega⟩
      · exact ⟨S ||| 2 ^ p, l2, g0, rfl, fun _ _ => by omega⟩
theorem ok_mc {B : Nat → Int32} {z : Nat} {q : Tkn} (h : VOk v) : VOk (mcW B z q v).2.2 := by
  have hP := h.2.2.2.2.2.2.2.1
  unfold mcW
  split
  · next hM =>
    split
    · exact h
    · next c =>
      split
      · split
        · next c3 =>
          obtain ⟨S', s1, s2, s3, s4⟩ := ok_nd (B := B) (z := z) hP 250 (stp B z (stp B z q.2.2).2.2) 0 (Nat.two_pow_pos _)
          exact ok_mac h hM ⟨S', s4 (by decide) c3, s1, s3⟩ (nm_btw (by decide) (by decide) c)
        · exact h
      · exact h
  · exact h
theorem ok_st {B : Nat → Int32} {z : Nat} {q : Tkn} (h : VOk v) : VOk (stW B z q v).2.2 := by
  unfold stW
  split
  · exact ok_pt h
  · split
    · exact ok_mc h
    · split
      · exact ok_on h
      · split
        · exact ok_gv h
        · exact h
end OKS
theorem ok_ri {B : Nat → Int32} {z : Nat} : ∀ (f n : Nat) (q : Tkn) (v : Vg), VOk v → VOk (riS B z f n q v).2.2
  | 0, _, _, _, h => h
  | f + 1, n, q, v, h => by
    have h1 := ok_st (B := B) (z := z) (q := q) h
    simp only [riS]
    split
    · exact h1
    · split
      · exact h1
      · split
        · exact ok_ri f (n + 1) _ _ h1
        · exact h1
theorem ok_vlV {B : Nat → Int32} {z : Nat} {v : Vg} (h : VOk v) : VOk (vlV B z v) := by
  unfold vlV; split
  · exact h
  · exact ok_ri _ _ _ _ h
theorem vl_tie {B B' : Nat → Int32} {z : Nat} (t : ByT B B' z) (v : Vg) : vlA B z v = vlA B' z v ∧ vlV B z v = vlV B' z v := by
  have e : vlW B z v = vlW B' z v := t.tAll v
  unfold vlA vlV
  rw [e]; exact ⟨rfl, rfl⟩
theorem ByT.mono {B B' : Nat → Int32} {z z' : Nat} (h : ByT B B' z) (q : z' ≤ z) : ByT B B' z' := fun i hi => h i (by omega)
theorem by_val (y : Int32) : ∃ b, b < 256 ∧ y &&& nI 255 = nI b ∧ vp_nar .byte (y.toInt8.toInt32) = vp_nar .byte (nI b) := by
  obtain ⟨j, rfl⟩ := nI_ex y
  have l : j &&& 255 < 256 := Nat.lt_of_le_of_lt Nat.and_le_right (by decide)
  refine ⟨j &&& 255, l, nI_and, ?_⟩
  have e : (nI (j &&& 255)).toInt8 = (nI j).toInt8 := by
    rw [← nI_and, Int32.toInt8_and]
    rw [show (nI 255).toInt8 = -1 by decide, Int8.and_neg_one]
  show ((nI j).toInt8.toInt32).toInt8.toInt32 = (nI (j &&& 255)).toInt8.toInt32
  rw [e, Int8.toInt8_toInt32]
theorem fd_tie {B Bt : Nat → Int32} {z ν : Nat} {x : Int32} (h : ByT B Bt z) : ∀ t, ByT (fdC B z x ν t) (fdB Bt z x ν t) (z + t)
  | 0 => h
  | t + 1 => fun i hi => by
    simp only [fdC, fdB, sf]
    by_cases e : i = z + t
    · rw [if_pos e, if_pos e]
      obtain ⟨b, h1, h2, h3⟩ := by_val (x >>> (nI (8 * (ν - 1 - t)) &&& 31))
      exact ⟨b, h1, h2, h3⟩
    · rw [if_neg e, if_neg e]
      exact fd_tie h t i (by omega)
theorem feed_tie {B Bt : Nat → Int32} {z : Nat} (x n : Int32) (h : ByT B Bt z) : ByT (feedC B z x n) (feedB Bt z x n) (feedZ z n) := by
  unfold feedC feedB
  by_cases e : feedZ z n = z
  · rw [if_pos e, if_pos e, e]; exact h
  · rw [if_neg e, if_neg e]
    have : feedZ z n = z + n.toNatClampNeg := by
      unfold feedZ at e ⊢
      split
      · next c => rw [if_pos c] at e; exact absurd rfl e
      · split
        · next c c2 => rw [if_neg c, if_pos c2] at e; exact absurd rfl e
        · split
          · rfl
          · next c c2 c3 => rw [if_neg c, if_neg c2, if_neg c3] at e; exact absurd rfl e
    rw [this]
    exact fd_tie h _
end
section
/-! PART 57o: the reference's search, exactly -/
def AcA (h : Hp) (k : Nat) (v : Vg) (a : Int64 × (Nat → Int32)) : Prop := xL h k 31 = a.1 ∧ ∀ i, i < vP v → xI h (k + 31) i = a.2 i
theorem AcA.to {h h1 : Hp} {k : Nat} {v : Vg} {a : Int64 × (Nat → Int32)} (A : AcA h k v a) (e1 : xL h1 k = xL h k) (e2 : xI h1 (k + 31) = xI h (k + 31)) : AcA h1 k v a :=
  ⟨by rw [e1]; exact A.1, fun i hi => by rw [e2]; exact A.2 i hi⟩
end
section
/-! PART 39: the law: what holds between its calls, its rows -/
/-! THE CLAIM OUT OF ONE WALK OF THE LAW'S BODY. Your part is whole_start (and what it stands on); all else here is the same for every law, but numbers. -/
def R_law : String := "OnlyWhatFitsLaw"
def lw_P (b : Addr) (xs : List Int32) (args : Array Value) (s : State) : Prop := args = #[.ref b] ∧ s.IntsAt b xs ∧ xs.length ≤ 3072 ∧ (Jvm.Cond.and given_1 narrow_1).before args s = true
def lw_Q (_ : Array Value) (s : State) (o : Outcome) (t : State) : Prop := o = .returned (some (.int 1)) ∧ Framed s o t [] 600000 7302250
def lw_Z (below : List Frame) (a : Array Value) (s : State) : State → Prop := fun t => ∃ o, t.status = .running ∧ Ended t below o ∧ lw_Q a s o t
/-- the law's own end, with 1 on the stack, nothing written that was there before, its room as the claim has it -/
theorem lw_ret {p : Program} {l : Launch} {e : Env} {s : State} {m : MethodId} {below : List Frame} {meth : Method} {c : Code} {b : Nat} (hx : p.tables.exec = Jvm.exec) (hb : c.code = code) (hr : meth.sig.returnType = ret) (hlocks : meth.locks = false) {pc : Nat} {H : Heap} {ls : Array Slot} (hdg : decode code pc = .ok (.ireturn, 1)) : W p l e room_1 s m #[Value.ref b] below meth c H [] 600000 7302250 (lw_Z below #[Value.ref b] s) (F0 m pc ls [.int 1]) := by
  intro T hT X
  obtain ⟨fs, hret, hrun, hended, hW, hframe⟩ := X.leave (v := some (.int 1)) (hlocks := hlocks) (fun h => by rw [hr] at h; cases h)
  have hmeth' : T.vm.method? m = some meth := X.method'
  refine ⟨T.setFrames fs, ?_, .returned (some (.int 1)), hrun, hended, rfl, ⟨_, rfl⟩, hW, hframe⟩
  jvm_step X.here [X.here.top, hx, hb, hdg, hmeth', hr, ret, narrow_b1]
  (try refine ⟨rfl, ?_⟩); (try refine ⟨rfl, ?_⟩)
  first | (intro acts; rw [hret _ acts rfl rfl rfl]) | rw [hret _ _ rfl rfl rfl]
  exact Steps.refl _
/-- what holds at the law's entry: the machine, the code, the tables' words (any of lw_tbl by 'hts w (by decide +kernel)'), the script of L ints xs at the cell b, what the Statement gives of the start (any of its parts by flat_of_before) -/
def lw_At (p : Program) (s : State) (m : MethodId) (meth : Method) (c : Code) (b L : Nat) (xs : Nat → Int32) : Prop :=
  p.tables.exec = Jvm.exec ∧ c.code = code ∧ meth.sig.returnType = ret ∧ c.maxLocals = 4 ∧ s.vm.findClass R_law = some m.cls ∧ (∀ w ∈ lw_tbl, w.before #[Value.ref b] s = true) ∧ va_X b L xs s s.heap ∧ b < s.heap.size ∧ meth.locks = false ∧ (Jvm.Cond.and given_1 narrow_1).before #[Value.ref b] s = true
def RL : String := "OnlyWhatFitsLaw"
def P63 : List Nat := [6, 5, 20, 20, 21, 21, 22, 22, 23, 22, 5, 20, 20, 21, 21, 22, 22, 23, 22, 5, 20, 20, 21, 21, 22, 22, 23, 22, 4, 24, 25, 22, 0, 22, 1, 21, 21, 27, 32, 21, 21, 21, 21, 21, 21, 21, 28, 3, 29, 2, 22, 22, 33, 31, 31, 31, 31, 31, 31, 31, 31, 22, 26]
theorem cl_RL_7 : Cond.classLink RL 7 "OnlyWhatFits" ∈ lw_g := tb_1 17 rfl rfl
theorem l_L_9 : Cond.methodLink RL 9 yX6_init ∈ lw_g := tb_1 19 rfl rfl
theorem l_L_13 : Cond.methodLink RL 13 yX6_row ∈ lw_g := tb_2 6 rfl rfl
theorem l_L_20 : Cond.methodLink RL 20 yX6_set ∈ lw_g := tb_2 26 rfl rfl
theorem l_L_25 : Cond.methodLink RL 25 yX6_copy ∈ lw_g := tb_2 62 rfl rfl
theorem l_L_30 : Cond.methodLink RL 30 yX6_element ∈ lw_g := tb_2 76 rfl rfl
theorem l_L_35 : Cond.methodLink RL 35 yX6_holds ∈ lw_g := tb_2 84 rfl rfl
theorem l_L_40 : Cond.methodLink RL 40 yX6_holding ∈ lw_g := tb_2 88 rfl rfl
theorem l_L_44 : Cond.methodLink RL 44 yX6_says ∈ lw_g := tb_2 96 rfl rfl
theorem l_L_49 : Cond.methodLink RL 49 yX6_part ∈ lw_g := tb_2 179 rfl rfl
theorem l_L_54 : Cond.methodLink RL 54 yX6_machine ∈ lw_g := tb_2 187 rfl rfl
theorem l_L_58 : Cond.methodLink RL 58 yX6_one ∈ lw_g := tb_2 203 rfl rfl
theorem l_L_62 : Cond.methodLink RL 62 yX6_away ∈ lw_g := tb_2 211 rfl rfl
theorem l_L_66 : Cond.methodLink RL 66 yX6_cross ∈ lw_g := tb_2 219 rfl rfl
theorem l_L_71 : Cond.methodLink RL 71 yX6_give ∈ lw_g := tb_2 223 rfl rfl
theorem l_L_76 : Cond.methodLink RL 76 yX6_feed ∈ lw_g := tb_3 0 rfl rfl
theorem l_L_80 : Cond.methodLink RL 80 yX6_wipe ∈ lw_g := tb_3 12 rfl rfl
theorem l_L_84 : Cond.methodLink RL 84 yX6_village ∈ lw_g := tb_3 20 rfl rfl
theorem l_L_88 : Cond.methodLink RL 88 yX6_partOf ∈ lw_g := tb_3 137 rfl rfl
theorem l_L_92 : Cond.methodLink RL 92 yX6_machineOf ∈ lw_g := tb_3 141 rfl rfl
theorem l_L_96 : Cond.methodLink RL 96 yX6_oneOf ∈ lw_g := tb_3 149 rfl rfl
theorem l_L_100 : Cond.methodLink RL 100 yX6_has ∈ lw_g := tb_3 154 rfl rfl
theorem l_L_104 : Cond.methodLink RL 104 yX6_works ∈ lw_g := tb_3 170 rfl rfl
theorem l_L_108 : Cond.methodLink RL 108 yX6_both ∈ lw_g := tb_3 179 rfl rfl
theorem l_L_112 : Cond.methodLink RL 112 yX6_odds ∈ lw_g := tb_3 197 rfl rfl
theorem l_L_117 : Cond.methodLink RL 117 yX6_atOnce ∈ lw_g := tb_3 219 rfl rfl
theorem l_L_121 : Cond.methodLink RL 121 yX6_day ∈ lw_g := tb_3 228 rfl rfl
theorem l_L_126 : Cond.methodLink RL 126 yX6_power ∈ lw_g := tb_4 4 rfl rfl
theorem l_L_130 : Cond.methodLink RL 130 yX6_first ∈ lw_g := tb_4 27 rfl rfl
theorem l_L_134 : Cond.methodLink RL 134 yX6_lay ∈ lw_g := tb_4 37 rfl rfl
theorem l_L_138 : Cond.methodLink RL 138 yX6_would ∈ lw_g := tb_4 41 rfl rfl
theorem l_L_142 : Cond.methodLink RL 142 yX6_head ∈ lw_g := tb_4 45 rfl rfl
theorem l_L_146 : Cond.methodLink RL 146 yX6_best ∈ lw_g := tb_4 49 rfl rfl
theorem l_L_150 : Cond.methodLink RL 150 yX6_bestDay ∈ lw_g := tb_4 82 rfl rfl
theorem l_L_154 : Cond.methodLink RL 154 yX6_bears ∈ lw_g := tb_4 90 rfl rfl
theorem l_L_158 : Cond.methodLink RL 158 yX6_harms ∈ lw_g := tb_4 103 rfl rfl
theorem l_L_162 : Cond.methodLink RL 162 yX6_least ∈ lw_g := tb_4 107 rfl rfl
theorem l_L_166 : Cond.methodLink RL 166 yX6_stolen ∈ lw_g := tb_4 122 rfl rfl
theorem l_L_170 : Cond.methodLink RL 170 yX6_spare ∈ lw_g := tb_4 127 rfl rfl
theorem l_L_174 : Cond.methodLink RL 174 yX6_gift ∈ lw_g := tb_4 132 rfl rfl
theorem l_L_178 : Cond.methodLink RL 178 yX6_never ∈ lw_g := tb_4 138 rfl rfl
theorem l_L_183 : Cond.methodLink RL 183 yX6_with ∈ lw_g := tb_4 147 rfl rfl
theorem l_L_187 : Cond.methodLink RL 187 yX6_safe ∈ lw_g := tb_4 151 rfl rfl
theorem l_L_191 : Cond.methodLink RL 191 yX6_alone ∈ lw_g := tb_4 155 rfl rfl
theorem l_L_195 : Cond.methodLink RL 195 yX6_key ∈ lw_g := tb_4 160 rfl rfl
theorem l_L_199 : Cond.methodLink RL 199 yX6_idle ∈ lw_g := tb_4 168 rfl rfl
theorem l_L_203 : Cond.methodLink RL 203 yX6_room ∈ lw_g := tb_4 172 rfl rfl
theorem l_L_207 : Cond.methodLink RL 207 yX6_swap ∈ lw_g := tb_4 176 rfl rfl
theorem l_L_211 : Cond.methodLink RL 211 yX6_trust ∈ lw_g := tb_4 180 rfl rfl
theorem l_L_215 : Cond.methodLink RL 215 yX6_judge ∈ lw_g := tb_4 188 rfl rfl
theorem l_L_219 : Cond.methodLink RL 219 yX6_told ∈ lw_g := tb_4 201 rfl rfl
theorem l_L_223 : Cond.methodLink RL 223 yX6_days ∈ lw_g := tb_4 206 rfl rfl
theorem l_L_227 : Cond.methodLink RL 227 yX6_seed ∈ lw_g := tb_4 224 rfl rfl
theorem l_L_231 : Cond.methodLink RL 231 yX6_image ∈ lw_g := tb_4 228 rfl rfl
theorem l_L_235 : Cond.methodLink RL 235 yX6_back ∈ lw_g := tb_4 232 rfl rfl
theorem l_L_239 : Cond.methodLink RL 239 yX6_status ∈ lw_g := tb_4 236 rfl rfl
theorem cl_RL_10 : Cond.classLink RL 10 "OnlyWhatFitsModel" ∈ lw_g := tb_5 4 rfl rfl
theorem l_L_12 : Cond.methodLink RL 12 yX7_init ∈ lw_g := tb_5 6 rfl rfl
theorem l_L_17 : Cond.methodLink RL 17 yX7_row ∈ lw_g := tb_5 109 rfl rfl
theorem l_L_24 : Cond.methodLink RL 24 yX7_set ∈ lw_g := tb_5 123 rfl rfl
theorem l_L_29 : Cond.methodLink RL 29 yX7_copy ∈ lw_g := tb_5 134 rfl rfl
theorem l_L_34 : Cond.methodLink RL 34 yX7_element ∈ lw_g := tb_5 138 rfl rfl
theorem l_L_39 : Cond.methodLink RL 39 yX7_holds ∈ lw_g := tb_5 142 rfl rfl
theorem l_L_43 : Cond.methodLink RL 43 yX7_holding ∈ lw_g := tb_5 146 rfl rfl
theorem l_L_48 : Cond.methodLink RL 48 yX7_says ∈ lw_g := tb_5 152 rfl rfl
theorem l_L_53 : Cond.methodLink RL 53 yX7_part ∈ lw_g := tb_5 207 rfl rfl
theorem l_L_57 : Cond.methodLink RL 57 yX7_machine ∈ lw_g := tb_5 211 rfl rfl
theorem l_L_61 : Cond.methodLink RL 61 yX7_one ∈ lw_g := tb_5 215 rfl rfl
theorem l_L_65 : Cond.methodLink RL 65 yX7_away ∈ lw_g := tb_5 225 rfl rfl
theorem l_L_70 : Cond.methodLink RL 70 yX7_cross ∈ lw_g := tb_5 233 rfl rfl
theorem l_L_75 : Cond.methodLink RL 75 yX7_give ∈ lw_g := tb_5 237 rfl rfl
theorem l_L_79 : Cond.methodLink RL 79 yX7_feed ∈ lw_g := tb_6 5 rfl rfl
theorem l_L_83 : Cond.methodLink RL 83 yX7_wipe ∈ lw_g := tb_6 9 rfl rfl
theorem l_L_87 : Cond.methodLink RL 87 yX7_village ∈ lw_g := tb_6 13 rfl rfl
theorem l_L_91 : Cond.methodLink RL 91 yX7_partOf ∈ lw_g := tb_6 78 rfl rfl
theorem l_L_95 : Cond.methodLink RL 95 yX7_machineOf ∈ lw_g := tb_6 82 rfl rfl
theorem l_L_99 : Cond.methodLink RL 99 yX7_oneOf ∈ lw_g := tb_6 90 rfl rfl
theorem l_L_103 : Cond.methodLink RL 103 yX7_has ∈ lw_g := tb_6 94 rfl rfl
theorem l_L_107 : Cond.methodLink RL 107 yX7_works ∈ lw_g := tb_6 106 rfl rfl
theorem l_L_111 : Cond.methodLink RL 111 yX7_both ∈ lw_g := tb_6 114 rfl rfl
theorem l_L_116 : Cond.methodLink RL 116 yX7_odds ∈ lw_g := tb_6 122 rfl rfl
theorem l_L_120 : Cond.methodLink RL 120 yX7_atOnce ∈ lw_g := tb_6 134 rfl rfl
theorem l_L_125 : Cond.methodLink RL 125 yX7_day ∈ lw_g := tb_6 138 rfl rfl
theorem l_L_129 : Cond.methodLink RL 129 yX7_power ∈ lw_g := tb_6 142 rfl rfl
theorem l_L_133 : Cond.methodLink RL 133 yX7_first ∈ lw_g := tb_6 156 rfl rfl
theorem l_L_137 : Cond.methodLink RL 137 yX7_lay ∈ lw_g := tb_6 160 rfl rfl
theorem l_L_141 : Cond.methodLink RL 141 yX7_would ∈ lw_g := tb_6 168 rfl rfl
theorem l_L_145 : Cond.methodLink RL 145 yX7_head ∈ lw_g := tb_6 177 rfl rfl
theorem l_L_149 : Cond.methodLink RL 149 yX7_best ∈ lw_g := tb_6 181 rfl rfl
theorem l_L_153 : Cond.methodLink RL 153 yX7_bestDay ∈ lw_g := tb_6 194 rfl rfl
theorem l_L_157 : Cond.methodLink RL 157 yX7_bears ∈ lw_g := tb_6 198 rfl rfl
theorem l_L_161 : Cond.methodLink RL 161 yX7_harms ∈ lw_g := tb_6 210 rfl rfl
theorem l_L_165 : Cond.methodLink RL 165 yX7_least ∈ lw_g := tb_6 214 rfl rfl
theorem l_L_169 : Cond.methodLink RL 169 yX7_stolen ∈ lw_g := tb_6 222 rfl rfl
theorem l_L_173 : Cond.methodLink RL 173 yX7_spare ∈ lw_g := tb_6 226 rfl rfl
theorem l_L_177 : Cond.methodLink RL 177 yX7_gift ∈ lw_g := tb_6 230 rfl rfl
theorem l_L_182 : Cond.methodLink RL 182 yX7_never ∈ lw_g := tb_6 235 rfl rfl
theorem l_L_186 : Cond.methodLink RL 186 yX7_with ∈ lw_g := tb_6 239 rfl rfl
theorem l_L_190 : Cond.methodLink RL 190 yX7_safe ∈ lw_g := tb_7 3 rfl rfl
theorem l_L_194 : Cond.methodLink RL 194 yX7_alone ∈ lw_g := tb_7 8 rfl rfl
theorem l_L_198 : Cond.methodLink RL 198 yX7_key ∈ lw_g := tb_7 12 rfl rfl
theorem l_L_202 : Cond.methodLink RL 202 yX7_idle ∈ lw_g := tb_7 16 rfl rfl
theorem l_L_206 : Cond.methodLink RL 206 yX7_room ∈ lw_g := tb_7 20 rfl rfl
theorem l_L_210 : Cond.methodLink RL 210 yX7_swap ∈ lw_g := tb_7 24 rfl rfl
theorem l_L_214 : Cond.methodLink RL 214 yX7_trust ∈ lw_g := tb_7 28 rfl rfl
theorem l_L_218 : Cond.methodLink RL 218 yX7_judge ∈ lw_g := tb_7 32 rfl rfl
theorem l_L_222 : Cond.methodLink RL 222 yX7_told ∈ lw_g := tb_7 45 rfl rfl
theorem l_L_226 : Cond.methodLink RL 226 yX7_days ∈ lw_g := tb_7 49 rfl rfl
theorem l_L_230 : Cond.methodLink RL 230 yX7_seed ∈ lw_g := tb_7 63 rfl rfl
theorem l_L_234 : Cond.methodLink RL 234 yX7_image ∈ lw_g := tb_7 67 rfl rfl
theorem l_L_238 : Cond.methodLink RL 238 yX7_back ∈ lw_g := tb_7 71 rfl rfl
theorem l_L_242 : Cond.methodLink RL 242 yX7_status ∈ lw_g := tb_7 75 rfl rfl
theorem n_L_18 : Cond.constantLong RL 18 (4294967295 : Int64) ∈ lw_g := tb_7 81 rfl rfl
/-- the script lies where it lay -/
def SLw (G : Gt) (b L : Nat) (xs : Nat → Int32) : Prop := match G with
  | (p, l, e, R, s, m, args, below, meth, c, D, dA, A, f0, al0, Q, nL) => f0 9000 = b ∧ va_X b L xs s s.heap ∧ b < s.heap.size ∧ ¬ A b
section LW
variable {G : Gt} {cc : ByteArray} {nL pc : Nat} {own : String} {ls : List (Nat × V)} {st : List V} {h : Hp} {b L : Nat} {xs : Nat → Int32}
theorem r_sld (C : Cx G cc nL own) (S : SLw G b L xs) {i : Nat} (hi : i < L) (hL : L < 2 ^ 31) (d : decode cc pc = .ok (.iaload, 1)) (kk : Rr G (pc + 1) ls (vi (xs i) :: st) h) : Rr G pc ls (vi (nI i) :: vt 9000 :: st) h := by
  obtain ⟨p, l, e, R, s, m, args, below, meth, c, D, dA, A, f0, al0, Q, nL'⟩ := G
  obtain ⟨rfl, hx, hb, hml, hown, hts, hlk, hK, hAz, hSF⟩ := C
  obtain ⟨S1, S2, S3, S4⟩ := S
  intro f H locs LS h1 h2 h3 hP hD hS hl w1 w2
  have ef : f 9000 = b := (h1 9000 (Or.inr (by decide))).trans S1
  show W p l e R s m args below meth c H locs _ _ Q (F0 m pc LS (.int (nI i) :: .ref (f 9000) :: st.map (rep f)))
  rw [ef]
  refine va_sld hx hb S2 S3 S4 hS (vp_in_nI hi (by omega)) d ?_
  rw [nI_clamp (by omega)]
  exact kk f H locs LS h1 h2 h3 hP hD hS hl w1 (w_1 (w_t (w_t w2)))
theorem r_slen (C : Cx G cc nL own) (S : SLw G b L xs) (d : decode cc pc = .ok (.arraylength, 1)) (kk : Rr G (pc + 1) ls (vi (nI L) :: st) h) : Rr G pc ls (vt 9000 :: st) h := by
  obtain ⟨p, l, e, R, s, m, args, below, meth, c, D, dA, A, f0, al0, Q, nL'⟩ := G
  obtain ⟨rfl, hx, hb, hml, hown, hts, hlk, hK, hAz, hSF⟩ := C
  obtain ⟨S1, S2, S3, S4⟩ := S
  intro f H locs LS h1 h2 h3 hP hD hS hl w1 w2
  have ef : f 9000 = b := (h1 9000 (Or.inr (by decide))).trans S1
  show W p l e R s m args below meth c H locs _ _ Q (F0 m pc LS (.ref (f 9000) :: st.map (rep f)))
  rw [ef]
  exact va_slen hx hb S2 S3 S4 hS d (kk f H locs LS h1 h2 h3 hP hD hS hl w1 (w_1 (w_t w2)))
end LW
/-- between two calls: both have the same shelves, the same number of bytes, both one kept or none -/
def Lv (h : Hp) : Prop := ∃ v u w g B Bt z κ τ, Ow h v u w g B z (b2i κ) ∧ GOk g ∧ Md h P63 63 v g z κ τ ∧ XT h 63 κ w Bt ∧ ByT B Bt z ∧ VOk v ∧ (κ = true → VOk w)
theorem P_tab : ∀ i : Fin 63, ((P63[i.1]?).bind (fun kb => fkL[kb]?)).all (fun L => L.all (fun d => decide (d.1 < 3))) = true := by decide +kernel
theorem low_no {h : Hp} {κ τ : Bool} (al : xK h = AL P63 κ τ) {a k' : Nat} (ha : a < 63) (hk : (xK h)[a]? = some k') {L : List Fd3} (hL : fkL[k']? = some L) {j t o k2 : Nat} (hj : L[j]? = some (t, o, k2)) (ht : 3 ≤ t) : False := by
  rw [al] at hk
  unfold AL at hk
  rw [List.getElem?_append_left (show a < P63.length from ha)] at hk
  have q := P_tab ⟨a, ha⟩
  rw [show P63[(⟨a, ha⟩ : Fin 63).1]? = some k' from hk] at q
  simp only [Option.bind_some, hL, Option.all_some] at q
  have := of_decide_eq_true (List.all_eq_true.mp q _ (List.mem_of_getElem? hj))
  omega
theorem Md.fr9 {h h1 : Hp} {z : Nat} {v : Vg} {g : Sg} {κ τ : Bool} (M : Md h P63 63 v g z κ τ) (f : Fr 0 63 h h1) (kk : xK h1 = xK h) : Md h1 P63 63 v g z κ τ := by
  generalize hk9 : (63 : Nat) = k at M f ⊢
  obtain ⟨m, ms, e8, bz, nok, hP, hk, al, fk, ft, sk, st, ap⟩ := M
  have ek : xI h1 k = xI h k := (f k (by omega)).1
  have en : ∀ a, k ≤ a → xN h1 a = xN h a := fun a ha => (f a (by omega)).2.2
  have sub : ∀ x, Sub h k x → Sub h1 k x := fun x q => by
    rcases q with q | ⟨b, w, q1, q2, q3, q4⟩
    · exact Or.inl q
    · exact Or.inr ⟨b, w, q1, q2, by rw [kk]; exact q3, q4.fr f (by omega)⟩
  refine ⟨m.fr f (by omega), ms.ag f.fs (fun b q1 q2 q3 => by omega), by rw [ek]; exact e8, bz, ?_, hP, hk, kk.trans al, by rw [en k (Nat.le_refl _)]; exact fk, by rw [en k (Nat.le_refl _)]; exact ft, by rw [en k (Nat.le_refl _)]; exact sub _ sk, by rw [en k (Nat.le_refl _)]; exact sub _ st, by rw [en k (Nat.le_refl _)]; exact ap⟩
  intro a k' L j t o k2 ha hL hj ht
  rw [kk] at ha ⊢
  by_cases z : k ≤ a
  · rw [en a z]; exact nok a k' L j t o k2 ha hL hj ht
  · exact (low_no al (by omega) ha hL hj ht).elim
theorem XT.fr9 {h h1 : Hp} {z : Nat} {v ω : Vg} {g : Sg} {κ τ : Bool} {Bt : Nat → Int32} (x : XT h 63 κ ω Bt) (M : Md h P63 63 v g z κ τ) (f : Fr 0 63 h h1) : XT h1 63 κ ω Bt :=
  ⟨fun i hi => by rw [(f (63 + 16) (by omega)).1]; exact x.1 i hi, fun e => by
    obtain ⟨c, e1, m⟩ := x.2 e
    exact ⟨c, by rw [(f 63 (by omega)).2.2]; exact e1, m.fr f (by have := (M.kc e1).1; omega)⟩⟩
theorem bv_eq {κ : Bool} {v w : Vg} : (if b2i κ = 0 then v else w) = if κ then w else v := by cases κ <;> rfl
theorem ok_back {κ : Bool} {v w : Vg} (h : VOk v) (h2 : κ = true → VOk w) : VOk (if κ then w else v) := by cases κ with | true => exact h2 rfl | false => exact h
theorem ok_00 : VOk v00 := ⟨fun o h => absurd h (Nat.not_lt_zero o), fun o h => absurd h (Nat.not_lt_zero o), fun o h => absurd h (Nat.not_lt_zero o), fun o h => absurd h (Nat.not_lt_zero o), fun o h => absurd h (Nat.not_lt_zero o), fun o h => absurd h (Nat.not_lt_zero o), fun o h => absurd h (Nat.not_lt_zero o), Nat.zero_le _, Nat.zero_le _, Nat.zero_le _⟩
theorem Ow.lo {h h1 : Hp} {v u w : Vg} {g : Sg} {B : Nat → Int32} {z : Nat} {κ : Int32} (o : Ow h v u w g B z κ) (f : Lo 63 h h1) : Ow h1 v u w g B z κ :=
  o.mv f.fs (Or.inr ⟨rfl, fun b _ _ q => by omega⟩) (Or.inr ⟨rfl, fun b _ _ q => by omega⟩) (Or.inr ⟨rfl, fun b _ _ q => by omega⟩) (fun b _ _ q => by omega) (Or.inr (fun b _ _ q => by omega)) (Or.inr ⟨⟨rfl, rfl⟩, fun b _ _ q => by omega⟩) (Or.inr ⟨rfl, fun b _ _ q => by omega⟩) (Or.inr ⟨rfl, fun q => by omega⟩)
theorem GOk.row {g : Sg} (a : GOk g) (s t n : Int32) : GOk (rowG g s t n) := by
  unfold rowG
  by_cases q : rowB9 s t n = true
  · rw [if_pos q]
    unfold rowB9 at q
    simp only [Bool.and_eq_true] at q
    obtain ⟨σ, hσ, rfl⟩ := inR_ex (by omega) q.1
    obtain ⟨η, hη, rfl⟩ := inR_ex (by omega) q.2.1
    obtain ⟨ν, hν, rfl⟩ := inR_ex (by omega) q.2.2
    rw [clN (by omega), clN (by omega)]
    refine ⟨fun s hs => ?_, fun s hs => ?_⟩
    · show inR (sf (gZ g) σ (nI ν) s) 41 = true
      by_cases e : s = σ
      · subst e; rw [sf_at]; exact inN (by omega) hν
      · rw [sf_ne e]; exact a.1 s hs
    · show (sf (gT g) σ (nI η) s = -1) ∨ (∃ t, t < 5 ∧ sf (gT g) σ (nI η) s = nI t) ∨ (∃ κ b, 1 ≤ κ ∧ κ ≤ 5 ∧ b < 100 ∧ sf (gT g) σ (nI η) s = nI (10 + κ) ∧ gY g s = nI b)
      by_cases e : s = σ
      · subst e; rw [sf_at]; exact Or.inr (Or.inl ⟨η, hη, rfl⟩)
      · rw [sf_ne e]; exact a.2 s hs
  · rw [if_neg q]; exact a
theorem GOk.hld {g : Sg} (a : GOk g) (s k x : Int32) : GOk (hldG g s k x) := by
  unfold hldG
  by_cases q : hldB s k x = true
  · rw [if_pos q]
    rw [hldB_eq] at q
    simp only [Bool.and_eq_true] at q
    obtain ⟨σ, hσ, rfl⟩ := inR_ex (by omega) q.1
    obtain ⟨η, hη, hη2, rfl⟩ := btw_ex (by omega) (by omega) q.2.1
    obtain ⟨β, hβ, rfl⟩ := inR_ex (by omega) q.2.2
    rw [clN (by omega), clN (by omega), clN (by omega)]
    refine ⟨fun s hs => ?_, fun s hs => ?_⟩
    · show inR (sf (gZ g) σ (nI 0) s) 41 = true
      by_cases e : s = σ
      · subst e; rw [sf_at]; decide
      · rw [sf_ne e]; exact a.1 s hs
    · show (sf (gT g) σ (nI (10 + η)) s = -1) ∨ (∃ t, t < 5 ∧ sf (gT g) σ (nI (10 + η)) s = nI t) ∨ (∃ κ b, 1 ≤ κ ∧ κ ≤ 5 ∧ b < 100 ∧ sf (gT g) σ (nI (10 + η)) s = nI (10 + κ) ∧ sf (gY g) σ (nI β) s = nI b)
      by_cases e : s = σ
      · subst e; rw [sf_at, sf_at]; exact Or.inr (Or.inr ⟨η, β, hη, hη2, hβ, rfl, rfl⟩)
      · rw [sf_ne e, sf_ne e]; exact a.2 s hs
  · rw [if_neg q]; exact a
theorem GOk.set {g : Sg} (a : GOk g) (s i : Int32) (x : Int64) : GOk (setG g s i x) := by
  unfold setG
  by_cases q : setB g s i = true
  · rw [if_pos q]; unfold pEl
    split
    · exact a
    · exact a
  · rw [if_neg q]; exact a
theorem GOk.cop {g : Sg} (a : GOk g) (p q i j n : Int32) : GOk (copG g p q i j n) := by
  unfold copG
  split
  · exact a
  · exact a
theorem bk_eq {κ : Bool} : backA (b2i κ) = if κ then nI 1 else -5 := by cases κ <;> rfl
theorem sc6 {i L : Nat} (hi : i < 2 ^ 30) (hL : L < 2 ^ 30) (c : ¬ nI L - nI 6 < nI i) : i + 6 ≤ L := by
  rw [Int32.lt_iff_toInt_lt, nI_toInt (by omega)] at c
  have e : (nI L - nI 6).toInt = (L : Int) - 6 := by
    rw [Int32.toInt_sub, nI_toInt (by omega), nI_toInt (by omega)]
    exact Int.bmod_eq_of_le (by omega) (by omega)
  rw [e] at c; omega
theorem and63 (x : Int32) : ∃ j, j < 64 ∧ x &&& nI 63 = nI j := by
  obtain ⟨j, rfl⟩ := nI_ex x
  exact ⟨j &&& 63, by have : j &&& 63 ≤ 63 := Nat.and_le_right; omega, nI_and⟩
theorem ALall {κ τ : Bool} : AL P63 κ τ <+: AL P63 true true := AL_pre (fun _ => rfl) (fun _ => rfl)
end
section
/-! PART 40: the law: its calls, one by one -/
abbrev cL_law : ByteArray := code
def tL_0 : List (Nat × Instr × Nat) := [(264, .aload_n 1, 1), (265, .aload_n 0, 1), (266, .iload_n 3, 1), (267, .iconst 1, 1), (268, .iadd, 1), (269, .iaload, 1), (270, .aload_n 0, 1), (271, .iload_n 3, 1), (272, .iconst 2, 1), (273, .iadd, 1), (274, .iaload, 1), (275, .aload_n 0, 1), (276, .iload_n 3, 1), (277, .iconst 3, 1), (278, .iadd, 1), (279, .iaload, 1), (280, .invokevirtual 13, 3), (283, .pop, 1), (284, .aload_n 2, 1), (285, .aload_n 0, 1), (286, .iload_n 3, 1), (287, .iconst 1, 1), (288, .iadd, 1), (289, .iaload, 1), (290, .aload_n 0, 1), (291, .iload_n 3, 1), (292, .iconst 2, 1), (293, .iadd, 1), (294, .iaload, 1), (295, .aload_n 0, 1), (296, .iload_n 3, 1), (297, .iconst 3, 1), (298, .iadd, 1), (299, .iaload, 1), (300, .invokevirtual 17, 3), (303, .pop, 1), (304, .goto 1450, 3)]
theorem dL_0 : dec_ok code tL_0 = true := by decide +kernel
set_option maxHeartbeats 4000000 in
theorem law_c0 {l : Launch} {G : Gt} {b L i : Nat} {xs : Nat → Int32} {h : Hp} (C : Cx G code 4 RL) (X : Rmx l G 2048 (AL P63 true true)) (S : SLw G b L xs) (hL : L ≤ 3072) (hi : i + 6 ≤ L) (inv : Lv h) (kk : ∀ h', Lv h' → Rr G 1754 [(0, vt 9000), (1, vr 6 0), (2, vr 7 63), (3, vi (nI i))] [] h') : Rr G 264 [(0, vt 9000), (1, vr 6 0), (2, vr 7 63), (3, vi (nI i))] [] h := by
  obtain ⟨v, u, w, g, B, Bt, z, κ, τ, o, hg, M, y, byt, ok, okw⟩ := inv
  refine r_aload_n C (dx dL_0 0 rfl) rfl ?_
  refine r_aload_nT C (dx dL_0 1 rfl) rfl ?_
  refine r_iload_n C (dx dL_0 2 rfl) rfl ?_
  refine r_iconst (v := nI 1) C (dx dL_0 3 rfl) rfl ?_
  refine rn_iadd (a := i) (b := 1) C (dx dL_0 4 rfl) ?_
  refine r_sld C S (by omega) (by omega) (dx dL_0 5 rfl) ?_
  refine r_aload_nT C (dx dL_0 6 rfl) rfl ?_
  refine r_iload_n C (dx dL_0 7 rfl) rfl ?_
  refine r_iconst (v := nI 2) C (dx dL_0 8 rfl) rfl ?_
  refine rn_iadd (a := i) (b := 2) C (dx dL_0 9 rfl) ?_
  refine r_sld C S (by omega) (by omega) (dx dL_0 10 rfl) ?_
  refine r_aload_nT C (dx dL_0 11 rfl) rfl ?_
  refine r_iload_n C (dx dL_0 12 rfl) rfl ?_
  refine r_iconst (v := nI 3) C (dx dL_0 13 rfl) rfl ?_
  refine rn_iadd (a := i) (b := 3) C (dx dL_0 14 rfl) ?_
  refine r_sld C S (by omega) (by omega) (dx dL_0 15 rfl) ?_
  refine r_cv (as := [vi (xs (i + 1)), vi (xs (i + 2)), vi (xs (i + 3))]) (st := []) C X I_X6_row l_L_13 (x_row o hg (xs (i + 1)) (xs (i + 2)) (xs (i + 3))) (by decide) (Nat.le_of_ble_eq_true rfl) List.prefix_rfl (by rw [M.al]; exact ALall) rfl rfl (Nat.le_of_ble_eq_true rfl) rfl (dx dL_0 16 rfl) ?_
  rintro _ h1 ⟨rfl, ⟨uh1, oh1⟩, fh1⟩ kh1
  have Mh1 := M.fr9 fh1 kh1
  have yh1 := y.fr9 M fh1
  refine r_popI C (dx dL_0 17 rfl) ?_
  refine r_aload_n C (dx dL_0 18 rfl) rfl ?_
  refine r_aload_nT C (dx dL_0 19 rfl) rfl ?_
  refine r_iload_n C (dx dL_0 20 rfl) rfl ?_
  refine r_iconst (v := nI 1) C (dx dL_0 21 rfl) rfl ?_
  refine rn_iadd (a := i) (b := 1) C (dx dL_0 22 rfl) ?_
  refine r_sld C S (by omega) (by omega) (dx dL_0 23 rfl) ?_
  refine r_aload_nT C (dx dL_0 24 rfl) rfl ?_
  refine r_iload_n C (dx dL_0 25 rfl) rfl ?_
  refine r_iconst (v := nI 2) C (dx dL_0 26 rfl) rfl ?_
  refine rn_iadd (a := i) (b := 2) C (dx dL_0 27 rfl) ?_
  refine r_sld C S (by omega) (by omega) (dx dL_0 28 rfl) ?_
  refine r_aload_nT C (dx dL_0 29 rfl) rfl ?_
  refine r_iload_n C (dx dL_0 30 rfl) rfl ?_
  refine r_iconst (v := nI 3) C (dx dL_0 31 rfl) rfl ?_
  refine rn_iadd (a := i) (b := 3) C (dx dL_0 32 rfl) ?_
  refine r_sld C S (by omega) (by omega) (dx dL_0 33 rfl) ?_
  obtain ⟨τh2, ph2, ch2⟩ := y7_row (l := l) Mh1 yh1 ok (xs (i + 1)) (xs (i + 2)) (xs (i + 3))
  refine r_cv (as := [vi (xs (i + 1)), vi (xs (i + 2)), vi (xs (i + 3))]) (st := []) C X I_X7_row l_L_17 ch2 (by decide) (Nat.le_of_ble_eq_true rfl) ph2 ALall rfl rfl (Nat.le_of_ble_eq_true rfl) rfl (dx dL_0 34 rfl) ?_
  rintro _ h2 ⟨rfl, Mh2, lh2, yh2⟩ kh2
  have oh2 := oh1.lo lh2
  refine r_popI C (dx dL_0 35 rfl) ?_
  refine r_goto (tgt := 1754) C (dx dL_0 36 rfl) (by decide) ?_
  exact kk h2 ⟨_, _, _, _, _, _, _, _, _, oh2, hg.row _ _ _, Mh2, yh2, byt, ok, okw⟩
def tL_1 : List (Nat × Instr × Nat) := [(307, .aload_n 1, 1), (308, .aload_n 0, 1), (309, .iload_n 3, 1), (310, .iconst 1, 1), (311, .iadd, 1), (312, .iaload, 1), (313, .aload_n 0, 1), (314, .iload_n 3, 1), (315, .iconst 2, 1), (316, .iadd, 1), (317, .iaload, 1), (318, .aload_n 0, 1), (319, .iload_n 3, 1), (320, .iconst 3, 1), (321, .iadd, 1), (322, .iaload, 1), (323, .i2l, 1), (324, .bipush 32, 2), (326, .lshl, 1), (327, .aload_n 0, 1), (328, .iload_n 3, 1), (329, .iconst 4, 1), (330, .iadd, 1), (331, .iaload, 1), (332, .i2l, 1), (333, .ldc2_w 18, 3), (336, .land, 1), (337, .lor, 1), (338, .invokevirtual 20, 3), (341, .pop, 1), (342, .aload_n 2, 1), (343, .aload_n 0, 1), (344, .iload_n 3, 1), (345, .iconst 1, 1), (346, .iadd, 1), (347, .iaload, 1), (348, .aload_n 0, 1), (349, .iload_n 3, 1), (350, .iconst 2, 1), (351, .iadd, 1), (352, .iaload, 1), (353, .aload_n 0, 1), (354, .iload_n 3, 1), (355, .iconst 3, 1), (356, .iadd, 1), (357, .iaload, 1), (358, .i2l, 1), (359, .bipush 32, 2), (361, .lshl, 1), (362, .aload_n 0, 1), (363, .iload_n 3, 1), (364, .iconst 4, 1), (365, .iadd, 1), (366, .iaload, 1), (367, .i2l, 1), (368, .ldc2_w 18, 3), (371, .land, 1), (372, .lor, 1), (373, .invokevirtual 24, 3), (376, .pop, 1), (377, .goto 1377, 3)]
theorem dL_1 : dec_ok code tL_1 = true := by decide +kernel
set_option maxHeartbeats 4000000 in
theorem law_c1 {l : Launch} {G : Gt} {b L i : Nat} {xs : Nat → Int32} {h : Hp} (C : Cx G code 4 RL) (X : Rmx l G 2048 (AL P63 true true)) (S : SLw G b L xs) (hL : L ≤ 3072) (hi : i + 6 ≤ L) (inv : Lv h) (kk : ∀ h', Lv h' → Rr G 1754 [(0, vt 9000), (1, vr 6 0), (2, vr 7 63), (3, vi (nI i))] [] h') : Rr G 307 [(0, vt 9000), (1, vr 6 0), (2, vr 7 63), (3, vi (nI i))] [] h := by
  obtain ⟨v, u, w, g, B, Bt, z, κ, τ, o, hg, M, y, byt, ok, okw⟩ := inv
  refine r_aload_n C (dx dL_1 0 rfl) rfl ?_
  refine r_aload_nT C (dx dL_1 1 rfl) rfl ?_
  refine r_iload_n C (dx dL_1 2 rfl) rfl ?_
  refine r_iconst (v := nI 1) C (dx dL_1 3 rfl) rfl ?_
  refine rn_iadd (a := i) (b := 1) C (dx dL_1 4 rfl) ?_
  refine r_sld C S (by omega) (by omega) (dx dL_1 5 rfl) ?_
  refine r_aload_nT C (dx dL_1 6 rfl) rfl ?_
  refine r_iload_n C (dx dL_1 7 rfl) rfl ?_
  refine r_iconst (v := nI 2) C (dx dL_1 8 rfl) rfl ?_
  refine rn_iadd (a := i) (b := 2) C (dx dL_1 9 rfl) ?_
  refine r_sld C S (by omega) (by omega) (dx dL_1 10 rfl) ?_
  refine r_aload_nT C (dx dL_1 11 rfl) rfl ?_
  refine r_iload_n C (dx dL_1 12 rfl) rfl ?_
  refine r_iconst (v := nI 3) C (dx dL_1 13 rfl) rfl ?_
  refine rn_iadd (a := i) (b := 3) C (dx dL_1 14 rfl) ?_
  refine r_sld C S (by omega) (by omega) (dx dL_1 15 rfl) ?_
  refine r_i2l C (dx dL_1 16 rfl) ?_
  refine r_bipush (v := nI 32) C (dx dL_1 17 rfl) rfl ?_
  refine r_lshl C (dx dL_1 18 rfl) ?_
  refine r_aload_nT C (dx dL_1 19 rfl) rfl ?_
  refine r_iload_n C (dx dL_1 20 rfl) rfl ?_
  refine r_iconst (v := nI 4) C (dx dL_1 21 rfl) rfl ?_
  refine rn_iadd (a := i) (b := 4) C (dx dL_1 22 rfl) ?_
  refine r_sld C S (by omega) (by omega) (dx dL_1 23 rfl) ?_
  refine r_i2l C (dx dL_1 24 rfl) ?_
  refine r_ldc2 C n_L_18 (dx dL_1 25 rfl) ?_
  refine r_land C (dx dL_1 26 rfl) ?_
  refine r_lor C (dx dL_1 27 rfl) ?_
  refine r_cv (as := [vi (xs (i + 1)), vi (xs (i + 2)), vl ((((xs (i + 3)).toInt64) <<< ((nI 32).toInt64 &&& 63)) ||| (((xs (i + 4)).toInt64) &&& 4294967295))]) (st := []) C X I_X6_set l_L_20 (x_set o hg (xs (i + 1)) (xs (i + 2)) ((((xs (i + 3)).toInt64) <<< ((nI 32).toInt64 &&& 63)) ||| (((xs (i + 4)).toInt64) &&& 4294967295))) (by decide) (Nat.le_of_ble_eq_true rfl) List.prefix_rfl (by rw [M.al]; exact ALall) rfl rfl (Nat.le_of_ble_eq_true rfl) rfl (dx dL_1 28 rfl) ?_
  rintro _ h1 ⟨rfl, ⟨uh1, oh1⟩, fh1⟩ kh1
  have Mh1 := M.fr9 fh1 kh1
  have yh1 := y.fr9 M fh1
  refine r_popI C (dx dL_1 29 rfl) ?_
  refine r_aload_n C (dx dL_1 30 rfl) rfl ?_
  refine r_aload_nT C (dx dL_1 31 rfl) rfl ?_
  refine r_iload_n C (dx dL_1 32 rfl) rfl ?_
  refine r_iconst (v := nI 1) C (dx dL_1 33 rfl) rfl ?_
  refine rn_iadd (a := i) (b := 1) C (dx dL_1 34 rfl) ?_
  refine r_sld C S (by omega) (by omega) (dx dL_1 35 rfl) ?_
  refine r_aload_nT C (dx dL_1 36 rfl) rfl ?_
  refine r_iload_n C (dx dL_1 37 rfl) rfl ?_
  refine r_iconst (v := nI 2) C (dx dL_1 38 rfl) rfl ?_
  refine rn_iadd (a := i) (b := 2) C (dx dL_1 39 rfl) ?_
  refine r_sld C S (by omega) (by omega) (dx dL_1 40 rfl) ?_
  refine r_aload_nT C (dx dL_1 41 rfl) rfl ?_
  refine r_iload_n C (dx dL_1 42 rfl) rfl ?_
  refine r_iconst (v := nI 3) C (dx dL_1 43 rfl) rfl ?_
  refine rn_iadd (a := i) (b := 3) C (dx dL_1 44 rfl) ?_
  refine r_sld C S (by omega) (by omega) (dx dL_1 45 rfl) ?_
  refine r_i2l C (dx dL_1 46 rfl) ?_
  refine r_bipush (v := nI 32) C (dx dL_1 47 rfl) rfl ?_
  refine r_lshl C (dx dL_1 48 rfl) ?_
  refine r_aload_nT C (dx dL_1 49 rfl) rfl ?_
  refine r_iload_n C (dx dL_1 50 rfl) rfl ?_
  refine r_iconst (v := nI 4) C (dx dL_1 51 rfl) rfl ?_
  refine rn_iadd (a := i) (b := 4) C (dx dL_1 52 rfl) ?_
  refine r_sld C S (by omega) (by omega) (dx dL_1 53 rfl) ?_
  refine r_i2l C (dx dL_1 54 rfl) ?_
  refine r_ldc2 C n_L_18 (dx dL_1 55 rfl) ?_
  refine r_land C (dx dL_1 56 rfl) ?_
  refine r_lor C (dx dL_1 57 rfl) ?_
  obtain ⟨τh2, ph2, ch2⟩ := y7_set (l := l) Mh1 yh1 ok (xs (i + 1)) (xs (i + 2)) ((((xs (i + 3)).toInt64) <<< ((nI 32).toInt64 &&& 63)) ||| (((xs (i + 4)).toInt64) &&& 4294967295))
  refine r_cv (as := [vi (xs (i + 1)), vi (xs (i + 2)), vl ((((xs (i + 3)).toInt64) <<< ((nI 32).toInt64 &&& 63)) ||| (((xs (i + 4)).toInt64) &&& 4294967295))]) (st := []) C X I_X7_set l_L_24 ch2 (by decide) (Nat.le_of_ble_eq_true rfl) ph2 ALall rfl rfl (Nat.le_of_ble_eq_true rfl) rfl (dx dL_1 58 rfl) ?_
  rintro _ h2 ⟨rfl, Mh2, lh2, yh2⟩ kh2
  have oh2 := oh1.lo lh2
  refine r_popI C (dx dL_1 59 rfl) ?_
  refine r_goto (tgt := 1754) C (dx dL_1 60 rfl) (by decide) ?_
  exact kk h2 ⟨_, _, _, _, _, _, _, _, _, oh2, hg.set _ _ _, Mh2, yh2, byt, ok, okw⟩
def tL_2 : List (Nat × Instr × Nat) := [(380, .aload_n 1, 1), (381, .aload_n 0, 1), (382, .iload_n 3, 1), (383, .iconst 1, 1), (384, .iadd, 1), (385, .iaload, 1), (386, .aload_n 0, 1), (387, .iload_n 3, 1), (388, .iconst 2, 1), (389, .iadd, 1), (390, .iaload, 1), (391, .aload_n 0, 1), (392, .iload_n 3, 1), (393, .iconst 3, 1), (394, .iadd, 1), (395, .iaload, 1), (396, .aload_n 0, 1), (397, .iload_n 3, 1), (398, .iconst 4, 1), (399, .iadd, 1), (400, .iaload, 1), (401, .aload_n 0, 1), (402, .iload_n 3, 1), (403, .iconst 5, 1), (404, .iadd, 1), (405, .iaload, 1), (406, .invokevirtual 25, 3), (409, .pop, 1), (410, .aload_n 2, 1), (411, .aload_n 0, 1), (412, .iload_n 3, 1), (413, .iconst 1, 1), (414, .iadd, 1), (415, .iaload, 1), (416, .aload_n 0, 1), (417, .iload_n 3, 1), (418, .iconst 2, 1), (419, .iadd, 1), (420, .iaload, 1), (421, .aload_n 0, 1), (422, .iload_n 3, 1), (423, .iconst 3, 1), (424, .iadd, 1), (425, .iaload, 1), (426, .aload_n 0, 1), (427, .iload_n 3, 1), (428, .iconst 4, 1), (429, .iadd, 1), (430, .iaload, 1), (431, .aload_n 0, 1), (432, .iload_n 3, 1), (433, .iconst 5, 1), (434, .iadd, 1), (435, .iaload, 1), (436, .invokevirtual 29, 3), (439, .pop, 1), (440, .goto 1314, 3)]
theorem dL_2 : dec_ok code tL_2 = true := by decide +kernel
set_option maxHeartbeats 4000000 in
theorem law_c2 {l : Launch} {G : Gt} {b L i : Nat} {xs : Nat → Int32} {h : Hp} (C : Cx G code 4 RL) (X : Rmx l G 2048 (AL P63 true true)) (S : SLw G b L xs) (hL : L ≤ 3072) (hi : i + 6 ≤ L) (inv : Lv h) (kk : ∀ h', Lv h' → Rr G 1754 [(0, vt 9000), (1, vr 6 0), (2, vr 7 63), (3, vi (nI i))] [] h') : Rr G 380 [(0, vt 9000), (1, vr 6 0), (2, vr 7 63), (3, vi (nI i))] [] h := by
  obtain ⟨v, u, w, g, B, Bt, z, κ, τ, o, hg, M, y, byt, ok, okw⟩ := inv
  refine r_aload_n C (dx dL_2 0 rfl) rfl ?_
  refine r_aload_nT C (dx dL_2 1 rfl) rfl ?_
  refine r_iload_n C (dx dL_2 2 rfl) rfl ?_
  refine r_iconst (v := nI 1) C (dx dL_2 3 rfl) rfl ?_
  refine rn_iadd (a := i) (b := 1) C (dx dL_2 4 rfl) ?_
  refine r_sld C S (by omega) (by omega) (dx dL_2 5 rfl) ?_
  refine r_aload_nT C (dx dL_2 6 rfl) rfl ?_
  refine r_iload_n C (dx dL_2 7 rfl) rfl ?_
  refine r_iconst (v := nI 2) C (dx dL_2 8 rfl) rfl ?_
  refine rn_iadd (a := i) (b := 2) C (dx dL_2 9 rfl) ?_
  refine r_sld C S (by omega) (by omega) (dx dL_2 10 rfl) ?_
  refine r_aload_nT C (dx dL_2 11 rfl) rfl ?_
  refine r_iload_n C (dx dL_2 12 rfl) rfl ?_
  refine r_iconst (v := nI 3) C (dx dL_2 13 rfl) rfl ?_
  refine rn_iadd (a := i) (b := 3) C (dx dL_2 14 rfl) ?_
  refine r_sld C S (by omega) (by omega) (dx dL_2 15 rfl) ?_
  refine r_aload_nT C (dx dL_2 16 rfl) rfl ?_
  refine r_iload_n C (dx dL_2 17 rfl) rfl ?_
  refine r_iconst (v := nI 4) C (dx dL_2 18 rfl) rfl ?_
  refine rn_iadd (a := i) (b := 4) C (dx dL_2 19 rfl) ?_
  refine r_sld C S (by omega) (by omega) (dx dL_2 20 rfl) ?_
  refine r_aload_nT C (dx dL_2 21 rfl) rfl ?_
  refine r_iload_n C (dx dL_2 22 rfl) rfl ?_
  refine r_iconst (v := nI 5) C (dx dL_2 23 rfl) rfl ?_
  refine rn_iadd (a := i) (b := 5) C (dx dL_2 24 rfl) ?_
  refine r_sld C S (by omega) (by omega) (dx dL_2 25 rfl) ?_
  refine r_cv (as := [vi (xs (i + 1)), vi (xs (i + 2)), vi (xs (i + 3)), vi (xs (i + 4)), vi (xs (i + 5))]) (st := []) C X I_X6_copy l_L_25 (x_copy o hg (xs (i + 1)) (xs (i + 2)) (xs (i + 3)) (xs (i + 4)) (xs (i + 5))) (by decide) (Nat.le_of_ble_eq_true rfl) List.prefix_rfl (by rw [M.al]; exact ALall) rfl rfl (Nat.le_of_ble_eq_true rfl) rfl (dx dL_2 26 rfl) ?_
  rintro _ h1 ⟨rfl, ⟨uh1, oh1⟩, fh1⟩ kh1
  have Mh1 := M.fr9 fh1 kh1
  have yh1 := y.fr9 M fh1
  refine r_popI C (dx dL_2 27 rfl) ?_
  refine r_aload_n C (dx dL_2 28 rfl) rfl ?_
  refine r_aload_nT C (dx dL_2 29 rfl) rfl ?_
  refine r_iload_n C (dx dL_2 30 rfl) rfl ?_
  refine r_iconst (v := nI 1) C (dx dL_2 31 rfl) rfl ?_
  refine rn_iadd (a := i) (b := 1) C (dx dL_2 32 rfl) ?_
  refine r_sld C S (by omega) (by omega) (dx dL_2 33 rfl) ?_
  refine r_aload_nT C (dx dL_2 34 rfl) rfl ?_
  refine r_iload_n C (dx dL_2 35 rfl) rfl ?_
  refine r_iconst (v := nI 2) C (dx dL_2 36 rfl) rfl ?_
  refine rn_iadd (a := i) (b := 2) C (dx dL_2 37 rfl) ?_
  refine r_sld C S (by omega) (by omega) (dx dL_2 38 rfl) ?_
  refine r_aload_nT C (dx dL_2 39 rfl) rfl ?_
  refine r_iload_n C (dx dL_2 40 rfl) rfl ?_
  refine r_iconst (v := nI 3) C (dx dL_2 41 rfl) rfl ?_
  refine rn_iadd (a := i) (b := 3) C (dx dL_2 42 rfl) ?_
  refine r_sld C S (by omega) (by omega) (dx dL_2 43 rfl) ?_
  refine r_aload_nT C (dx dL_2 44 rfl) rfl ?_
  refine r_iload_n C (dx dL_2 45 rfl) rfl ?_
  refine r_iconst (v := nI 4) C (dx dL_2 46 rfl) rfl ?_
  refine rn_iadd (a := i) (b := 4) C (dx dL_2 47 rfl) ?_
  refine r_sld C S (by omega) (by omega) (dx dL_2 48 rfl) ?_
  refine r_aload_nT C (dx dL_2 49 rfl) rfl ?_
  refine r_iload_n C (dx dL_2 50 rfl) rfl ?_
  refine r_iconst (v := nI 5) C (dx dL_2 51 rfl) rfl ?_
  refine rn_iadd (a := i) (b := 5) C (dx dL_2 52 rfl) ?_
  refine r_sld C S (by omega) (by omega) (dx dL_2 53 rfl) ?_
  obtain ⟨τh2, ph2, ch2⟩ := y7_copy (l := l) Mh1 yh1 ok (xs (i + 1)) (xs (i + 2)) (xs (i + 3)) (xs (i + 4)) (xs (i + 5))
  refine r_cv (as := [vi (xs (i + 1)), vi (xs (i + 2)), vi (xs (i + 3)), vi (xs (i + 4)), vi (xs (i + 5))]) (st := []) C X I_X7_copy l_L_29 ch2 (by decide) (Nat.le_of_ble_eq_true rfl) ph2 ALall rfl rfl (Nat.le_of_ble_eq_true rfl) rfl (dx dL_2 54 rfl) ?_
  rintro _ h2 ⟨rfl, Mh2, lh2, yh2⟩ kh2
  have oh2 := oh1.lo lh2
  refine r_popI C (dx dL_2 55 rfl) ?_
  refine r_goto (tgt := 1754) C (dx dL_2 56 rfl) (by decide) ?_
  exact kk h2 ⟨_, _, _, _, _, _, _, _, _, oh2, hg.cop _ _ _ _ _, Mh2, yh2, byt, ok, okw⟩
def tL_3 : List (Nat × Instr × Nat) := [(443, .aload_n 1, 1), (444, .aload_n 0, 1), (445, .iload_n 3, 1), (446, .iconst 1, 1), (447, .iadd, 1), (448, .iaload, 1), (449, .aload_n 0, 1), (450, .iload_n 3, 1), (451, .iconst 2, 1), (452, .iadd, 1), (453, .iaload, 1), (454, .invokevirtual 30, 3), (457, .pop2, 1), (458, .aload_n 2, 1), (459, .aload_n 0, 1), (460, .iload_n 3, 1), (461, .iconst 1, 1), (462, .iadd, 1), (463, .iaload, 1), (464, .aload_n 0, 1), (465, .iload_n 3, 1), (466, .iconst 2, 1), (467, .iadd, 1), (468, .iaload, 1), (469, .invokevirtual 34, 3), (472, .pop2, 1), (473, .goto 1281, 3)]
theorem dL_3 : dec_ok code tL_3 = true := by decide +kernel
set_option maxHeartbeats 4000000 in
theorem law_c3 {l : Launch} {G : Gt} {b L i : Nat} {xs : Nat → Int32} {h : Hp} (C : Cx G code 4 RL) (X : Rmx l G 2048 (AL P63 true true)) (S : SLw G b L xs) (hL : L ≤ 3072) (hi : i + 6 ≤ L) (inv : Lv h) (kk : ∀ h', Lv h' → Rr G 1754 [(0, vt 9000), (1, vr 6 0), (2, vr 7 63), (3, vi (nI i))] [] h') : Rr G 443 [(0, vt 9000), (1, vr 6 0), (2, vr 7 63), (3, vi (nI i))] [] h := by
  obtain ⟨v, u, w, g, B, Bt, z, κ, τ, o, hg, M, y, byt, ok, okw⟩ := inv
  refine r_aload_n C (dx dL_3 0 rfl) rfl ?_
  refine r_aload_nT C (dx dL_3 1 rfl) rfl ?_
  refine r_iload_n C (dx dL_3 2 rfl) rfl ?_
  refine r_iconst (v := nI 1) C (dx dL_3 3 rfl) rfl ?_
  refine rn_iadd (a := i) (b := 1) C (dx dL_3 4 rfl) ?_
  refine r_sld C S (by omega) (by omega) (dx dL_3 5 rfl) ?_
  refine r_aload_nT C (dx dL_3 6 rfl) rfl ?_
  refine r_iload_n C (dx dL_3 7 rfl) rfl ?_
  refine r_iconst (v := nI 2) C (dx dL_3 8 rfl) rfl ?_
  refine rn_iadd (a := i) (b := 2) C (dx dL_3 9 rfl) ?_
  refine r_sld C S (by omega) (by omega) (dx dL_3 10 rfl) ?_
  refine r_cv (as := [vi (xs (i + 1)), vi (xs (i + 2))]) (st := []) C X I_X6_element l_L_30 (x_element o hg (xs (i + 1)) (xs (i + 2))) (by decide) (Nat.le_of_ble_eq_true rfl) List.prefix_rfl (by rw [M.al]; exact ALall) rfl rfl (Nat.le_of_ble_eq_true rfl) rfl (dx dL_3 11 rfl) ?_
  rintro _ h1 ⟨rfl, ⟨uh1, oh1⟩, fh1⟩ kh1
  have Mh1 := M.fr9 fh1 kh1
  have yh1 := y.fr9 M fh1
  refine r_pop2L C (dx dL_3 12 rfl) ?_
  refine r_aload_n C (dx dL_3 13 rfl) rfl ?_
  refine r_aload_nT C (dx dL_3 14 rfl) rfl ?_
  refine r_iload_n C (dx dL_3 15 rfl) rfl ?_
  refine r_iconst (v := nI 1) C (dx dL_3 16 rfl) rfl ?_
  refine rn_iadd (a := i) (b := 1) C (dx dL_3 17 rfl) ?_
  refine r_sld C S (by omega) (by omega) (dx dL_3 18 rfl) ?_
  refine r_aload_nT C (dx dL_3 19 rfl) rfl ?_
  refine r_iload_n C (dx dL_3 20 rfl) rfl ?_
  refine r_iconst (v := nI 2) C (dx dL_3 21 rfl) rfl ?_
  refine rn_iadd (a := i) (b := 2) C (dx dL_3 22 rfl) ?_
  refine r_sld C S (by omega) (by omega) (dx dL_3 23 rfl) ?_
  obtain ⟨τh2, ph2, ch2⟩ := y7_element (l := l) Mh1 yh1 ok (xs (i + 1)) (xs (i + 2))
  refine r_cv (as := [vi (xs (i + 1)), vi (xs (i + 2))]) (st := []) C X I_X7_element l_L_34 ch2 (by decide) (Nat.le_of_ble_eq_true rfl) ph2 ALall rfl rfl (Nat.le_of_ble_eq_true rfl) rfl (dx dL_3 24 rfl) ?_
  rintro _ h2 ⟨rfl, Mh2, lh2, yh2⟩ kh2
  have oh2 := oh1.lo lh2
  refine r_pop2L C (dx dL_3 25 rfl) ?_
  refine r_goto (tgt := 1754) C (dx dL_3 26 rfl) (by decide) ?_
  exact kk h2 ⟨_, _, _, _, _, _, _, _, _, oh2, hg, Mh2, yh2, byt, ok, okw⟩
def tL_4 : List (Nat × Instr × Nat) := [(476, .aload_n 1, 1), (477, .aload_n 0, 1), (478, .iload_n 3, 1), (479, .iconst 1, 1), (480, .iadd, 1), (481, .iaload, 1), (482, .invokevirtual 35, 3), (485, .pop, 1), (486, .aload_n 2, 1), (487, .aload_n 0, 1), (488, .iload_n 3, 1), (489, .iconst 1, 1), (490, .iadd, 1), (491, .iaload, 1), (492, .invokevirtual 39, 3), (495, .pop, 1), (496, .goto 1258, 3)]
theorem dL_4 : dec_ok code tL_4 = true := by decide +kernel
set_option maxHeartbeats 4000000 in
theorem law_c4 {l : Launch} {G : Gt} {b L i : Nat} {xs : Nat → Int32} {h : Hp} (C : Cx G code 4 RL) (X : Rmx l G 2048 (AL P63 true true)) (S : SLw G b L xs) (hL : L ≤ 3072) (hi : i + 6 ≤ L) (inv : Lv h) (kk : ∀ h', Lv h' → Rr G 1754 [(0, vt 9000), (1, vr 6 0), (2, vr 7 63), (3, vi (nI i))] [] h') : Rr G 476 [(0, vt 9000), (1, vr 6 0), (2, vr 7 63), (3, vi (nI i))] [] h := by
  obtain ⟨v, u, w, g, B, Bt, z, κ, τ, o, hg, M, y, byt, ok, okw⟩ := inv
  refine r_aload_n C (dx dL_4 0 rfl) rfl ?_
  refine r_aload_nT C (dx dL_4 1 rfl) rfl ?_
  refine r_iload_n C (dx dL_4 2 rfl) rfl ?_
  refine r_iconst (v := nI 1) C (dx dL_4 3 rfl) rfl ?_
  refine rn_iadd (a := i) (b := 1) C (dx dL_4 4 rfl) ?_
  refine r_sld C S (by omega) (by omega) (dx dL_4 5 rfl) ?_
  refine r_cv (as := [vi (xs (i + 1))]) (st := []) C X I_X6_holds l_L_35 (x_holds o hg (xs (i + 1))) (by decide) (Nat.le_of_ble_eq_true rfl) List.prefix_rfl (by rw [M.al]; exact ALall) rfl rfl (Nat.le_of_ble_eq_true rfl) rfl (dx dL_4 6 rfl) ?_
  rintro _ h1 ⟨rfl, ⟨uh1, oh1⟩, fh1⟩ kh1
  have Mh1 := M.fr9 fh1 kh1
  have yh1 := y.fr9 M fh1
  refine r_popI C (dx dL_4 7 rfl) ?_
  refine r_aload_n C (dx dL_4 8 rfl) rfl ?_
  refine r_aload_nT C (dx dL_4 9 rfl) rfl ?_
  refine r_iload_n C (dx dL_4 10 rfl) rfl ?_
  refine r_iconst (v := nI 1) C (dx dL_4 11 rfl) rfl ?_
  refine rn_iadd (a := i) (b := 1) C (dx dL_4 12 rfl) ?_
  refine r_sld C S (by omega) (by omega) (dx dL_4 13 rfl) ?_
  obtain ⟨τh2, ph2, ch2⟩ := y7_holds (l := l) Mh1 yh1 ok (xs (i + 1))
  refine r_cv (as := [vi (xs (i + 1))]) (st := []) C X I_X7_holds l_L_39 ch2 (by decide) (Nat.le_of_ble_eq_true rfl) ph2 ALall rfl rfl (Nat.le_of_ble_eq_true rfl) rfl (dx dL_4 14 rfl) ?_
  rintro _ h2 ⟨rfl, Mh2, lh2, yh2⟩ kh2
  have oh2 := oh1.lo lh2
  refine r_popI C (dx dL_4 15 rfl) ?_
  refine r_goto (tgt := 1754) C (dx dL_4 16 rfl) (by decide) ?_
  exact kk h2 ⟨_, _, _, _, _, _, _, _, _, oh2, hg, Mh2, yh2, byt, ok, okw⟩
def tL_5 : List (Nat × Instr × Nat) := [(499, .aload_n 1, 1), (500, .aload_n 0, 1), (501, .iload_n 3, 1), (502, .iconst 1, 1), (503, .iadd, 1), (504, .iaload, 1), (505, .aload_n 0, 1), (506, .iload_n 3, 1), (507, .iconst 2, 1), (508, .iadd, 1), (509, .iaload, 1), (510, .aload_n 0, 1), (511, .iload_n 3, 1), (512, .iconst 3, 1), (513, .iadd, 1), (514, .iaload, 1), (515, .invokevirtual 40, 3), (518, .pop, 1), (519, .aload_n 2, 1), (520, .aload_n 0, 1), (521, .iload_n 3, 1), (522, .iconst 1, 1), (523, .iadd, 1), (524, .iaload, 1), (525, .aload_n 0, 1), (526, .iload_n 3, 1), (527, .iconst 2, 1), (528, .iadd, 1), (529, .iaload, 1), (530, .aload_n 0, 1), (531, .iload_n 3, 1), (532, .iconst 3, 1), (533, .iadd, 1), (534, .iaload, 1), (535, .invokevirtual 43, 3), (538, .pop, 1), (539, .goto 1215, 3)]
theorem dL_5 : dec_ok code tL_5 = true := by decide +kernel
set_option maxHeartbeats 4000000 in
theorem law_c5 {l : Launch} {G : Gt} {b L i : Nat} {xs : Nat → Int32} {h : Hp} (C : Cx G code 4 RL) (X : Rmx l G 2048 (AL P63 true true)) (S : SLw G b L xs) (hL : L ≤ 3072) (hi : i + 6 ≤ L) (inv : Lv h) (kk : ∀ h', Lv h' → Rr G 1754 [(0, vt 9000), (1, vr 6 0), (2, vr 7 63), (3, vi (nI i))] [] h') : Rr G 499 [(0, vt 9000), (1, vr 6 0), (2, vr 7 63), (3, vi (nI i))] [] h := by
  obtain ⟨v, u, w, g, B, Bt, z, κ, τ, o, hg, M, y, byt, ok, okw⟩ := inv
  refine r_aload_n C (dx dL_5 0 rfl) rfl ?_
  refine r_aload_nT C (dx dL_5 1 rfl) rfl ?_
  refine r_iload_n C (dx dL_5 2 rfl) rfl ?_
  refine r_iconst (v := nI 1) C (dx dL_5 3 rfl) rfl ?_
  refine rn_iadd (a := i) (b := 1) C (dx dL_5 4 rfl) ?_
  refine r_sld C S (by omega) (by omega) (dx dL_5 5 rfl) ?_
  refine r_aload_nT C (dx dL_5 6 rfl) rfl ?_
  refine r_iload_n C (dx dL_5 7 rfl) rfl ?_
  refine r_iconst (v := nI 2) C (dx dL_5 8 rfl) rfl ?_
  refine rn_iadd (a := i) (b := 2) C (dx dL_5 9 rfl) ?_
  refine r_sld C S (by omega) (by omega) (dx dL_5 10 rfl) ?_
  refine r_aload_nT C (dx dL_5 11 rfl) rfl ?_
  refine r_iload_n C (dx dL_5 12 rfl) rfl ?_
  refine r_iconst (v := nI 3) C (dx dL_5 13 rfl) rfl ?_
  refine rn_iadd (a := i) (b := 3) C (dx dL_5 14 rfl) ?_
  refine r_sld C S (by omega) (by omega) (dx dL_5 15 rfl) ?_
  refine r_cv (as := [vi (xs (i + 1)), vi (xs (i + 2)), vi (xs (i + 3))]) (st := []) C X I_X6_holding l_L_40 (x_holding o hg (xs (i + 1)) (xs (i + 2)) (xs (i + 3))) (by decide) (Nat.le_of_ble_eq_true rfl) List.prefix_rfl (by rw [M.al]; exact ALall) rfl rfl (Nat.le_of_ble_eq_true rfl) rfl (dx dL_5 16 rfl) ?_
  rintro _ h1 ⟨rfl, ⟨uh1, oh1⟩, fh1⟩ kh1
  have Mh1 := M.fr9 fh1 kh1
  have yh1 := y.fr9 M fh1
  refine r_popI C (dx dL_5 17 rfl) ?_
  refine r_aload_n C (dx dL_5 18 rfl) rfl ?_
  refine r_aload_nT C (dx dL_5 19 rfl) rfl ?_
  refine r_iload_n C (dx dL_5 20 rfl) rfl ?_
  refine r_iconst (v := nI 1) C (dx dL_5 21 rfl) rfl ?_
  refine rn_iadd (a := i) (b := 1) C (dx dL_5 22 rfl) ?_
  refine r_sld C S (by omega) (by omega) (dx dL_5 23 rfl) ?_
  refine r_aload_nT C (dx dL_5 24 rfl) rfl ?_
  refine r_iload_n C (dx dL_5 25 rfl) rfl ?_
  refine r_iconst (v := nI 2) C (dx dL_5 26 rfl) rfl ?_
  refine rn_iadd (a := i) (b := 2) C (dx dL_5 27 rfl) ?_
  refine r_sld C S (by omega) (by omega) (dx dL_5 28 rfl) ?_
  refine r_aload_nT C (dx dL_5 29 rfl) rfl ?_
  refine r_iload_n C (dx dL_5 30 rfl) rfl ?_
  refine r_iconst (v := nI 3) C (dx dL_5 31 rfl) rfl ?_
  refine rn_iadd (a := i) (b := 3) C (dx dL_5 32 rfl) ?_
  refine r_sld C S (by omega) (by omega) (dx dL_5 33 rfl) ?_
  obtain ⟨τh2, ph2, ch2⟩ := y7_holding (l := l) Mh1 yh1 ok (xs (i + 1)) (xs (i + 2)) (xs (i + 3))
  refine r_cv (as := [vi (xs (i + 1)), vi (xs (i + 2)), vi (xs (i + 3))]) (st := []) C X I_X7_holding l_L_43 ch2 (by decide) (Nat.le_of_ble_eq_true rfl) ph2 ALall rfl rfl (Nat.le_of_ble_eq_true rfl) rfl (dx dL_5 34 rfl) ?_
  rintro _ h2 ⟨rfl, Mh2, lh2, yh2⟩ kh2
  have oh2 := oh1.lo lh2
  refine r_popI C (dx dL_5 35 rfl) ?_
  refine r_goto (tgt := 1754) C (dx dL_5 36 rfl) (by decide) ?_
  exact kk h2 ⟨_, _, _, _, _, _, _, _, _, oh2, hg.hld _ _ _, Mh2, yh2, byt, ok, okw⟩
def tL_6 : List (Nat × Instr × Nat) := [(542, .aload_n 1, 1), (543, .aload_n 0, 1), (544, .iload_n 3, 1), (545, .iconst 1, 1), (546, .iadd, 1), (547, .iaload, 1), (548, .aload_n 0, 1), (549, .iload_n 3, 1), (550, .iconst 2, 1), (551, .iadd, 1), (552, .iaload, 1), (553, .invokevirtual 44, 3), (556, .pop, 1), (557, .aload_n 2, 1), (558, .aload_n 0, 1), (559, .iload_n 3, 1), (560, .iconst 1, 1), (561, .iadd, 1), (562, .iaload, 1), (563, .aload_n 0, 1), (564, .iload_n 3, 1), (565, .iconst 2, 1), (566, .iadd, 1), (567, .iaload, 1), (568, .invokevirtual 48, 3), (571, .pop, 1), (572, .goto 1182, 3)]
theorem dL_6 : dec_ok code tL_6 = true := by decide +kernel
set_option maxHeartbeats 4000000 in
theorem law_c6 {l : Launch} {G : Gt} {b L i : Nat} {xs : Nat → Int32} {h : Hp} (C : Cx G code 4 RL) (X : Rmx l G 2048 (AL P63 true true)) (S : SLw G b L xs) (hL : L ≤ 3072) (hi : i + 6 ≤ L) (inv : Lv h) (kk : ∀ h', Lv h' → Rr G 1754 [(0, vt 9000), (1, vr 6 0), (2, vr 7 63), (3, vi (nI i))] [] h') : Rr G 542 [(0, vt 9000), (1, vr 6 0), (2, vr 7 63), (3, vi (nI i))] [] h := by
  obtain ⟨v, u, w, g, B, Bt, z, κ, τ, o, hg, M, y, byt, ok, okw⟩ := inv
  refine r_aload_n C (dx dL_6 0 rfl) rfl ?_
  refine r_aload_nT C (dx dL_6 1 rfl) rfl ?_
  refine r_iload_n C (dx dL_6 2 rfl) rfl ?_
  refine r_iconst (v := nI 1) C (dx dL_6 3 rfl) rfl ?_
  refine rn_iadd (a := i) (b := 1) C (dx dL_6 4 rfl) ?_
  refine r_sld C S (by omega) (by omega) (dx dL_6 5 rfl) ?_
  refine r_aload_nT C (dx dL_6 6 rfl) rfl ?_
  refine r_iload_n C (dx dL_6 7 rfl) rfl ?_
  refine r_iconst (v := nI 2) C (dx dL_6 8 rfl) rfl ?_
  refine rn_iadd (a := i) (b := 2) C (dx dL_6 9 rfl) ?_
  refine r_sld C S (by omega) (by omega) (dx dL_6 10 rfl) ?_
  refine r_cv (as := [vi (xs (i + 1)), vi (xs (i + 2))]) (st := []) C X I_X6_says l_L_44 (x_says o hg (xs (i + 1)) (xs (i + 2))) (by decide) (Nat.le_of_ble_eq_true rfl) List.prefix_rfl (by rw [M.al]; exact ALall) rfl rfl (Nat.le_of_ble_eq_true rfl) rfl (dx dL_6 11 rfl) ?_
  rintro _ h1 ⟨⟨xh1, rfl⟩, ⟨uh1, oh1⟩, fh1⟩ kh1
  have Mh1 := M.fr9 fh1 kh1
  have yh1 := y.fr9 M fh1
  refine r_popI C (dx dL_6 12 rfl) ?_
  refine r_aload_n C (dx dL_6 13 rfl) rfl ?_
  refine r_aload_nT C (dx dL_6 14 rfl) rfl ?_
  refine r_iload_n C (dx dL_6 15 rfl) rfl ?_
  refine r_iconst (v := nI 1) C (dx dL_6 16 rfl) rfl ?_
  refine rn_iadd (a := i) (b := 1) C (dx dL_6 17 rfl) ?_
  refine r_sld C S (by omega) (by omega) (dx dL_6 18 rfl) ?_
  refine r_aload_nT C (dx dL_6 19 rfl) rfl ?_
  refine r_iload_n C (dx dL_6 20 rfl) rfl ?_
  refine r_iconst (v := nI 2) C (dx dL_6 21 rfl) rfl ?_
  refine rn_iadd (a := i) (b := 2) C (dx dL_6 22 rfl) ?_
  refine r_sld C S (by omega) (by omega) (dx dL_6 23 rfl) ?_
  obtain ⟨τh2, ph2, ch2⟩ := y7_says (l := l) Mh1 yh1 ok (xs (i + 1)) (xs (i + 2))
  refine r_cv (as := [vi (xs (i + 1)), vi (xs (i + 2))]) (st := []) C X I_X7_says l_L_48 ch2 (by decide) (Nat.le_of_ble_eq_true rfl) ph2 ALall rfl rfl (Nat.le_of_ble_eq_true rfl) rfl (dx dL_6 24 rfl) ?_
  rintro _ h2 ⟨⟨xh2, rfl⟩, Mh2, lh2, yh2⟩ kh2
  have oh2 := oh1.lo lh2
  refine r_popI C (dx dL_6 25 rfl) ?_
  refine r_goto (tgt := 1754) C (dx dL_6 26 rfl) (by decide) ?_
  exact kk h2 ⟨_, _, _, _, _, _, _, _, _, oh2, hg, Mh2, yh2, byt, ok, okw⟩
def tL_7 : List (Nat × Instr × Nat) := [(575, .aload_n 1, 1), (576, .invokevirtual 49, 3), (579, .pop, 1), (580, .aload_n 2, 1), (581, .invokevirtual 53, 3), (584, .pop, 1), (585, .goto 1169, 3)]
theorem dL_7 : dec_ok code tL_7 = true := by decide +kernel
set_option maxHeartbeats 4000000 in
theorem law_c7 {l : Launch} {G : Gt} {b L i : Nat} {xs : Nat → Int32} {h : Hp} (C : Cx G code 4 RL) (X : Rmx l G 2048 (AL P63 true true)) (S : SLw G b L xs) (hL : L ≤ 3072) (hi : i + 6 ≤ L) (inv : Lv h) (kk : ∀ h', Lv h' → Rr G 1754 [(0, vt 9000), (1, vr 6 0), (2, vr 7 63), (3, vi (nI i))] [] h') : Rr G 575 [(0, vt 9000), (1, vr 6 0), (2, vr 7 63), (3, vi (nI i))] [] h := by
  obtain ⟨v, u, w, g, B, Bt, z, κ, τ, o, hg, M, y, byt, ok, okw⟩ := inv
  refine r_aload_n C (dx dL_7 0 rfl) rfl ?_
  refine r_cv (as := []) (st := []) C X I_X6_part l_L_49 (x_part o hg ) (by decide) (Nat.le_of_ble_eq_true rfl) List.prefix_rfl (by rw [M.al]; exact ALall) rfl rfl (Nat.le_of_ble_eq_true rfl) rfl (dx dL_7 1 rfl) ?_
  rintro _ h1 ⟨rfl, ⟨uh1, oh1⟩, fh1⟩ kh1
  have Mh1 := M.fr9 fh1 kh1
  have yh1 := y.fr9 M fh1
  refine r_popI C (dx dL_7 2 rfl) ?_
  refine r_aload_n C (dx dL_7 3 rfl) rfl ?_
  obtain ⟨τh2, ph2, ch2⟩ := y7_part (l := l) Mh1 yh1 ok 
  refine r_cv (as := []) (st := []) C X I_X7_part l_L_53 ch2 (by decide) (Nat.le_of_ble_eq_true rfl) ph2 ALall rfl rfl (Nat.le_of_ble_eq_true rfl) rfl (dx dL_7 4 rfl) ?_
  rintro _ h2 ⟨rfl, Mh2, lh2, yh2⟩ kh2
  have oh2 := oh1.lo lh2
  refine r_popI C (dx dL_7 5 rfl) ?_
  refine r_goto (tgt := 1754) C (dx dL_7 6 rfl) (by decide) ?_
  exact kk h2 ⟨_, _, _, _, _, _, _, _, _, oh2, hg, Mh2, yh2, byt, (ok_partV ok), okw⟩
def tL_8 : List (Nat × Instr × Nat) := [(588, .aload_n 1, 1), (589, .aload_n 0, 1), (590, .iload_n 3, 1), (591, .iconst 1, 1), (592, .iadd, 1), (593, .iaload, 1), (594, .aload_n 0, 1), (595, .iload_n 3, 1), (596, .iconst 2, 1), (597, .iadd, 1), (598, .iaload, 1), (599, .invokevirtual 54, 3), (602, .pop, 1), (603, .aload_n 2, 1), (604, .aload_n 0, 1), (605, .iload_n 3, 1), (606, .iconst 1, 1), (607, .iadd, 1), (608, .iaload, 1), (609, .aload_n 0, 1), (610, .iload_n 3, 1), (611, .iconst 2, 1), (612, .iadd, 1), (613, .iaload, 1), (614, .invokevirtual 57, 3), (617, .pop, 1), (618, .goto 1136, 3)]
theorem dL_8 : dec_ok code tL_8 = true := by decide +kernel
set_option maxHeartbeats 4000000 in
theorem law_c8 {l : Launch} {G : Gt} {b L i : Nat} {xs : Nat → Int32} {h : Hp} (C : Cx G code 4 RL) (X : Rmx l G 2048 (AL P63 true true)) (S : SLw G b L xs) (hL : L ≤ 3072) (hi : i + 6 ≤ L) (inv : Lv h) (kk : ∀ h', Lv h' → Rr G 1754 [(0, vt 9000), (1, vr 6 0), (2, vr 7 63), (3, vi (nI i))] [] h') : Rr G 588 [(0, vt 9000), (1, vr 6 0), (2, vr 7 63), (3, vi (nI i))] [] h := by
  obtain ⟨v, u, w, g, B, Bt, z, κ, τ, o, hg, M, y, byt, ok, okw⟩ := inv
  refine r_aload_n C (dx dL_8 0 rfl) rfl ?_
  refine r_aload_nT C (dx dL_8 1 rfl) rfl ?_
  refine r_iload_n C (dx dL_8 2 rfl) rfl ?_
  refine r_iconst (v := nI 1) C (dx dL_8 3 rfl) rfl ?_
  refine rn_iadd (a := i) (b := 1) C (dx dL_8 4 rfl) ?_
  refine r_sld C S (by omega) (by omega) (dx dL_8 5 rfl) ?_
  refine r_aload_nT C (dx dL_8 6 rfl) rfl ?_
  refine r_iload_n C (dx dL_8 7 rfl) rfl ?_
  refine r_iconst (v := nI 2) C (dx dL_8 8 rfl) rfl ?_
  refine rn_iadd (a := i) (b := 2) C (dx dL_8 9 rfl) ?_
  refine r_sld C S (by omega) (by omega) (dx dL_8 10 rfl) ?_
  refine r_cv (as := [vi (xs (i + 1)), vi (xs (i + 2))]) (st := []) C X I_X6_machine l_L_54 (x_machine o hg (xs (i + 1)) (xs (i + 2))) (by decide) (Nat.le_of_ble_eq_true rfl) List.prefix_rfl (by rw [M.al]; exact ALall) rfl rfl (Nat.le_of_ble_eq_true rfl) rfl (dx dL_8 11 rfl) ?_
  rintro _ h1 ⟨rfl, ⟨uh1, oh1⟩, fh1⟩ kh1
  have Mh1 := M.fr9 fh1 kh1
  have yh1 := y.fr9 M fh1
  refine r_popI C (dx dL_8 12 rfl) ?_
  refine r_aload_n C (dx dL_8 13 rfl) rfl ?_
  refine r_aload_nT C (dx dL_8 14 rfl) rfl ?_
  refine r_iload_n C (dx dL_8 15 rfl) rfl ?_
  refine r_iconst (v := nI 1) C (dx dL_8 16 rfl) rfl ?_
  refine rn_iadd (a := i) (b := 1) C (dx dL_8 17 rfl) ?_
  refine r_sld C S (by omega) (by omega) (dx dL_8 18 rfl) ?_
  refine r_aload_nT C (dx dL_8 19 rfl) rfl ?_
  refine r_iload_n C (dx dL_8 20 rfl) rfl ?_
  refine r_iconst (v := nI 2) C (dx dL_8 21 rfl) rfl ?_
  refine rn_iadd (a := i) (b := 2) C (dx dL_8 22 rfl) ?_
  refine r_sld C S (by omega) (by omega) (dx dL_8 23 rfl) ?_
  obtain ⟨τh2, ph2, ch2⟩ := y7_machine (l := l) Mh1 yh1 ok (xs (i + 1)) (xs (i + 2))
  refine r_cv (as := [vi (xs (i + 1)), vi (xs (i + 2))]) (st := []) C X I_X7_machine l_L_57 ch2 (by decide) (Nat.le_of_ble_eq_true rfl) ph2 ALall rfl rfl (Nat.le_of_ble_eq_true rfl) rfl (dx dL_8 24 rfl) ?_
  rintro _ h2 ⟨rfl, Mh2, lh2, yh2⟩ kh2
  have oh2 := oh1.lo lh2
  refine r_popI C (dx dL_8 25 rfl) ?_
  refine r_goto (tgt := 1754) C (dx dL_8 26 rfl) (by decide) ?_
  exact kk h2 ⟨_, _, _, _, _, _, _, _, _, oh2, hg, Mh2, yh2, byt, (ok_machV ok _ _), okw⟩
def tL_9 : List (Nat × Instr × Nat) := [(621, .aload_n 1, 1), (622, .aload_n 0, 1), (623, .iload_n 3, 1), (624, .iconst 1, 1), (625, .iadd, 1), (626, .iaload, 1), (627, .aload_n 0, 1), (628, .iload_n 3, 1), (629, .iconst 2, 1), (630, .iadd, 1), (631, .iaload, 1), (632, .invokevirtual 58, 3), (635, .pop, 1), (636, .aload_n 2, 1), (637, .aload_n 0, 1), (638, .iload_n 3, 1), (639, .iconst 1, 1), (640, .iadd, 1), (641, .iaload, 1), (642, .aload_n 0, 1), (643, .iload_n 3, 1), (644, .iconst 2, 1), (645, .iadd, 1), (646, .iaload, 1), (647, .invokevirtual 61, 3), (650, .pop, 1), (651, .goto 1103, 3)]
theorem dL_9 : dec_ok code tL_9 = true := by decide +kernel
set_option maxHeartbeats 4000000 in
theorem law_c9 {l : Launch} {G : Gt} {b L i : Nat} {xs : Nat → Int32} {h : Hp} (C : Cx G code 4 RL) (X : Rmx l G 2048 (AL P63 true true)) (S : SLw G b L xs) (hL : L ≤ 3072) (hi : i + 6 ≤ L) (inv : Lv h) (kk : ∀ h', Lv h' → Rr G 1754 [(0, vt 9000), (1, vr 6 0), (2, vr 7 63), (3, vi (nI i))] [] h') : Rr G 621 [(0, vt 9000), (1, vr 6 0), (2, vr 7 63), (3, vi (nI i))] [] h := by
  obtain ⟨v, u, w, g, B, Bt, z, κ, τ, o, hg, M, y, byt, ok, okw⟩ := inv
  refine r_aload_n C (dx dL_9 0 rfl) rfl ?_
  refine r_aload_nT C (dx dL_9 1 rfl) rfl ?_
  refine r_iload_n C (dx dL_9 2 rfl) rfl ?_
  refine r_iconst (v := nI 1) C (dx dL_9 3 rfl) rfl ?_
  refine rn_iadd (a := i) (b := 1) C (dx dL_9 4 rfl) ?_
  refine r_sld C S (by omega) (by omega) (dx dL_9 5 rfl) ?_
  refine r_aload_nT C (dx dL_9 6 rfl) rfl ?_
  refine r_iload_n C (dx dL_9 7 rfl) rfl ?_
  refine r_iconst (v := nI 2) C (dx dL_9 8 rfl) rfl ?_
  refine rn_iadd (a := i) (b := 2) C (dx dL_9 9 rfl) ?_
  refine r_sld C S (by omega) (by omega) (dx dL_9 10 rfl) ?_
  refine r_cv (as := [vi (xs (i + 1)), vi (xs (i + 2))]) (st := []) C X I_X6_one l_L_58 (x_one o hg (xs (i + 1)) (xs (i + 2))) (by decide) (Nat.le_of_ble_eq_true rfl) List.prefix_rfl (by rw [M.al]; exact ALall) rfl rfl (Nat.le_of_ble_eq_true rfl) rfl (dx dL_9 11 rfl) ?_
  rintro _ h1 ⟨rfl, ⟨uh1, oh1⟩, fh1⟩ kh1
  have Mh1 := M.fr9 fh1 kh1
  have yh1 := y.fr9 M fh1
  refine r_popI C (dx dL_9 12 rfl) ?_
  refine r_aload_n C (dx dL_9 13 rfl) rfl ?_
  refine r_aload_nT C (dx dL_9 14 rfl) rfl ?_
  refine r_iload_n C (dx dL_9 15 rfl) rfl ?_
  refine r_iconst (v := nI 1) C (dx dL_9 16 rfl) rfl ?_
  refine rn_iadd (a := i) (b := 1) C (dx dL_9 17 rfl) ?_
  refine r_sld C S (by omega) (by omega) (dx dL_9 18 rfl) ?_
  refine r_aload_nT C (dx dL_9 19 rfl) rfl ?_
  refine r_iload_n C (dx dL_9 20 rfl) rfl ?_
  refine r_iconst (v := nI 2) C (dx dL_9 21 rfl) rfl ?_
  refine rn_iadd (a := i) (b := 2) C (dx dL_9 22 rfl) ?_
  refine r_sld C S (by omega) (by omega) (dx dL_9 23 rfl) ?_
  obtain ⟨τh2, ph2, ch2⟩ := y7_one (l := l) Mh1 yh1 ok (xs (i + 1)) (xs (i + 2))
  refine r_cv (as := [vi (xs (i + 1)), vi (xs (i + 2))]) (st := []) C X I_X7_one l_L_61 ch2 (by decide) (Nat.le_of_ble_eq_true rfl) ph2 ALall rfl rfl (Nat.le_of_ble_eq_true rfl) rfl (dx dL_9 24 rfl) ?_
  rintro _ h2 ⟨rfl, Mh2, lh2, yh2⟩ kh2
  have oh2 := oh1.lo lh2
  refine r_popI C (dx dL_9 25 rfl) ?_
  refine r_goto (tgt := 1754) C (dx dL_9 26 rfl) (by decide) ?_
  exact kk h2 ⟨_, _, _, _, _, _, _, _, _, oh2, hg, Mh2, yh2, byt, (ok_oneV ok _ _), okw⟩
def tL_10 : List (Nat × Instr × Nat) := [(654, .aload_n 1, 1), (655, .aload_n 0, 1), (656, .iload_n 3, 1), (657, .iconst 1, 1), (658, .iadd, 1), (659, .iaload, 1), (660, .aload_n 0, 1), (661, .iload_n 3, 1), (662, .iconst 2, 1), (663, .iadd, 1), (664, .iaload, 1), (665, .invokevirtual 62, 3), (668, .pop, 1), (669, .aload_n 2, 1), (670, .aload_n 0, 1), (671, .iload_n 3, 1), (672, .iconst 1, 1), (673, .iadd, 1), (674, .iaload, 1), (675, .aload_n 0, 1), (676, .iload_n 3, 1), (677, .iconst 2, 1), (678, .iadd, 1), (679, .iaload, 1), (680, .invokevirtual 65, 3), (683, .pop, 1), (684, .goto 1070, 3)]
theorem dL_10 : dec_ok code tL_10 = true := by decide +kernel
set_option maxHeartbeats 4000000 in
theorem law_c10 {l : Launch} {G : Gt} {b L i : Nat} {xs : Nat → Int32} {h : Hp} (C : Cx G code 4 RL) (X : Rmx l G 2048 (AL P63 true true)) (S : SLw G b L xs) (hL : L ≤ 3072) (hi : i + 6 ≤ L) (inv : Lv h) (kk : ∀ h', Lv h' → Rr G 1754 [(0, vt 9000), (1, vr 6 0), (2, vr 7 63), (3, vi (nI i))] [] h') : Rr G 654 [(0, vt 9000), (1, vr 6 0), (2, vr 7 63), (3, vi (nI i))] [] h := by
  obtain ⟨v, u, w, g, B, Bt, z, κ, τ, o, hg, M, y, byt, ok, okw⟩ := inv
  refine r_aload_n C (dx dL_10 0 rfl) rfl ?_
  refine r_aload_nT C (dx dL_10 1 rfl) rfl ?_
  refine r_iload_n C (dx dL_10 2 rfl) rfl ?_
  refine r_iconst (v := nI 1) C (dx dL_10 3 rfl) rfl ?_
  refine rn_iadd (a := i) (b := 1) C (dx dL_10 4 rfl) ?_
  refine r_sld C S (by omega) (by omega) (dx dL_10 5 rfl) ?_
  refine r_aload_nT C (dx dL_10 6 rfl) rfl ?_
  refine r_iload_n C (dx dL_10 7 rfl) rfl ?_
  refine r_iconst (v := nI 2) C (dx dL_10 8 rfl) rfl ?_
  refine rn_iadd (a := i) (b := 2) C (dx dL_10 9 rfl) ?_
  refine r_sld C S (by omega) (by omega) (dx dL_10 10 rfl) ?_
  refine r_cv (as := [vi (xs (i + 1)), vi (xs (i + 2))]) (st := []) C X I_X6_away l_L_62 (x_away o hg (xs (i + 1)) (xs (i + 2))) (by decide) (Nat.le_of_ble_eq_true rfl) List.prefix_rfl (by rw [M.al]; exact ALall) rfl rfl (Nat.le_of_ble_eq_true rfl) rfl (dx dL_10 11 rfl) ?_
  rintro _ h1 ⟨rfl, ⟨uh1, oh1⟩, fh1⟩ kh1
  have Mh1 := M.fr9 fh1 kh1
  have yh1 := y.fr9 M fh1
  refine r_popI C (dx dL_10 12 rfl) ?_
  refine r_aload_n C (dx dL_10 13 rfl) rfl ?_
  refine r_aload_nT C (dx dL_10 14 rfl) rfl ?_
  refine r_iload_n C (dx dL_10 15 rfl) rfl ?_
  refine r_iconst (v := nI 1) C (dx dL_10 16 rfl) rfl ?_
  refine rn_iadd (a := i) (b := 1) C (dx dL_10 17 rfl) ?_
  refine r_sld C S (by omega) (by omega) (dx dL_10 18 rfl) ?_
  refine r_aload_nT C (dx dL_10 19 rfl) rfl ?_
  refine r_iload_n C (dx dL_10 20 rfl) rfl ?_
  refine r_iconst (v := nI 2) C (dx dL_10 21 rfl) rfl ?_
  refine rn_iadd (a := i) (b := 2) C (dx dL_10 22 rfl) ?_
  refine r_sld C S (by omega) (by omega) (dx dL_10 23 rfl) ?_
  obtain ⟨τh2, ph2, ch2⟩ := y7_away (l := l) Mh1 yh1 ok (xs (i + 1)) (xs (i + 2))
  refine r_cv (as := [vi (xs (i + 1)), vi (xs (i + 2))]) (st := []) C X I_X7_away l_L_65 ch2 (by decide) (Nat.le_of_ble_eq_true rfl) ph2 ALall rfl rfl (Nat.le_of_ble_eq_true rfl) rfl (dx dL_10 24 rfl) ?_
  rintro _ h2 ⟨rfl, Mh2, lh2, yh2⟩ kh2
  have oh2 := oh1.lo lh2
  refine r_popI C (dx dL_10 25 rfl) ?_
  refine r_goto (tgt := 1754) C (dx dL_10 26 rfl) (by decide) ?_
  exact kk h2 ⟨_, _, _, _, _, _, _, _, _, oh2, hg, Mh2, yh2, byt, (ok_awayV ok _ _), okw⟩
def tL_11 : List (Nat × Instr × Nat) := [(687, .aload_n 1, 1), (688, .aload_n 0, 1), (689, .iload_n 3, 1), (690, .iconst 1, 1), (691, .iadd, 1), (692, .iaload, 1), (693, .aload_n 0, 1), (694, .iload_n 3, 1), (695, .iconst 2, 1), (696, .iadd, 1), (697, .iaload, 1), (698, .ifCond .eq 7, 3), (701, .iconst 1, 1), (702, .goto 4, 3), (705, .iconst 0, 1), (706, .invokevirtual 66, 3), (709, .pop, 1), (710, .aload_n 2, 1), (711, .aload_n 0, 1), (712, .iload_n 3, 1), (713, .iconst 1, 1), (714, .iadd, 1), (715, .iaload, 1), (716, .aload_n 0, 1), (717, .iload_n 3, 1), (718, .iconst 2, 1), (719, .iadd, 1), (720, .iaload, 1), (721, .ifCond .eq 7, 3), (724, .iconst 1, 1), (725, .goto 4, 3), (728, .iconst 0, 1), (729, .invokevirtual 70, 3), (732, .pop, 1), (733, .goto 1021, 3)]
theorem dL_11 : dec_ok code tL_11 = true := by decide +kernel
set_option maxHeartbeats 4000000 in
theorem law_c11 {l : Launch} {G : Gt} {b L i : Nat} {xs : Nat → Int32} {h : Hp} (C : Cx G code 4 RL) (X : Rmx l G 2048 (AL P63 true true)) (S : SLw G b L xs) (hL : L ≤ 3072) (hi : i + 6 ≤ L) (inv : Lv h) (kk : ∀ h', Lv h' → Rr G 1754 [(0, vt 9000), (1, vr 6 0), (2, vr 7 63), (3, vi (nI i))] [] h') : Rr G 687 [(0, vt 9000), (1, vr 6 0), (2, vr 7 63), (3, vi (nI i))] [] h := by
  obtain ⟨v, u, w, g, B, Bt, z, κ, τ, o, hg, M, y, byt, ok, okw⟩ := inv
  refine r_aload_n C (dx dL_11 0 rfl) rfl ?_
  refine r_aload_nT C (dx dL_11 1 rfl) rfl ?_
  refine r_iload_n C (dx dL_11 2 rfl) rfl ?_
  refine r_iconst (v := nI 1) C (dx dL_11 3 rfl) rfl ?_
  refine rn_iadd (a := i) (b := 1) C (dx dL_11 4 rfl) ?_
  refine r_sld C S (by omega) (by omega) (dx dL_11 5 rfl) ?_
  refine r_aload_nT C (dx dL_11 6 rfl) rfl ?_
  refine r_iload_n C (dx dL_11 7 rfl) rfl ?_
  refine r_iconst (v := nI 2) C (dx dL_11 8 rfl) rfl ?_
  refine rn_iadd (a := i) (b := 2) C (dx dL_11 9 rfl) ?_
  refine r_sld C S (by omega) (by omega) (dx dL_11 10 rfl) ?_
  refine r_if_eq (tgt := 705) C (dx dL_11 11 rfl) (by decide) (fun c1 => ?_) (fun c1 => ?_)
  ·
    refine r_iconst (v := nI 0) C (dx dL_11 14 rfl) rfl ?_
    refine r_cv (as := [vi (xs (i + 1)), vi (nI 0)]) (st := []) C X I_X6_cross l_L_66 (x_cross o hg (xs (i + 1)) false) (by decide) (Nat.le_of_ble_eq_true rfl) List.prefix_rfl (by rw [M.al]; exact ALall) rfl rfl (Nat.le_of_ble_eq_true rfl) rfl (dx dL_11 15 rfl) ?_
    rintro _ h2 ⟨rfl, ⟨uh2, oh2⟩, fh2⟩ kh2
    have Mh2 := M.fr9 fh2 kh2
    have yh2 := y.fr9 M fh2
    refine r_popI C (dx dL_11 16 rfl) ?_
    refine r_aload_n C (dx dL_11 17 rfl) rfl ?_
    refine r_aload_nT C (dx dL_11 18 rfl) rfl ?_
    refine r_iload_n C (dx dL_11 19 rfl) rfl ?_
    refine r_iconst (v := nI 1) C (dx dL_11 20 rfl) rfl ?_
    refine rn_iadd (a := i) (b := 1) C (dx dL_11 21 rfl) ?_
    refine r_sld C S (by omega) (by omega) (dx dL_11 22 rfl) ?_
    refine r_aload_nT C (dx dL_11 23 rfl) rfl ?_
    refine r_iload_n C (dx dL_11 24 rfl) rfl ?_
    refine r_iconst (v := nI 2) C (dx dL_11 25 rfl) rfl ?_
    refine rn_iadd (a := i) (b := 2) C (dx dL_11 26 rfl) ?_
    refine r_sld C S (by omega) (by omega) (dx dL_11 27 rfl) ?_
    refine r_if_eq (tgt := 728) C (dx dL_11 28 rfl) (by decide) (fun c3 => ?_) (fun c3 => ?_)
    ·
      refine r_iconst (v := nI 0) C (dx dL_11 31 rfl) rfl ?_
      obtain ⟨τh4, ph4, ch4⟩ := y7_cross (l := l) Mh2 yh2 ok (xs (i + 1)) false
      refine r_cv (as := [vi (xs (i + 1)), vi (nI 0)]) (st := []) C X I_X7_cross l_L_70 ch4 (by decide) (Nat.le_of_ble_eq_true rfl) ph4 ALall rfl rfl (Nat.le_of_ble_eq_true rfl) rfl (dx dL_11 32 rfl) ?_
      rintro _ h4 ⟨rfl, Mh4, lh4, yh4⟩ kh4
      have oh4 := oh2.lo lh4
      refine r_popI C (dx dL_11 33 rfl) ?_
      refine r_goto (tgt := 1754) C (dx dL_11 34 rfl) (by decide) ?_
      exact kk h4 ⟨_, _, _, _, _, _, _, _, _, oh4, hg, Mh4, yh4, byt, (ok_crossV ok _ _), okw⟩
    ·
      exact absurd c1 c3
  ·
    refine r_iconst (v := nI 1) C (dx dL_11 12 rfl) rfl ?_
    refine r_goto (tgt := 706) C (dx dL_11 13 rfl) (by decide) ?_
    refine r_cv (as := [vi (xs (i + 1)), vi (nI 1)]) (st := []) C X I_X6_cross l_L_66 (x_cross o hg (xs (i + 1)) true) (by decide) (Nat.le_of_ble_eq_true rfl) List.prefix_rfl (by rw [M.al]; exact ALall) rfl rfl (Nat.le_of_ble_eq_true rfl) rfl (dx dL_11 15 rfl) ?_
    rintro _ h5 ⟨rfl, ⟨uh5, oh5⟩, fh5⟩ kh5
    have Mh5 := M.fr9 fh5 kh5
    have yh5 := y.fr9 M fh5
    refine r_popI C (dx dL_11 16 rfl) ?_
    refine r_aload_n C (dx dL_11 17 rfl) rfl ?_
    refine r_aload_nT C (dx dL_11 18 rfl) rfl ?_
    refine r_iload_n C (dx dL_11 19 rfl) rfl ?_
    refine r_iconst (v := nI 1) C (dx dL_11 20 rfl) rfl ?_
    refine rn_iadd (a := i) (b := 1) C (dx dL_11 21 rfl) ?_
    refine r_sld C S (by omega) (by omega) (dx dL_11 22 rfl) ?_
    refine r_aload_nT C (dx dL_11 23 rfl) rfl ?_
    refine r_iload_n C (dx dL_11 24 rfl) rfl ?_
    refine r_iconst (v := nI 2) C (dx dL_11 25 rfl) rfl ?_
    refine rn_iadd (a := i) (b := 2) C (dx dL_11 26 rfl) ?_
    refine r_sld C S (by omega) (by omega) (dx dL_11 27 rfl) ?_
    refine r_if_eq (tgt := 728) C (dx dL_11 28 rfl) (by decide) (fun c6 => ?_) (fun c6 => ?_)
    ·
      exact absurd c6 c1
    ·
      refine r_iconst (v := nI 1) C (dx dL_11 29 rfl) rfl ?_
      refine r_goto (tgt := 729) C (dx dL_11 30 rfl) (by decide) ?_
      obtain ⟨τh7, ph7, ch7⟩ := y7_cross (l := l) Mh5 yh5 ok (xs (i + 1)) true
      refine r_cv (as := [vi (xs (i + 1)), vi (nI 1)]) (st := []) C X I_X7_cross l_L_70 ch7 (by decide) (Nat.le_of_ble_eq_true rfl) ph7 ALall rfl rfl (Nat.le_of_ble_eq_true rfl) rfl (dx dL_11 32 rfl) ?_
      rintro _ h7 ⟨rfl, Mh7, lh7, yh7⟩ kh7
      have oh7 := oh5.lo lh7
      refine r_popI C (dx dL_11 33 rfl) ?_
      refine r_goto (tgt := 1754) C (dx dL_11 34 rfl) (by decide) ?_
      exact kk h7 ⟨_, _, _, _, _, _, _, _, _, oh7, hg, Mh7, yh7, byt, (ok_crossV ok _ _), okw⟩
def tL_12 : List (Nat × Instr × Nat) := [(736, .aload_n 1, 1), (737, .aload_n 0, 1), (738, .iload_n 3, 1), (739, .iconst 1, 1), (740, .iadd, 1), (741, .iaload, 1), (742, .aload_n 0, 1), (743, .iload_n 3, 1), (744, .iconst 2, 1), (745, .iadd, 1), (746, .iaload, 1), (747, .aload_n 0, 1), (748, .iload_n 3, 1), (749, .iconst 3, 1), (750, .iadd, 1), (751, .iaload, 1), (752, .ifCond .eq 7, 3), (755, .iconst 1, 1), (756, .goto 4, 3), (759, .iconst 0, 1), (760, .invokevirtual 71, 3), (763, .pop, 1), (764, .aload_n 2, 1), (765, .aload_n 0, 1), (766, .iload_n 3, 1), (767, .iconst 1, 1), (768, .iadd, 1), (769, .iaload, 1), (770, .aload_n 0, 1), (771, .iload_n 3, 1), (772, .iconst 2, 1), (773, .iadd, 1), (774, .iaload, 1), (775, .aload_n 0, 1), (776, .iload_n 3, 1), (777, .iconst 3, 1), (778, .iadd, 1), (779, .iaload, 1), (780, .ifCond .eq 7, 3), (783, .iconst 1, 1), (784, .goto 4, 3), (787, .iconst 0, 1), (788, .invokevirtual 75, 3), (791, .pop, 1), (792, .goto 962, 3)]
theorem dL_12 : dec_ok code tL_12 = true := by decide +kernel
set_option maxHeartbeats 4000000 in
theorem law_c12 {l : Launch} {G : Gt} {b L i : Nat} {xs : Nat → Int32} {h : Hp} (C : Cx G code 4 RL) (X : Rmx l G 2048 (AL P63 true true)) (S : SLw G b L xs) (hL : L ≤ 3072) (hi : i + 6 ≤ L) (inv : Lv h) (kk : ∀ h', Lv h' → Rr G 1754 [(0, vt 9000), (1, vr 6 0), (2, vr 7 63), (3, vi (nI i))] [] h') : Rr G 736 [(0, vt 9000), (1, vr 6 0), (2, vr 7 63), (3, vi (nI i))] [] h := by
  obtain ⟨v, u, w, g, B, Bt, z, κ, τ, o, hg, M, y, byt, ok, okw⟩ := inv
  refine r_aload_n C (dx dL_12 0 rfl) rfl ?_
  refine r_aload_nT C (dx dL_12 1 rfl) rfl ?_
  refine r_iload_n C (dx dL_12 2 rfl) rfl ?_
  refine r_iconst (v := nI 1) C (dx dL_12 3 rfl) rfl ?_
  refine rn_iadd (a := i) (b := 1) C (dx dL_12 4 rfl) ?_
  refine r_sld C S (by omega) (by omega) (dx dL_12 5 rfl) ?_
  refine r_aload_nT C (dx dL_12 6 rfl) rfl ?_
  refine r_iload_n C (dx dL_12 7 rfl) rfl ?_
  refine r_iconst (v := nI 2) C (dx dL_12 8 rfl) rfl ?_
  refine rn_iadd (a := i) (b := 2) C (dx dL_12 9 rfl) ?_
  refine r_sld C S (by omega) (by omega) (dx dL_12 10 rfl) ?_
  refine r_aload_nT C (dx dL_12 11 rfl) rfl ?_
  refine r_iload_n C (dx dL_12 12 rfl) rfl ?_
  refine r_iconst (v := nI 3) C (dx dL_12 13 rfl) rfl ?_
  refine rn_iadd (a := i) (b := 3) C (dx dL_12 14 rfl) ?_
  refine r_sld C S (by omega) (by omega) (dx dL_12 15 rfl) ?_
  refine r_if_eq (tgt := 759) C (dx dL_12 16 rfl) (by decide) (fun c1 => ?_) (fun c1 => ?_)
  ·
    refine r_iconst (v := nI 0) C (dx dL_12 19 rfl) rfl ?_
    refine r_cv (as := [vi (xs (i + 1)), vi (xs (i + 2)), vi (nI 0)]) (st := []) C X I_X6_give l_L_71 (x_give o hg (xs (i + 1)) (xs (i + 2)) false) (by decide) (Nat.le_of_ble_eq_true rfl) List.prefix_rfl (by rw [M.al]; exact ALall) rfl rfl (Nat.le_of_ble_eq_true rfl) rfl (dx dL_12 20 rfl) ?_
    rintro _ h2 ⟨rfl, ⟨uh2, oh2⟩, fh2⟩ kh2
    have Mh2 := M.fr9 fh2 kh2
    have yh2 := y.fr9 M fh2
    refine r_popI C (dx dL_12 21 rfl) ?_
    refine r_aload_n C (dx dL_12 22 rfl) rfl ?_
    refine r_aload_nT C (dx dL_12 23 rfl) rfl ?_
    refine r_iload_n C (dx dL_12 24 rfl) rfl ?_
    refine r_iconst (v := nI 1) C (dx dL_12 25 rfl) rfl ?_
    refine rn_iadd (a := i) (b := 1) C (dx dL_12 26 rfl) ?_
    refine r_sld C S (by omega) (by omega) (dx dL_12 27 rfl) ?_
    refine r_aload_nT C (dx dL_12 28 rfl) rfl ?_
    refine r_iload_n C (dx dL_12 29 rfl) rfl ?_
    refine r_iconst (v := nI 2) C (dx dL_12 30 rfl) rfl ?_
    refine rn_iadd (a := i) (b := 2) C (dx dL_12 31 rfl) ?_
    refine r_sld C S (by omega) (by omega) (dx dL_12 32 rfl) ?_
    refine r_aload_nT C (dx dL_12 33 rfl) rfl ?_
    refine r_iload_n C (dx dL_12 34 rfl) rfl ?_
    refine r_iconst (v := nI 3) C (dx dL_12 35 rfl) rfl ?_
    refine rn_iadd (a := i) (b := 3) C (dx dL_12 36 rfl) ?_
    refine r_sld C S (by omega) (by omega) (dx dL_12 37 rfl) ?_
    refine r_if_eq (tgt := 787) C (dx dL_12 38 rfl) (by decide) (fun c3 => ?_) (fun c3 => ?_)
    ·
      refine r_iconst (v := nI 0) C (dx dL_12 41 rfl) rfl ?_
      obtain ⟨τh4, ph4, ch4⟩ := y7_give (l := l) Mh2 yh2 ok (xs (i + 1)) (xs (i + 2)) false
      refine r_cv (as := [vi (xs (i + 1)), vi (xs (i + 2)), vi (nI 0)]) (st := []) C X I_X7_give l_L_75 ch4 (by decide) (Nat.le_of_ble_eq_true rfl) ph4 ALall rfl rfl (Nat.le_of_ble_eq_true rfl) rfl (dx dL_12 42 rfl) ?_
      rintro _ h4 ⟨rfl, Mh4, lh4, yh4⟩ kh4
      have oh4 := oh2.lo lh4
      refine r_popI C (dx dL_12 43 rfl) ?_
      refine r_goto (tgt := 1754) C (dx dL_12 44 rfl) (by decide) ?_
      exact kk h4 ⟨_, _, _, _, _, _, _, _, _, oh4, hg, Mh4, yh4, byt, (ok_giveV ok _ _ _), okw⟩
    ·
      exact absurd c1 c3
  ·
    refine r_iconst (v := nI 1) C (dx dL_12 17 rfl) rfl ?_
    refine r_goto (tgt := 760) C (dx dL_12 18 rfl) (by decide) ?_
    refine r_cv (as := [vi (xs (i + 1)), vi (xs (i + 2)), vi (nI 1)]) (st := []) C X I_X6_give l_L_71 (x_give o hg (xs (i + 1)) (xs (i + 2)) true) (by decide) (Nat.le_of_ble_eq_true rfl) List.prefix_rfl (by rw [M.al]; exact ALall) rfl rfl (Nat.le_of_ble_eq_true rfl) rfl (dx dL_12 20 rfl) ?_
    rintro _ h5 ⟨rfl, ⟨uh5, oh5⟩, fh5⟩ kh5
    have Mh5 := M.fr9 fh5 kh5
    have yh5 := y.fr9 M fh5
    refine r_popI C (dx dL_12 21 rfl) ?_
    refine r_aload_n C (dx dL_12 22 rfl) rfl ?_
    refine r_aload_nT C (dx dL_12 23 rfl) rfl ?_
    refine r_iload_n C (dx dL_12 24 rfl) rfl ?_
    refine r_iconst (v := nI 1) C (dx dL_12 25 rfl) rfl ?_
    refine rn_iadd (a := i) (b := 1) C (dx dL_12 26 rfl) ?_
    refine r_sld C S (by omega) (by omega) (dx dL_12 27 rfl) ?_
    refine r_aload_nT C (dx dL_12 28 rfl) rfl ?_
    refine r_iload_n C (dx dL_12 29 rfl) rfl ?_
    refine r_iconst (v := nI 2) C (dx dL_12 30 rfl) rfl ?_
    refine rn_iadd (a := i) (b := 2) C (dx dL_12 31 rfl) ?_
    refine r_sld C S (by omega) (by omega) (dx dL_12 32 rfl) ?_
    refine r_aload_nT C (dx dL_12 33 rfl) rfl ?_
    refine r_iload_n C (dx dL_12 34 rfl) rfl ?_
    refine r_iconst (v := nI 3) C (dx dL_12 35 rfl) rfl ?_
    refine rn_iadd (a := i) (b := 3) C (dx dL_12 36 rfl) ?_
    refine r_sld C S (by omega) (by omega) (dx dL_12 37 rfl) ?_
    refine r_if_eq (tgt := 787) C (dx dL_12 38 rfl) (by decide) (fun c6 => ?_) (fun c6 => ?_)
    ·
      exact absurd c6 c1
    ·
      refine r_iconst (v := nI 1) C (dx dL_12 39 rfl) rfl ?_
      refine r_goto (tgt := 788) C (dx dL_12 40 rfl) (by decide) ?_
      obtain ⟨τh7, ph7, ch7⟩ := y7_give (l := l) Mh5 yh5 ok (xs (i + 1)) (xs (i + 2)) true
      refine r_cv (as := [vi (xs (i + 1)), vi (xs (i + 2)), vi (nI 1)]) (st := []) C X I_X7_give l_L_75 ch7 (by decide) (Nat.le_of_ble_eq_true rfl) ph7 ALall rfl rfl (Nat.le_of_ble_eq_true rfl) rfl (dx dL_12 42 rfl) ?_
      rintro _ h7 ⟨rfl, Mh7, lh7, yh7⟩ kh7
      have oh7 := oh5.lo lh7
      refine r_popI C (dx dL_12 43 rfl) ?_
      refine r_goto (tgt := 1754) C (dx dL_12 44 rfl) (by decide) ?_
      exact kk h7 ⟨_, _, _, _, _, _, _, _, _, oh7, hg, Mh7, yh7, byt, (ok_giveV ok _ _ _), okw⟩
def tL_13 : List (Nat × Instr × Nat) := [(795, .aload_n 1, 1), (796, .aload_n 0, 1), (797, .iload_n 3, 1), (798, .iconst 1, 1), (799, .iadd, 1), (800, .iaload, 1), (801, .aload_n 0, 1), (802, .iload_n 3, 1), (803, .iconst 2, 1), (804, .iadd, 1), (805, .iaload, 1), (806, .invokevirtual 76, 3), (809, .pop, 1), (810, .aload_n 2, 1), (811, .aload_n 0, 1), (812, .iload_n 3, 1), (813, .iconst 1, 1), (814, .iadd, 1), (815, .iaload, 1), (816, .aload_n 0, 1), (817, .iload_n 3, 1), (818, .iconst 2, 1), (819, .iadd, 1), (820, .iaload, 1), (821, .invokevirtual 79, 3), (824, .pop, 1), (825, .goto 929, 3)]
theorem dL_13 : dec_ok code tL_13 = true := by decide +kernel
set_option maxHeartbeats 4000000 in
theorem law_c13 {l : Launch} {G : Gt} {b L i : Nat} {xs : Nat → Int32} {h : Hp} (C : Cx G code 4 RL) (X : Rmx l G 2048 (AL P63 true true)) (S : SLw G b L xs) (hL : L ≤ 3072) (hi : i + 6 ≤ L) (inv : Lv h) (kk : ∀ h', Lv h' → Rr G 1754 [(0, vt 9000), (1, vr 6 0), (2, vr 7 63), (3, vi (nI i))] [] h') : Rr G 795 [(0, vt 9000), (1, vr 6 0), (2, vr 7 63), (3, vi (nI i))] [] h := by
  obtain ⟨v, u, w, g, B, Bt, z, κ, τ, o, hg, M, y, byt, ok, okw⟩ := inv
  refine r_aload_n C (dx dL_13 0 rfl) rfl ?_
  refine r_aload_nT C (dx dL_13 1 rfl) rfl ?_
  refine r_iload_n C (dx dL_13 2 rfl) rfl ?_
  refine r_iconst (v := nI 1) C (dx dL_13 3 rfl) rfl ?_
  refine rn_iadd (a := i) (b := 1) C (dx dL_13 4 rfl) ?_
  refine r_sld C S (by omega) (by omega) (dx dL_13 5 rfl) ?_
  refine r_aload_nT C (dx dL_13 6 rfl) rfl ?_
  refine r_iload_n C (dx dL_13 7 rfl) rfl ?_
  refine r_iconst (v := nI 2) C (dx dL_13 8 rfl) rfl ?_
  refine rn_iadd (a := i) (b := 2) C (dx dL_13 9 rfl) ?_
  refine r_sld C S (by omega) (by omega) (dx dL_13 10 rfl) ?_
  refine r_cv (as := [vi (xs (i + 1)), vi (xs (i + 2))]) (st := []) C X I_X6_feed l_L_76 (x_feed o hg (xs (i + 1)) (xs (i + 2))) (by decide) (Nat.le_of_ble_eq_true rfl) List.prefix_rfl (by rw [M.al]; exact ALall) rfl rfl (Nat.le_of_ble_eq_true rfl) rfl (dx dL_13 11 rfl) ?_
  rintro _ h1 ⟨rfl, ⟨uh1, oh1⟩, fh1⟩ kh1
  have Mh1 := M.fr9 fh1 kh1
  have yh1 := y.fr9 M fh1
  refine r_popI C (dx dL_13 12 rfl) ?_
  refine r_aload_n C (dx dL_13 13 rfl) rfl ?_
  refine r_aload_nT C (dx dL_13 14 rfl) rfl ?_
  refine r_iload_n C (dx dL_13 15 rfl) rfl ?_
  refine r_iconst (v := nI 1) C (dx dL_13 16 rfl) rfl ?_
  refine rn_iadd (a := i) (b := 1) C (dx dL_13 17 rfl) ?_
  refine r_sld C S (by omega) (by omega) (dx dL_13 18 rfl) ?_
  refine r_aload_nT C (dx dL_13 19 rfl) rfl ?_
  refine r_iload_n C (dx dL_13 20 rfl) rfl ?_
  refine r_iconst (v := nI 2) C (dx dL_13 21 rfl) rfl ?_
  refine rn_iadd (a := i) (b := 2) C (dx dL_13 22 rfl) ?_
  refine r_sld C S (by omega) (by omega) (dx dL_13 23 rfl) ?_
  obtain ⟨τh2, ph2, ch2⟩ := y7_feed (l := l) Mh1 yh1 ok (xs (i + 1)) (xs (i + 2))
  refine r_cv (as := [vi (xs (i + 1)), vi (xs (i + 2))]) (st := []) C X I_X7_feed l_L_79 ch2 (by decide) (Nat.le_of_ble_eq_true rfl) ph2 ALall rfl rfl (Nat.le_of_ble_eq_true rfl) rfl (dx dL_13 24 rfl) ?_
  rintro _ h2 ⟨rfl, Mh2, lh2, yh2⟩ kh2
  have oh2 := oh1.lo lh2
  refine r_popI C (dx dL_13 25 rfl) ?_
  refine r_goto (tgt := 1754) C (dx dL_13 26 rfl) (by decide) ?_
  exact kk h2 ⟨_, _, _, _, _, _, _, _, _, oh2, hg, Mh2, yh2, (feed_tie _ _ byt), ok, okw⟩
def tL_14 : List (Nat × Instr × Nat) := [(828, .aload_n 1, 1), (829, .invokevirtual 80, 3), (832, .pop, 1), (833, .aload_n 2, 1), (834, .invokevirtual 83, 3), (837, .pop, 1), (838, .goto 916, 3)]
theorem dL_14 : dec_ok code tL_14 = true := by decide +kernel
set_option maxHeartbeats 4000000 in
theorem law_c14 {l : Launch} {G : Gt} {b L i : Nat} {xs : Nat → Int32} {h : Hp} (C : Cx G code 4 RL) (X : Rmx l G 2048 (AL P63 true true)) (S : SLw G b L xs) (hL : L ≤ 3072) (hi : i + 6 ≤ L) (inv : Lv h) (kk : ∀ h', Lv h' → Rr G 1754 [(0, vt 9000), (1, vr 6 0), (2, vr 7 63), (3, vi (nI i))] [] h') : Rr G 828 [(0, vt 9000), (1, vr 6 0), (2, vr 7 63), (3, vi (nI i))] [] h := by
  obtain ⟨v, u, w, g, B, Bt, z, κ, τ, o, hg, M, y, byt, ok, okw⟩ := inv
  refine r_aload_n C (dx dL_14 0 rfl) rfl ?_
  refine r_cv (as := []) (st := []) C X I_X6_wipe l_L_80 (x_wipe o hg ) (by decide) (Nat.le_of_ble_eq_true rfl) List.prefix_rfl (by rw [M.al]; exact ALall) rfl rfl (Nat.le_of_ble_eq_true rfl) rfl (dx dL_14 1 rfl) ?_
  rintro _ h1 ⟨rfl, ⟨uh1, oh1⟩, fh1⟩ kh1
  have Mh1 := M.fr9 fh1 kh1
  have yh1 := y.fr9 M fh1
  refine r_popI C (dx dL_14 2 rfl) ?_
  refine r_aload_n C (dx dL_14 3 rfl) rfl ?_
  obtain ⟨τh2, ph2, ch2⟩ := y7_wipe (l := l) Mh1 yh1 ok 
  refine r_cv (as := []) (st := []) C X I_X7_wipe l_L_83 ch2 (by decide) (Nat.le_of_ble_eq_true rfl) ph2 ALall rfl rfl (Nat.le_of_ble_eq_true rfl) rfl (dx dL_14 4 rfl) ?_
  rintro _ h2 ⟨rfl, Mh2, lh2, yh2⟩ kh2
  have oh2 := oh1.lo lh2
  refine r_popI C (dx dL_14 5 rfl) ?_
  refine r_goto (tgt := 1754) C (dx dL_14 6 rfl) (by decide) ?_
  exact kk h2 ⟨_, _, _, _, _, _, _, _, _, oh2, hg, Mh2, yh2, (byt.mono (Nat.zero_le _)), ok, okw⟩
def tL_15 : List (Nat × Instr × Nat) := [(841, .aload_n 1, 1), (842, .invokevirtual 84, 3), (845, .pop, 1), (846, .aload_n 2, 1), (847, .invokevirtual 87, 3), (850, .pop, 1), (851, .goto 903, 3)]
theorem dL_15 : dec_ok code tL_15 = true := by decide +kernel
set_option maxHeartbeats 4000000 in
theorem law_c15 {l : Launch} {G : Gt} {b L i : Nat} {xs : Nat → Int32} {h : Hp} (C : Cx G code 4 RL) (X : Rmx l G 2048 (AL P63 true true)) (S : SLw G b L xs) (hL : L ≤ 3072) (hi : i + 6 ≤ L) (inv : Lv h) (kk : ∀ h', Lv h' → Rr G 1754 [(0, vt 9000), (1, vr 6 0), (2, vr 7 63), (3, vi (nI i))] [] h') : Rr G 841 [(0, vt 9000), (1, vr 6 0), (2, vr 7 63), (3, vi (nI i))] [] h := by
  obtain ⟨v, u, w, g, B, Bt, z, κ, τ, o, hg, M, y, byt, ok, okw⟩ := inv
  refine r_aload_n C (dx dL_15 0 rfl) rfl ?_
  refine r_cv (as := []) (st := []) C X I_X6_village l_L_84 (x_village o hg ) (by decide) (Nat.le_of_ble_eq_true rfl) List.prefix_rfl (by rw [M.al]; exact ALall) rfl rfl (Nat.le_of_ble_eq_true rfl) rfl (dx dL_15 1 rfl) ?_
  rintro _ h1 ⟨rfl, ⟨uh1, oh1⟩, fh1⟩ kh1
  have Mh1 := M.fr9 fh1 kh1
  have yh1 := y.fr9 M fh1
  refine r_popI C (dx dL_15 2 rfl) ?_
  refine r_aload_n C (dx dL_15 3 rfl) rfl ?_
  obtain ⟨τh2, ph2, ch2⟩ := y7_village (l := l) Mh1 yh1 ok 
  refine r_cv (as := []) (st := []) C X I_X7_village l_L_87 ch2 (by decide) (Nat.le_of_ble_eq_true rfl) ph2 ALall rfl rfl (Nat.le_of_ble_eq_true rfl) rfl (dx dL_15 4 rfl) ?_
  rintro _ h2 ⟨rfl, Mh2, lh2, yh2⟩ kh2
  have oh2 := oh1.lo lh2
  refine r_popI C (dx dL_15 5 rfl) ?_
  refine r_goto (tgt := 1754) C (dx dL_15 6 rfl) (by decide) ?_
  have ev := (vl_tie byt v).2
  rw [← ev] at Mh2
  exact kk h2 ⟨_, _, _, _, _, _, _, _, _, oh2, hg, Mh2, yh2, (byt.mono (Nat.zero_le _)), (ok_vlV ok), okw⟩
def tL_16 : List (Nat × Instr × Nat) := [(854, .aload_n 1, 1), (855, .aload_n 0, 1), (856, .iload_n 3, 1), (857, .iconst 1, 1), (858, .iadd, 1), (859, .iaload, 1), (860, .aload_n 0, 1), (861, .iload_n 3, 1), (862, .iconst 2, 1), (863, .iadd, 1), (864, .iaload, 1), (865, .invokevirtual 88, 3), (868, .pop, 1), (869, .aload_n 2, 1), (870, .aload_n 0, 1), (871, .iload_n 3, 1), (872, .iconst 1, 1), (873, .iadd, 1), (874, .iaload, 1), (875, .aload_n 0, 1), (876, .iload_n 3, 1), (877, .iconst 2, 1), (878, .iadd, 1), (879, .iaload, 1), (880, .invokevirtual 91, 3), (883, .pop, 1), (884, .goto 870, 3)]
theorem dL_16 : dec_ok code tL_16 = true := by decide +kernel
set_option maxHeartbeats 4000000 in
theorem law_c16 {l : Launch} {G : Gt} {b L i : Nat} {xs : Nat → Int32} {h : Hp} (C : Cx G code 4 RL) (X : Rmx l G 2048 (AL P63 true true)) (S : SLw G b L xs) (hL : L ≤ 3072) (hi : i + 6 ≤ L) (inv : Lv h) (kk : ∀ h', Lv h' → Rr G 1754 [(0, vt 9000), (1, vr 6 0), (2, vr 7 63), (3, vi (nI i))] [] h') : Rr G 854 [(0, vt 9000), (1, vr 6 0), (2, vr 7 63), (3, vi (nI i))] [] h := by
  obtain ⟨v, u, w, g, B, Bt, z, κ, τ, o, hg, M, y, byt, ok, okw⟩ := inv
  refine r_aload_n C (dx dL_16 0 rfl) rfl ?_
  refine r_aload_nT C (dx dL_16 1 rfl) rfl ?_
  refine r_iload_n C (dx dL_16 2 rfl) rfl ?_
  refine r_iconst (v := nI 1) C (dx dL_16 3 rfl) rfl ?_
  refine rn_iadd (a := i) (b := 1) C (dx dL_16 4 rfl) ?_
  refine r_sld C S (by omega) (by omega) (dx dL_16 5 rfl) ?_
  refine r_aload_nT C (dx dL_16 6 rfl) rfl ?_
  refine r_iload_n C (dx dL_16 7 rfl) rfl ?_
  refine r_iconst (v := nI 2) C (dx dL_16 8 rfl) rfl ?_
  refine rn_iadd (a := i) (b := 2) C (dx dL_16 9 rfl) ?_
  refine r_sld C S (by omega) (by omega) (dx dL_16 10 rfl) ?_
  refine r_cv (as := [vi (xs (i + 1)), vi (xs (i + 2))]) (st := []) C X I_X6_partOf l_L_88 (x_partOf o hg (xs (i + 1)) (xs (i + 2))) (by decide) (Nat.le_of_ble_eq_true rfl) List.prefix_rfl (by rw [M.al]; exact ALall) rfl rfl (Nat.le_of_ble_eq_true rfl) rfl (dx dL_16 11 rfl) ?_
  rintro _ h1 ⟨⟨xh1, rfl⟩, ⟨uh1, oh1⟩, fh1⟩ kh1
  have Mh1 := M.fr9 fh1 kh1
  have yh1 := y.fr9 M fh1
  refine r_popI C (dx dL_16 12 rfl) ?_
  refine r_aload_n C (dx dL_16 13 rfl) rfl ?_
  refine r_aload_nT C (dx dL_16 14 rfl) rfl ?_
  refine r_iload_n C (dx dL_16 15 rfl) rfl ?_
  refine r_iconst (v := nI 1) C (dx dL_16 16 rfl) rfl ?_
  refine rn_iadd (a := i) (b := 1) C (dx dL_16 17 rfl) ?_
  refine r_sld C S (by omega) (by omega) (dx dL_16 18 rfl) ?_
  refine r_aload_nT C (dx dL_16 19 rfl) rfl ?_
  refine r_iload_n C (dx dL_16 20 rfl) rfl ?_
  refine r_iconst (v := nI 2) C (dx dL_16 21 rfl) rfl ?_
  refine rn_iadd (a := i) (b := 2) C (dx dL_16 22 rfl) ?_
  refine r_sld C S (by omega) (by omega) (dx dL_16 23 rfl) ?_
  obtain ⟨τh2, ph2, ch2⟩ := y7_partOf (l := l) Mh1 yh1 ok (xs (i + 1)) (xs (i + 2))
  refine r_cv (as := [vi (xs (i + 1)), vi (xs (i + 2))]) (st := []) C X I_X7_partOf l_L_91 ch2 (by decide) (Nat.le_of_ble_eq_true rfl) ph2 ALall rfl rfl (Nat.le_of_ble_eq_true rfl) rfl (dx dL_16 24 rfl) ?_
  rintro _ h2 ⟨⟨xh2, rfl⟩, Mh2, lh2, yh2⟩ kh2
  have oh2 := oh1.lo lh2
  refine r_popI C (dx dL_16 25 rfl) ?_
  refine r_goto (tgt := 1754) C (dx dL_16 26 rfl) (by decide) ?_
  exact kk h2 ⟨_, _, _, _, _, _, _, _, _, oh2, hg, Mh2, yh2, byt, ok, okw⟩
def tL_17 : List (Nat × Instr × Nat) := [(887, .aload_n 1, 1), (888, .aload_n 0, 1), (889, .iload_n 3, 1), (890, .iconst 1, 1), (891, .iadd, 1), (892, .iaload, 1), (893, .aload_n 0, 1), (894, .iload_n 3, 1), (895, .iconst 2, 1), (896, .iadd, 1), (897, .iaload, 1), (898, .invokevirtual 92, 3), (901, .pop, 1), (902, .aload_n 2, 1), (903, .aload_n 0, 1), (904, .iload_n 3, 1), (905, .iconst 1, 1), (906, .iadd, 1), (907, .iaload, 1), (908, .aload_n 0, 1), (909, .iload_n 3, 1), (910, .iconst 2, 1), (911, .iadd, 1), (912, .iaload, 1), (913, .invokevirtual 95, 3), (916, .pop, 1), (917, .goto 837, 3)]
theorem dL_17 : dec_ok code tL_17 = true := by decide +kernel
set_option maxHeartbeats 4000000 in
theorem law_c17 {l : Launch} {G : Gt} {b L i : Nat} {xs : Nat → Int32} {h : Hp} (C : Cx G code 4 RL) (X : Rmx l G 2048 (AL P63 true true)) (S : SLw G b L xs) (hL : L ≤ 3072) (hi : i + 6 ≤ L) (inv : Lv h) (kk : ∀ h', Lv h' → Rr G 1754 [(0, vt 9000), (1, vr 6 0), (2, vr 7 63), (3, vi (nI i))] [] h') : Rr G 887 [(0, vt 9000), (1, vr 6 0), (2, vr 7 63), (3, vi (nI i))] [] h := by
  obtain ⟨v, u, w, g, B, Bt, z, κ, τ, o, hg, M, y, byt, ok, okw⟩ := inv
  refine r_aload_n C (dx dL_17 0 rfl) rfl ?_
  refine r_aload_nT C (dx dL_17 1 rfl) rfl ?_
  refine r_iload_n C (dx dL_17 2 rfl) rfl ?_
  refine r_iconst (v := nI 1) C (dx dL_17 3 rfl) rfl ?_
  refine rn_iadd (a := i) (b := 1) C (dx dL_17 4 rfl) ?_
  refine r_sld C S (by omega) (by omega) (dx dL_17 5 rfl) ?_
  refine r_aload_nT C (dx dL_17 6 rfl) rfl ?_
  refine r_iload_n C (dx dL_17 7 rfl) rfl ?_
  refine r_iconst (v := nI 2) C (dx dL_17 8 rfl) rfl ?_
  refine rn_iadd (a := i) (b := 2) C (dx dL_17 9 rfl) ?_
  refine r_sld C S (by omega) (by omega) (dx dL_17 10 rfl) ?_
  refine r_cv (as := [vi (xs (i + 1)), vi (xs (i + 2))]) (st := []) C X I_X6_machineOf l_L_92 (x_machineOf o hg (xs (i + 1)) (xs (i + 2))) (by decide) (Nat.le_of_ble_eq_true rfl) List.prefix_rfl (by rw [M.al]; exact ALall) rfl rfl (Nat.le_of_ble_eq_true rfl) rfl (dx dL_17 11 rfl) ?_
  rintro _ h1 ⟨⟨xh1, rfl⟩, ⟨uh1, oh1⟩, fh1⟩ kh1
  have Mh1 := M.fr9 fh1 kh1
  have yh1 := y.fr9 M fh1
  refine r_popI C (dx dL_17 12 rfl) ?_
  refine r_aload_n C (dx dL_17 13 rfl) rfl ?_
  refine r_aload_nT C (dx dL_17 14 rfl) rfl ?_
  refine r_iload_n C (dx dL_17 15 rfl) rfl ?_
  refine r_iconst (v := nI 1) C (dx dL_17 16 rfl) rfl ?_
  refine rn_iadd (a := i) (b := 1) C (dx dL_17 17 rfl) ?_
  refine r_sld C S (by omega) (by omega) (dx dL_17 18 rfl) ?_
  refine r_aload_nT C (dx dL_17 19 rfl) rfl ?_
  refine r_iload_n C (dx dL_17 20 rfl) rfl ?_
  refine r_iconst (v := nI 2) C (dx dL_17 21 rfl) rfl ?_
  refine rn_iadd (a := i) (b := 2) C (dx dL_17 22 rfl) ?_
  refine r_sld C S (by omega) (by omega) (dx dL_17 23 rfl) ?_
  obtain ⟨τh2, ph2, ch2⟩ := y7_machineOf (l := l) Mh1 yh1 ok (xs (i + 1)) (xs (i + 2))
  refine r_cv (as := [vi (xs (i + 1)), vi (xs (i + 2))]) (st := []) C X I_X7_machineOf l_L_95 ch2 (by decide) (Nat.le_of_ble_eq_true rfl) ph2 ALall rfl rfl (Nat.le_of_ble_eq_true rfl) rfl (dx dL_17 24 rfl) ?_
  rintro _ h2 ⟨⟨xh2, rfl⟩, Mh2, lh2, yh2⟩ kh2
  have oh2 := oh1.lo lh2
  refine r_popI C (dx dL_17 25 rfl) ?_
  refine r_goto (tgt := 1754) C (dx dL_17 26 rfl) (by decide) ?_
  exact kk h2 ⟨_, _, _, _, _, _, _, _, _, oh2, hg, Mh2, yh2, byt, ok, okw⟩
def tL_18 : List (Nat × Instr × Nat) := [(920, .aload_n 1, 1), (921, .aload_n 0, 1), (922, .iload_n 3, 1), (923, .iconst 1, 1), (924, .iadd, 1), (925, .iaload, 1), (926, .aload_n 0, 1), (927, .iload_n 3, 1), (928, .iconst 2, 1), (929, .iadd, 1), (930, .iaload, 1), (931, .invokevirtual 96, 3), (934, .pop, 1), (935, .aload_n 2, 1), (936, .aload_n 0, 1), (937, .iload_n 3, 1), (938, .iconst 1, 1), (939, .iadd, 1), (940, .iaload, 1), (941, .aload_n 0, 1), (942, .iload_n 3, 1), (943, .iconst 2, 1), (944, .iadd, 1), (945, .iaload, 1), (946, .invokevirtual 99, 3), (949, .pop, 1), (950, .goto 804, 3)]
theorem dL_18 : dec_ok code tL_18 = true := by decide +kernel
set_option maxHeartbeats 4000000 in
theorem law_c18 {l : Launch} {G : Gt} {b L i : Nat} {xs : Nat → Int32} {h : Hp} (C : Cx G code 4 RL) (X : Rmx l G 2048 (AL P63 true true)) (S : SLw G b L xs) (hL : L ≤ 3072) (hi : i + 6 ≤ L) (inv : Lv h) (kk : ∀ h', Lv h' → Rr G 1754 [(0, vt 9000), (1, vr 6 0), (2, vr 7 63), (3, vi (nI i))] [] h') : Rr G 920 [(0, vt 9000), (1, vr 6 0), (2, vr 7 63), (3, vi (nI i))] [] h := by
  obtain ⟨v, u, w, g, B, Bt, z, κ, τ, o, hg, M, y, byt, ok, okw⟩ := inv
  refine r_aload_n C (dx dL_18 0 rfl) rfl ?_
  refine r_aload_nT C (dx dL_18 1 rfl) rfl ?_
  refine r_iload_n C (dx dL_18 2 rfl) rfl ?_
  refine r_iconst (v := nI 1) C (dx dL_18 3 rfl) rfl ?_
  refine rn_iadd (a := i) (b := 1) C (dx dL_18 4 rfl) ?_
  refine r_sld C S (by omega) (by omega) (dx dL_18 5 rfl) ?_
  refine r_aload_nT C (dx dL_18 6 rfl) rfl ?_
  refine r_iload_n C (dx dL_18 7 rfl) rfl ?_
  refine r_iconst (v := nI 2) C (dx dL_18 8 rfl) rfl ?_
  refine rn_iadd (a := i) (b := 2) C (dx dL_18 9 rfl) ?_
  refine r_sld C S (by omega) (by omega) (dx dL_18 10 rfl) ?_
  refine r_cv (as := [vi (xs (i + 1)), vi (xs (i + 2))]) (st := []) C X I_X6_oneOf l_L_96 (x_oneOf o hg (xs (i + 1)) (xs (i + 2))) (by decide) (Nat.le_of_ble_eq_true rfl) List.prefix_rfl (by rw [M.al]; exact ALall) rfl rfl (Nat.le_of_ble_eq_true rfl) rfl (dx dL_18 11 rfl) ?_
  rintro _ h1 ⟨⟨xh1, rfl⟩, ⟨uh1, oh1⟩, fh1⟩ kh1
  have Mh1 := M.fr9 fh1 kh1
  have yh1 := y.fr9 M fh1
  refine r_popI C (dx dL_18 12 rfl) ?_
  refine r_aload_n C (dx dL_18 13 rfl) rfl ?_
  refine r_aload_nT C (dx dL_18 14 rfl) rfl ?_
  refine r_iload_n C (dx dL_18 15 rfl) rfl ?_
  refine r_iconst (v := nI 1) C (dx dL_18 16 rfl) rfl ?_
  refine rn_iadd (a := i) (b := 1) C (dx dL_18 17 rfl) ?_
  refine r_sld C S (by omega) (by omega) (dx dL_18 18 rfl) ?_
  refine r_aload_nT C (dx dL_18 19 rfl) rfl ?_
  refine r_iload_n C (dx dL_18 20 rfl) rfl ?_
  refine r_iconst (v := nI 2) C (dx dL_18 21 rfl) rfl ?_
  refine rn_iadd (a := i) (b := 2) C (dx dL_18 22 rfl) ?_
  refine r_sld C S (by omega) (by omega) (dx dL_18 23 rfl) ?_
  obtain ⟨τh2, ph2, ch2⟩ := y7_oneOf (l := l) Mh1 yh1 ok (xs (i + 1)) (xs (i + 2))
  refine r_cv (as := [vi (xs (i + 1)), vi (xs (i + 2))]) (st := []) C X I_X7_oneOf l_L_99 ch2 (by decide) (Nat.le_of_ble_eq_true rfl) ph2 ALall rfl rfl (Nat.le_of_ble_eq_true rfl) rfl (dx dL_18 24 rfl) ?_
  rintro _ h2 ⟨⟨xh2, rfl⟩, Mh2, lh2, yh2⟩ kh2
  have oh2 := oh1.lo lh2
  refine r_popI C (dx dL_18 25 rfl) ?_
  refine r_goto (tgt := 1754) C (dx dL_18 26 rfl) (by decide) ?_
  exact kk h2 ⟨_, _, _, _, _, _, _, _, _, oh2, hg, Mh2, yh2, byt, ok, okw⟩
def tL_19 : List (Nat × Instr × Nat) := [(953, .aload_n 1, 1), (954, .aload_n 0, 1), (955, .iload_n 3, 1), (956, .iconst 1, 1), (957, .iadd, 1), (958, .iaload, 1), (959, .invokevirtual 100, 3), (962, .pop, 1), (963, .aload_n 2, 1), (964, .aload_n 0, 1), (965, .iload_n 3, 1), (966, .iconst 1, 1), (967, .iadd, 1), (968, .iaload, 1), (969, .invokevirtual 103, 3), (972, .pop, 1), (973, .goto 781, 3)]
theorem dL_19 : dec_ok code tL_19 = true := by decide +kernel
set_option maxHeartbeats 4000000 in
theorem law_c19 {l : Launch} {G : Gt} {b L i : Nat} {xs : Nat → Int32} {h : Hp} (C : Cx G code 4 RL) (X : Rmx l G 2048 (AL P63 true true)) (S : SLw G b L xs) (hL : L ≤ 3072) (hi : i + 6 ≤ L) (inv : Lv h) (kk : ∀ h', Lv h' → Rr G 1754 [(0, vt 9000), (1, vr 6 0), (2, vr 7 63), (3, vi (nI i))] [] h') : Rr G 953 [(0, vt 9000), (1, vr 6 0), (2, vr 7 63), (3, vi (nI i))] [] h := by
  obtain ⟨v, u, w, g, B, Bt, z, κ, τ, o, hg, M, y, byt, ok, okw⟩ := inv
  refine r_aload_n C (dx dL_19 0 rfl) rfl ?_
  refine r_aload_nT C (dx dL_19 1 rfl) rfl ?_
  refine r_iload_n C (dx dL_19 2 rfl) rfl ?_
  refine r_iconst (v := nI 1) C (dx dL_19 3 rfl) rfl ?_
  refine rn_iadd (a := i) (b := 1) C (dx dL_19 4 rfl) ?_
  refine r_sld C S (by omega) (by omega) (dx dL_19 5 rfl) ?_
  refine r_cv (as := [vi (xs (i + 1))]) (st := []) C X I_X6_has l_L_100 (x_has o hg (xs (i + 1))) (by decide) (Nat.le_of_ble_eq_true rfl) List.prefix_rfl (by rw [M.al]; exact ALall) rfl rfl (Nat.le_of_ble_eq_true rfl) rfl (dx dL_19 6 rfl) ?_
  rintro _ h1 ⟨⟨xh1, rfl⟩, ⟨uh1, oh1⟩, fh1⟩ kh1
  have Mh1 := M.fr9 fh1 kh1
  have yh1 := y.fr9 M fh1
  refine r_popI C (dx dL_19 7 rfl) ?_
  refine r_aload_n C (dx dL_19 8 rfl) rfl ?_
  refine r_aload_nT C (dx dL_19 9 rfl) rfl ?_
  refine r_iload_n C (dx dL_19 10 rfl) rfl ?_
  refine r_iconst (v := nI 1) C (dx dL_19 11 rfl) rfl ?_
  refine rn_iadd (a := i) (b := 1) C (dx dL_19 12 rfl) ?_
  refine r_sld C S (by omega) (by omega) (dx dL_19 13 rfl) ?_
  obtain ⟨τh2, ph2, ch2⟩ := y7_has (l := l) Mh1 yh1 ok (xs (i + 1))
  refine r_cv (as := [vi (xs (i + 1))]) (st := []) C X I_X7_has l_L_103 ch2 (by decide) (Nat.le_of_ble_eq_true rfl) ph2 ALall rfl rfl (Nat.le_of_ble_eq_true rfl) rfl (dx dL_19 14 rfl) ?_
  rintro _ h2 ⟨⟨xh2, rfl⟩, Mh2, lh2, yh2⟩ kh2
  have oh2 := oh1.lo lh2
  refine r_popI C (dx dL_19 15 rfl) ?_
  refine r_goto (tgt := 1754) C (dx dL_19 16 rfl) (by decide) ?_
  exact kk h2 ⟨_, _, _, _, _, _, _, _, _, oh2, hg, Mh2, yh2, byt, ok, okw⟩
def tL_20 : List (Nat × Instr × Nat) := [(976, .aload_n 1, 1), (977, .aload_n 0, 1), (978, .iload_n 3, 1), (979, .iconst 1, 1), (980, .iadd, 1), (981, .iaload, 1), (982, .aload_n 0, 1), (983, .iload_n 3, 1), (984, .iconst 2, 1), (985, .iadd, 1), (986, .iaload, 1), (987, .invokevirtual 104, 3), (990, .pop, 1), (991, .aload_n 2, 1), (992, .aload_n 0, 1), (993, .iload_n 3, 1), (994, .iconst 1, 1), (995, .iadd, 1), (996, .iaload, 1), (997, .aload_n 0, 1), (998, .iload_n 3, 1), (999, .iconst 2, 1), (1000, .iadd, 1), (1001, .iaload, 1), (1002, .invokevirtual 107, 3), (1005, .pop, 1), (1006, .goto 748, 3)]
theorem dL_20 : dec_ok code tL_20 = true := by decide +kernel
set_option maxHeartbeats 4000000 in
theorem law_c20 {l : Launch} {G : Gt} {b L i : Nat} {xs : Nat → Int32} {h : Hp} (C : Cx G code 4 RL) (X : Rmx l G 2048 (AL P63 true true)) (S : SLw G b L xs) (hL : L ≤ 3072) (hi : i + 6 ≤ L) (inv : Lv h) (kk : ∀ h', Lv h' → Rr G 1754 [(0, vt 9000), (1, vr 6 0), (2, vr 7 63), (3, vi (nI i))] [] h') : Rr G 976 [(0, vt 9000), (1, vr 6 0), (2, vr 7 63), (3, vi (nI i))] [] h := by
  obtain ⟨v, u, w, g, B, Bt, z, κ, τ, o, hg, M, y, byt, ok, okw⟩ := inv
  refine r_aload_n C (dx dL_20 0 rfl) rfl ?_
  refine r_aload_nT C (dx dL_20 1 rfl) rfl ?_
  refine r_iload_n C (dx dL_20 2 rfl) rfl ?_
  refine r_iconst (v := nI 1) C (dx dL_20 3 rfl) rfl ?_
  refine rn_iadd (a := i) (b := 1) C (dx dL_20 4 rfl) ?_
  refine r_sld C S (by omega) (by omega) (dx dL_20 5 rfl) ?_
  refine r_aload_nT C (dx dL_20 6 rfl) rfl ?_
  refine r_iload_n C (dx dL_20 7 rfl) rfl ?_
  refine r_iconst (v := nI 2) C (dx dL_20 8 rfl) rfl ?_
  refine rn_iadd (a := i) (b := 2) C (dx dL_20 9 rfl) ?_
  refine r_sld C S (by omega) (by omega) (dx dL_20 10 rfl) ?_
  refine r_cv (as := [vi (xs (i + 1)), vi (xs (i + 2))]) (st := []) C X I_X6_works l_L_104 (x_works o hg (xs (i + 1)) (xs (i + 2))) (by decide) (Nat.le_of_ble_eq_true rfl) List.prefix_rfl (by rw [M.al]; exact ALall) rfl rfl (Nat.le_of_ble_eq_true rfl) rfl (dx dL_20 11 rfl) ?_
  rintro _ h1 ⟨⟨xh1, rfl⟩, ⟨uh1, oh1⟩, fh1⟩ kh1
  have Mh1 := M.fr9 fh1 kh1
  have yh1 := y.fr9 M fh1
  refine r_popI C (dx dL_20 12 rfl) ?_
  refine r_aload_n C (dx dL_20 13 rfl) rfl ?_
  refine r_aload_nT C (dx dL_20 14 rfl) rfl ?_
  refine r_iload_n C (dx dL_20 15 rfl) rfl ?_
  refine r_iconst (v := nI 1) C (dx dL_20 16 rfl) rfl ?_
  refine rn_iadd (a := i) (b := 1) C (dx dL_20 17 rfl) ?_
  refine r_sld C S (by omega) (by omega) (dx dL_20 18 rfl) ?_
  refine r_aload_nT C (dx dL_20 19 rfl) rfl ?_
  refine r_iload_n C (dx dL_20 20 rfl) rfl ?_
  refine r_iconst (v := nI 2) C (dx dL_20 21 rfl) rfl ?_
  refine rn_iadd (a := i) (b := 2) C (dx dL_20 22 rfl) ?_
  refine r_sld C S (by omega) (by omega) (dx dL_20 23 rfl) ?_
  obtain ⟨τh2, ph2, ch2⟩ := y7_works (l := l) Mh1 yh1 ok (xs (i + 1)) (xs (i + 2))
  refine r_cv (as := [vi (xs (i + 1)), vi (xs (i + 2))]) (st := []) C X I_X7_works l_L_107 ch2 (by decide) (Nat.le_of_ble_eq_true rfl) ph2 ALall rfl rfl (Nat.le_of_ble_eq_true rfl) rfl (dx dL_20 24 rfl) ?_
  rintro _ h2 ⟨⟨xh2, rfl⟩, Mh2, lh2, yh2⟩ kh2
  have oh2 := oh1.lo lh2
  refine r_popI C (dx dL_20 25 rfl) ?_
  refine r_goto (tgt := 1754) C (dx dL_20 26 rfl) (by decide) ?_
  exact kk h2 ⟨_, _, _, _, _, _, _, _, _, oh2, hg, Mh2, yh2, byt, ok, okw⟩
def tL_21 : List (Nat × Instr × Nat) := [(1009, .aload_n 1, 1), (1010, .aload_n 0, 1), (1011, .iload_n 3, 1), (1012, .iconst 1, 1), (1013, .iadd, 1), (1014, .iaload, 1), (1015, .aload_n 0, 1), (1016, .iload_n 3, 1), (1017, .iconst 2, 1), (1018, .iadd, 1), (1019, .iaload, 1), (1020, .aload_n 0, 1), (1021, .iload_n 3, 1), (1022, .iconst 3, 1), (1023, .iadd, 1), (1024, .iaload, 1), (1025, .invokevirtual 108, 3), (1028, .pop, 1), (1029, .aload_n 2, 1), (1030, .aload_n 0, 1), (1031, .iload_n 3, 1), (1032, .iconst 1, 1), (1033, .iadd, 1), (1034, .iaload, 1), (1035, .aload_n 0, 1), (1036, .iload_n 3, 1), (1037, .iconst 2, 1), (1038, .iadd, 1), (1039, .iaload, 1), (1040, .aload_n 0, 1), (1041, .iload_n 3, 1), (1042, .iconst 3, 1), (1043, .iadd, 1), (1044, .iaload, 1), (1045, .invokevirtual 111, 3), (1048, .pop, 1), (1049, .goto 705, 3)]
theorem dL_21 : dec_ok code tL_21 = true := by decide +kernel
set_option maxHeartbeats 4000000 in
theorem law_c21 {l : Launch} {G : Gt} {b L i : Nat} {xs : Nat → Int32} {h : Hp} (C : Cx G code 4 RL) (X : Rmx l G 2048 (AL P63 true true)) (S : SLw G b L xs) (hL : L ≤ 3072) (hi : i + 6 ≤ L) (inv : Lv h) (kk : ∀ h', Lv h' → Rr G 1754 [(0, vt 9000), (1, vr 6 0), (2, vr 7 63), (3, vi (nI i))] [] h') : Rr G 1009 [(0, vt 9000), (1, vr 6 0), (2, vr 7 63), (3, vi (nI i))] [] h := by
  obtain ⟨v, u, w, g, B, Bt, z, κ, τ, o, hg, M, y, byt, ok, okw⟩ := inv
  refine r_aload_n C (dx dL_21 0 rfl) rfl ?_
  refine r_aload_nT C (dx dL_21 1 rfl) rfl ?_
  refine r_iload_n C (dx dL_21 2 rfl) rfl ?_
  refine r_iconst (v := nI 1) C (dx dL_21 3 rfl) rfl ?_
  refine rn_iadd (a := i) (b := 1) C (dx dL_21 4 rfl) ?_
  refine r_sld C S (by omega) (by omega) (dx dL_21 5 rfl) ?_
  refine r_aload_nT C (dx dL_21 6 rfl) rfl ?_
  refine r_iload_n C (dx dL_21 7 rfl) rfl ?_
  refine r_iconst (v := nI 2) C (dx dL_21 8 rfl) rfl ?_
  refine rn_iadd (a := i) (b := 2) C (dx dL_21 9 rfl) ?_
  refine r_sld C S (by omega) (by omega) (dx dL_21 10 rfl) ?_
  refine r_aload_nT C (dx dL_21 11 rfl) rfl ?_
  refine r_iload_n C (dx dL_21 12 rfl) rfl ?_
  refine r_iconst (v := nI 3) C (dx dL_21 13 rfl) rfl ?_
  refine rn_iadd (a := i) (b := 3) C (dx dL_21 14 rfl) ?_
  refine r_sld C S (by omega) (by omega) (dx dL_21 15 rfl) ?_
  refine r_cv (as := [vi (xs (i + 1)), vi (xs (i + 2)), vi (xs (i + 3))]) (st := []) C X I_X6_both l_L_108 (x_both o hg (xs (i + 1)) (xs (i + 2)) (xs (i + 3))) (by decide) (Nat.le_of_ble_eq_true rfl) List.prefix_rfl (by rw [M.al]; exact ALall) rfl rfl (Nat.le_of_ble_eq_true rfl) rfl (dx dL_21 16 rfl) ?_
  rintro _ h1 ⟨⟨xh1, rfl⟩, ⟨uh1, oh1⟩, fh1⟩ kh1
  have Mh1 := M.fr9 fh1 kh1
  have yh1 := y.fr9 M fh1
  refine r_popI C (dx dL_21 17 rfl) ?_
  refine r_aload_n C (dx dL_21 18 rfl) rfl ?_
  refine r_aload_nT C (dx dL_21 19 rfl) rfl ?_
  refine r_iload_n C (dx dL_21 20 rfl) rfl ?_
  refine r_iconst (v := nI 1) C (dx dL_21 21 rfl) rfl ?_
  refine rn_iadd (a := i) (b := 1) C (dx dL_21 22 rfl) ?_
  refine r_sld C S (by omega) (by omega) (dx dL_21 23 rfl) ?_
  refine r_aload_nT C (dx dL_21 24 rfl) rfl ?_
  refine r_iload_n C (dx dL_21 25 rfl) rfl ?_
  refine r_iconst (v := nI 2) C (dx dL_21 26 rfl) rfl ?_
  refine rn_iadd (a := i) (b := 2) C (dx dL_21 27 rfl) ?_
  refine r_sld C S (by omega) (by omega) (dx dL_21 28 rfl) ?_
  refine r_aload_nT C (dx dL_21 29 rfl) rfl ?_
  refine r_iload_n C (dx dL_21 30 rfl) rfl ?_
  refine r_iconst (v := nI 3) C (dx dL_21 31 rfl) rfl ?_
  refine rn_iadd (a := i) (b := 3) C (dx dL_21 32 rfl) ?_
  refine r_sld C S (by omega) (by omega) (dx dL_21 33 rfl) ?_
  obtain ⟨τh2, ph2, ch2⟩ := y7_both (l := l) Mh1 yh1 ok (xs (i + 1)) (xs (i + 2)) (xs (i + 3))
  refine r_cv (as := [vi (xs (i + 1)), vi (xs (i + 2)), vi (xs (i + 3))]) (st := []) C X I_X7_both l_L_111 ch2 (by decide) (Nat.le_of_ble_eq_true rfl) ph2 ALall rfl rfl (Nat.le_of_ble_eq_true rfl) rfl (dx dL_21 34 rfl) ?_
  rintro _ h2 ⟨⟨xh2, rfl⟩, Mh2, lh2, yh2⟩ kh2
  have oh2 := oh1.lo lh2
  refine r_popI C (dx dL_21 35 rfl) ?_
  refine r_goto (tgt := 1754) C (dx dL_21 36 rfl) (by decide) ?_
  exact kk h2 ⟨_, _, _, _, _, _, _, _, _, oh2, hg, Mh2, yh2, byt, ok, okw⟩
def tL_22 : List (Nat × Instr × Nat) := [(1052, .aload_n 1, 1), (1053, .aload_n 0, 1), (1054, .iload_n 3, 1), (1055, .iconst 1, 1), (1056, .iadd, 1), (1057, .iaload, 1), (1058, .invokevirtual 112, 3), (1061, .pop2, 1), (1062, .aload_n 2, 1), (1063, .aload_n 0, 1), (1064, .iload_n 3, 1), (1065, .iconst 1, 1), (1066, .iadd, 1), (1067, .iaload, 1), (1068, .invokevirtual 116, 3), (1071, .pop2, 1), (1072, .goto 682, 3)]
theorem dL_22 : dec_ok code tL_22 = true := by decide +kernel
set_option maxHeartbeats 4000000 in
theorem law_c22 {l : Launch} {G : Gt} {b L i : Nat} {xs : Nat → Int32} {h : Hp} (C : Cx G code 4 RL) (X : Rmx l G 2048 (AL P63 true true)) (S : SLw G b L xs) (hL : L ≤ 3072) (hi : i + 6 ≤ L) (inv : Lv h) (kk : ∀ h', Lv h' → Rr G 1754 [(0, vt 9000), (1, vr 6 0), (2, vr 7 63), (3, vi (nI i))] [] h') : Rr G 1052 [(0, vt 9000), (1, vr 6 0), (2, vr 7 63), (3, vi (nI i))] [] h := by
  obtain ⟨v, u, w, g, B, Bt, z, κ, τ, o, hg, M, y, byt, ok, okw⟩ := inv
  refine r_aload_n C (dx dL_22 0 rfl) rfl ?_
  refine r_aload_nT C (dx dL_22 1 rfl) rfl ?_
  refine r_iload_n C (dx dL_22 2 rfl) rfl ?_
  refine r_iconst (v := nI 1) C (dx dL_22 3 rfl) rfl ?_
  refine rn_iadd (a := i) (b := 1) C (dx dL_22 4 rfl) ?_
  refine r_sld C S (by omega) (by omega) (dx dL_22 5 rfl) ?_
  refine r_cv (as := [vi (xs (i + 1))]) (st := []) C X I_X6_odds l_L_112 (x_odds o hg (xs (i + 1))) (by decide) (Nat.le_of_ble_eq_true rfl) List.prefix_rfl (by rw [M.al]; exact ALall) rfl rfl (Nat.le_of_ble_eq_true rfl) rfl (dx dL_22 6 rfl) ?_
  rintro _ h1 ⟨⟨xh1, rfl⟩, ⟨uh1, oh1⟩, fh1⟩ kh1
  have Mh1 := M.fr9 fh1 kh1
  have yh1 := y.fr9 M fh1
  refine r_pop2L C (dx dL_22 7 rfl) ?_
  refine r_aload_n C (dx dL_22 8 rfl) rfl ?_
  refine r_aload_nT C (dx dL_22 9 rfl) rfl ?_
  refine r_iload_n C (dx dL_22 10 rfl) rfl ?_
  refine r_iconst (v := nI 1) C (dx dL_22 11 rfl) rfl ?_
  refine rn_iadd (a := i) (b := 1) C (dx dL_22 12 rfl) ?_
  refine r_sld C S (by omega) (by omega) (dx dL_22 13 rfl) ?_
  obtain ⟨τh2, ph2, ch2⟩ := y7_odds (l := l) Mh1 yh1 ok (xs (i + 1))
  refine r_cv (as := [vi (xs (i + 1))]) (st := []) C X I_X7_odds l_L_116 ch2 (by decide) (Nat.le_of_ble_eq_true rfl) ph2 ALall rfl rfl (Nat.le_of_ble_eq_true rfl) rfl (dx dL_22 14 rfl) ?_
  rintro _ h2 ⟨⟨xh2, rfl⟩, Mh2, lh2, yh2⟩ kh2
  have oh2 := oh1.lo lh2
  refine r_pop2L C (dx dL_22 15 rfl) ?_
  refine r_goto (tgt := 1754) C (dx dL_22 16 rfl) (by decide) ?_
  exact kk h2 ⟨_, _, _, _, _, _, _, _, _, oh2, hg, Mh2, yh2, byt, ok, okw⟩
def tL_23 : List (Nat × Instr × Nat) := [(1075, .aload_n 1, 1), (1076, .aload_n 0, 1), (1077, .iload_n 3, 1), (1078, .iconst 1, 1), (1079, .iadd, 1), (1080, .iaload, 1), (1081, .aload_n 0, 1), (1082, .iload_n 3, 1), (1083, .iconst 2, 1), (1084, .iadd, 1), (1085, .iaload, 1), (1086, .invokevirtual 117, 3), (1089, .pop2, 1), (1090, .aload_n 2, 1), (1091, .aload_n 0, 1), (1092, .iload_n 3, 1), (1093, .iconst 1, 1), (1094, .iadd, 1), (1095, .iaload, 1), (1096, .aload_n 0, 1), (1097, .iload_n 3, 1), (1098, .iconst 2, 1), (1099, .iadd, 1), (1100, .iaload, 1), (1101, .invokevirtual 120, 3), (1104, .pop2, 1), (1105, .goto 649, 3)]
theorem dL_23 : dec_ok code tL_23 = true := by decide +kernel
set_option maxHeartbeats 4000000 in
theorem law_c23 {l : Launch} {G : Gt} {b L i : Nat} {xs : Nat → Int32} {h : Hp} (C : Cx G code 4 RL) (X : Rmx l G 2048 (AL P63 true true)) (S : SLw G b L xs) (hL : L ≤ 3072) (hi : i + 6 ≤ L) (inv : Lv h) (kk : ∀ h', Lv h' → Rr G 1754 [(0, vt 9000), (1, vr 6 0), (2, vr 7 63), (3, vi (nI i))] [] h') : Rr G 1075 [(0, vt 9000), (1, vr 6 0), (2, vr 7 63), (3, vi (nI i))] [] h := by
  obtain ⟨v, u, w, g, B, Bt, z, κ, τ, o, hg, M, y, byt, ok, okw⟩ := inv
  refine r_aload_n C (dx dL_23 0 rfl) rfl ?_
  refine r_aload_nT C (dx dL_23 1 rfl) rfl ?_
  refine r_iload_n C (dx dL_23 2 rfl) rfl ?_
  refine r_iconst (v := nI 1) C (dx dL_23 3 rfl) rfl ?_
  refine rn_iadd (a := i) (b := 1) C (dx dL_23 4 rfl) ?_
  refine r_sld C S (by omega) (by omega) (dx dL_23 5 rfl) ?_
  refine r_aload_nT C (dx dL_23 6 rfl) rfl ?_
  refine r_iload_n C (dx dL_23 7 rfl) rfl ?_
  refine r_iconst (v := nI 2) C (dx dL_23 8 rfl) rfl ?_
  refine rn_iadd (a := i) (b := 2) C (dx dL_23 9 rfl) ?_
  refine r_sld C S (by omega) (by omega) (dx dL_23 10 rfl) ?_
  refine r_cv (as := [vi (xs (i + 1)), vi (xs (i + 2))]) (st := []) C X I_X6_atOnce l_L_117 (x_atOnce o hg (xs (i + 1)) (xs (i + 2))) (by decide) (Nat.le_of_ble_eq_true rfl) List.prefix_rfl (by rw [M.al]; exact ALall) rfl rfl (Nat.le_of_ble_eq_true rfl) rfl (dx dL_23 11 rfl) ?_
  rintro _ h1 ⟨⟨xh1, rfl⟩, ⟨uh1, oh1⟩, fh1⟩ kh1
  have Mh1 := M.fr9 fh1 kh1
  have yh1 := y.fr9 M fh1
  refine r_pop2L C (dx dL_23 12 rfl) ?_
  refine r_aload_n C (dx dL_23 13 rfl) rfl ?_
  refine r_aload_nT C (dx dL_23 14 rfl) rfl ?_
  refine r_iload_n C (dx dL_23 15 rfl) rfl ?_
  refine r_iconst (v := nI 1) C (dx dL_23 16 rfl) rfl ?_
  refine rn_iadd (a := i) (b := 1) C (dx dL_23 17 rfl) ?_
  refine r_sld C S (by omega) (by omega) (dx dL_23 18 rfl) ?_
  refine r_aload_nT C (dx dL_23 19 rfl) rfl ?_
  refine r_iload_n C (dx dL_23 20 rfl) rfl ?_
  refine r_iconst (v := nI 2) C (dx dL_23 21 rfl) rfl ?_
  refine rn_iadd (a := i) (b := 2) C (dx dL_23 22 rfl) ?_
  refine r_sld C S (by omega) (by omega) (dx dL_23 23 rfl) ?_
  obtain ⟨τh2, ph2, ch2⟩ := y7_atOnce (l := l) Mh1 yh1 ok (xs (i + 1)) (xs (i + 2))
  refine r_cv (as := [vi (xs (i + 1)), vi (xs (i + 2))]) (st := []) C X I_X7_atOnce l_L_120 ch2 (by decide) (Nat.le_of_ble_eq_true rfl) ph2 ALall rfl rfl (Nat.le_of_ble_eq_true rfl) rfl (dx dL_23 24 rfl) ?_
  rintro _ h2 ⟨⟨xh2, rfl⟩, Mh2, lh2, yh2⟩ kh2
  have oh2 := oh1.lo lh2
  refine r_pop2L C (dx dL_23 25 rfl) ?_
  refine r_goto (tgt := 1754) C (dx dL_23 26 rfl) (by decide) ?_
  exact kk h2 ⟨_, _, _, _, _, _, _, _, _, oh2, hg, Mh2, yh2, byt, ok, okw⟩
def tL_24 : List (Nat × Instr × Nat) := [(1108, .aload_n 1, 1), (1109, .invokevirtual 121, 3), (1112, .pop2, 1), (1113, .aload_n 2, 1), (1114, .invokevirtual 125, 3), (1117, .pop2, 1), (1118, .goto 636, 3)]
theorem dL_24 : dec_ok code tL_24 = true := by decide +kernel
set_option maxHeartbeats 4000000 in
theorem law_c24 {l : Launch} {G : Gt} {b L i : Nat} {xs : Nat → Int32} {h : Hp} (C : Cx G code 4 RL) (X : Rmx l G 2048 (AL P63 true true)) (S : SLw G b L xs) (hL : L ≤ 3072) (hi : i + 6 ≤ L) (inv : Lv h) (kk : ∀ h', Lv h' → Rr G 1754 [(0, vt 9000), (1, vr 6 0), (2, vr 7 63), (3, vi (nI i))] [] h') : Rr G 1108 [(0, vt 9000), (1, vr 6 0), (2, vr 7 63), (3, vi (nI i))] [] h := by
  obtain ⟨v, u, w, g, B, Bt, z, κ, τ, o, hg, M, y, byt, ok, okw⟩ := inv
  refine r_aload_n C (dx dL_24 0 rfl) rfl ?_
  refine r_cv (as := []) (st := []) C X I_X6_day l_L_121 (x_day o hg ) (by decide) (Nat.le_of_ble_eq_true rfl) List.prefix_rfl (by rw [M.al]; exact ALall) rfl rfl (Nat.le_of_ble_eq_true rfl) rfl (dx dL_24 1 rfl) ?_
  rintro _ h1 ⟨⟨xh1, rfl⟩, ⟨uh1, oh1⟩, fh1⟩ kh1
  have Mh1 := M.fr9 fh1 kh1
  have yh1 := y.fr9 M fh1
  refine r_pop2L C (dx dL_24 2 rfl) ?_
  refine r_aload_n C (dx dL_24 3 rfl) rfl ?_
  obtain ⟨τh2, ph2, ch2⟩ := y7_day (l := l) Mh1 yh1 ok 
  refine r_cv (as := []) (st := []) C X I_X7_day l_L_125 ch2 (by decide) (Nat.le_of_ble_eq_true rfl) ph2 ALall rfl rfl (Nat.le_of_ble_eq_true rfl) rfl (dx dL_24 4 rfl) ?_
  rintro _ h2 ⟨⟨xh2, rfl⟩, Mh2, lh2, yh2⟩ kh2
  have oh2 := oh1.lo lh2
  refine r_pop2L C (dx dL_24 5 rfl) ?_
  refine r_goto (tgt := 1754) C (dx dL_24 6 rfl) (by decide) ?_
  exact kk h2 ⟨_, _, _, _, _, _, _, _, _, oh2, hg, Mh2, yh2, byt, ok, okw⟩
def tL_25 : List (Nat × Instr × Nat) := [(1121, .aload_n 1, 1), (1122, .aload_n 0, 1), (1123, .iload_n 3, 1), (1124, .iconst 1, 1), (1125, .iadd, 1), (1126, .iaload, 1), (1127, .aload_n 0, 1), (1128, .iload_n 3, 1), (1129, .iconst 2, 1), (1130, .iadd, 1), (1131, .iaload, 1), (1132, .invokevirtual 126, 3), (1135, .pop, 1), (1136, .aload_n 2, 1), (1137, .aload_n 0, 1), (1138, .iload_n 3, 1), (1139, .iconst 1, 1), (1140, .iadd, 1), (1141, .iaload, 1), (1142, .aload_n 0, 1), (1143, .iload_n 3, 1), (1144, .iconst 2, 1), (1145, .iadd, 1), (1146, .iaload, 1), (1147, .invokevirtual 129, 3), (1150, .pop, 1), (1151, .goto 603, 3)]
theorem dL_25 : dec_ok code tL_25 = true := by decide +kernel
set_option maxHeartbeats 4000000 in
theorem law_c25 {l : Launch} {G : Gt} {b L i : Nat} {xs : Nat → Int32} {h : Hp} (C : Cx G code 4 RL) (X : Rmx l G 2048 (AL P63 true true)) (S : SLw G b L xs) (hL : L ≤ 3072) (hi : i + 6 ≤ L) (inv : Lv h) (kk : ∀ h', Lv h' → Rr G 1754 [(0, vt 9000), (1, vr 6 0), (2, vr 7 63), (3, vi (nI i))] [] h') : Rr G 1121 [(0, vt 9000), (1, vr 6 0), (2, vr 7 63), (3, vi (nI i))] [] h := by
  obtain ⟨v, u, w, g, B, Bt, z, κ, τ, o, hg, M, y, byt, ok, okw⟩ := inv
  refine r_aload_n C (dx dL_25 0 rfl) rfl ?_
  refine r_aload_nT C (dx dL_25 1 rfl) rfl ?_
  refine r_iload_n C (dx dL_25 2 rfl) rfl ?_
  refine r_iconst (v := nI 1) C (dx dL_25 3 rfl) rfl ?_
  refine rn_iadd (a := i) (b := 1) C (dx dL_25 4 rfl) ?_
  refine r_sld C S (by omega) (by omega) (dx dL_25 5 rfl) ?_
  refine r_aload_nT C (dx dL_25 6 rfl) rfl ?_
  refine r_iload_n C (dx dL_25 7 rfl) rfl ?_
  refine r_iconst (v := nI 2) C (dx dL_25 8 rfl) rfl ?_
  refine rn_iadd (a := i) (b := 2) C (dx dL_25 9 rfl) ?_
  refine r_sld C S (by omega) (by omega) (dx dL_25 10 rfl) ?_
  refine r_cv (as := [vi (xs (i + 1)), vi (xs (i + 2))]) (st := []) C X I_X6_power l_L_126 (x_power o hg (xs (i + 1)) (xs (i + 2))) (by decide) (Nat.le_of_ble_eq_true rfl) List.prefix_rfl (by rw [M.al]; exact ALall) rfl rfl (Nat.le_of_ble_eq_true rfl) rfl (dx dL_25 11 rfl) ?_
  rintro _ h1 ⟨⟨xh1, rfl⟩, ⟨uh1, oh1⟩, fh1⟩ kh1
  have Mh1 := M.fr9 fh1 kh1
  have yh1 := y.fr9 M fh1
  refine r_popI C (dx dL_25 12 rfl) ?_
  refine r_aload_n C (dx dL_25 13 rfl) rfl ?_
  refine r_aload_nT C (dx dL_25 14 rfl) rfl ?_
  refine r_iload_n C (dx dL_25 15 rfl) rfl ?_
  refine r_iconst (v := nI 1) C (dx dL_25 16 rfl) rfl ?_
  refine rn_iadd (a := i) (b := 1) C (dx dL_25 17 rfl) ?_
  refine r_sld C S (by omega) (by omega) (dx dL_25 18 rfl) ?_
  refine r_aload_nT C (dx dL_25 19 rfl) rfl ?_
  refine r_iload_n C (dx dL_25 20 rfl) rfl ?_
  refine r_iconst (v := nI 2) C (dx dL_25 21 rfl) rfl ?_
  refine rn_iadd (a := i) (b := 2) C (dx dL_25 22 rfl) ?_
  refine r_sld C S (by omega) (by omega) (dx dL_25 23 rfl) ?_
  obtain ⟨τh2, ph2, ch2⟩ := y7_power (l := l) Mh1 yh1 ok (xs (i + 1)) (xs (i + 2))
  refine r_cv (as := [vi (xs (i + 1)), vi (xs (i + 2))]) (st := []) C X I_X7_power l_L_129 ch2 (by decide) (Nat.le_of_ble_eq_true rfl) ph2 ALall rfl rfl (Nat.le_of_ble_eq_true rfl) rfl (dx dL_25 24 rfl) ?_
  rintro _ h2 ⟨⟨xh2, rfl⟩, Mh2, lh2, yh2⟩ kh2
  have oh2 := oh1.lo lh2
  refine r_popI C (dx dL_25 25 rfl) ?_
  refine r_goto (tgt := 1754) C (dx dL_25 26 rfl) (by decide) ?_
  exact kk h2 ⟨_, _, _, _, _, _, _, _, _, oh2, hg, Mh2, yh2, byt, ok, okw⟩
def tL_26 : List (Nat × Instr × Nat) := [(1154, .aload_n 1, 1), (1155, .invokevirtual 130, 3), (1158, .pop, 1), (1159, .aload_n 2, 1), (1160, .invokevirtual 133, 3), (1163, .pop, 1), (1164, .goto 590, 3)]
theorem dL_26 : dec_ok code tL_26 = true := by decide +kernel
set_option maxHeartbeats 4000000 in
theorem law_c26 {l : Launch} {G : Gt} {b L i : Nat} {xs : Nat → Int32} {h : Hp} (C : Cx G code 4 RL) (X : Rmx l G 2048 (AL P63 true true)) (S : SLw G b L xs) (hL : L ≤ 3072) (hi : i + 6 ≤ L) (inv : Lv h) (kk : ∀ h', Lv h' → Rr G 1754 [(0, vt 9000), (1, vr 6 0), (2, vr 7 63), (3, vi (nI i))] [] h') : Rr G 1154 [(0, vt 9000), (1, vr 6 0), (2, vr 7 63), (3, vi (nI i))] [] h := by
  obtain ⟨v, u, w, g, B, Bt, z, κ, τ, o, hg, M, y, byt, ok, okw⟩ := inv
  refine r_aload_n C (dx dL_26 0 rfl) rfl ?_
  refine r_cv (as := []) (st := []) C X I_X6_first l_L_130 (x_first o hg ) (by decide) (Nat.le_of_ble_eq_true rfl) List.prefix_rfl (by rw [M.al]; exact ALall) rfl rfl (Nat.le_of_ble_eq_true rfl) rfl (dx dL_26 1 rfl) ?_
  rintro _ h1 ⟨⟨xh1, rfl⟩, ⟨uh1, oh1⟩, fh1⟩ kh1
  have Mh1 := M.fr9 fh1 kh1
  have yh1 := y.fr9 M fh1
  refine r_popI C (dx dL_26 2 rfl) ?_
  refine r_aload_n C (dx dL_26 3 rfl) rfl ?_
  obtain ⟨τh2, ph2, ch2⟩ := y7_first (l := l) Mh1 yh1 ok 
  refine r_cv (as := []) (st := []) C X I_X7_first l_L_133 ch2 (by decide) (Nat.le_of_ble_eq_true rfl) ph2 ALall rfl rfl (Nat.le_of_ble_eq_true rfl) rfl (dx dL_26 4 rfl) ?_
  rintro _ h2 ⟨⟨xh2, rfl⟩, Mh2, lh2, yh2⟩ kh2
  have oh2 := oh1.lo lh2
  refine r_popI C (dx dL_26 5 rfl) ?_
  refine r_goto (tgt := 1754) C (dx dL_26 6 rfl) (by decide) ?_
  exact kk h2 ⟨_, _, _, _, _, _, _, _, _, oh2, hg, Mh2, yh2, byt, ok, okw⟩
def tL_27 : List (Nat × Instr × Nat) := [(1167, .aload_n 1, 1), (1168, .aload_n 0, 1), (1169, .iload_n 3, 1), (1170, .iconst 1, 1), (1171, .iadd, 1), (1172, .iaload, 1), (1173, .invokevirtual 134, 3), (1176, .pop, 1), (1177, .aload_n 2, 1), (1178, .aload_n 0, 1), (1179, .iload_n 3, 1), (1180, .iconst 1, 1), (1181, .iadd, 1), (1182, .iaload, 1), (1183, .invokevirtual 137, 3), (1186, .pop, 1), (1187, .goto 567, 3)]
theorem dL_27 : dec_ok code tL_27 = true := by decide +kernel
set_option maxHeartbeats 4000000 in
theorem law_c27 {l : Launch} {G : Gt} {b L i : Nat} {xs : Nat → Int32} {h : Hp} (C : Cx G code 4 RL) (X : Rmx l G 2048 (AL P63 true true)) (S : SLw G b L xs) (hL : L ≤ 3072) (hi : i + 6 ≤ L) (inv : Lv h) (kk : ∀ h', Lv h' → Rr G 1754 [(0, vt 9000), (1, vr 6 0), (2, vr 7 63), (3, vi (nI i))] [] h') : Rr G 1167 [(0, vt 9000), (1, vr 6 0), (2, vr 7 63), (3, vi (nI i))] [] h := by
  obtain ⟨v, u, w, g, B, Bt, z, κ, τ, o, hg, M, y, byt, ok, okw⟩ := inv
  refine r_aload_n C (dx dL_27 0 rfl) rfl ?_
  refine r_aload_nT C (dx dL_27 1 rfl) rfl ?_
  refine r_iload_n C (dx dL_27 2 rfl) rfl ?_
  refine r_iconst (v := nI 1) C (dx dL_27 3 rfl) rfl ?_
  refine rn_iadd (a := i) (b := 1) C (dx dL_27 4 rfl) ?_
  refine r_sld C S (by omega) (by omega) (dx dL_27 5 rfl) ?_
  refine r_cv (as := [vi (xs (i + 1))]) (st := []) C X I_X6_lay l_L_134 (x_lay o hg ok (xs (i + 1))) (by decide) (Nat.le_of_ble_eq_true rfl) List.prefix_rfl (by rw [M.al]; exact ALall) rfl rfl (Nat.le_of_ble_eq_true rfl) rfl (dx dL_27 6 rfl) ?_
  rintro _ h1 ⟨⟨xh1, rfl⟩, ⟨uh1, oh1⟩, fh1⟩ kh1
  have Mh1 := M.fr9 fh1 kh1
  have yh1 := y.fr9 M fh1
  refine r_popI C (dx dL_27 7 rfl) ?_
  refine r_aload_n C (dx dL_27 8 rfl) rfl ?_
  refine r_aload_nT C (dx dL_27 9 rfl) rfl ?_
  refine r_iload_n C (dx dL_27 10 rfl) rfl ?_
  refine r_iconst (v := nI 1) C (dx dL_27 11 rfl) rfl ?_
  refine rn_iadd (a := i) (b := 1) C (dx dL_27 12 rfl) ?_
  refine r_sld C S (by omega) (by omega) (dx dL_27 13 rfl) ?_
  obtain ⟨τh2, ph2, ch2⟩ := y7_lay (l := l) Mh1 yh1 ok (xs (i + 1))
  refine r_cv (as := [vi (xs (i + 1))]) (st := []) C X I_X7_lay l_L_137 ch2 (by decide) (Nat.le_of_ble_eq_true rfl) ph2 ALall rfl rfl (Nat.le_of_ble_eq_true rfl) rfl (dx dL_27 14 rfl) ?_
  rintro _ h2 ⟨⟨xh2, rfl⟩, Mh2, lh2, yh2⟩ kh2
  have oh2 := oh1.lo lh2
  refine r_popI C (dx dL_27 15 rfl) ?_
  refine r_goto (tgt := 1754) C (dx dL_27 16 rfl) (by decide) ?_
  exact kk h2 ⟨_, _, _, _, _, _, _, _, _, oh2, hg, Mh2, yh2, byt, (ok_layV ok _ _), okw⟩
def tL_28 : List (Nat × Instr × Nat) := [(1190, .aload_n 1, 1), (1191, .aload_n 0, 1), (1192, .iload_n 3, 1), (1193, .iconst 1, 1), (1194, .iadd, 1), (1195, .iaload, 1), (1196, .invokevirtual 138, 3), (1199, .pop2, 1), (1200, .aload_n 2, 1), (1201, .aload_n 0, 1), (1202, .iload_n 3, 1), (1203, .iconst 1, 1), (1204, .iadd, 1), (1205, .iaload, 1), (1206, .invokevirtual 141, 3), (1209, .pop2, 1), (1210, .goto 544, 3)]
theorem dL_28 : dec_ok code tL_28 = true := by decide +kernel
set_option maxHeartbeats 4000000 in
theorem law_c28 {l : Launch} {G : Gt} {b L i : Nat} {xs : Nat → Int32} {h : Hp} (C : Cx G code 4 RL) (X : Rmx l G 2048 (AL P63 true true)) (S : SLw G b L xs) (hL : L ≤ 3072) (hi : i + 6 ≤ L) (inv : Lv h) (kk : ∀ h', Lv h' → Rr G 1754 [(0, vt 9000), (1, vr 6 0), (2, vr 7 63), (3, vi (nI i))] [] h') : Rr G 1190 [(0, vt 9000), (1, vr 6 0), (2, vr 7 63), (3, vi (nI i))] [] h := by
  obtain ⟨v, u, w, g, B, Bt, z, κ, τ, o, hg, M, y, byt, ok, okw⟩ := inv
  refine r_aload_n C (dx dL_28 0 rfl) rfl ?_
  refine r_aload_nT C (dx dL_28 1 rfl) rfl ?_
  refine r_iload_n C (dx dL_28 2 rfl) rfl ?_
  refine r_iconst (v := nI 1) C (dx dL_28 3 rfl) rfl ?_
  refine rn_iadd (a := i) (b := 1) C (dx dL_28 4 rfl) ?_
  refine r_sld C S (by omega) (by omega) (dx dL_28 5 rfl) ?_
  refine r_cv (as := [vi (xs (i + 1))]) (st := []) C X I_X6_would l_L_138 (x_would o hg (xs (i + 1))) (by decide) (Nat.le_of_ble_eq_true rfl) List.prefix_rfl (by rw [M.al]; exact ALall) rfl rfl (Nat.le_of_ble_eq_true rfl) rfl (dx dL_28 6 rfl) ?_
  rintro _ h1 ⟨⟨xh1, rfl⟩, ⟨uh1, oh1⟩, fh1⟩ kh1
  have Mh1 := M.fr9 fh1 kh1
  have yh1 := y.fr9 M fh1
  refine r_pop2L C (dx dL_28 7 rfl) ?_
  refine r_aload_n C (dx dL_28 8 rfl) rfl ?_
  refine r_aload_nT C (dx dL_28 9 rfl) rfl ?_
  refine r_iload_n C (dx dL_28 10 rfl) rfl ?_
  refine r_iconst (v := nI 1) C (dx dL_28 11 rfl) rfl ?_
  refine rn_iadd (a := i) (b := 1) C (dx dL_28 12 rfl) ?_
  refine r_sld C S (by omega) (by omega) (dx dL_28 13 rfl) ?_
  obtain ⟨τh2, ph2, ch2⟩ := y7_would (l := l) Mh1 yh1 ok (xs (i + 1))
  refine r_cv (as := [vi (xs (i + 1))]) (st := []) C X I_X7_would l_L_141 ch2 (by decide) (Nat.le_of_ble_eq_true rfl) ph2 ALall rfl rfl (Nat.le_of_ble_eq_true rfl) rfl (dx dL_28 14 rfl) ?_
  rintro _ h2 ⟨⟨xh2, rfl⟩, Mh2, lh2, yh2⟩ kh2
  have oh2 := oh1.lo lh2
  refine r_pop2L C (dx dL_28 15 rfl) ?_
  refine r_goto (tgt := 1754) C (dx dL_28 16 rfl) (by decide) ?_
  exact kk h2 ⟨_, _, _, _, _, _, _, _, _, oh2, hg, Mh2, yh2, byt, ok, okw⟩
def tL_29 : List (Nat × Instr × Nat) := [(1213, .aload_n 1, 1), (1214, .invokevirtual 142, 3), (1217, .pop, 1), (1218, .aload_n 2, 1), (1219, .invokevirtual 145, 3), (1222, .pop, 1), (1223, .goto 531, 3)]
theorem dL_29 : dec_ok code tL_29 = true := by decide +kernel
set_option maxHeartbeats 4000000 in
theorem law_c29 {l : Launch} {G : Gt} {b L i : Nat} {xs : Nat → Int32} {h : Hp} (C : Cx G code 4 RL) (X : Rmx l G 2048 (AL P63 true true)) (S : SLw G b L xs) (hL : L ≤ 3072) (hi : i + 6 ≤ L) (inv : Lv h) (kk : ∀ h', Lv h' → Rr G 1754 [(0, vt 9000), (1, vr 6 0), (2, vr 7 63), (3, vi (nI i))] [] h') : Rr G 1213 [(0, vt 9000), (1, vr 6 0), (2, vr 7 63), (3, vi (nI i))] [] h := by
  obtain ⟨v, u, w, g, B, Bt, z, κ, τ, o, hg, M, y, byt, ok, okw⟩ := inv
  refine r_aload_n C (dx dL_29 0 rfl) rfl ?_
  refine r_cv (as := []) (st := []) C X I_X6_head l_L_142 (x_head o hg ) (by decide) (Nat.le_of_ble_eq_true rfl) List.prefix_rfl (by rw [M.al]; exact ALall) rfl rfl (Nat.le_of_ble_eq_true rfl) rfl (dx dL_29 1 rfl) ?_
  rintro _ h1 ⟨⟨xh1, rfl⟩, ⟨uh1, oh1⟩, fh1⟩ kh1
  have Mh1 := M.fr9 fh1 kh1
  have yh1 := y.fr9 M fh1
  refine r_popI C (dx dL_29 2 rfl) ?_
  refine r_aload_n C (dx dL_29 3 rfl) rfl ?_
  obtain ⟨τh2, ph2, ch2⟩ := y7_head (l := l) Mh1 yh1 ok 
  refine r_cv (as := []) (st := []) C X I_X7_head l_L_145 ch2 (by decide) (Nat.le_of_ble_eq_true rfl) ph2 ALall rfl rfl (Nat.le_of_ble_eq_true rfl) rfl (dx dL_29 4 rfl) ?_
  rintro _ h2 ⟨⟨xh2, rfl⟩, Mh2, lh2, yh2⟩ kh2
  have oh2 := oh1.lo lh2
  refine r_popI C (dx dL_29 5 rfl) ?_
  refine r_goto (tgt := 1754) C (dx dL_29 6 rfl) (by decide) ?_
  exact kk h2 ⟨_, _, _, _, _, _, _, _, _, oh2, hg, Mh2, yh2, byt, ok, okw⟩
def tL_30 : List (Nat × Instr × Nat) := [(1226, .aload_n 1, 1), (1227, .aload_n 0, 1), (1228, .iload_n 3, 1), (1229, .iconst 1, 1), (1230, .iadd, 1), (1231, .iaload, 1), (1232, .invokevirtual 146, 3), (1235, .pop, 1), (1236, .aload_n 2, 1), (1237, .aload_n 0, 1), (1238, .iload_n 3, 1), (1239, .iconst 1, 1), (1240, .iadd, 1), (1241, .iaload, 1), (1242, .invokevirtual 149, 3), (1245, .pop, 1), (1246, .goto 508, 3)]
theorem dL_30 : dec_ok code tL_30 = true := by decide +kernel
set_option maxHeartbeats 4000000 in
theorem law_c30 {l : Launch} {G : Gt} {b L i : Nat} {xs : Nat → Int32} {h : Hp} (C : Cx G code 4 RL) (X : Rmx l G 2048 (AL P63 true true)) (S : SLw G b L xs) (hL : L ≤ 3072) (hi : i + 6 ≤ L) (inv : Lv h) (kk : ∀ h', Lv h' → Rr G 1754 [(0, vt 9000), (1, vr 6 0), (2, vr 7 63), (3, vi (nI i))] [] h') : Rr G 1226 [(0, vt 9000), (1, vr 6 0), (2, vr 7 63), (3, vi (nI i))] [] h := by
  obtain ⟨v, u, w, g, B, Bt, z, κ, τ, o, hg, M, y, byt, ok, okw⟩ := inv
  refine r_aload_n C (dx dL_30 0 rfl) rfl ?_
  refine r_aload_nT C (dx dL_30 1 rfl) rfl ?_
  refine r_iload_n C (dx dL_30 2 rfl) rfl ?_
  refine r_iconst (v := nI 1) C (dx dL_30 3 rfl) rfl ?_
  refine rn_iadd (a := i) (b := 1) C (dx dL_30 4 rfl) ?_
  refine r_sld C S (by omega) (by omega) (dx dL_30 5 rfl) ?_
  refine r_cv (as := [vi (xs (i + 1))]) (st := []) C X I_X6_best l_L_146 (x_best o hg (xs (i + 1))) (by decide) (Nat.le_of_ble_eq_true rfl) List.prefix_rfl (by rw [M.al]; exact ALall) rfl rfl (Nat.le_of_ble_eq_true rfl) rfl (dx dL_30 6 rfl) ?_
  rintro _ h1 ⟨⟨xh1, rfl⟩, ⟨uh1, oh1⟩, fh1⟩ kh1
  have Mh1 := M.fr9 fh1 kh1
  have yh1 := y.fr9 M fh1
  refine r_popI C (dx dL_30 7 rfl) ?_
  refine r_aload_n C (dx dL_30 8 rfl) rfl ?_
  refine r_aload_nT C (dx dL_30 9 rfl) rfl ?_
  refine r_iload_n C (dx dL_30 10 rfl) rfl ?_
  refine r_iconst (v := nI 1) C (dx dL_30 11 rfl) rfl ?_
  refine rn_iadd (a := i) (b := 1) C (dx dL_30 12 rfl) ?_
  refine r_sld C S (by omega) (by omega) (dx dL_30 13 rfl) ?_
  obtain ⟨τh2, ph2, ch2⟩ := y7_best (l := l) Mh1 yh1 ok (xs (i + 1))
  refine r_cv (as := [vi (xs (i + 1))]) (st := []) C X I_X7_best l_L_149 ch2 (by decide) (Nat.le_of_ble_eq_true rfl) ph2 ALall rfl rfl (Nat.le_of_ble_eq_true rfl) rfl (dx dL_30 14 rfl) ?_
  rintro _ h2 ⟨⟨xh2, rfl⟩, Mh2, lh2, yh2⟩ kh2
  have oh2 := oh1.lo lh2
  refine r_popI C (dx dL_30 15 rfl) ?_
  refine r_goto (tgt := 1754) C (dx dL_30 16 rfl) (by decide) ?_
  exact kk h2 ⟨_, _, _, _, _, _, _, _, _, oh2, hg, Mh2, yh2, byt, ok, okw⟩
def tL_31 : List (Nat × Instr × Nat) := [(1249, .aload_n 1, 1), (1250, .invokevirtual 150, 3), (1253, .pop2, 1), (1254, .aload_n 2, 1), (1255, .invokevirtual 153, 3), (1258, .pop2, 1), (1259, .goto 495, 3)]
theorem dL_31 : dec_ok code tL_31 = true := by decide +kernel
set_option maxHeartbeats 4000000 in
theorem law_c31 {l : Launch} {G : Gt} {b L i : Nat} {xs : Nat → Int32} {h : Hp} (C : Cx G code 4 RL) (X : Rmx l G 2048 (AL P63 true true)) (S : SLw G b L xs) (hL : L ≤ 3072) (hi : i + 6 ≤ L) (inv : Lv h) (kk : ∀ h', Lv h' → Rr G 1754 [(0, vt 9000), (1, vr 6 0), (2, vr 7 63), (3, vi (nI i))] [] h') : Rr G 1249 [(0, vt 9000), (1, vr 6 0), (2, vr 7 63), (3, vi (nI i))] [] h := by
  obtain ⟨v, u, w, g, B, Bt, z, κ, τ, o, hg, M, y, byt, ok, okw⟩ := inv
  refine r_aload_n C (dx dL_31 0 rfl) rfl ?_
  refine r_cv (as := []) (st := []) C X I_X6_bestDay l_L_150 (x_bestDay o hg ) (by decide) (Nat.le_of_ble_eq_true rfl) List.prefix_rfl (by rw [M.al]; exact ALall) rfl rfl (Nat.le_of_ble_eq_true rfl) rfl (dx dL_31 1 rfl) ?_
  rintro _ h1 ⟨⟨xh1, rfl⟩, ⟨uh1, oh1⟩, fh1⟩ kh1
  have Mh1 := M.fr9 fh1 kh1
  have yh1 := y.fr9 M fh1
  refine r_pop2L C (dx dL_31 2 rfl) ?_
  refine r_aload_n C (dx dL_31 3 rfl) rfl ?_
  obtain ⟨τh2, ph2, ch2⟩ := y7_bestDay (l := l) Mh1 yh1 ok 
  refine r_cv (as := []) (st := []) C X I_X7_bestDay l_L_153 ch2 (by decide) (Nat.le_of_ble_eq_true rfl) ph2 ALall rfl rfl (Nat.le_of_ble_eq_true rfl) rfl (dx dL_31 4 rfl) ?_
  rintro _ h2 ⟨⟨xh2, rfl⟩, Mh2, lh2, yh2⟩ kh2
  have oh2 := oh1.lo lh2
  refine r_pop2L C (dx dL_31 5 rfl) ?_
  refine r_goto (tgt := 1754) C (dx dL_31 6 rfl) (by decide) ?_
  exact kk h2 ⟨_, _, _, _, _, _, _, _, _, oh2, hg, Mh2, yh2, byt, ok, okw⟩
def tL_32 : List (Nat × Instr × Nat) := [(1262, .aload_n 1, 1), (1263, .aload_n 0, 1), (1264, .iload_n 3, 1), (1265, .iconst 1, 1), (1266, .iadd, 1), (1267, .iaload, 1), (1268, .invokevirtual 154, 3), (1271, .pop, 1), (1272, .aload_n 2, 1), (1273, .aload_n 0, 1), (1274, .iload_n 3, 1), (1275, .iconst 1, 1), (1276, .iadd, 1), (1277, .iaload, 1), (1278, .invokevirtual 157, 3), (1281, .pop, 1), (1282, .goto 472, 3)]
theorem dL_32 : dec_ok code tL_32 = true := by decide +kernel
set_option maxHeartbeats 4000000 in
theorem law_c32 {l : Launch} {G : Gt} {b L i : Nat} {xs : Nat → Int32} {h : Hp} (C : Cx G code 4 RL) (X : Rmx l G 2048 (AL P63 true true)) (S : SLw G b L xs) (hL : L ≤ 3072) (hi : i + 6 ≤ L) (inv : Lv h) (kk : ∀ h', Lv h' → Rr G 1754 [(0, vt 9000), (1, vr 6 0), (2, vr 7 63), (3, vi (nI i))] [] h') : Rr G 1262 [(0, vt 9000), (1, vr 6 0), (2, vr 7 63), (3, vi (nI i))] [] h := by
  obtain ⟨v, u, w, g, B, Bt, z, κ, τ, o, hg, M, y, byt, ok, okw⟩ := inv
  refine r_aload_n C (dx dL_32 0 rfl) rfl ?_
  refine r_aload_nT C (dx dL_32 1 rfl) rfl ?_
  refine r_iload_n C (dx dL_32 2 rfl) rfl ?_
  refine r_iconst (v := nI 1) C (dx dL_32 3 rfl) rfl ?_
  refine rn_iadd (a := i) (b := 1) C (dx dL_32 4 rfl) ?_
  refine r_sld C S (by omega) (by omega) (dx dL_32 5 rfl) ?_
  refine r_cv (as := [vi (xs (i + 1))]) (st := []) C X I_X6_bears l_L_154 (x_bears o hg (xs (i + 1))) (by decide) (Nat.le_of_ble_eq_true rfl) List.prefix_rfl (by rw [M.al]; exact ALall) rfl rfl (Nat.le_of_ble_eq_true rfl) rfl (dx dL_32 6 rfl) ?_
  rintro _ h1 ⟨⟨xh1, rfl⟩, ⟨uh1, oh1⟩, fh1⟩ kh1
  have Mh1 := M.fr9 fh1 kh1
  have yh1 := y.fr9 M fh1
  refine r_popI C (dx dL_32 7 rfl) ?_
  refine r_aload_n C (dx dL_32 8 rfl) rfl ?_
  refine r_aload_nT C (dx dL_32 9 rfl) rfl ?_
  refine r_iload_n C (dx dL_32 10 rfl) rfl ?_
  refine r_iconst (v := nI 1) C (dx dL_32 11 rfl) rfl ?_
  refine rn_iadd (a := i) (b := 1) C (dx dL_32 12 rfl) ?_
  refine r_sld C S (by omega) (by omega) (dx dL_32 13 rfl) ?_
  obtain ⟨τh2, ph2, ch2⟩ := y7_bears (l := l) Mh1 yh1 ok (xs (i + 1))
  refine r_cv (as := [vi (xs (i + 1))]) (st := []) C X I_X7_bears l_L_157 ch2 (by decide) (Nat.le_of_ble_eq_true rfl) ph2 ALall rfl rfl (Nat.le_of_ble_eq_true rfl) rfl (dx dL_32 14 rfl) ?_
  rintro _ h2 ⟨⟨xh2, rfl⟩, Mh2, lh2, yh2⟩ kh2
  have oh2 := oh1.lo lh2
  refine r_popI C (dx dL_32 15 rfl) ?_
  refine r_goto (tgt := 1754) C (dx dL_32 16 rfl) (by decide) ?_
  exact kk h2 ⟨_, _, _, _, _, _, _, _, _, oh2, hg, Mh2, yh2, byt, ok, okw⟩
def tL_33 : List (Nat × Instr × Nat) := [(1285, .aload_n 1, 1), (1286, .invokevirtual 158, 3), (1289, .pop, 1), (1290, .aload_n 2, 1), (1291, .invokevirtual 161, 3), (1294, .pop, 1), (1295, .goto 459, 3)]
theorem dL_33 : dec_ok code tL_33 = true := by decide +kernel
set_option maxHeartbeats 4000000 in
theorem law_c33 {l : Launch} {G : Gt} {b L i : Nat} {xs : Nat → Int32} {h : Hp} (C : Cx G code 4 RL) (X : Rmx l G 2048 (AL P63 true true)) (S : SLw G b L xs) (hL : L ≤ 3072) (hi : i + 6 ≤ L) (inv : Lv h) (kk : ∀ h', Lv h' → Rr G 1754 [(0, vt 9000), (1, vr 6 0), (2, vr 7 63), (3, vi (nI i))] [] h') : Rr G 1285 [(0, vt 9000), (1, vr 6 0), (2, vr 7 63), (3, vi (nI i))] [] h := by
  obtain ⟨v, u, w, g, B, Bt, z, κ, τ, o, hg, M, y, byt, ok, okw⟩ := inv
  refine r_aload_n C (dx dL_33 0 rfl) rfl ?_
  refine r_cv (as := []) (st := []) C X I_X6_harms l_L_158 (x_harms o hg ) (by decide) (Nat.le_of_ble_eq_true rfl) List.prefix_rfl (by rw [M.al]; exact ALall) rfl rfl (Nat.le_of_ble_eq_true rfl) rfl (dx dL_33 1 rfl) ?_
  rintro _ h1 ⟨⟨xh1, rfl⟩, ⟨uh1, oh1⟩, fh1⟩ kh1
  have Mh1 := M.fr9 fh1 kh1
  have yh1 := y.fr9 M fh1
  refine r_popI C (dx dL_33 2 rfl) ?_
  refine r_aload_n C (dx dL_33 3 rfl) rfl ?_
  obtain ⟨τh2, ph2, ch2⟩ := y7_harms (l := l) Mh1 yh1 ok 
  refine r_cv (as := []) (st := []) C X I_X7_harms l_L_161 ch2 (by decide) (Nat.le_of_ble_eq_true rfl) ph2 ALall rfl rfl (Nat.le_of_ble_eq_true rfl) rfl (dx dL_33 4 rfl) ?_
  rintro _ h2 ⟨⟨xh2, rfl⟩, Mh2, lh2, yh2⟩ kh2
  have oh2 := oh1.lo lh2
  refine r_popI C (dx dL_33 5 rfl) ?_
  refine r_goto (tgt := 1754) C (dx dL_33 6 rfl) (by decide) ?_
  exact kk h2 ⟨_, _, _, _, _, _, _, _, _, oh2, hg, Mh2, yh2, byt, ok, okw⟩
def tL_34 : List (Nat × Instr × Nat) := [(1298, .aload_n 1, 1), (1299, .invokevirtual 162, 3), (1302, .pop, 1), (1303, .aload_n 2, 1), (1304, .invokevirtual 165, 3), (1307, .pop, 1), (1308, .goto 446, 3)]
theorem dL_34 : dec_ok code tL_34 = true := by decide +kernel
set_option maxHeartbeats 4000000 in
theorem law_c34 {l : Launch} {G : Gt} {b L i : Nat} {xs : Nat → Int32} {h : Hp} (C : Cx G code 4 RL) (X : Rmx l G 2048 (AL P63 true true)) (S : SLw G b L xs) (hL : L ≤ 3072) (hi : i + 6 ≤ L) (inv : Lv h) (kk : ∀ h', Lv h' → Rr G 1754 [(0, vt 9000), (1, vr 6 0), (2, vr 7 63), (3, vi (nI i))] [] h') : Rr G 1298 [(0, vt 9000), (1, vr 6 0), (2, vr 7 63), (3, vi (nI i))] [] h := by
  obtain ⟨v, u, w, g, B, Bt, z, κ, τ, o, hg, M, y, byt, ok, okw⟩ := inv
  refine r_aload_n C (dx dL_34 0 rfl) rfl ?_
  refine r_cv (as := []) (st := []) C X I_X6_least l_L_162 (x_least o hg ) (by decide) (Nat.le_of_ble_eq_true rfl) List.prefix_rfl (by rw [M.al]; exact ALall) rfl rfl (Nat.le_of_ble_eq_true rfl) rfl (dx dL_34 1 rfl) ?_
  rintro _ h1 ⟨⟨xh1, rfl⟩, ⟨uh1, oh1⟩, fh1⟩ kh1
  have Mh1 := M.fr9 fh1 kh1
  have yh1 := y.fr9 M fh1
  refine r_popI C (dx dL_34 2 rfl) ?_
  refine r_aload_n C (dx dL_34 3 rfl) rfl ?_
  obtain ⟨τh2, ph2, ch2⟩ := y7_least (l := l) Mh1 yh1 ok 
  refine r_cv (as := []) (st := []) C X I_X7_least l_L_165 ch2 (by decide) (Nat.le_of_ble_eq_true rfl) ph2 ALall rfl rfl (Nat.le_of_ble_eq_true rfl) rfl (dx dL_34 4 rfl) ?_
  rintro _ h2 ⟨⟨xh2, rfl⟩, Mh2, lh2, yh2⟩ kh2
  have oh2 := oh1.lo lh2
  refine r_popI C (dx dL_34 5 rfl) ?_
  refine r_goto (tgt := 1754) C (dx dL_34 6 rfl) (by decide) ?_
  exact kk h2 ⟨_, _, _, _, _, _, _, _, _, oh2, hg, Mh2, yh2, byt, ok, okw⟩
def tL_35 : List (Nat × Instr × Nat) := [(1311, .aload_n 1, 1), (1312, .invokevirtual 166, 3), (1315, .pop, 1), (1316, .aload_n 2, 1), (1317, .invokevirtual 169, 3), (1320, .pop, 1), (1321, .goto 433, 3)]
theorem dL_35 : dec_ok code tL_35 = true := by decide +kernel
set_option maxHeartbeats 4000000 in
theorem law_c35 {l : Launch} {G : Gt} {b L i : Nat} {xs : Nat → Int32} {h : Hp} (C : Cx G code 4 RL) (X : Rmx l G 2048 (AL P63 true true)) (S : SLw G b L xs) (hL : L ≤ 3072) (hi : i + 6 ≤ L) (inv : Lv h) (kk : ∀ h', Lv h' → Rr G 1754 [(0, vt 9000), (1, vr 6 0), (2, vr 7 63), (3, vi (nI i))] [] h') : Rr G 1311 [(0, vt 9000), (1, vr 6 0), (2, vr 7 63), (3, vi (nI i))] [] h := by
  obtain ⟨v, u, w, g, B, Bt, z, κ, τ, o, hg, M, y, byt, ok, okw⟩ := inv
  refine r_aload_n C (dx dL_35 0 rfl) rfl ?_
  refine r_cv (as := []) (st := []) C X I_X6_stolen l_L_166 (x_stolen o hg ) (by decide) (Nat.le_of_ble_eq_true rfl) List.prefix_rfl (by rw [M.al]; exact ALall) rfl rfl (Nat.le_of_ble_eq_true rfl) rfl (dx dL_35 1 rfl) ?_
  rintro _ h1 ⟨⟨xh1, rfl⟩, ⟨uh1, oh1⟩, fh1⟩ kh1
  have Mh1 := M.fr9 fh1 kh1
  have yh1 := y.fr9 M fh1
  refine r_popI C (dx dL_35 2 rfl) ?_
  refine r_aload_n C (dx dL_35 3 rfl) rfl ?_
  obtain ⟨τh2, ph2, ch2⟩ := y7_stolen (l := l) Mh1 yh1 ok 
  refine r_cv (as := []) (st := []) C X I_X7_stolen l_L_169 ch2 (by decide) (Nat.le_of_ble_eq_true rfl) ph2 ALall rfl rfl (Nat.le_of_ble_eq_true rfl) rfl (dx dL_35 4 rfl) ?_
  rintro _ h2 ⟨⟨xh2, rfl⟩, Mh2, lh2, yh2⟩ kh2
  have oh2 := oh1.lo lh2
  refine r_popI C (dx dL_35 5 rfl) ?_
  refine r_goto (tgt := 1754) C (dx dL_35 6 rfl) (by decide) ?_
  exact kk h2 ⟨_, _, _, _, _, _, _, _, _, oh2, hg, Mh2, yh2, byt, ok, okw⟩
def tL_36 : List (Nat × Instr × Nat) := [(1324, .aload_n 1, 1), (1325, .invokevirtual 170, 3), (1328, .pop, 1), (1329, .aload_n 2, 1), (1330, .invokevirtual 173, 3), (1333, .pop, 1), (1334, .goto 420, 3)]
theorem dL_36 : dec_ok code tL_36 = true := by decide +kernel
set_option maxHeartbeats 4000000 in
theorem law_c36 {l : Launch} {G : Gt} {b L i : Nat} {xs : Nat → Int32} {h : Hp} (C : Cx G code 4 RL) (X : Rmx l G 2048 (AL P63 true true)) (S : SLw G b L xs) (hL : L ≤ 3072) (hi : i + 6 ≤ L) (inv : Lv h) (kk : ∀ h', Lv h' → Rr G 1754 [(0, vt 9000), (1, vr 6 0), (2, vr 7 63), (3, vi (nI i))] [] h') : Rr G 1324 [(0, vt 9000), (1, vr 6 0), (2, vr 7 63), (3, vi (nI i))] [] h := by
  obtain ⟨v, u, w, g, B, Bt, z, κ, τ, o, hg, M, y, byt, ok, okw⟩ := inv
  refine r_aload_n C (dx dL_36 0 rfl) rfl ?_
  refine r_cv (as := []) (st := []) C X I_X6_spare l_L_170 (x_spare o hg ) (by decide) (Nat.le_of_ble_eq_true rfl) List.prefix_rfl (by rw [M.al]; exact ALall) rfl rfl (Nat.le_of_ble_eq_true rfl) rfl (dx dL_36 1 rfl) ?_
  rintro _ h1 ⟨⟨xh1, rfl⟩, ⟨uh1, oh1⟩, fh1⟩ kh1
  have Mh1 := M.fr9 fh1 kh1
  have yh1 := y.fr9 M fh1
  refine r_popI C (dx dL_36 2 rfl) ?_
  refine r_aload_n C (dx dL_36 3 rfl) rfl ?_
  obtain ⟨τh2, ph2, ch2⟩ := y7_spare (l := l) Mh1 yh1 ok 
  refine r_cv (as := []) (st := []) C X I_X7_spare l_L_173 ch2 (by decide) (Nat.le_of_ble_eq_true rfl) ph2 ALall rfl rfl (Nat.le_of_ble_eq_true rfl) rfl (dx dL_36 4 rfl) ?_
  rintro _ h2 ⟨⟨xh2, rfl⟩, Mh2, lh2, yh2⟩ kh2
  have oh2 := oh1.lo lh2
  refine r_popI C (dx dL_36 5 rfl) ?_
  refine r_goto (tgt := 1754) C (dx dL_36 6 rfl) (by decide) ?_
  exact kk h2 ⟨_, _, _, _, _, _, _, _, _, oh2, hg, Mh2, yh2, byt, ok, okw⟩
def tL_37 : List (Nat × Instr × Nat) := [(1337, .aload_n 1, 1), (1338, .aload_n 0, 1), (1339, .iload_n 3, 1), (1340, .iconst 1, 1), (1341, .iadd, 1), (1342, .iaload, 1), (1343, .aload_n 0, 1), (1344, .iload_n 3, 1), (1345, .iconst 2, 1), (1346, .iadd, 1), (1347, .iaload, 1), (1348, .invokevirtual 174, 3), (1351, .pop2, 1), (1352, .aload_n 2, 1), (1353, .aload_n 0, 1), (1354, .iload_n 3, 1), (1355, .iconst 1, 1), (1356, .iadd, 1), (1357, .iaload, 1), (1358, .aload_n 0, 1), (1359, .iload_n 3, 1), (1360, .iconst 2, 1), (1361, .iadd, 1), (1362, .iaload, 1), (1363, .invokevirtual 177, 3), (1366, .pop2, 1), (1367, .goto 387, 3)]
theorem dL_37 : dec_ok code tL_37 = true := by decide +kernel
set_option maxHeartbeats 4000000 in
theorem law_c37 {l : Launch} {G : Gt} {b L i : Nat} {xs : Nat → Int32} {h : Hp} (C : Cx G code 4 RL) (X : Rmx l G 2048 (AL P63 true true)) (S : SLw G b L xs) (hL : L ≤ 3072) (hi : i + 6 ≤ L) (inv : Lv h) (kk : ∀ h', Lv h' → Rr G 1754 [(0, vt 9000), (1, vr 6 0), (2, vr 7 63), (3, vi (nI i))] [] h') : Rr G 1337 [(0, vt 9000), (1, vr 6 0), (2, vr 7 63), (3, vi (nI i))] [] h := by
  obtain ⟨v, u, w, g, B, Bt, z, κ, τ, o, hg, M, y, byt, ok, okw⟩ := inv
  refine r_aload_n C (dx dL_37 0 rfl) rfl ?_
  refine r_aload_nT C (dx dL_37 1 rfl) rfl ?_
  refine r_iload_n C (dx dL_37 2 rfl) rfl ?_
  refine r_iconst (v := nI 1) C (dx dL_37 3 rfl) rfl ?_
  refine rn_iadd (a := i) (b := 1) C (dx dL_37 4 rfl) ?_
  refine r_sld C S (by omega) (by omega) (dx dL_37 5 rfl) ?_
  refine r_aload_nT C (dx dL_37 6 rfl) rfl ?_
  refine r_iload_n C (dx dL_37 7 rfl) rfl ?_
  refine r_iconst (v := nI 2) C (dx dL_37 8 rfl) rfl ?_
  refine rn_iadd (a := i) (b := 2) C (dx dL_37 9 rfl) ?_
  refine r_sld C S (by omega) (by omega) (dx dL_37 10 rfl) ?_
  refine r_cv (as := [vi (xs (i + 1)), vi (xs (i + 2))]) (st := []) C X I_X6_gift l_L_174 (x_gift o hg (xs (i + 1)) (xs (i + 2))) (by decide) (Nat.le_of_ble_eq_true rfl) List.prefix_rfl (by rw [M.al]; exact ALall) rfl rfl (Nat.le_of_ble_eq_true rfl) rfl (dx dL_37 11 rfl) ?_
  rintro _ h1 ⟨⟨xh1, rfl⟩, ⟨uh1, oh1⟩, fh1⟩ kh1
  have Mh1 := M.fr9 fh1 kh1
  have yh1 := y.fr9 M fh1
  refine r_pop2L C (dx dL_37 12 rfl) ?_
  refine r_aload_n C (dx dL_37 13 rfl) rfl ?_
  refine r_aload_nT C (dx dL_37 14 rfl) rfl ?_
  refine r_iload_n C (dx dL_37 15 rfl) rfl ?_
  refine r_iconst (v := nI 1) C (dx dL_37 16 rfl) rfl ?_
  refine rn_iadd (a := i) (b := 1) C (dx dL_37 17 rfl) ?_
  refine r_sld C S (by omega) (by omega) (dx dL_37 18 rfl) ?_
  refine r_aload_nT C (dx dL_37 19 rfl) rfl ?_
  refine r_iload_n C (dx dL_37 20 rfl) rfl ?_
  refine r_iconst (v := nI 2) C (dx dL_37 21 rfl) rfl ?_
  refine rn_iadd (a := i) (b := 2) C (dx dL_37 22 rfl) ?_
  refine r_sld C S (by omega) (by omega) (dx dL_37 23 rfl) ?_
  obtain ⟨τh2, ph2, ch2⟩ := y7_gift (l := l) Mh1 yh1 ok (xs (i + 1)) (xs (i + 2))
  refine r_cv (as := [vi (xs (i + 1)), vi (xs (i + 2))]) (st := []) C X I_X7_gift l_L_177 ch2 (by decide) (Nat.le_of_ble_eq_true rfl) ph2 ALall rfl rfl (Nat.le_of_ble_eq_true rfl) rfl (dx dL_37 24 rfl) ?_
  rintro _ h2 ⟨⟨xh2, rfl⟩, Mh2, lh2, yh2⟩ kh2
  have oh2 := oh1.lo lh2
  refine r_pop2L C (dx dL_37 25 rfl) ?_
  refine r_goto (tgt := 1754) C (dx dL_37 26 rfl) (by decide) ?_
  exact kk h2 ⟨_, _, _, _, _, _, _, _, _, oh2, hg, Mh2, yh2, byt, ok, okw⟩
def tL_38 : List (Nat × Instr × Nat) := [(1370, .aload_n 1, 1), (1371, .aload_n 0, 1), (1372, .iload_n 3, 1), (1373, .iconst 1, 1), (1374, .iadd, 1), (1375, .iaload, 1), (1376, .ifCond .eq 7, 3), (1379, .iconst 1, 1), (1380, .goto 4, 3), (1383, .iconst 0, 1), (1384, .invokevirtual 178, 3), (1387, .pop, 1), (1388, .aload_n 2, 1), (1389, .aload_n 0, 1), (1390, .iload_n 3, 1), (1391, .iconst 1, 1), (1392, .iadd, 1), (1393, .iaload, 1), (1394, .ifCond .eq 7, 3), (1397, .iconst 1, 1), (1398, .goto 4, 3), (1401, .iconst 0, 1), (1402, .invokevirtual 182, 3), (1405, .pop, 1), (1406, .goto 348, 3)]
theorem dL_38 : dec_ok code tL_38 = true := by decide +kernel
set_option maxHeartbeats 4000000 in
theorem law_c38 {l : Launch} {G : Gt} {b L i : Nat} {xs : Nat → Int32} {h : Hp} (C : Cx G code 4 RL) (X : Rmx l G 2048 (AL P63 true true)) (S : SLw G b L xs) (hL : L ≤ 3072) (hi : i + 6 ≤ L) (inv : Lv h) (kk : ∀ h', Lv h' → Rr G 1754 [(0, vt 9000), (1, vr 6 0), (2, vr 7 63), (3, vi (nI i))] [] h') : Rr G 1370 [(0, vt 9000), (1, vr 6 0), (2, vr 7 63), (3, vi (nI i))] [] h := by
  obtain ⟨v, u, w, g, B, Bt, z, κ, τ, o, hg, M, y, byt, ok, okw⟩ := inv
  refine r_aload_n C (dx dL_38 0 rfl) rfl ?_
  refine r_aload_nT C (dx dL_38 1 rfl) rfl ?_
  refine r_iload_n C (dx dL_38 2 rfl) rfl ?_
  refine r_iconst (v := nI 1) C (dx dL_38 3 rfl) rfl ?_
  refine rn_iadd (a := i) (b := 1) C (dx dL_38 4 rfl) ?_
  refine r_sld C S (by omega) (by omega) (dx dL_38 5 rfl) ?_
  refine r_if_eq (tgt := 1383) C (dx dL_38 6 rfl) (by decide) (fun c1 => ?_) (fun c1 => ?_)
  ·
    refine r_iconst (v := nI 0) C (dx dL_38 9 rfl) rfl ?_
    refine r_cv (as := [vi (nI 0)]) (st := []) C X I_X6_never l_L_178 (x_never o hg false) (by decide) (Nat.le_of_ble_eq_true rfl) List.prefix_rfl (by rw [M.al]; exact ALall) rfl rfl (Nat.le_of_ble_eq_true rfl) rfl (dx dL_38 10 rfl) ?_
    rintro _ h2 ⟨⟨xh2, rfl⟩, ⟨uh2, oh2⟩, fh2⟩ kh2
    have Mh2 := M.fr9 fh2 kh2
    have yh2 := y.fr9 M fh2
    refine r_popI C (dx dL_38 11 rfl) ?_
    refine r_aload_n C (dx dL_38 12 rfl) rfl ?_
    refine r_aload_nT C (dx dL_38 13 rfl) rfl ?_
    refine r_iload_n C (dx dL_38 14 rfl) rfl ?_
    refine r_iconst (v := nI 1) C (dx dL_38 15 rfl) rfl ?_
    refine rn_iadd (a := i) (b := 1) C (dx dL_38 16 rfl) ?_
    refine r_sld C S (by omega) (by omega) (dx dL_38 17 rfl) ?_
    refine r_if_eq (tgt := 1401) C (dx dL_38 18 rfl) (by decide) (fun c3 => ?_) (fun c3 => ?_)
    ·
      refine r_iconst (v := nI 0) C (dx dL_38 21 rfl) rfl ?_
      obtain ⟨τh4, ph4, ch4⟩ := y7_never (l := l) Mh2 yh2 ok false
      refine r_cv (as := [vi (nI 0)]) (st := []) C X I_X7_never l_L_182 ch4 (by decide) (Nat.le_of_ble_eq_true rfl) ph4 ALall rfl rfl (Nat.le_of_ble_eq_true rfl) rfl (dx dL_38 22 rfl) ?_
      rintro _ h4 ⟨⟨xh4, rfl⟩, Mh4, lh4, yh4⟩ kh4
      have oh4 := oh2.lo lh4
      refine r_popI C (dx dL_38 23 rfl) ?_
      refine r_goto (tgt := 1754) C (dx dL_38 24 rfl) (by decide) ?_
      exact kk h4 ⟨_, _, _, _, _, _, _, _, _, oh4, hg, Mh4, yh4, byt, ok, okw⟩
    ·
      exact absurd c1 c3
  ·
    refine r_iconst (v := nI 1) C (dx dL_38 7 rfl) rfl ?_
    refine r_goto (tgt := 1384) C (dx dL_38 8 rfl) (by decide) ?_
    refine r_cv (as := [vi (nI 1)]) (st := []) C X I_X6_never l_L_178 (x_never o hg true) (by decide) (Nat.le_of_ble_eq_true rfl) List.prefix_rfl (by rw [M.al]; exact ALall) rfl rfl (Nat.le_of_ble_eq_true rfl) rfl (dx dL_38 10 rfl) ?_
    rintro _ h5 ⟨⟨xh5, rfl⟩, ⟨uh5, oh5⟩, fh5⟩ kh5
    have Mh5 := M.fr9 fh5 kh5
    have yh5 := y.fr9 M fh5
    refine r_popI C (dx dL_38 11 rfl) ?_
    refine r_aload_n C (dx dL_38 12 rfl) rfl ?_
    refine r_aload_nT C (dx dL_38 13 rfl) rfl ?_
    refine r_iload_n C (dx dL_38 14 rfl) rfl ?_
    refine r_iconst (v := nI 1) C (dx dL_38 15 rfl) rfl ?_
    refine rn_iadd (a := i) (b := 1) C (dx dL_38 16 rfl) ?_
    refine r_sld C S (by omega) (by omega) (dx dL_38 17 rfl) ?_
    refine r_if_eq (tgt := 1401) C (dx dL_38 18 rfl) (by decide) (fun c6 => ?_) (fun c6 => ?_)
    ·
      exact absurd c6 c1
    ·
      refine r_iconst (v := nI 1) C (dx dL_38 19 rfl) rfl ?_
      refine r_goto (tgt := 1402) C (dx dL_38 20 rfl) (by decide) ?_
      obtain ⟨τh7, ph7, ch7⟩ := y7_never (l := l) Mh5 yh5 ok true
      refine r_cv (as := [vi (nI 1)]) (st := []) C X I_X7_never l_L_182 ch7 (by decide) (Nat.le_of_ble_eq_true rfl) ph7 ALall rfl rfl (Nat.le_of_ble_eq_true rfl) rfl (dx dL_38 22 rfl) ?_
      rintro _ h7 ⟨⟨xh7, rfl⟩, Mh7, lh7, yh7⟩ kh7
      have oh7 := oh5.lo lh7
      refine r_popI C (dx dL_38 23 rfl) ?_
      refine r_goto (tgt := 1754) C (dx dL_38 24 rfl) (by decide) ?_
      exact kk h7 ⟨_, _, _, _, _, _, _, _, _, oh7, hg, Mh7, yh7, byt, ok, okw⟩
def tL_39 : List (Nat × Instr × Nat) := [(1409, .aload_n 1, 1), (1410, .aload_n 0, 1), (1411, .iload_n 3, 1), (1412, .iconst 1, 1), (1413, .iadd, 1), (1414, .iaload, 1), (1415, .invokevirtual 183, 3), (1418, .pop, 1), (1419, .aload_n 2, 1), (1420, .aload_n 0, 1), (1421, .iload_n 3, 1), (1422, .iconst 1, 1), (1423, .iadd, 1), (1424, .iaload, 1), (1425, .invokevirtual 186, 3), (1428, .pop, 1), (1429, .goto 325, 3)]
theorem dL_39 : dec_ok code tL_39 = true := by decide +kernel
set_option maxHeartbeats 4000000 in
theorem law_c39 {l : Launch} {G : Gt} {b L i : Nat} {xs : Nat → Int32} {h : Hp} (C : Cx G code 4 RL) (X : Rmx l G 2048 (AL P63 true true)) (S : SLw G b L xs) (hL : L ≤ 3072) (hi : i + 6 ≤ L) (inv : Lv h) (kk : ∀ h', Lv h' → Rr G 1754 [(0, vt 9000), (1, vr 6 0), (2, vr 7 63), (3, vi (nI i))] [] h') : Rr G 1409 [(0, vt 9000), (1, vr 6 0), (2, vr 7 63), (3, vi (nI i))] [] h := by
  obtain ⟨v, u, w, g, B, Bt, z, κ, τ, o, hg, M, y, byt, ok, okw⟩ := inv
  refine r_aload_n C (dx dL_39 0 rfl) rfl ?_
  refine r_aload_nT C (dx dL_39 1 rfl) rfl ?_
  refine r_iload_n C (dx dL_39 2 rfl) rfl ?_
  refine r_iconst (v := nI 1) C (dx dL_39 3 rfl) rfl ?_
  refine rn_iadd (a := i) (b := 1) C (dx dL_39 4 rfl) ?_
  refine r_sld C S (by omega) (by omega) (dx dL_39 5 rfl) ?_
  refine r_cv (as := [vi (xs (i + 1))]) (st := []) C X I_X6_with l_L_183 (x_with o hg (xs (i + 1))) (by decide) (Nat.le_of_ble_eq_true rfl) List.prefix_rfl (by rw [M.al]; exact ALall) rfl rfl (Nat.le_of_ble_eq_true rfl) rfl (dx dL_39 6 rfl) ?_
  rintro _ h1 ⟨⟨xh1, rfl⟩, ⟨uh1, oh1⟩, fh1⟩ kh1
  have Mh1 := M.fr9 fh1 kh1
  have yh1 := y.fr9 M fh1
  refine r_popI C (dx dL_39 7 rfl) ?_
  refine r_aload_n C (dx dL_39 8 rfl) rfl ?_
  refine r_aload_nT C (dx dL_39 9 rfl) rfl ?_
  refine r_iload_n C (dx dL_39 10 rfl) rfl ?_
  refine r_iconst (v := nI 1) C (dx dL_39 11 rfl) rfl ?_
  refine rn_iadd (a := i) (b := 1) C (dx dL_39 12 rfl) ?_
  refine r_sld C S (by omega) (by omega) (dx dL_39 13 rfl) ?_
  obtain ⟨τh2, ph2, ch2⟩ := y7_with (l := l) Mh1 yh1 ok (xs (i + 1))
  refine r_cv (as := [vi (xs (i + 1))]) (st := []) C X I_X7_with l_L_186 ch2 (by decide) (Nat.le_of_ble_eq_true rfl) ph2 ALall rfl rfl (Nat.le_of_ble_eq_true rfl) rfl (dx dL_39 14 rfl) ?_
  rintro _ h2 ⟨⟨xh2, rfl⟩, Mh2, lh2, yh2⟩ kh2
  have oh2 := oh1.lo lh2
  refine r_popI C (dx dL_39 15 rfl) ?_
  refine r_goto (tgt := 1754) C (dx dL_39 16 rfl) (by decide) ?_
  exact kk h2 ⟨_, _, _, _, _, _, _, _, _, oh2, hg, Mh2, yh2, byt, ok, okw⟩
def tL_40 : List (Nat × Instr × Nat) := [(1432, .aload_n 1, 1), (1433, .aload_n 0, 1), (1434, .iload_n 3, 1), (1435, .iconst 1, 1), (1436, .iadd, 1), (1437, .iaload, 1), (1438, .invokevirtual 187, 3), (1441, .pop, 1), (1442, .aload_n 2, 1), (1443, .aload_n 0, 1), (1444, .iload_n 3, 1), (1445, .iconst 1, 1), (1446, .iadd, 1), (1447, .iaload, 1), (1448, .invokevirtual 190, 3), (1451, .pop, 1), (1452, .goto 302, 3)]
theorem dL_40 : dec_ok code tL_40 = true := by decide +kernel
set_option maxHeartbeats 4000000 in
theorem law_c40 {l : Launch} {G : Gt} {b L i : Nat} {xs : Nat → Int32} {h : Hp} (C : Cx G code 4 RL) (X : Rmx l G 2048 (AL P63 true true)) (S : SLw G b L xs) (hL : L ≤ 3072) (hi : i + 6 ≤ L) (inv : Lv h) (kk : ∀ h', Lv h' → Rr G 1754 [(0, vt 9000), (1, vr 6 0), (2, vr 7 63), (3, vi (nI i))] [] h') : Rr G 1432 [(0, vt 9000), (1, vr 6 0), (2, vr 7 63), (3, vi (nI i))] [] h := by
  obtain ⟨v, u, w, g, B, Bt, z, κ, τ, o, hg, M, y, byt, ok, okw⟩ := inv
  refine r_aload_n C (dx dL_40 0 rfl) rfl ?_
  refine r_aload_nT C (dx dL_40 1 rfl) rfl ?_
  refine r_iload_n C (dx dL_40 2 rfl) rfl ?_
  refine r_iconst (v := nI 1) C (dx dL_40 3 rfl) rfl ?_
  refine rn_iadd (a := i) (b := 1) C (dx dL_40 4 rfl) ?_
  refine r_sld C S (by omega) (by omega) (dx dL_40 5 rfl) ?_
  refine r_cv (as := [vi (xs (i + 1))]) (st := []) C X I_X6_safe l_L_187 (x_safe o hg (xs (i + 1))) (by decide) (Nat.le_of_ble_eq_true rfl) List.prefix_rfl (by rw [M.al]; exact ALall) rfl rfl (Nat.le_of_ble_eq_true rfl) rfl (dx dL_40 6 rfl) ?_
  rintro _ h1 ⟨⟨xh1, rfl⟩, ⟨uh1, oh1⟩, fh1⟩ kh1
  have Mh1 := M.fr9 fh1 kh1
  have yh1 := y.fr9 M fh1
  refine r_popI C (dx dL_40 7 rfl) ?_
  refine r_aload_n C (dx dL_40 8 rfl) rfl ?_
  refine r_aload_nT C (dx dL_40 9 rfl) rfl ?_
  refine r_iload_n C (dx dL_40 10 rfl) rfl ?_
  refine r_iconst (v := nI 1) C (dx dL_40 11 rfl) rfl ?_
  refine rn_iadd (a := i) (b := 1) C (dx dL_40 12 rfl) ?_
  refine r_sld C S (by omega) (by omega) (dx dL_40 13 rfl) ?_
  obtain ⟨τh2, ph2, ch2⟩ := y7_safe (l := l) Mh1 yh1 ok (xs (i + 1))
  refine r_cv (as := [vi (xs (i + 1))]) (st := []) C X I_X7_safe l_L_190 ch2 (by decide) (Nat.le_of_ble_eq_true rfl) ph2 ALall rfl rfl (Nat.le_of_ble_eq_true rfl) rfl (dx dL_40 14 rfl) ?_
  rintro _ h2 ⟨⟨xh2, rfl⟩, Mh2, lh2, yh2⟩ kh2
  have oh2 := oh1.lo lh2
  refine r_popI C (dx dL_40 15 rfl) ?_
  refine r_goto (tgt := 1754) C (dx dL_40 16 rfl) (by decide) ?_
  exact kk h2 ⟨_, _, _, _, _, _, _, _, _, oh2, hg, Mh2, yh2, byt, ok, okw⟩
def tL_41 : List (Nat × Instr × Nat) := [(1455, .aload_n 1, 1), (1456, .aload_n 0, 1), (1457, .iload_n 3, 1), (1458, .iconst 1, 1), (1459, .iadd, 1), (1460, .iaload, 1), (1461, .invokevirtual 191, 3), (1464, .pop, 1), (1465, .aload_n 2, 1), (1466, .aload_n 0, 1), (1467, .iload_n 3, 1), (1468, .iconst 1, 1), (1469, .iadd, 1), (1470, .iaload, 1), (1471, .invokevirtual 194, 3), (1474, .pop, 1), (1475, .goto 279, 3)]
theorem dL_41 : dec_ok code tL_41 = true := by decide +kernel
set_option maxHeartbeats 4000000 in
theorem law_c41 {l : Launch} {G : Gt} {b L i : Nat} {xs : Nat → Int32} {h : Hp} (C : Cx G code 4 RL) (X : Rmx l G 2048 (AL P63 true true)) (S : SLw G b L xs) (hL : L ≤ 3072) (hi : i + 6 ≤ L) (inv : Lv h) (kk : ∀ h', Lv h' → Rr G 1754 [(0, vt 9000), (1, vr 6 0), (2, vr 7 63), (3, vi (nI i))] [] h') : Rr G 1455 [(0, vt 9000), (1, vr 6 0), (2, vr 7 63), (3, vi (nI i))] [] h := by
  obtain ⟨v, u, w, g, B, Bt, z, κ, τ, o, hg, M, y, byt, ok, okw⟩ := inv
  refine r_aload_n C (dx dL_41 0 rfl) rfl ?_
  refine r_aload_nT C (dx dL_41 1 rfl) rfl ?_
  refine r_iload_n C (dx dL_41 2 rfl) rfl ?_
  refine r_iconst (v := nI 1) C (dx dL_41 3 rfl) rfl ?_
  refine rn_iadd (a := i) (b := 1) C (dx dL_41 4 rfl) ?_
  refine r_sld C S (by omega) (by omega) (dx dL_41 5 rfl) ?_
  refine r_cv (as := [vi (xs (i + 1))]) (st := []) C X I_X6_alone l_L_191 (x_alone o hg (xs (i + 1))) (by decide) (Nat.le_of_ble_eq_true rfl) List.prefix_rfl (by rw [M.al]; exact ALall) rfl rfl (Nat.le_of_ble_eq_true rfl) rfl (dx dL_41 6 rfl) ?_
  rintro _ h1 ⟨⟨xh1, rfl⟩, ⟨uh1, oh1⟩, fh1⟩ kh1
  have Mh1 := M.fr9 fh1 kh1
  have yh1 := y.fr9 M fh1
  refine r_popI C (dx dL_41 7 rfl) ?_
  refine r_aload_n C (dx dL_41 8 rfl) rfl ?_
  refine r_aload_nT C (dx dL_41 9 rfl) rfl ?_
  refine r_iload_n C (dx dL_41 10 rfl) rfl ?_
  refine r_iconst (v := nI 1) C (dx dL_41 11 rfl) rfl ?_
  refine rn_iadd (a := i) (b := 1) C (dx dL_41 12 rfl) ?_
  refine r_sld C S (by omega) (by omega) (dx dL_41 13 rfl) ?_
  obtain ⟨τh2, ph2, ch2⟩ := y7_alone (l := l) Mh1 yh1 ok (xs (i + 1))
  refine r_cv (as := [vi (xs (i + 1))]) (st := []) C X I_X7_alone l_L_194 ch2 (by decide) (Nat.le_of_ble_eq_true rfl) ph2 ALall rfl rfl (Nat.le_of_ble_eq_true rfl) rfl (dx dL_41 14 rfl) ?_
  rintro _ h2 ⟨⟨xh2, rfl⟩, Mh2, lh2, yh2⟩ kh2
  have oh2 := oh1.lo lh2
  refine r_popI C (dx dL_41 15 rfl) ?_
  refine r_goto (tgt := 1754) C (dx dL_41 16 rfl) (by decide) ?_
  exact kk h2 ⟨_, _, _, _, _, _, _, _, _, oh2, hg, Mh2, yh2, byt, ok, okw⟩
def tL_42 : List (Nat × Instr × Nat) := [(1478, .aload_n 1, 1), (1479, .invokevirtual 195, 3), (1482, .pop, 1), (1483, .aload_n 2, 1), (1484, .invokevirtual 198, 3), (1487, .pop, 1), (1488, .goto 266, 3)]
theorem dL_42 : dec_ok code tL_42 = true := by decide +kernel
set_option maxHeartbeats 4000000 in
theorem law_c42 {l : Launch} {G : Gt} {b L i : Nat} {xs : Nat → Int32} {h : Hp} (C : Cx G code 4 RL) (X : Rmx l G 2048 (AL P63 true true)) (S : SLw G b L xs) (hL : L ≤ 3072) (hi : i + 6 ≤ L) (inv : Lv h) (kk : ∀ h', Lv h' → Rr G 1754 [(0, vt 9000), (1, vr 6 0), (2, vr 7 63), (3, vi (nI i))] [] h') : Rr G 1478 [(0, vt 9000), (1, vr 6 0), (2, vr 7 63), (3, vi (nI i))] [] h := by
  obtain ⟨v, u, w, g, B, Bt, z, κ, τ, o, hg, M, y, byt, ok, okw⟩ := inv
  refine r_aload_n C (dx dL_42 0 rfl) rfl ?_
  refine r_cv (as := []) (st := []) C X I_X6_key l_L_195 (x_key o hg ) (by decide) (Nat.le_of_ble_eq_true rfl) List.prefix_rfl (by rw [M.al]; exact ALall) rfl rfl (Nat.le_of_ble_eq_true rfl) rfl (dx dL_42 1 rfl) ?_
  rintro _ h1 ⟨⟨xh1, rfl⟩, ⟨uh1, oh1⟩, fh1⟩ kh1
  have Mh1 := M.fr9 fh1 kh1
  have yh1 := y.fr9 M fh1
  refine r_popI C (dx dL_42 2 rfl) ?_
  refine r_aload_n C (dx dL_42 3 rfl) rfl ?_
  obtain ⟨τh2, ph2, ch2⟩ := y7_key (l := l) Mh1 yh1 ok 
  refine r_cv (as := []) (st := []) C X I_X7_key l_L_198 ch2 (by decide) (Nat.le_of_ble_eq_true rfl) ph2 ALall rfl rfl (Nat.le_of_ble_eq_true rfl) rfl (dx dL_42 4 rfl) ?_
  rintro _ h2 ⟨⟨xh2, rfl⟩, Mh2, lh2, yh2⟩ kh2
  have oh2 := oh1.lo lh2
  refine r_popI C (dx dL_42 5 rfl) ?_
  refine r_goto (tgt := 1754) C (dx dL_42 6 rfl) (by decide) ?_
  exact kk h2 ⟨_, _, _, _, _, _, _, _, _, oh2, hg, Mh2, yh2, byt, ok, okw⟩
def tL_43 : List (Nat × Instr × Nat) := [(1491, .aload_n 1, 1), (1492, .invokevirtual 199, 3), (1495, .pop, 1), (1496, .aload_n 2, 1), (1497, .invokevirtual 202, 3), (1500, .pop, 1), (1501, .goto 253, 3)]
theorem dL_43 : dec_ok code tL_43 = true := by decide +kernel
set_option maxHeartbeats 4000000 in
theorem law_c43 {l : Launch} {G : Gt} {b L i : Nat} {xs : Nat → Int32} {h : Hp} (C : Cx G code 4 RL) (X : Rmx l G 2048 (AL P63 true true)) (S : SLw G b L xs) (hL : L ≤ 3072) (hi : i + 6 ≤ L) (inv : Lv h) (kk : ∀ h', Lv h' → Rr G 1754 [(0, vt 9000), (1, vr 6 0), (2, vr 7 63), (3, vi (nI i))] [] h') : Rr G 1491 [(0, vt 9000), (1, vr 6 0), (2, vr 7 63), (3, vi (nI i))] [] h := by
  obtain ⟨v, u, w, g, B, Bt, z, κ, τ, o, hg, M, y, byt, ok, okw⟩ := inv
  refine r_aload_n C (dx dL_43 0 rfl) rfl ?_
  refine r_cv (as := []) (st := []) C X I_X6_idle l_L_199 (x_idle o hg ) (by decide) (Nat.le_of_ble_eq_true rfl) List.prefix_rfl (by rw [M.al]; exact ALall) rfl rfl (Nat.le_of_ble_eq_true rfl) rfl (dx dL_43 1 rfl) ?_
  rintro _ h1 ⟨⟨xh1, rfl⟩, ⟨uh1, oh1⟩, fh1⟩ kh1
  have Mh1 := M.fr9 fh1 kh1
  have yh1 := y.fr9 M fh1
  refine r_popI C (dx dL_43 2 rfl) ?_
  refine r_aload_n C (dx dL_43 3 rfl) rfl ?_
  obtain ⟨τh2, ph2, ch2⟩ := y7_idle (l := l) Mh1 yh1 ok 
  refine r_cv (as := []) (st := []) C X I_X7_idle l_L_202 ch2 (by decide) (Nat.le_of_ble_eq_true rfl) ph2 ALall rfl rfl (Nat.le_of_ble_eq_true rfl) rfl (dx dL_43 4 rfl) ?_
  rintro _ h2 ⟨⟨xh2, rfl⟩, Mh2, lh2, yh2⟩ kh2
  have oh2 := oh1.lo lh2
  refine r_popI C (dx dL_43 5 rfl) ?_
  refine r_goto (tgt := 1754) C (dx dL_43 6 rfl) (by decide) ?_
  exact kk h2 ⟨_, _, _, _, _, _, _, _, _, oh2, hg, Mh2, yh2, byt, ok, okw⟩
def tL_44 : List (Nat × Instr × Nat) := [(1504, .aload_n 1, 1), (1505, .invokevirtual 203, 3), (1508, .pop, 1), (1509, .aload_n 2, 1), (1510, .invokevirtual 206, 3), (1513, .pop, 1), (1514, .goto 240, 3)]
theorem dL_44 : dec_ok code tL_44 = true := by decide +kernel
set_option maxHeartbeats 4000000 in
theorem law_c44 {l : Launch} {G : Gt} {b L i : Nat} {xs : Nat → Int32} {h : Hp} (C : Cx G code 4 RL) (X : Rmx l G 2048 (AL P63 true true)) (S : SLw G b L xs) (hL : L ≤ 3072) (hi : i + 6 ≤ L) (inv : Lv h) (kk : ∀ h', Lv h' → Rr G 1754 [(0, vt 9000), (1, vr 6 0), (2, vr 7 63), (3, vi (nI i))] [] h') : Rr G 1504 [(0, vt 9000), (1, vr 6 0), (2, vr 7 63), (3, vi (nI i))] [] h := by
  obtain ⟨v, u, w, g, B, Bt, z, κ, τ, o, hg, M, y, byt, ok, okw⟩ := inv
  refine r_aload_n C (dx dL_44 0 rfl) rfl ?_
  refine r_cv (as := []) (st := []) C X I_X6_room l_L_203 (x_room o hg ) (by decide) (Nat.le_of_ble_eq_true rfl) List.prefix_rfl (by rw [M.al]; exact ALall) rfl rfl (Nat.le_of_ble_eq_true rfl) rfl (dx dL_44 1 rfl) ?_
  rintro _ h1 ⟨⟨xh1, rfl⟩, ⟨uh1, oh1⟩, fh1⟩ kh1
  have Mh1 := M.fr9 fh1 kh1
  have yh1 := y.fr9 M fh1
  refine r_popI C (dx dL_44 2 rfl) ?_
  refine r_aload_n C (dx dL_44 3 rfl) rfl ?_
  obtain ⟨τh2, ph2, ch2⟩ := y7_room (l := l) Mh1 yh1 ok 
  refine r_cv (as := []) (st := []) C X I_X7_room l_L_206 ch2 (by decide) (Nat.le_of_ble_eq_true rfl) ph2 ALall rfl rfl (Nat.le_of_ble_eq_true rfl) rfl (dx dL_44 4 rfl) ?_
  rintro _ h2 ⟨⟨xh2, rfl⟩, Mh2, lh2, yh2⟩ kh2
  have oh2 := oh1.lo lh2
  refine r_popI C (dx dL_44 5 rfl) ?_
  refine r_goto (tgt := 1754) C (dx dL_44 6 rfl) (by decide) ?_
  exact kk h2 ⟨_, _, _, _, _, _, _, _, _, oh2, hg, Mh2, yh2, byt, ok, okw⟩
def tL_45 : List (Nat × Instr × Nat) := [(1517, .aload_n 1, 1), (1518, .aload_n 0, 1), (1519, .iload_n 3, 1), (1520, .iconst 1, 1), (1521, .iadd, 1), (1522, .iaload, 1), (1523, .aload_n 0, 1), (1524, .iload_n 3, 1), (1525, .iconst 2, 1), (1526, .iadd, 1), (1527, .iaload, 1), (1528, .invokevirtual 207, 3), (1531, .pop, 1), (1532, .aload_n 2, 1), (1533, .aload_n 0, 1), (1534, .iload_n 3, 1), (1535, .iconst 1, 1), (1536, .iadd, 1), (1537, .iaload, 1), (1538, .aload_n 0, 1), (1539, .iload_n 3, 1), (1540, .iconst 2, 1), (1541, .iadd, 1), (1542, .iaload, 1), (1543, .invokevirtual 210, 3), (1546, .pop, 1), (1547, .goto 207, 3)]
theorem dL_45 : dec_ok code tL_45 = true := by decide +kernel
set_option maxHeartbeats 4000000 in
theorem law_c45 {l : Launch} {G : Gt} {b L i : Nat} {xs : Nat → Int32} {h : Hp} (C : Cx G code 4 RL) (X : Rmx l G 2048 (AL P63 true true)) (S : SLw G b L xs) (hL : L ≤ 3072) (hi : i + 6 ≤ L) (inv : Lv h) (kk : ∀ h', Lv h' → Rr G 1754 [(0, vt 9000), (1, vr 6 0), (2, vr 7 63), (3, vi (nI i))] [] h') : Rr G 1517 [(0, vt 9000), (1, vr 6 0), (2, vr 7 63), (3, vi (nI i))] [] h := by
  obtain ⟨v, u, w, g, B, Bt, z, κ, τ, o, hg, M, y, byt, ok, okw⟩ := inv
  refine r_aload_n C (dx dL_45 0 rfl) rfl ?_
  refine r_aload_nT C (dx dL_45 1 rfl) rfl ?_
  refine r_iload_n C (dx dL_45 2 rfl) rfl ?_
  refine r_iconst (v := nI 1) C (dx dL_45 3 rfl) rfl ?_
  refine rn_iadd (a := i) (b := 1) C (dx dL_45 4 rfl) ?_
  refine r_sld C S (by omega) (by omega) (dx dL_45 5 rfl) ?_
  refine r_aload_nT C (dx dL_45 6 rfl) rfl ?_
  refine r_iload_n C (dx dL_45 7 rfl) rfl ?_
  refine r_iconst (v := nI 2) C (dx dL_45 8 rfl) rfl ?_
  refine rn_iadd (a := i) (b := 2) C (dx dL_45 9 rfl) ?_
  refine r_sld C S (by omega) (by omega) (dx dL_45 10 rfl) ?_
  refine r_cv (as := [vi (xs (i + 1)), vi (xs (i + 2))]) (st := []) C X I_X6_swap l_L_207 (x_swap o hg (xs (i + 1)) (xs (i + 2))) (by decide) (Nat.le_of_ble_eq_true rfl) List.prefix_rfl (by rw [M.al]; exact ALall) rfl rfl (Nat.le_of_ble_eq_true rfl) rfl (dx dL_45 11 rfl) ?_
  rintro _ h1 ⟨rfl, ⟨uh1, oh1⟩, fh1⟩ kh1
  have Mh1 := M.fr9 fh1 kh1
  have yh1 := y.fr9 M fh1
  refine r_popI C (dx dL_45 12 rfl) ?_
  refine r_aload_n C (dx dL_45 13 rfl) rfl ?_
  refine r_aload_nT C (dx dL_45 14 rfl) rfl ?_
  refine r_iload_n C (dx dL_45 15 rfl) rfl ?_
  refine r_iconst (v := nI 1) C (dx dL_45 16 rfl) rfl ?_
  refine rn_iadd (a := i) (b := 1) C (dx dL_45 17 rfl) ?_
  refine r_sld C S (by omega) (by omega) (dx dL_45 18 rfl) ?_
  refine r_aload_nT C (dx dL_45 19 rfl) rfl ?_
  refine r_iload_n C (dx dL_45 20 rfl) rfl ?_
  refine r_iconst (v := nI 2) C (dx dL_45 21 rfl) rfl ?_
  refine rn_iadd (a := i) (b := 2) C (dx dL_45 22 rfl) ?_
  refine r_sld C S (by omega) (by omega) (dx dL_45 23 rfl) ?_
  obtain ⟨τh2, ph2, ch2⟩ := y7_swap (l := l) Mh1 yh1 ok (xs (i + 1)) (xs (i + 2))
  refine r_cv (as := [vi (xs (i + 1)), vi (xs (i + 2))]) (st := []) C X I_X7_swap l_L_210 ch2 (by decide) (Nat.le_of_ble_eq_true rfl) ph2 ALall rfl rfl (Nat.le_of_ble_eq_true rfl) rfl (dx dL_45 24 rfl) ?_
  rintro _ h2 ⟨rfl, Mh2, lh2, yh2⟩ kh2
  have oh2 := oh1.lo lh2
  refine r_popI C (dx dL_45 25 rfl) ?_
  refine r_goto (tgt := 1754) C (dx dL_45 26 rfl) (by decide) ?_
  exact kk h2 ⟨_, _, _, _, _, _, _, _, _, oh2, hg, Mh2, yh2, byt, (ok_swapV ok _ _), okw⟩
def tL_46 : List (Nat × Instr × Nat) := [(1550, .aload_n 1, 1), (1551, .aload_n 0, 1), (1552, .iload_n 3, 1), (1553, .iconst 1, 1), (1554, .iadd, 1), (1555, .iaload, 1), (1556, .aload_n 0, 1), (1557, .iload_n 3, 1), (1558, .iconst 2, 1), (1559, .iadd, 1), (1560, .iaload, 1), (1561, .invokevirtual 211, 3), (1564, .pop2, 1), (1565, .aload_n 2, 1), (1566, .aload_n 0, 1), (1567, .iload_n 3, 1), (1568, .iconst 1, 1), (1569, .iadd, 1), (1570, .iaload, 1), (1571, .aload_n 0, 1), (1572, .iload_n 3, 1), (1573, .iconst 2, 1), (1574, .iadd, 1), (1575, .iaload, 1), (1576, .invokevirtual 214, 3), (1579, .pop2, 1), (1580, .goto 174, 3)]
theorem dL_46 : dec_ok code tL_46 = true := by decide +kernel
set_option maxHeartbeats 4000000 in
theorem law_c46 {l : Launch} {G : Gt} {b L i : Nat} {xs : Nat → Int32} {h : Hp} (C : Cx G code 4 RL) (X : Rmx l G 2048 (AL P63 true true)) (S : SLw G b L xs) (hL : L ≤ 3072) (hi : i + 6 ≤ L) (inv : Lv h) (kk : ∀ h', Lv h' → Rr G 1754 [(0, vt 9000), (1, vr 6 0), (2, vr 7 63), (3, vi (nI i))] [] h') : Rr G 1550 [(0, vt 9000), (1, vr 6 0), (2, vr 7 63), (3, vi (nI i))] [] h := by
  obtain ⟨v, u, w, g, B, Bt, z, κ, τ, o, hg, M, y, byt, ok, okw⟩ := inv
  refine r_aload_n C (dx dL_46 0 rfl) rfl ?_
  refine r_aload_nT C (dx dL_46 1 rfl) rfl ?_
  refine r_iload_n C (dx dL_46 2 rfl) rfl ?_
  refine r_iconst (v := nI 1) C (dx dL_46 3 rfl) rfl ?_
  refine rn_iadd (a := i) (b := 1) C (dx dL_46 4 rfl) ?_
  refine r_sld C S (by omega) (by omega) (dx dL_46 5 rfl) ?_
  refine r_aload_nT C (dx dL_46 6 rfl) rfl ?_
  refine r_iload_n C (dx dL_46 7 rfl) rfl ?_
  refine r_iconst (v := nI 2) C (dx dL_46 8 rfl) rfl ?_
  refine rn_iadd (a := i) (b := 2) C (dx dL_46 9 rfl) ?_
  refine r_sld C S (by omega) (by omega) (dx dL_46 10 rfl) ?_
  refine r_cv (as := [vi (xs (i + 1)), vi (xs (i + 2))]) (st := []) C X I_X6_trust l_L_211 (x_trust o hg (xs (i + 1)) (xs (i + 2))) (by decide) (Nat.le_of_ble_eq_true rfl) List.prefix_rfl (by rw [M.al]; exact ALall) rfl rfl (Nat.le_of_ble_eq_true rfl) rfl (dx dL_46 11 rfl) ?_
  rintro _ h1 ⟨⟨xh1, rfl⟩, ⟨uh1, oh1⟩, fh1⟩ kh1
  have Mh1 := M.fr9 fh1 kh1
  have yh1 := y.fr9 M fh1
  refine r_pop2L C (dx dL_46 12 rfl) ?_
  refine r_aload_n C (dx dL_46 13 rfl) rfl ?_
  refine r_aload_nT C (dx dL_46 14 rfl) rfl ?_
  refine r_iload_n C (dx dL_46 15 rfl) rfl ?_
  refine r_iconst (v := nI 1) C (dx dL_46 16 rfl) rfl ?_
  refine rn_iadd (a := i) (b := 1) C (dx dL_46 17 rfl) ?_
  refine r_sld C S (by omega) (by omega) (dx dL_46 18 rfl) ?_
  refine r_aload_nT C (dx dL_46 19 rfl) rfl ?_
  refine r_iload_n C (dx dL_46 20 rfl) rfl ?_
  refine r_iconst (v := nI 2) C (dx dL_46 21 rfl) rfl ?_
  refine rn_iadd (a := i) (b := 2) C (dx dL_46 22 rfl) ?_
  refine r_sld C S (by omega) (by omega) (dx dL_46 23 rfl) ?_
  obtain ⟨τh2, ph2, ch2⟩ := y7_trust (l := l) Mh1 yh1 ok (xs (i + 1)) (xs (i + 2))
  refine r_cv (as := [vi (xs (i + 1)), vi (xs (i + 2))]) (st := []) C X I_X7_trust l_L_214 ch2 (by decide) (Nat.le_of_ble_eq_true rfl) ph2 ALall rfl rfl (Nat.le_of_ble_eq_true rfl) rfl (dx dL_46 24 rfl) ?_
  rintro _ h2 ⟨⟨xh2, rfl⟩, Mh2, lh2, yh2⟩ kh2
  have oh2 := oh1.lo lh2
  refine r_pop2L C (dx dL_46 25 rfl) ?_
  refine r_goto (tgt := 1754) C (dx dL_46 26 rfl) (by decide) ?_
  exact kk h2 ⟨_, _, _, _, _, _, _, _, _, oh2, hg, Mh2, yh2, byt, ok, okw⟩
def tL_47 : List (Nat × Instr × Nat) := [(1583, .aload_n 1, 1), (1584, .aload_n 0, 1), (1585, .iload_n 3, 1), (1586, .iconst 1, 1), (1587, .iadd, 1), (1588, .iaload, 1), (1589, .aload_n 0, 1), (1590, .iload_n 3, 1), (1591, .iconst 2, 1), (1592, .iadd, 1), (1593, .iaload, 1), (1594, .aload_n 0, 1), (1595, .iload_n 3, 1), (1596, .iconst 3, 1), (1597, .iadd, 1), (1598, .iaload, 1), (1599, .invokevirtual 215, 3), (1602, .pop, 1), (1603, .aload_n 2, 1), (1604, .aload_n 0, 1), (1605, .iload_n 3, 1), (1606, .iconst 1, 1), (1607, .iadd, 1), (1608, .iaload, 1), (1609, .aload_n 0, 1), (1610, .iload_n 3, 1), (1611, .iconst 2, 1), (1612, .iadd, 1), (1613, .iaload, 1), (1614, .aload_n 0, 1), (1615, .iload_n 3, 1), (1616, .iconst 3, 1), (1617, .iadd, 1), (1618, .iaload, 1), (1619, .invokevirtual 218, 3), (1622, .pop, 1), (1623, .goto 131, 3)]
theorem dL_47 : dec_ok code tL_47 = true := by decide +kernel
set_option maxHeartbeats 4000000 in
theorem law_c47 {l : Launch} {G : Gt} {b L i : Nat} {xs : Nat → Int32} {h : Hp} (C : Cx G code 4 RL) (X : Rmx l G 2048 (AL P63 true true)) (S : SLw G b L xs) (hL : L ≤ 3072) (hi : i + 6 ≤ L) (inv : Lv h) (kk : ∀ h', Lv h' → Rr G 1754 [(0, vt 9000), (1, vr 6 0), (2, vr 7 63), (3, vi (nI i))] [] h') : Rr G 1583 [(0, vt 9000), (1, vr 6 0), (2, vr 7 63), (3, vi (nI i))] [] h := by
  obtain ⟨v, u, w, g, B, Bt, z, κ, τ, o, hg, M, y, byt, ok, okw⟩ := inv
  refine r_aload_n C (dx dL_47 0 rfl) rfl ?_
  refine r_aload_nT C (dx dL_47 1 rfl) rfl ?_
  refine r_iload_n C (dx dL_47 2 rfl) rfl ?_
  refine r_iconst (v := nI 1) C (dx dL_47 3 rfl) rfl ?_
  refine rn_iadd (a := i) (b := 1) C (dx dL_47 4 rfl) ?_
  refine r_sld C S (by omega) (by omega) (dx dL_47 5 rfl) ?_
  refine r_aload_nT C (dx dL_47 6 rfl) rfl ?_
  refine r_iload_n C (dx dL_47 7 rfl) rfl ?_
  refine r_iconst (v := nI 2) C (dx dL_47 8 rfl) rfl ?_
  refine rn_iadd (a := i) (b := 2) C (dx dL_47 9 rfl) ?_
  refine r_sld C S (by omega) (by omega) (dx dL_47 10 rfl) ?_
  refine r_aload_nT C (dx dL_47 11 rfl) rfl ?_
  refine r_iload_n C (dx dL_47 12 rfl) rfl ?_
  refine r_iconst (v := nI 3) C (dx dL_47 13 rfl) rfl ?_
  refine rn_iadd (a := i) (b := 3) C (dx dL_47 14 rfl) ?_
  refine r_sld C S (by omega) (by omega) (dx dL_47 15 rfl) ?_
  refine r_cv (as := [vi (xs (i + 1)), vi (xs (i + 2)), vi (xs (i + 3))]) (st := []) C X I_X6_judge l_L_215 (x_judge o hg (xs (i + 1)) (xs (i + 2)) (xs (i + 3))) (by decide) (Nat.le_of_ble_eq_true rfl) List.prefix_rfl (by rw [M.al]; exact ALall) rfl rfl (Nat.le_of_ble_eq_true rfl) rfl (dx dL_47 16 rfl) ?_
  rintro _ h1 ⟨⟨xh1, rfl⟩, ⟨uh1, oh1⟩, fh1⟩ kh1
  have Mh1 := M.fr9 fh1 kh1
  have yh1 := y.fr9 M fh1
  refine r_popI C (dx dL_47 17 rfl) ?_
  refine r_aload_n C (dx dL_47 18 rfl) rfl ?_
  refine r_aload_nT C (dx dL_47 19 rfl) rfl ?_
  refine r_iload_n C (dx dL_47 20 rfl) rfl ?_
  refine r_iconst (v := nI 1) C (dx dL_47 21 rfl) rfl ?_
  refine rn_iadd (a := i) (b := 1) C (dx dL_47 22 rfl) ?_
  refine r_sld C S (by omega) (by omega) (dx dL_47 23 rfl) ?_
  refine r_aload_nT C (dx dL_47 24 rfl) rfl ?_
  refine r_iload_n C (dx dL_47 25 rfl) rfl ?_
  refine r_iconst (v := nI 2) C (dx dL_47 26 rfl) rfl ?_
  refine rn_iadd (a := i) (b := 2) C (dx dL_47 27 rfl) ?_
  refine r_sld C S (by omega) (by omega) (dx dL_47 28 rfl) ?_
  refine r_aload_nT C (dx dL_47 29 rfl) rfl ?_
  refine r_iload_n C (dx dL_47 30 rfl) rfl ?_
  refine r_iconst (v := nI 3) C (dx dL_47 31 rfl) rfl ?_
  refine rn_iadd (a := i) (b := 3) C (dx dL_47 32 rfl) ?_
  refine r_sld C S (by omega) (by omega) (dx dL_47 33 rfl) ?_
  obtain ⟨τh2, ph2, ch2⟩ := y7_judge (l := l) Mh1 yh1 ok (xs (i + 1)) (xs (i + 2)) (xs (i + 3))
  refine r_cv (as := [vi (xs (i + 1)), vi (xs (i + 2)), vi (xs (i + 3))]) (st := []) C X I_X7_judge l_L_218 ch2 (by decide) (Nat.le_of_ble_eq_true rfl) ph2 ALall rfl rfl (Nat.le_of_ble_eq_true rfl) rfl (dx dL_47 34 rfl) ?_
  rintro _ h2 ⟨⟨xh2, rfl⟩, Mh2, lh2, yh2⟩ kh2
  have oh2 := oh1.lo lh2
  refine r_popI C (dx dL_47 35 rfl) ?_
  refine r_goto (tgt := 1754) C (dx dL_47 36 rfl) (by decide) ?_
  exact kk h2 ⟨_, _, _, _, _, _, _, _, _, oh2, hg, Mh2, yh2, byt, ok, okw⟩
def tL_48 : List (Nat × Instr × Nat) := [(1626, .aload_n 1, 1), (1627, .aload_n 0, 1), (1628, .iload_n 3, 1), (1629, .iconst 1, 1), (1630, .iadd, 1), (1631, .iaload, 1), (1632, .aload_n 0, 1), (1633, .iload_n 3, 1), (1634, .iconst 2, 1), (1635, .iadd, 1), (1636, .iaload, 1), (1637, .invokevirtual 219, 3), (1640, .pop, 1), (1641, .aload_n 2, 1), (1642, .aload_n 0, 1), (1643, .iload_n 3, 1), (1644, .iconst 1, 1), (1645, .iadd, 1), (1646, .iaload, 1), (1647, .aload_n 0, 1), (1648, .iload_n 3, 1), (1649, .iconst 2, 1), (1650, .iadd, 1), (1651, .iaload, 1), (1652, .invokevirtual 222, 3), (1655, .pop, 1), (1656, .goto 98, 3)]
theorem dL_48 : dec_ok code tL_48 = true := by decide +kernel
set_option maxHeartbeats 4000000 in
theorem law_c48 {l : Launch} {G : Gt} {b L i : Nat} {xs : Nat → Int32} {h : Hp} (C : Cx G code 4 RL) (X : Rmx l G 2048 (AL P63 true true)) (S : SLw G b L xs) (hL : L ≤ 3072) (hi : i + 6 ≤ L) (inv : Lv h) (kk : ∀ h', Lv h' → Rr G 1754 [(0, vt 9000), (1, vr 6 0), (2, vr 7 63), (3, vi (nI i))] [] h') : Rr G 1626 [(0, vt 9000), (1, vr 6 0), (2, vr 7 63), (3, vi (nI i))] [] h := by
  obtain ⟨v, u, w, g, B, Bt, z, κ, τ, o, hg, M, y, byt, ok, okw⟩ := inv
  refine r_aload_n C (dx dL_48 0 rfl) rfl ?_
  refine r_aload_nT C (dx dL_48 1 rfl) rfl ?_
  refine r_iload_n C (dx dL_48 2 rfl) rfl ?_
  refine r_iconst (v := nI 1) C (dx dL_48 3 rfl) rfl ?_
  refine rn_iadd (a := i) (b := 1) C (dx dL_48 4 rfl) ?_
  refine r_sld C S (by omega) (by omega) (dx dL_48 5 rfl) ?_
  refine r_aload_nT C (dx dL_48 6 rfl) rfl ?_
  refine r_iload_n C (dx dL_48 7 rfl) rfl ?_
  refine r_iconst (v := nI 2) C (dx dL_48 8 rfl) rfl ?_
  refine rn_iadd (a := i) (b := 2) C (dx dL_48 9 rfl) ?_
  refine r_sld C S (by omega) (by omega) (dx dL_48 10 rfl) ?_
  refine r_cv (as := [vi (xs (i + 1)), vi (xs (i + 2))]) (st := []) C X I_X6_told l_L_219 (x_told o hg (xs (i + 1)) (xs (i + 2))) (by decide) (Nat.le_of_ble_eq_true rfl) List.prefix_rfl (by rw [M.al]; exact ALall) rfl rfl (Nat.le_of_ble_eq_true rfl) rfl (dx dL_48 11 rfl) ?_
  rintro _ h1 ⟨⟨xh1, rfl⟩, ⟨uh1, oh1⟩, fh1⟩ kh1
  have Mh1 := M.fr9 fh1 kh1
  have yh1 := y.fr9 M fh1
  refine r_popI C (dx dL_48 12 rfl) ?_
  refine r_aload_n C (dx dL_48 13 rfl) rfl ?_
  refine r_aload_nT C (dx dL_48 14 rfl) rfl ?_
  refine r_iload_n C (dx dL_48 15 rfl) rfl ?_
  refine r_iconst (v := nI 1) C (dx dL_48 16 rfl) rfl ?_
  refine rn_iadd (a := i) (b := 1) C (dx dL_48 17 rfl) ?_
  refine r_sld C S (by omega) (by omega) (dx dL_48 18 rfl) ?_
  refine r_aload_nT C (dx dL_48 19 rfl) rfl ?_
  refine r_iload_n C (dx dL_48 20 rfl) rfl ?_
  refine r_iconst (v := nI 2) C (dx dL_48 21 rfl) rfl ?_
  refine rn_iadd (a := i) (b := 2) C (dx dL_48 22 rfl) ?_
  refine r_sld C S (by omega) (by omega) (dx dL_48 23 rfl) ?_
  obtain ⟨τh2, ph2, ch2⟩ := y7_told (l := l) Mh1 yh1 ok (xs (i + 1)) (xs (i + 2))
  refine r_cv (as := [vi (xs (i + 1)), vi (xs (i + 2))]) (st := []) C X I_X7_told l_L_222 ch2 (by decide) (Nat.le_of_ble_eq_true rfl) ph2 ALall rfl rfl (Nat.le_of_ble_eq_true rfl) rfl (dx dL_48 24 rfl) ?_
  rintro _ h2 ⟨⟨xh2, rfl⟩, Mh2, lh2, yh2⟩ kh2
  have oh2 := oh1.lo lh2
  refine r_popI C (dx dL_48 25 rfl) ?_
  refine r_goto (tgt := 1754) C (dx dL_48 26 rfl) (by decide) ?_
  exact kk h2 ⟨_, _, _, _, _, _, _, _, _, oh2, hg, Mh2, yh2, byt, ok, okw⟩
def tL_49 : List (Nat × Instr × Nat) := [(1659, .aload_n 1, 1), (1660, .aload_n 0, 1), (1661, .iload_n 3, 1), (1662, .iconst 1, 1), (1663, .iadd, 1), (1664, .iaload, 1), (1665, .invokevirtual 223, 3), (1668, .pop, 1), (1669, .aload_n 2, 1), (1670, .aload_n 0, 1), (1671, .iload_n 3, 1), (1672, .iconst 1, 1), (1673, .iadd, 1), (1674, .iaload, 1), (1675, .invokevirtual 226, 3), (1678, .pop, 1), (1679, .goto 75, 3)]
theorem dL_49 : dec_ok code tL_49 = true := by decide +kernel
set_option maxHeartbeats 4000000 in
theorem law_c49 {l : Launch} {G : Gt} {b L i : Nat} {xs : Nat → Int32} {h : Hp} (C : Cx G code 4 RL) (X : Rmx l G 2048 (AL P63 true true)) (S : SLw G b L xs) (hL : L ≤ 3072) (hi : i + 6 ≤ L) (inv : Lv h) (kk : ∀ h', Lv h' → Rr G 1754 [(0, vt 9000), (1, vr 6 0), (2, vr 7 63), (3, vi (nI i))] [] h') : Rr G 1659 [(0, vt 9000), (1, vr 6 0), (2, vr 7 63), (3, vi (nI i))] [] h := by
  obtain ⟨v, u, w, g, B, Bt, z, κ, τ, o, hg, M, y, byt, ok, okw⟩ := inv
  refine r_aload_n C (dx dL_49 0 rfl) rfl ?_
  refine r_aload_nT C (dx dL_49 1 rfl) rfl ?_
  refine r_iload_n C (dx dL_49 2 rfl) rfl ?_
  refine r_iconst (v := nI 1) C (dx dL_49 3 rfl) rfl ?_
  refine rn_iadd (a := i) (b := 1) C (dx dL_49 4 rfl) ?_
  refine r_sld C S (by omega) (by omega) (dx dL_49 5 rfl) ?_
  refine r_cv (as := [vi (xs (i + 1))]) (st := []) C X I_X6_days l_L_223 (x_days o hg (xs (i + 1))) (by decide) (Nat.le_of_ble_eq_true rfl) List.prefix_rfl (by rw [M.al]; exact ALall) rfl rfl (Nat.le_of_ble_eq_true rfl) rfl (dx dL_49 6 rfl) ?_
  rintro _ h1 ⟨rfl, ⟨uh1, oh1⟩, fh1⟩ kh1
  have Mh1 := M.fr9 fh1 kh1
  have yh1 := y.fr9 M fh1
  refine r_popI C (dx dL_49 7 rfl) ?_
  refine r_aload_n C (dx dL_49 8 rfl) rfl ?_
  refine r_aload_nT C (dx dL_49 9 rfl) rfl ?_
  refine r_iload_n C (dx dL_49 10 rfl) rfl ?_
  refine r_iconst (v := nI 1) C (dx dL_49 11 rfl) rfl ?_
  refine rn_iadd (a := i) (b := 1) C (dx dL_49 12 rfl) ?_
  refine r_sld C S (by omega) (by omega) (dx dL_49 13 rfl) ?_
  obtain ⟨τh2, ph2, ch2⟩ := y7_days (l := l) Mh1 yh1 ok (xs (i + 1))
  refine r_cv (as := [vi (xs (i + 1))]) (st := []) C X I_X7_days l_L_226 ch2 (by decide) (Nat.le_of_ble_eq_true rfl) ph2 ALall rfl rfl (Nat.le_of_ble_eq_true rfl) rfl (dx dL_49 14 rfl) ?_
  rintro _ h2 ⟨rfl, Mh2, lh2, yh2⟩ kh2
  have oh2 := oh1.lo lh2
  refine r_popI C (dx dL_49 15 rfl) ?_
  refine r_goto (tgt := 1754) C (dx dL_49 16 rfl) (by decide) ?_
  exact kk h2 ⟨_, _, _, _, _, _, _, _, _, oh2, hg, Mh2, yh2, byt, (ok_days ok _), okw⟩
def tL_50 : List (Nat × Instr × Nat) := [(1682, .aload_n 1, 1), (1683, .aload_n 0, 1), (1684, .iload_n 3, 1), (1685, .iconst 1, 1), (1686, .iadd, 1), (1687, .iaload, 1), (1688, .invokevirtual 227, 3), (1691, .pop, 1), (1692, .aload_n 2, 1), (1693, .aload_n 0, 1), (1694, .iload_n 3, 1), (1695, .iconst 1, 1), (1696, .iadd, 1), (1697, .iaload, 1), (1698, .invokevirtual 230, 3), (1701, .pop, 1), (1702, .goto 52, 3)]
theorem dL_50 : dec_ok code tL_50 = true := by decide +kernel
set_option maxHeartbeats 4000000 in
theorem law_c50 {l : Launch} {G : Gt} {b L i : Nat} {xs : Nat → Int32} {h : Hp} (C : Cx G code 4 RL) (X : Rmx l G 2048 (AL P63 true true)) (S : SLw G b L xs) (hL : L ≤ 3072) (hi : i + 6 ≤ L) (inv : Lv h) (kk : ∀ h', Lv h' → Rr G 1754 [(0, vt 9000), (1, vr 6 0), (2, vr 7 63), (3, vi (nI i))] [] h') : Rr G 1682 [(0, vt 9000), (1, vr 6 0), (2, vr 7 63), (3, vi (nI i))] [] h := by
  obtain ⟨v, u, w, g, B, Bt, z, κ, τ, o, hg, M, y, byt, ok, okw⟩ := inv
  refine r_aload_n C (dx dL_50 0 rfl) rfl ?_
  refine r_aload_nT C (dx dL_50 1 rfl) rfl ?_
  refine r_iload_n C (dx dL_50 2 rfl) rfl ?_
  refine r_iconst (v := nI 1) C (dx dL_50 3 rfl) rfl ?_
  refine rn_iadd (a := i) (b := 1) C (dx dL_50 4 rfl) ?_
  refine r_sld C S (by omega) (by omega) (dx dL_50 5 rfl) ?_
  refine r_cv (as := [vi (xs (i + 1))]) (st := []) C X I_X6_seed l_L_227 (x_seed o hg (xs (i + 1))) (by decide) (Nat.le_of_ble_eq_true rfl) List.prefix_rfl (by rw [M.al]; exact ALall) rfl rfl (Nat.le_of_ble_eq_true rfl) rfl (dx dL_50 6 rfl) ?_
  rintro _ h1 ⟨rfl, ⟨uh1, oh1⟩, fh1⟩ kh1
  have Mh1 := M.fr9 fh1 kh1
  have yh1 := y.fr9 M fh1
  refine r_popI C (dx dL_50 7 rfl) ?_
  refine r_aload_n C (dx dL_50 8 rfl) rfl ?_
  refine r_aload_nT C (dx dL_50 9 rfl) rfl ?_
  refine r_iload_n C (dx dL_50 10 rfl) rfl ?_
  refine r_iconst (v := nI 1) C (dx dL_50 11 rfl) rfl ?_
  refine rn_iadd (a := i) (b := 1) C (dx dL_50 12 rfl) ?_
  refine r_sld C S (by omega) (by omega) (dx dL_50 13 rfl) ?_
  obtain ⟨τh2, ph2, ch2⟩ := y7_seed (l := l) Mh1 yh1 ok (xs (i + 1))
  refine r_cv (as := [vi (xs (i + 1))]) (st := []) C X I_X7_seed l_L_230 ch2 (by decide) (Nat.le_of_ble_eq_true rfl) ph2 ALall rfl rfl (Nat.le_of_ble_eq_true rfl) rfl (dx dL_50 14 rfl) ?_
  rintro _ h2 ⟨rfl, Mh2, lh2, yh2⟩ kh2
  have oh2 := oh1.lo lh2
  refine r_popI C (dx dL_50 15 rfl) ?_
  refine r_goto (tgt := 1754) C (dx dL_50 16 rfl) (by decide) ?_
  exact kk h2 ⟨_, _, _, _, _, _, _, _, _, oh2, hg, Mh2, yh2, byt, (ok_seed ok _), okw⟩
def tL_51 : List (Nat × Instr × Nat) := [(1705, .aload_n 1, 1), (1706, .invokevirtual 231, 3), (1709, .pop, 1), (1710, .aload_n 2, 1), (1711, .invokevirtual 234, 3), (1714, .pop, 1), (1715, .goto 39, 3)]
theorem dL_51 : dec_ok code tL_51 = true := by decide +kernel
set_option maxHeartbeats 4000000 in
theorem law_c51 {l : Launch} {G : Gt} {b L i : Nat} {xs : Nat → Int32} {h : Hp} (C : Cx G code 4 RL) (X : Rmx l G 2048 (AL P63 true true)) (S : SLw G b L xs) (hL : L ≤ 3072) (hi : i + 6 ≤ L) (inv : Lv h) (kk : ∀ h', Lv h' → Rr G 1754 [(0, vt 9000), (1, vr 6 0), (2, vr 7 63), (3, vi (nI i))] [] h') : Rr G 1705 [(0, vt 9000), (1, vr 6 0), (2, vr 7 63), (3, vi (nI i))] [] h := by
  obtain ⟨v, u, w, g, B, Bt, z, κ, τ, o, hg, M, y, byt, ok, okw⟩ := inv
  refine r_aload_n C (dx dL_51 0 rfl) rfl ?_
  refine r_cv (as := []) (st := []) C X I_X6_image l_L_231 (x_image o hg ) (by decide) (Nat.le_of_ble_eq_true rfl) List.prefix_rfl (by rw [M.al]; exact ALall) rfl rfl (Nat.le_of_ble_eq_true rfl) rfl (dx dL_51 1 rfl) ?_
  rintro _ h1 ⟨rfl, ⟨uh1, oh1⟩, fh1⟩ kh1
  have Mh1 := M.fr9 fh1 kh1
  have yh1 := y.fr9 M fh1
  refine r_popI C (dx dL_51 2 rfl) ?_
  refine r_aload_n C (dx dL_51 3 rfl) rfl ?_
  obtain ⟨τh2, ph2, ch2⟩ := y7_image (l := l) Mh1 yh1 ok 
  refine r_cv (as := []) (st := []) C X I_X7_image l_L_234 ch2 (by decide) (Nat.le_of_ble_eq_true rfl) ph2 ALall rfl rfl (Nat.le_of_ble_eq_true rfl) rfl (dx dL_51 4 rfl) ?_
  rintro _ h2 ⟨rfl, Mh2, lh2, yh2⟩ kh2
  have oh2 := oh1.lo lh2
  refine r_popI C (dx dL_51 5 rfl) ?_
  refine r_goto (tgt := 1754) C (dx dL_51 6 rfl) (by decide) ?_
  exact kk h2 ⟨_, _, _, _, _, _, _, _, _, oh2, hg, Mh2, yh2, byt, ok, (fun _ => ok)⟩
def tL_52 : List (Nat × Instr × Nat) := [(1718, .aload_n 1, 1), (1719, .invokevirtual 235, 3), (1722, .aload_n 2, 1), (1723, .invokevirtual 238, 3), (1726, .if_icmp .eq 28, 3), (1729, .iconst 0, 1), (1730, .ireturn, 1)]
theorem dL_52 : dec_ok code tL_52 = true := by decide +kernel
set_option maxHeartbeats 4000000 in
theorem law_c52 {l : Launch} {G : Gt} {b L i : Nat} {xs : Nat → Int32} {h : Hp} (C : Cx G code 4 RL) (X : Rmx l G 2048 (AL P63 true true)) (S : SLw G b L xs) (hL : L ≤ 3072) (hi : i + 6 ≤ L) (inv : Lv h) (kk : ∀ h', Lv h' → Rr G 1754 [(0, vt 9000), (1, vr 6 0), (2, vr 7 63), (3, vi (nI i))] [] h') : Rr G 1718 [(0, vt 9000), (1, vr 6 0), (2, vr 7 63), (3, vi (nI i))] [] h := by
  obtain ⟨v, u, w, g, B, Bt, z, κ, τ, o, hg, M, y, byt, ok, okw⟩ := inv
  refine r_aload_n C (dx dL_52 0 rfl) rfl ?_
  refine r_cv (as := []) (st := []) C X I_X6_back l_L_235 (x_back o hg ) (by decide) (Nat.le_of_ble_eq_true rfl) List.prefix_rfl (by rw [M.al]; exact ALall) rfl rfl (Nat.le_of_ble_eq_true rfl) rfl (dx dL_52 1 rfl) ?_
  rintro _ h1 ⟨rfl, ⟨uh1, oh1⟩, fh1⟩ kh1
  have Mh1 := M.fr9 fh1 kh1
  have yh1 := y.fr9 M fh1
  rw [bk_eq]
  refine r_aload_n C (dx dL_52 2 rfl) rfl ?_
  obtain ⟨τh2, ph2, ch2⟩ := y7_back (l := l) Mh1 yh1 ok 
  refine r_cv (as := []) (st := [_]) C X I_X7_back l_L_238 ch2 (by decide) (Nat.le_of_ble_eq_true rfl) ph2 ALall rfl rfl (Nat.le_of_ble_eq_true rfl) rfl (dx dL_52 3 rfl) ?_
  rintro _ h2 ⟨rfl, Mh2, lh2, yh2⟩ kh2
  have oh2 := oh1.lo lh2
  refine r_icmp_eq (tgt := 1754) C (dx dL_52 4 rfl) (by decide) (fun _ => ?_) (fun c3 => absurd (by first | rfl | exact (vl_tie byt _).1) c3)
  rw [bv_eq] at oh2
  exact kk h2 ⟨_, _, _, _, _, _, _, _, _, oh2, hg, Mh2, yh2, byt, (ok_back ok okw), okw⟩
def tL_53 : List (Nat × Instr × Nat) := [(1731, .aload_n 1, 1), (1732, .aload_n 0, 1), (1733, .iload_n 3, 1), (1734, .iconst 1, 1), (1735, .iadd, 1), (1736, .iaload, 1), (1737, .invokevirtual 239, 3), (1740, .pop, 1), (1741, .aload_n 2, 1), (1742, .aload_n 0, 1), (1743, .iload_n 3, 1), (1744, .iconst 1, 1), (1745, .iadd, 1), (1746, .iaload, 1), (1747, .invokevirtual 242, 3), (1750, .pop, 1), (1751, .goto 3, 3)]
theorem dL_53 : dec_ok code tL_53 = true := by decide +kernel
set_option maxHeartbeats 4000000 in
theorem law_c53 {l : Launch} {G : Gt} {b L i : Nat} {xs : Nat → Int32} {h : Hp} (C : Cx G code 4 RL) (X : Rmx l G 2048 (AL P63 true true)) (S : SLw G b L xs) (hL : L ≤ 3072) (hi : i + 6 ≤ L) (inv : Lv h) (kk : ∀ h', Lv h' → Rr G 1754 [(0, vt 9000), (1, vr 6 0), (2, vr 7 63), (3, vi (nI i))] [] h') : Rr G 1731 [(0, vt 9000), (1, vr 6 0), (2, vr 7 63), (3, vi (nI i))] [] h := by
  obtain ⟨v, u, w, g, B, Bt, z, κ, τ, o, hg, M, y, byt, ok, okw⟩ := inv
  refine r_aload_n C (dx dL_53 0 rfl) rfl ?_
  refine r_aload_nT C (dx dL_53 1 rfl) rfl ?_
  refine r_iload_n C (dx dL_53 2 rfl) rfl ?_
  refine r_iconst (v := nI 1) C (dx dL_53 3 rfl) rfl ?_
  refine rn_iadd (a := i) (b := 1) C (dx dL_53 4 rfl) ?_
  refine r_sld C S (by omega) (by omega) (dx dL_53 5 rfl) ?_
  refine r_cv (as := [vi (xs (i + 1))]) (st := []) C X I_X6_status l_L_239 (x_status o hg (xs (i + 1))) (by decide) (Nat.le_of_ble_eq_true rfl) List.prefix_rfl (by rw [M.al]; exact ALall) rfl rfl (Nat.le_of_ble_eq_true rfl) rfl (dx dL_53 6 rfl) ?_
  rintro _ h1 ⟨⟨xh1, rfl⟩, ⟨uh1, oh1⟩, fh1⟩ kh1
  have Mh1 := M.fr9 fh1 kh1
  have yh1 := y.fr9 M fh1
  refine r_popI C (dx dL_53 7 rfl) ?_
  refine r_aload_n C (dx dL_53 8 rfl) rfl ?_
  refine r_aload_nT C (dx dL_53 9 rfl) rfl ?_
  refine r_iload_n C (dx dL_53 10 rfl) rfl ?_
  refine r_iconst (v := nI 1) C (dx dL_53 11 rfl) rfl ?_
  refine rn_iadd (a := i) (b := 1) C (dx dL_53 12 rfl) ?_
  refine r_sld C S (by omega) (by omega) (dx dL_53 13 rfl) ?_
  obtain ⟨τh2, ph2, ch2⟩ := y7_status (l := l) Mh1 yh1 ok (xs (i + 1))
  refine r_cv (as := [vi (xs (i + 1))]) (st := []) C X I_X7_status l_L_242 ch2 (by decide) (Nat.le_of_ble_eq_true rfl) ph2 ALall rfl rfl (Nat.le_of_ble_eq_true rfl) rfl (dx dL_53 14 rfl) ?_
  rintro _ h2 ⟨⟨xh2, rfl⟩, Mh2, lh2, yh2⟩ kh2
  have oh2 := oh1.lo lh2
  refine r_popI C (dx dL_53 15 rfl) ?_
  refine r_goto (tgt := 1754) C (dx dL_53 16 rfl) (by decide) ?_
  exact kk h2 ⟨_, _, _, _, _, _, _, _, _, oh2, hg, Mh2, yh2, byt, ok, okw⟩
end
section
/-! PART 41: the law: its loop, its beginning -/
def tL_h : List (Nat × Instr × Nat) := [(0, .new 7, 3), (3, .dup, 1), (4, .invokespecial 9, 3), (7, .astore_n 1, 1), (8, .new 10, 3), (11, .dup, 1), (12, .invokespecial 12, 3), (15, .astore_n 2, 1), (16, .iconst 0, 1), (17, .istore_n 3, 1), (18, .iload_n 3, 1), (19, .aload_n 0, 1), (20, .arraylength, 1), (21, .bipush 6, 2), (23, .isub, 1), (24, .if_icmp .gt 1736, 3), (27, .aload_n 0, 1), (28, .iload_n 3, 1), (29, .iaload, 1), (30, .bipush 63, 2), (32, .iand, 1), (33, .tableswitch 1721 0 53 #[231, 274, 347, 410, 443, 466, 509, 542, 555, 588, 621, 654, 703, 762, 795, 808, 821, 854, 887, 920, 943, 976, 1019, 1042, 1075, 1088, 1121, 1134, 1157, 1180, 1193, 1216, 1229, 1252, 1265, 1278, 1291, 1304, 1337, 1376, 1399, 1422, 1445, 1458, 1471, 1484, 1517, 1550, 1593, 1626, 1649, 1672, 1685, 1698], 231)]
theorem dL_h : dec_ok code tL_h = true := by decide +kernel
def tL_e : List (Nat × Instr × Nat) := [(1754, .iinc 3 6, 3), (1757, .goto (-1739), 3), (1760, .iconst 1, 1), (1761, .ireturn, 1)]
theorem dL_e : dec_ok code tL_e = true := by decide +kernel
set_option maxHeartbeats 4000000 in
theorem law_step {l : Launch} {G : Gt} {b L i : Nat} {xs : Nat → Int32} {h : Hp} (C : Cx G code 4 RL) (X : Rmx l G 2048 (AL P63 true true)) (S : SLw G b L xs) (hL : L ≤ 3072) (inv : Lv h) (hi0 : i ≤ 5000) (E : ∀ (pc : Nat) (ls : List (Nat × V)) (h' : Hp), decode code pc = .ok (.ireturn, 1) → xK h' <+: AL P63 true true → Rr G pc ls [vi 1] h') (kk : i + 6 ≤ L → ∀ h', Lv h' → Rr G 18 [(0, vt 9000), (1, vr 6 0), (2, vr 7 63), (3, vi (nI (i + 6)))] [] h') : Rr G 18 [(0, vt 9000), (1, vr 6 0), (2, vr 7 63), (3, vi (nI i))] [] h := by
  refine r_iload_n C (dx dL_h 10 rfl) rfl ?_
  refine r_aload_nT C (dx dL_h 11 rfl) rfl ?_
  refine r_slen C S (dx dL_h 12 rfl) ?_
  refine r_bipush (v := nI 6) C (dx dL_h 13 rfl) rfl ?_
  refine r_isub C (dx dL_h 14 rfl) ?_
  refine r_icmp_gt (tgt := 1760) C (dx dL_h 15 rfl) (by decide) (fun c1 => ?_) (fun c1 => ?_)
  · obtain ⟨v, u, w, g, B, Bt, z, κ, τ, o, hg, M, y, byt, ok, okw⟩ := inv
    refine r_iconst (v := 1) C (dx dL_e 2 rfl) rfl ?_
    exact E _ _ _ (dx dL_e 3 rfl) (by rw [M.al]; exact ALall)
  · have hi := sc6 (by omega) (by omega) c1
    have k9 : ∀ h', Lv h' → Rr G 1754 [(0, vt 9000), (1, vr 6 0), (2, vr 7 63), (3, vi (nI i))] [] h' := fun h' v' => by
      refine rn_iinc (a := i) (k := 6) (ls' := [(0, vt 9000), (1, vr 6 0), (2, vr 7 63), (3, vi (nI (i + 6)))]) C (dx dL_e 0 rfl) rfl rfl (by decide) [1, 2, 3, 0] rfl ?_
      refine r_goto (tgt := 18) C (dx dL_e 1 rfl) (by decide) ?_
      exact kk hi h' v'
    refine r_aload_nT C (dx dL_h 16 rfl) rfl ?_
    refine r_iload_n C (dx dL_h 17 rfl) rfl ?_
    refine r_sld C S (by omega) (by omega) (dx dL_h 18 rfl) ?_
    refine r_bipush (v := nI 63) C (dx dL_h 19 rfl) rfl ?_
    refine r_iand C (dx dL_h 20 rfl) ?_
    obtain ⟨j, hj, ej⟩ := and63 (xs i)
    rw [ej]
    match j, hj with
    | 0, _ => exact r_tabIn (off := 231) (tgt := 264) C (dx dL_h 21 rfl) (by decide) (by decide) (by decide) (by decide) (law_c0 C X S hL hi inv k9)
    | 1, _ => exact r_tabIn (off := 274) (tgt := 307) C (dx dL_h 21 rfl) (by decide) (by decide) (by decide) (by decide) (law_c1 C X S hL hi inv k9)
    | 2, _ => exact r_tabIn (off := 347) (tgt := 380) C (dx dL_h 21 rfl) (by decide) (by decide) (by decide) (by decide) (law_c2 C X S hL hi inv k9)
    | 3, _ => exact r_tabIn (off := 410) (tgt := 443) C (dx dL_h 21 rfl) (by decide) (by decide) (by decide) (by decide) (law_c3 C X S hL hi inv k9)
    | 4, _ => exact r_tabIn (off := 443) (tgt := 476) C (dx dL_h 21 rfl) (by decide) (by decide) (by decide) (by decide) (law_c4 C X S hL hi inv k9)
    | 5, _ => exact r_tabIn (off := 466) (tgt := 499) C (dx dL_h 21 rfl) (by decide) (by decide) (by decide) (by decide) (law_c5 C X S hL hi inv k9)
    | 6, _ => exact r_tabIn (off := 509) (tgt := 542) C (dx dL_h 21 rfl) (by decide) (by decide) (by decide) (by decide) (law_c6 C X S hL hi inv k9)
    | 7, _ => exact r_tabIn (off := 542) (tgt := 575) C (dx dL_h 21 rfl) (by decide) (by decide) (by decide) (by decide) (law_c7 C X S hL hi inv k9)
    | 8, _ => exact r_tabIn (off := 555) (tgt := 588) C (dx dL_h 21 rfl) (by decide) (by decide) (by decide) (by decide) (law_c8 C X S hL hi inv k9)
    | 9, _ => exact r_tabIn (off := 588) (tgt := 621) C (dx dL_h 21 rfl) (by decide) (by decide) (by decide) (by decide) (law_c9 C X S hL hi inv k9)
    | 10, _ => exact r_tabIn (off := 621) (tgt := 654) C (dx dL_h 21 rfl) (by decide) (by decide) (by decide) (by decide) (law_c10 C X S hL hi inv k9)
    | 11, _ => exact r_tabIn (off := 654) (tgt := 687) C (dx dL_h 21 rfl) (by decide) (by decide) (by decide) (by decide) (law_c11 C X S hL hi inv k9)
    | 12, _ => exact r_tabIn (off := 703) (tgt := 736) C (dx dL_h 21 rfl) (by decide) (by decide) (by decide) (by decide) (law_c12 C X S hL hi inv k9)
    | 13, _ => exact r_tabIn (off := 762) (tgt := 795) C (dx dL_h 21 rfl) (by decide) (by decide) (by decide) (by decide) (law_c13 C X S hL hi inv k9)
    | 14, _ => exact r_tabIn (off := 795) (tgt := 828) C (dx dL_h 21 rfl) (by decide) (by decide) (by decide) (by decide) (law_c14 C X S hL hi inv k9)
    | 15, _ => exact r_tabIn (off := 808) (tgt := 841) C (dx dL_h 21 rfl) (by decide) (by decide) (by decide) (by decide) (law_c15 C X S hL hi inv k9)
    | 16, _ => exact r_tabIn (off := 821) (tgt := 854) C (dx dL_h 21 rfl) (by decide) (by decide) (by decide) (by decide) (law_c16 C X S hL hi inv k9)
    | 17, _ => exact r_tabIn (off := 854) (tgt := 887) C (dx dL_h 21 rfl) (by decide) (by decide) (by decide) (by decide) (law_c17 C X S hL hi inv k9)
    | 18, _ => exact r_tabIn (off := 887) (tgt := 920) C (dx dL_h 21 rfl) (by decide) (by decide) (by decide) (by decide) (law_c18 C X S hL hi inv k9)
    | 19, _ => exact r_tabIn (off := 920) (tgt := 953) C (dx dL_h 21 rfl) (by decide) (by decide) (by decide) (by decide) (law_c19 C X S hL hi inv k9)
    | 20, _ => exact r_tabIn (off := 943) (tgt := 976) C (dx dL_h 21 rfl) (by decide) (by decide) (by decide) (by decide) (law_c20 C X S hL hi inv k9)
    | 21, _ => exact r_tabIn (off := 976) (tgt := 1009) C (dx dL_h 21 rfl) (by decide) (by decide) (by decide) (by decide) (law_c21 C X S hL hi inv k9)
    | 22, _ => exact r_tabIn (off := 1019) (tgt := 1052) C (dx dL_h 21 rfl) (by decide) (by decide) (by decide) (by decide) (law_c22 C X S hL hi inv k9)
    | 23, _ => exact r_tabIn (off := 1042) (tgt := 1075) C (dx dL_h 21 rfl) (by decide) (by decide) (by decide) (by decide) (law_c23 C X S hL hi inv k9)
    | 24, _ => exact r_tabIn (off := 1075) (tgt := 1108) C (dx dL_h 21 rfl) (by decide) (by decide) (by decide) (by decide) (law_c24 C X S hL hi inv k9)
    | 25, _ => exact r_tabIn (off := 1088) (tgt := 1121) C (dx dL_h 21 rfl) (by decide) (by decide) (by decide) (by decide) (law_c25 C X S hL hi inv k9)
    | 26, _ => exact r_tabIn (off := 1121) (tgt := 1154) C (dx dL_h 21 rfl) (by decide) (by decide) (by decide) (by decide) (law_c26 C X S hL hi inv k9)
    | 27, _ => exact r_tabIn (off := 1134) (tgt := 1167) C (dx dL_h 21 rfl) (by decide) (by decide) (by decide) (by decide) (law_c27 C X S hL hi inv k9)
    | 28, _ => exact r_tabIn (off := 1157) (tgt := 1190) C (dx dL_h 21 rfl) (by decide) (by decide) (by decide) (by decide) (law_c28 C X S hL hi inv k9)
    | 29, _ => exact r_tabIn (off := 1180) (tgt := 1213) C (dx dL_h 21 rfl) (by decide) (by decide) (by decide) (by decide) (law_c29 C X S hL hi inv k9)
    | 30, _ => exact r_tabIn (off := 1193) (tgt := 1226) C (dx dL_h 21 rfl) (by decide) (by decide) (by decide) (by decide) (law_c30 C X S hL hi inv k9)
    | 31, _ => exact r_tabIn (off := 1216) (tgt := 1249) C (dx dL_h 21 rfl) (by decide) (by decide) (by decide) (by decide) (law_c31 C X S hL hi inv k9)
    | 32, _ => exact r_tabIn (off := 1229) (tgt := 1262) C (dx dL_h 21 rfl) (by decide) (by decide) (by decide) (by decide) (law_c32 C X S hL hi inv k9)
    | 33, _ => exact r_tabIn (off := 1252) (tgt := 1285) C (dx dL_h 21 rfl) (by decide) (by decide) (by decide) (by decide) (law_c33 C X S hL hi inv k9)
    | 34, _ => exact r_tabIn (off := 1265) (tgt := 1298) C (dx dL_h 21 rfl) (by decide) (by decide) (by decide) (by decide) (law_c34 C X S hL hi inv k9)
    | 35, _ => exact r_tabIn (off := 1278) (tgt := 1311) C (dx dL_h 21 rfl) (by decide) (by decide) (by decide) (by decide) (law_c35 C X S hL hi inv k9)
    | 36, _ => exact r_tabIn (off := 1291) (tgt := 1324) C (dx dL_h 21 rfl) (by decide) (by decide) (by decide) (by decide) (law_c36 C X S hL hi inv k9)
    | 37, _ => exact r_tabIn (off := 1304) (tgt := 1337) C (dx dL_h 21 rfl) (by decide) (by decide) (by decide) (by decide) (law_c37 C X S hL hi inv k9)
    | 38, _ => exact r_tabIn (off := 1337) (tgt := 1370) C (dx dL_h 21 rfl) (by decide) (by decide) (by decide) (by decide) (law_c38 C X S hL hi inv k9)
    | 39, _ => exact r_tabIn (off := 1376) (tgt := 1409) C (dx dL_h 21 rfl) (by decide) (by decide) (by decide) (by decide) (law_c39 C X S hL hi inv k9)
    | 40, _ => exact r_tabIn (off := 1399) (tgt := 1432) C (dx dL_h 21 rfl) (by decide) (by decide) (by decide) (by decide) (law_c40 C X S hL hi inv k9)
    | 41, _ => exact r_tabIn (off := 1422) (tgt := 1455) C (dx dL_h 21 rfl) (by decide) (by decide) (by decide) (by decide) (law_c41 C X S hL hi inv k9)
    | 42, _ => exact r_tabIn (off := 1445) (tgt := 1478) C (dx dL_h 21 rfl) (by decide) (by decide) (by decide) (by decide) (law_c42 C X S hL hi inv k9)
    | 43, _ => exact r_tabIn (off := 1458) (tgt := 1491) C (dx dL_h 21 rfl) (by decide) (by decide) (by decide) (by decide) (law_c43 C X S hL hi inv k9)
    | 44, _ => exact r_tabIn (off := 1471) (tgt := 1504) C (dx dL_h 21 rfl) (by decide) (by decide) (by decide) (by decide) (law_c44 C X S hL hi inv k9)
    | 45, _ => exact r_tabIn (off := 1484) (tgt := 1517) C (dx dL_h 21 rfl) (by decide) (by decide) (by decide) (by decide) (law_c45 C X S hL hi inv k9)
    | 46, _ => exact r_tabIn (off := 1517) (tgt := 1550) C (dx dL_h 21 rfl) (by decide) (by decide) (by decide) (by decide) (law_c46 C X S hL hi inv k9)
    | 47, _ => exact r_tabIn (off := 1550) (tgt := 1583) C (dx dL_h 21 rfl) (by decide) (by decide) (by decide) (by decide) (law_c47 C X S hL hi inv k9)
    | 48, _ => exact r_tabIn (off := 1593) (tgt := 1626) C (dx dL_h 21 rfl) (by decide) (by decide) (by decide) (by decide) (law_c48 C X S hL hi inv k9)
    | 49, _ => exact r_tabIn (off := 1626) (tgt := 1659) C (dx dL_h 21 rfl) (by decide) (by decide) (by decide) (by decide) (law_c49 C X S hL hi inv k9)
    | 50, _ => exact r_tabIn (off := 1649) (tgt := 1682) C (dx dL_h 21 rfl) (by decide) (by decide) (by decide) (by decide) (law_c50 C X S hL hi inv k9)
    | 51, _ => exact r_tabIn (off := 1672) (tgt := 1705) C (dx dL_h 21 rfl) (by decide) (by decide) (by decide) (by decide) (law_c51 C X S hL hi inv k9)
    | 52, _ => exact r_tabIn (off := 1685) (tgt := 1718) C (dx dL_h 21 rfl) (by decide) (by decide) (by decide) (by decide) (law_c52 C X S hL hi inv k9)
    | 53, _ => exact r_tabIn (off := 1698) (tgt := 1731) C (dx dL_h 21 rfl) (by decide) (by decide) (by decide) (by decide) (law_c53 C X S hL hi inv k9)
    | j + 54, hj => exact r_tabOut (tgt := 1754) C (dx dL_h 21 rfl) (Or.inr (by rw [nI_toInt (by omega)]; omega)) (by decide) (k9 _ inv)
set_option maxHeartbeats 4000000 in
theorem law_loop {l : Launch} {G : Gt} {b L : Nat} {xs : Nat → Int32} (C : Cx G code 4 RL) (X : Rmx l G 2048 (AL P63 true true)) (S : SLw G b L xs) (hL : L ≤ 3072) (E : ∀ (pc : Nat) (ls : List (Nat × V)) (h' : Hp), decode code pc = .ok (.ireturn, 1) → xK h' <+: AL P63 true true → Rr G pc ls [vi 1] h') : ∀ (n i : Nat) (h : Hp), L + 6 ≤ i + n → i ≤ L + 6 → Lv h → Rr G 18 [(0, vt 9000), (1, vr 6 0), (2, vr 7 63), (3, vi (nI i))] [] h := by
  intro n
  induction n with
  | zero => exact fun i h h1 h2 inv => law_step C X S hL inv (by omega) E (fun q => absurd q (by omega))
  | succ n ih => exact fun i h h1 h2 inv => law_step C X S hL inv (by omega) E (fun q h' v' => ih (i + 6) h' (by omega) (by omega) v')
def h00 : Hp := (fun _ _ => 0, fun _ _ => 0, fun _ _ => 0, [])
set_option maxHeartbeats 4000000 in
theorem law_new {l : Launch} {G : Gt} (C : Cx G code 4 RL) (E0 : Al0 G []) (X : Rmx l G 2048 (AL P63 true true)) (kk : ∀ h', Lv h' → Rr G 18 [(0, vt 9000), (1, vr 6 0), (2, vr 7 63), (3, vi (nI 0))] [] h') : Rr G 0 [(0, vt 9000)] [] h00 := by
  have X0 : Rmx l G 2048 (xK h00 ++ AL P63 true true) := X
  have nok : NOk h00 := fun a k L j t o k' ha => by have q : ([] : List Nat)[a]? = some k := ha; simp at q
  refine r_new (kk := 14) (C0 := RX6) (T := TX6) (N := 12) C (X0.go (M := []) (E := [14]) rfl (by decide +kernel) (by decide +kernel)) rfl rfl rfl (by decide) hfs6 List.prefix_rfl nok (by decide) cl_RL_7 q_in6 q_ii6 (dx dL_h 0 rfl) ?_
  show Rr G 3 [(0, vt 9000)] [vr 14 0] (nw h00 14)
  have K1 : xK (nw h00 14) = xK h00 ++ [14] := rfl
  have no1 := nok.nw (k := 14)
  generalize nw h00 14 = h1 at K1 no1 ⊢
  have len1 : (xK h1).length = 0 + 1 := by rw [K1]; rfl
  refine r_dupR C (dx dL_h 1 rfl) ?_
  refine r_callI (st := [vr 14 0]) C (X0.go (M := [14]) (E := [5, 20, 20, 21, 21, 22, 22, 23, 22, 5, 20, 20, 21, 21, 22, 22, 23, 22, 5, 20, 20, 21, 21, 22, 22, 23, 22, 4, 24, 25, 22, 0, 22, 1, 21, 21, 27, 32, 21, 21, 21, 21, 21, 21, 21, 28, 3, 29, 2, 22, 22, 33, 31, 31, 31, 31, 31, 31, 31, 31, 22, 26]) K1 (by decide +kernel) (by decide +kernel)) (c_X6_init (a := 0) len1 (by decide) no1) (by decide) (Nat.le_of_ble_eq_true rfl) (List.prefix_append _ _) List.prefix_rfl rfl rfl (Nat.le_of_ble_eq_true rfl) l_L_9 q_im6 q_ii6 q_co6 rfl nh_RX6 q_pd6 (dx dL_h 2 rfl) ?_
  rintro _ h2 ⟨rfl, no2, lo2, p0, p1, p2, p4, p5, p6, p7, p8, p9, w1, w2, w3, w4, w5, w6, w7, w8⟩ kk2
  have K2 : xK h2 = 14 :: [5, 20, 20, 21, 21, 22, 22, 23, 22, 5, 20, 20, 21, 21, 22, 22, 23, 22, 5, 20, 20, 21, 21, 22, 22, 23, 22, 4, 24, 25, 22, 0, 22, 1, 21, 21, 27, 32, 21, 21, 21, 21, 21, 21, 21, 28, 3, 29, 2, 22, 22, 33, 31, 31, 31, 31, 31, 31, 31, 31, 22, 26] := by rw [kk2, K1]; rfl
  have ha2 : (xK h2)[0]? = some (6 + 8) := by rw [K2]; rfl
  have hp2 : ∀ (j o k9 : Nat), ([(2, 1, 5), (2, 10, 5), (2, 19, 5), (0, 0, 0), (2, 28, 4), (2, 32, 0), (2, 34, 1), (2, 47, 3), (2, 49, 2), (2, 62, 26), (0, 0, 0), (0, 0, 0)] : List Fd3)[j]? = some (2, o, k9) → xN h2 0 j = 0 + o + 1 ∧ (xK h2)[0 + o]? = some k9 := fun j o k9 hj => by
    match j, hj with
    | 0, hj => cases hj; exact ⟨p0, by rw [K2]; rfl⟩
    | 1, hj => cases hj; exact ⟨p1, by rw [K2]; rfl⟩
    | 2, hj => cases hj; exact ⟨p2, by rw [K2]; rfl⟩
    | 3, hj => cases hj
    | 4, hj => cases hj; exact ⟨p4, by rw [K2]; rfl⟩
    | 5, hj => cases hj; exact ⟨p5, by rw [K2]; rfl⟩
    | 6, hj => cases hj; exact ⟨p6, by rw [K2]; rfl⟩
    | 7, hj => cases hj; exact ⟨p7, by rw [K2]; rfl⟩
    | 8, hj => cases hj; exact ⟨p8, by rw [K2]; rfl⟩
    | 9, hj => cases hj; exact ⟨p9, by rw [K2]; rfl⟩
    | 10, hj => cases hj
    | 11, hj => cases hj
    | n + 12, hj => simp at hj
  refine r_retag (a := 0) (k := 6) (al := []) C E0 (Nat.zero_le _) (by decide) ha2 rfl hp2 ⟨trivial, trivial⟩ trivial ?_
  have K3 : xK (rt h2 0 6) = xK h00 ++ P63 := by show (xK h2).set _ _ = _; rw [K2]; rfl
  have no3 : NOk (rt h2 0 6) := no2.mk8 (by decide) ha2
  have o3 : Ow (rt h2 0 6) v00 v00 v00 g00 (fun _ => 0) 0 (b2i false) := ⟨w1, w2, w3, w4, w5, w6, w7, w8⟩
  generalize rt h2 0 6 = h3 at K3 no3 o3 ⊢
  have len3 : (xK h3).length = 63 := by rw [K3]; rfl
  refine r_astore_n (ls' := [(0, vt 9000), (1, vr 6 0)]) C (dx dL_h 3 rfl) (by decide) [1, 0] rfl ?_
  refine r_new (kk := 15) (C0 := RX7) (T := TX7) (N := 32) C (X0.go (M := P63) (E := [15]) K3 (by decide +kernel) (by decide +kernel)) rfl rfl rfl (by decide) hfs7 List.prefix_rfl no3 (by rw [len3]; decide) cl_RL_10 q_in7 q_ii7 (dx dL_h 4 rfl) ?_
  rw [len3]
  have K4 : xK (nw h3 15) = xK h00 ++ (P63 ++ [15]) := by show xK h3 ++ [15] = _; rw [K3, List.append_assoc]
  have no4 := no3.nw (k := 15)
  have Y1 : xI (nw h3 15) 63 = fun _ => 0 := by have q9 := nw_I (h := h3) (k := 15); rw [len3] at q9; exact q9
  have Y2 : xL (nw h3 15) 63 = fun _ => 0 := by have q9 := nw_L (h := h3) (k := 15); rw [len3] at q9; exact q9
  have Y3 : xN (nw h3 15) 63 = fun _ => 0 := by have q9 := nw_N (h := h3) (k := 15); rw [len3] at q9; exact q9
  have o4 := o3.lo (Lo.nw (h := h3) (k := 15) (Nat.le_of_eq len3.symm))
  generalize nw h3 15 = h4 at K4 no4 Y1 Y2 Y3 o4 ⊢
  have len4 : (xK h4).length = 63 + 1 := by rw [K4]; rfl
  refine r_dupR C (dx dL_h 5 rfl) ?_
  refine r_callI (st := [vr 15 63]) C (X0.go (M := P63 ++ [15]) (E := [22, 22, 22, 33, 31, 31, 31, 31, 31, 31, 31, 31, 31, 22, 22, 30, 22, 20, 20, 21, 21, 34, 27, 27, 27, 27, 27, 27, 27, 27, 20]) K4 (by decide +kernel) (by decide +kernel)) (c_X7_init (a := 63) len4 (by decide) no4 Y1 Y2 Y3) (by decide) (Nat.le_of_ble_eq_true rfl) (List.prefix_append _ _) List.prefix_rfl rfl rfl (Nat.le_of_ble_eq_true rfl) l_L_12 q_im7 q_ii7 q_co7 rfl nh_RX7 q_pd7 (dx dL_h 6 rfl) ?_
  rintro _ h5 ⟨rfl, no5, lo5, p0, p1, p2, p3, p4, p5, p6, p7, p9, p11, p12, p14, p15, p17, p30, m5, ms5, z5, n21, n22⟩ kk5
  have K5 : xK h5 = P63 ++ (15 :: [22, 22, 22, 33, 31, 31, 31, 31, 31, 31, 31, 31, 31, 22, 22, 30, 22, 20, 20, 21, 21, 34, 27, 27, 27, 27, 27, 27, 27, 27, 20]) := by rw [kk5, K4]; show (P63 ++ [15]) ++ _ = _; rw [List.append_assoc]; rfl
  have ha5 : (xK h5)[63]? = some (7 + 8) := by rw [K5]; rfl
  have hp5 : ∀ (j o k9 : Nat), ([(2, 1, 22), (2, 2, 22), (2, 3, 22), (2, 4, 33), (2, 13, 31), (2, 14, 22), (2, 15, 22), (2, 16, 30), (0, 0, 0), (2, 17, 22), (0, 0, 0), (2, 18, 20), (2, 19, 20), (0, 0, 0), (2, 20, 21), (2, 21, 21), (0, 0, 0), (2, 22, 34), (0, 0, 0), (0, 0, 0), (0, 0, 0), (3, 0, 7), (3, 0, 7), (0, 0, 0), (0, 0, 0), (0, 0, 0), (1, 0, 0), (0, 0, 0), (0, 0, 0), (0, 0, 0), (2, 31, 20), (1, 0, 0)] : List Fd3)[j]? = some (2, o, k9) → xN h5 63 j = 63 + o + 1 ∧ (xK h5)[63 + o]? = some k9 := fun j o k9 hj => by
    match j, hj with
    | 0, hj => cases hj; exact ⟨p0, by rw [K5]; rfl⟩
    | 1, hj => cases hj; exact ⟨p1, by rw [K5]; rfl⟩
    | 2, hj => cases hj; exact ⟨p2, by rw [K5]; rfl⟩
    | 3, hj => cases hj; exact ⟨p3, by rw [K5]; rfl⟩
    | 4, hj => cases hj; exact ⟨p4, by rw [K5]; rfl⟩
    | 5, hj => cases hj; exact ⟨p5, by rw [K5]; rfl⟩
    | 6, hj => cases hj; exact ⟨p6, by rw [K5]; rfl⟩
    | 7, hj => cases hj; exact ⟨p7, by rw [K5]; rfl⟩
    | 8, hj => cases hj
    | 9, hj => cases hj; exact ⟨p9, by rw [K5]; rfl⟩
    | 10, hj => cases hj
    | 11, hj => cases hj; exact ⟨p11, by rw [K5]; rfl⟩
    | 12, hj => cases hj; exact ⟨p12, by rw [K5]; rfl⟩
    | 13, hj => cases hj
    | 14, hj => cases hj; exact ⟨p14, by rw [K5]; rfl⟩
    | 15, hj => cases hj; exact ⟨p15, by rw [K5]; rfl⟩
    | 16, hj => cases hj
    | 17, hj => cases hj; exact ⟨p17, by rw [K5]; rfl⟩
    | 18, hj => cases hj
    | 19, hj => cases hj
    | 20, hj => cases hj
    | 21, hj => cases hj
    | 22, hj => cases hj
    | 23, hj => cases hj
    | 24, hj => cases hj
    | 25, hj => cases hj
    | 26, hj => cases hj
    | 27, hj => cases hj
    | 28, hj => cases hj
    | 29, hj => cases hj
    | 30, hj => cases hj; exact ⟨p30, by rw [K5]; rfl⟩
    | 31, hj => cases hj
    | n + 32, hj => simp at hj
  refine r_retag (a := 63) (k := 7) (al := []) C E0 (Nat.zero_le _) (by decide) ha5 rfl hp5 ⟨trivial, (show (0 : Nat) ≠ 63 by decide), trivial⟩ trivial ?_
  have K6 : xK (rt h5 63 7) = AL P63 false false := by show (xK h5).set _ _ = _; rw [K5]; rfl
  have no6 : NOk (rt h5 63 7) := no5.mk8 (by decide) ha5
  have o6 : Ow (rt h5 63 7) v00 v00 v00 g00 (fun _ => 0) 0 (b2i false) := o4.lo lo5
  have M6 : Md (rt h5 63 7) P63 63 v00 g00 0 false false := ⟨m5, ms5, z5, by decide, no6, rfl, by decide, K6, ⟨fun _ => rfl, fun _ => n21⟩, ⟨fun _ => rfl, fun _ => n22⟩, Or.inl n21, Or.inl n22, fun _ => n21⟩
  generalize rt h5 63 7 = h6 at o6 M6 ⊢
  refine r_astore_n (ls' := [(0, vt 9000), (1, vr 6 0), (2, vr 7 63)]) C (dx dL_h 7 rfl) (by decide) [1, 2, 0] rfl ?_
  refine r_iconst (v := nI 0) C (dx dL_h 8 rfl) rfl ?_
  refine r_istore_n (ls' := [(0, vt 9000), (1, vr 6 0), (2, vr 7 63), (3, vi (nI 0))]) C (dx dL_h 9 rfl) (by decide) [1, 2, 3, 0] rfl ?_
  have gk : GOk g00 := ⟨fun s hs => by show inR (0 : Int32) 41 = true; decide, fun s hs => Or.inl rfl⟩
  have y6 : XT h6 63 false v00 (xI h6 (63 + 16)) := ⟨fun _ _ => rfl, fun q => absurd q (by decide)⟩
  exact kk h6 ⟨_, _, _, _, _, _, _, _, _, o6, gk, M6, y6, (fun i hi => absurd hi (Nat.not_lt_zero i)), ok_00, (fun q => absurd q (by decide))⟩
end
section
/-! PART 42: the law, from its entry -/
theorem mb_1 {w : Cond} (i : Nat) (h : tables_1_1[i]? = some w) : w ∈ lw_tbl := by
  have h1 := List.mem_of_getElem? h
  have h2 : w ∈ tables_1 := List.mem_append_left _ h1
  exact List.mem_append_right _ h2
theorem mb_2 {w : Cond} (i : Nat) (h : tables_1_2[i]? = some w) : w ∈ lw_tbl := by
  have h1 := List.mem_of_getElem? h
  have h2 : w ∈ tables_1 := List.mem_append_right _ (List.mem_append_left _ h1)
  exact List.mem_append_right _ h2
theorem mb_3 {w : Cond} (i : Nat) (h : tables_1_3[i]? = some w) : w ∈ lw_tbl := by
  have h1 := List.mem_of_getElem? h
  have h2 : w ∈ tables_1 := List.mem_append_right _ (List.mem_append_right _ (List.mem_append_left _ h1))
  exact List.mem_append_right _ h2
theorem mb_4 {w : Cond} (i : Nat) (h : tables_1_4[i]? = some w) : w ∈ lw_tbl := by
  have h1 := List.mem_of_getElem? h
  have h2 : w ∈ tables_1 := List.mem_append_right _ (List.mem_append_right _ (List.mem_append_right _ (List.mem_append_left _ h1)))
  exact List.mem_append_right _ h2
theorem mb_5 {w : Cond} (i : Nat) (h : tables_1_5[i]? = some w) : w ∈ lw_tbl := by
  have h1 := List.mem_of_getElem? h
  have h2 : w ∈ tables_1 := List.mem_append_right _ (List.mem_append_right _ (List.mem_append_right _ (List.mem_append_right _ (List.mem_append_left _ h1))))
  exact List.mem_append_right _ h2
theorem mb_6 {w : Cond} (i : Nat) (h : tables_1_6[i]? = some w) : w ∈ lw_tbl := by
  have h1 := List.mem_of_getElem? h
  have h2 : w ∈ tables_1 := List.mem_append_right _ (List.mem_append_right _ (List.mem_append_right _ (List.mem_append_right _ (List.mem_append_right _ (List.mem_append_left _ h1)))))
  exact List.mem_append_right _ h2
theorem mb_7 {w : Cond} (i : Nat) (h : tables_1_7[i]? = some w) : w ∈ lw_tbl := by
  have h1 := List.mem_of_getElem? h
  have h2 : w ∈ tables_1 := List.mem_append_right _ (List.mem_append_right _ (List.mem_append_right _ (List.mem_append_right _ (List.mem_append_right _ (List.mem_append_right _ (h1))))))
  exact List.mem_append_right _ h2
def tIx : List Nat := [35, 65, 82, 44, 89, 94, 49, 99, 104, 54]
def mIx : List Nat := [214, 197, 203, 204, 210, 212, 221, 222, 224, 226]
def tT (i : Nat) : Term := .string "OnlyWhatFits$Tape" (tIx.getD i 0)
def tM (i : Nat) : Term := .string "OnlyWhatFitsModel" (mIx.getD i 0)
def lwF : List Cond := flatC (Cond.and given_1 narrow_1)
theorem fx1 : ∀ i, i < 10 → decide (Cond.exactly (tT i) "java/lang/String" ∈ lwF) = true := by decide +kernel
theorem fx2 : ∀ i, i < 10 → decide (Cond.eq (.field (tT i) "java/lang/String" "coder" "B") (.int 0) ∈ lwF) = true := by decide +kernel
theorem fx3 : ∀ i, i < 10 → decide (Cond.arrayOf (.field (tT i) "java/lang/String" "value" "[B") .byte ∈ lwF) = true := by decide +kernel
theorem fx4 : ∀ i, i < 10 → decide (Cond.eq (.length (.field (tT i) "java/lang/String" "value" "[B")) (.int (Int32.ofNat (txL.getD i 0))) ∈ lwF) = true := by decide +kernel
theorem fx5 : ∀ i, i < 10 → ∀ j, j < txL.getD i 0 → decide (Cond.eq (.elem (.field (tT i) "java/lang/String" "value" "[B") (.int (Int32.ofNat j))) (.int ((txB.getD i []).getD j 0)) ∈ lwF) = true := by decide +kernel
def nxT : List (List Nat) := [[0, 23, 34, 47, 58, 69, 81, 95, 111, 128], [0, 0, 35, 48, 59, 70, 82, 96, 112, 129], [0, 0, 0, 49, 60, 71, 83, 97, 113, 130], [0, 0, 0, 0, 61, 72, 84, 98, 114, 131], [0, 0, 0, 0, 0, 73, 85, 99, 115, 132], [0, 0, 0, 0, 0, 0, 86, 100, 116, 133], [0, 0, 0, 0, 0, 0, 0, 101, 117, 134], [0, 0, 0, 0, 0, 0, 0, 0, 118, 135], [0, 0, 0, 0, 0, 0, 0, 0, 0, 136], [0, 0, 0, 0, 0, 0, 0, 0, 0, 0]]
theorem fx6 : ∀ i, i < 10 → ∀ j, j < 10 → i < j → decide (lwF[(nxT.getD i []).getD j 0]? = some (Cond.not (Cond.eq (tT i) (tT j)))) = true := by decide +kernel
theorem fx7 : ∀ i, i < 10 → decide (Cond.eq (tT i) (tM i) ∈ lwF) = true := by decide +kernel
theorem fx8 : decide (Cond.eq (.static "java/lang/String" "COMPACT_STRINGS" "Z") (.int 1) ∈ lwF) = true := by decide +kernel
theorem fx9 : decide (Cond.isRef (.static "jdk/internal/util/Preconditions" "SIOOBE_FORMATTER" "Ljava/util/function/BiFunction;") ∈ lwF) = true := by decide +kernel
theorem eq_ref {args : Array Value} {s : State} {t u : Term} {a : Nat} (h : (Cond.eq t u).before args s = true) (ht : t.eval args s none [] s = some (.ref a)) : u.eval args s none [] s = some (.ref a) := by
  cases hu : u.eval args s none [] s with
  | none => simp [Cond.before, Cond.holds, Cond.value, ht, hu] at h
  | some w =>
    simp only [Cond.before, Cond.holds, Cond.value, ht, hu] at h
    cases w <;> simp_all
theorem arr_s {args : Array Value} {s : State} {ty : FieldType} (h : (Cond.arrayClass ty).before args s = true) : ∃ cA, ArrOfT s cA ty ∧ s.vm.findClass ("[" ++ ty.toString) = some cA := by
  obtain ⟨c, k, comp, h1, h2, h3⟩ := Cond.arrayClass_spec (args := args) (first := s) (o := none) (s := s) (idx := []) h
  exact ⟨c, fun n z => ⟨fun k h => (by cases h), k, h2, comp, h3⟩, h1⟩
theorem arr_o {args : Array Value} {s : State} {ty : FieldType} (h : (Cond.arrayOver (.array ty)).before args s = true) : ∃ cA, ArrOfT s cA (.array ty) ∧ s.vm.findClass ("[" ++ (FieldType.array ty).toString) = some cA := by
  obtain ⟨comp, c, k, h1, h2, h3, h4⟩ := Cond.arrayOver_specA (args := args) (first := s) (o := none) (s := s) (idx := []) h
  exact ⟨c, fun n z => ⟨fun k h => (by cases h), k, h2, comp, h3⟩, h4⟩
set_option maxHeartbeats 4000000 in
set_option maxRecDepth 100000 in
theorem whole_start {p : Program} {e : Env} {s : State} {m : MethodId} {below : List Frame} {meth : Method} {c : Code} (l : Launch) (hflags : l.flags = flags0) {b L : Nat} {xs : Nat → Int32} (hL : L ≤ 3072) (C0 : lw_At p s m meth c b L xs) : W p l e room_1 s m #[Value.ref b] below meth c s.heap [] 0 0 (lw_Z below #[Value.ref b] s) (entryFrame m ([Value.ref b] : List Value).toArray 4) := by
  obtain ⟨hx, hb, hr, hml, hown, hts, hX, hbl, hlocks, hgv⟩ := id C0
  have hg : ∀ w ∈ lw_g, w.before #[Value.ref b] s = true := fun w hw => hts w (List.mem_filter.mp hw).1
  have hq : ∀ w ∈ lwF, w.before #[Value.ref b] s = true := flat_of_before _ hgv
  have hA0 : ∀ a : Nat, a < s.heap.size → ¬ s.heap.size ≤ a := fun a h => Nat.not_le.mpr h
  obtain ⟨c0, i0, kn0⟩ := u_known (C := RX0) (T := TX0) (N := 1) (n := 1) hg cl_in0 (hg _ q_in0)
  obtain ⟨c1, i1, kn1⟩ := u_known (C := RX1) (T := TX1) (N := 6) (n := 6) hg cl_in1 (hg _ q_in1)
  obtain ⟨c2, i2, kn2⟩ := u_known (C := RX2) (T := TX2) (N := 4) (n := 4) hg cl_in2 (hg _ q_in2)
  obtain ⟨c3, i3, kn3⟩ := u_known (C := RX3) (T := TX3) (N := 5) (n := 5) hg cl_in3 (hg _ q_in3)
  obtain ⟨c4, i4, kn4⟩ := u_known (C := RX4) (T := TX4) (N := 3) (n := 3) hg cl_in4 (hg _ q_in4)
  obtain ⟨c5, i5, kn5⟩ := u_known (C := RX5) (T := TX5) (N := 12) (n := 12) hg cl_in5 (hg _ q_in5)
  obtain ⟨c6, i6, kn6⟩ := u_known (C := RX6) (T := TX6) (N := 12) (n := 12) hg cl_in6 (hg _ q_in6)
  obtain ⟨c7, i7, kn7⟩ := u_known (C := RX7) (T := TX7) (N := 32) (n := 32) hg cl_in7 (hg _ q_in7)
  obtain ⟨dC, dI, hKc⟩ : ∃ (dC : Nat → ClassId) (dI : Nat → Nat → Nat), ∀ (k : Nat) (q : vw_C), vwCl[k]? = some q → u_Kn s q.1 q.2.1 q.2.2 (dC k) (dI k) := by
    refine ⟨fun k => [c0, c1, c2, c3, c4, c5, c6, c7].getD (k % 8) c0, fun k => [i0, i1, i2, i3, i4, i5, i6, i7].getD (k % 8) i0, ?_⟩
    intro k q hq
    match k, hq with
    | 0, hq => cases hq; exact kn0
    | 1, hq => cases hq; exact kn1
    | 2, hq => cases hq; exact kn2
    | 3, hq => cases hq; exact kn3
    | 4, hq => cases hq; exact kn4
    | 5, hq => cases hq; exact kn5
    | 6, hq => cases hq; exact kn6
    | 7, hq => cases hq; exact kn7
    | 8, hq => cases hq; exact kn0
    | 9, hq => cases hq; exact kn1
    | 10, hq => cases hq; exact kn2
    | 11, hq => cases hq; exact kn3
    | 12, hq => cases hq; exact kn4
    | 13, hq => cases hq; exact kn5
    | 14, hq => cases hq; exact kn6
    | 15, hq => cases hq; exact kn7
    | k + 16, hq => simp [vwCl] at hq
  obtain ⟨a0, b0, d0⟩ := arr_s (hg _ q_ac_int)
  obtain ⟨a1, b1, d1⟩ := arr_s (hg _ q_ac_long)
  obtain ⟨a2, b2, d2⟩ := arr_s (hg _ q_ac_byte)
  obtain ⟨a3, b3, d3⟩ := arr_s (hg _ q_ac_boolean)
  obtain ⟨a4, b4, d4⟩ := arr_o (hts _ (mb_1 144 rfl))
  obtain ⟨a5, b5, d5⟩ := arr_o (hts _ (mb_1 195 rfl))
  obtain ⟨dA, hdA⟩ : ∃ dA : Nat → ClassId, ∀ (k : Nat) (q : ClassId × FieldType), (tysD dA)[k]? = some q → ArrOfT s q.1 q.2 ∧ va_RA s q.1 q.2 := by
    refine ⟨fun k => [a0, a1, a2, a3, a4, a5].getD k a0, ?_⟩
    intro k q hq
    match k, hq with
    | 0, hq => cases hq; exact ⟨b0, d0⟩
    | 1, hq => cases hq; exact ⟨b1, d1⟩
    | 2, hq => cases hq; exact ⟨b2, d2⟩
    | 3, hq => cases hq; exact ⟨b3, d3⟩
    | 4, hq => cases hq; exact ⟨b4, d4⟩
    | 5, hq => cases hq; exact ⟨b5, d5⟩
    | k + 6, hq => simp [tysD] at hq
  have hK : va_K (dC, dI) vwCl (tysD dA) s := ⟨hKc, hdA⟩
  obtain ⟨adK, adV, hvS, hev⟩ := vk_Sof (args := #[Value.ref b]) (s := s) (N := 10) (tm := tT) (len := txL) (byt := txB) (A := fun q => s.heap.size ≤ q) (by decide) (fun i hi => hq _ (of_decide_eq_true (fx1 i hi))) (fun i hi => hq _ (of_decide_eq_true (fx2 i hi))) (fun i hi => hq _ (of_decide_eq_true (fx3 i hi))) (fun i hi => hq _ (of_decide_eq_true (fx4 i hi))) (fun i hi j hj => hq _ (of_decide_eq_true (fx5 i hi j hj))) (fun i j hi hj ne => by
    rcases Nat.lt_or_gt_of_ne ne with z | z
    · exact Or.inl (hq _ (List.mem_of_getElem? (of_decide_eq_true (fx6 i hi j hj z))))
    · exact Or.inr (hq _ (List.mem_of_getElem? (of_decide_eq_true (fx6 j hj i hi z))))) hA0
  have hZ1 : va_Z "java/lang/String" "COMPACT_STRINGS" "Z" (.int 1) (fun q => s.heap.size ≤ q) s s.heap := va_Zof (hts _ (mb_3 61 rfl)) (hts _ (mb_1 12 rfl)) (va_eqi (hq _ (of_decide_eq_true fx8))) hA0
  have hZ2 := va_Zqof (A := fun q => s.heap.size ≤ q) (hts _ (mb_3 77 rfl)) (hts _ (mb_1 14 rfl)) (hq _ (of_decide_eq_true fx9)) hA0
  obtain ⟨t3, hZ3⟩ : ∃ t3 : Nat, va_Z "jdk/internal/util/Preconditions" "SIOOBE_FORMATTER" "Ljava/util/function/BiFunction;" .null (fun q => s.heap.size ≤ q) s s.heap ∨ va_Z "jdk/internal/util/Preconditions" "SIOOBE_FORMATTER" "Ljava/util/function/BiFunction;" (.ref t3) (fun q => s.heap.size ≤ q) s s.heap := by
    rcases hZ2 with h | ⟨t, h⟩
    · exact ⟨0, Or.inl h⟩
    · exact ⟨t, Or.inr h⟩
  obtain ⟨f0, e1, e2, e3, e9⟩ : ∃ f0 : Nat → Nat, (∀ i, i < 10 → f0 (1000 + i) = adK i) ∧ (∀ i, i < 10 → f0 (2000 + i) = adV i) ∧ f0 3000 = t3 ∧ f0 9000 = b := by
    refine ⟨fun a => if a = 9000 then b else if a = 3000 then t3 else if 2000 ≤ a then adV (a - 2000) else adK (a - 1000), fun i hi => ?_, fun i hi => ?_, ?_, ?_⟩
    · show (if 1000 + i = 9000 then _ else _) = _
      rw [if_neg (by omega), if_neg (by omega), if_neg (by omega), Nat.add_sub_cancel_left]
    · show (if 2000 + i = 9000 then _ else _) = _
      rw [if_neg (by omega), if_neg (by omega), if_pos (by omega), Nat.add_sub_cancel_left]
    · rfl
    · rfl
  have hSF : SF f0 (fun q => s.heap.size ≤ q) s s.heap := by
    refine ⟨⟨fun i hi => ?_, fun i j hi hj ee => ?_⟩, hZ1, by rw [e3]; exact hZ3, fun k q hk => ?_, ?_⟩
    · show va_O _ (f0 (1000 + i)) _ _ _ ∧ va_OF _ _ _ _ (f0 (1000 + i)) _ _ _ ∧ va_OF _ _ _ (.ref (f0 (2000 + i))) (f0 (1000 + i)) _ _ _ ∧ va_T _ (f0 (2000 + i)) _ _ _ _ _
      rw [e1 i hi, e2 i hi]; exact hvS.1 i hi
    · have ee : f0 (1000 + i) = f0 (1000 + j) := ee
      rw [e1 i hi, e1 j hj] at ee; exact hvS.2 i j hi hj ee
    · match k, hk with
      | 0, hk => cases hk; show vk_R _ _ _ (f0 (1000 + 0)) _; rw [e1 0 (by decide)]; exact vk_R.of (A := #[Value.ref b]) (hts _ (mb_3 47 rfl)) (hev 0 (by decide))
      | 1, hk => cases hk; show vk_R _ _ _ (f0 (1000 + 1)) _; rw [e1 1 (by decide)]; exact vk_R.of (A := #[Value.ref b]) (hts _ (mb_3 105 rfl)) (hev 1 (by decide))
      | 2, hk => cases hk; show vk_R _ _ _ (f0 (1000 + 2)) _; rw [e1 2 (by decide)]; exact vk_R.of (A := #[Value.ref b]) (hts _ (mb_3 111 rfl)) (hev 2 (by decide))
      | 3, hk => cases hk; show vk_R _ _ _ (f0 (1000 + 3)) _; rw [e1 3 (by decide)]; exact vk_R.of (A := #[Value.ref b]) (hts _ (mb_3 112 rfl)) (hev 3 (by decide))
      | 4, hk => cases hk; show vk_R _ _ _ (f0 (1000 + 4)) _; rw [e1 4 (by decide)]; exact vk_R.of (A := #[Value.ref b]) (hts _ (mb_3 117 rfl)) (hev 4 (by decide))
      | 5, hk => cases hk; show vk_R _ _ _ (f0 (1000 + 5)) _; rw [e1 5 (by decide)]; exact vk_R.of (A := #[Value.ref b]) (hts _ (mb_3 118 rfl)) (hev 5 (by decide))
      | 6, hk => cases hk; show vk_R _ _ _ (f0 (1000 + 6)) _; rw [e1 6 (by decide)]; exact vk_R.of (A := #[Value.ref b]) (hts _ (mb_3 120 rfl)) (hev 6 (by decide))
      | 7, hk => cases hk; show vk_R _ _ _ (f0 (1000 + 7)) _; rw [e1 7 (by decide)]; exact vk_R.of (A := #[Value.ref b]) (hts _ (mb_3 125 rfl)) (hev 7 (by decide))
      | 8, hk => cases hk; show vk_R _ _ _ (f0 (1000 + 8)) _; rw [e1 8 (by decide)]; exact vk_R.of (A := #[Value.ref b]) (hts _ (mb_3 127 rfl)) (hev 8 (by decide))
      | 9, hk => cases hk; show vk_R _ _ _ (f0 (1000 + 9)) _; rw [e1 9 (by decide)]; exact vk_R.of (A := #[Value.ref b]) (hts _ (mb_3 128 rfl)) (hev 9 (by decide))
      | 10, hk => cases hk; show vk_R _ _ _ (f0 (1000 + 0)) _; rw [e1 0 (by decide)]; exact vk_R.of (A := #[Value.ref b]) (hts _ (mb_6 37 rfl)) (eq_ref (hq _ (of_decide_eq_true (fx7 0 (by decide)))) (hev 0 (by decide)))
      | 11, hk => cases hk; show vk_R _ _ _ (f0 (1000 + 1)) _; rw [e1 1 (by decide)]; exact vk_R.of (A := #[Value.ref b]) (hts _ (mb_6 49 rfl)) (eq_ref (hq _ (of_decide_eq_true (fx7 1 (by decide)))) (hev 1 (by decide)))
      | 12, hk => cases hk; show vk_R _ _ _ (f0 (1000 + 2)) _; rw [e1 2 (by decide)]; exact vk_R.of (A := #[Value.ref b]) (hts _ (mb_6 58 rfl)) (eq_ref (hq _ (of_decide_eq_true (fx7 2 (by decide)))) (hev 2 (by decide)))
      | 13, hk => cases hk; show vk_R _ _ _ (f0 (1000 + 3)) _; rw [e1 3 (by decide)]; exact vk_R.of (A := #[Value.ref b]) (hts _ (mb_6 59 rfl)) (eq_ref (hq _ (of_decide_eq_true (fx7 3 (by decide)))) (hev 3 (by decide)))
      | 14, hk => cases hk; show vk_R _ _ _ (f0 (1000 + 4)) _; rw [e1 4 (by decide)]; exact vk_R.of (A := #[Value.ref b]) (hts _ (mb_6 72 rfl)) (eq_ref (hq _ (of_decide_eq_true (fx7 4 (by decide)))) (hev 4 (by decide)))
      | 15, hk => cases hk; show vk_R _ _ _ (f0 (1000 + 5)) _; rw [e1 5 (by decide)]; exact vk_R.of (A := #[Value.ref b]) (hts _ (mb_6 73 rfl)) (eq_ref (hq _ (of_decide_eq_true (fx7 5 (by decide)))) (hev 5 (by decide)))
      | 16, hk => cases hk; show vk_R _ _ _ (f0 (1000 + 6)) _; rw [e1 6 (by decide)]; exact vk_R.of (A := #[Value.ref b]) (hts _ (mb_6 74 rfl)) (eq_ref (hq _ (of_decide_eq_true (fx7 6 (by decide)))) (hev 6 (by decide)))
      | 17, hk => cases hk; show vk_R _ _ _ (f0 (1000 + 7)) _; rw [e1 7 (by decide)]; exact vk_R.of (A := #[Value.ref b]) (hts _ (mb_6 75 rfl)) (eq_ref (hq _ (of_decide_eq_true (fx7 7 (by decide)))) (hev 7 (by decide)))
      | 18, hk => cases hk; show vk_R _ _ _ (f0 (1000 + 8)) _; rw [e1 8 (by decide)]; exact vk_R.of (A := #[Value.ref b]) (hts _ (mb_6 76 rfl)) (eq_ref (hq _ (of_decide_eq_true (fx7 8 (by decide)))) (hev 8 (by decide)))
      | 19, hk => cases hk; show vk_R _ _ _ (f0 (1000 + 9)) _; rw [e1 9 (by decide)]; exact vk_R.of (A := #[Value.ref b]) (hts _ (mb_6 77 rfl)) (eq_ref (hq _ (of_decide_eq_true (fx7 9 (by decide)))) (hev 9 (by decide)))
      | k + 20, hk => simp [txR] at hk
    · refine ⟨over_moved (Vm.Alike.refl _) (hts _ (mb_1 144 rfl)), over_moved (Vm.Alike.refl _) (hts _ (mb_1 195 rfl)), fun i q hq => ?_⟩
      match i, hq with
      | 0, hq => cases hq; exact va_Nw.of (A := #[Value.ref b]) rfl (hts _ (mb_1 27 rfl))
      | 1, hq => cases hq; exact va_Nw.of (A := #[Value.ref b]) rfl (hts _ (mb_1 129 rfl))
      | 2, hq => cases hq; exact va_Nw.of (A := #[Value.ref b]) rfl (hts _ (mb_1 139 rfl))
      | 3, hq => cases hq; exact va_Nw.of (A := #[Value.ref b]) rfl (hts _ (mb_1 167 rfl))
      | i + 4, hq => simp [lnR] at hq
  have C : Cx (p, l, e, room_1, s, m, #[Value.ref b], below, meth, c, (dC, dI), dA, (fun q => s.heap.size ≤ q), f0, [], lw_Z below #[Value.ref b] s, 4) code 4 RL := ⟨rfl, hx, hb, hml, hown, hg, hlocks, hK, fun q h => h, hSF⟩
  have X : Rmx l (p, l, e, room_1, s, m, #[Value.ref b], below, meth, c, (dC, dI), dA, (fun q => s.heap.size ≤ q), f0, [], lw_Z below #[Value.ref b] s, 4) 2048 (AL P63 true true) := ⟨rfl, by decide +kernel, by decide +kernel, by decide +kernel, by decide +kernel⟩
  have S : SLw (p, l, e, room_1, s, m, #[Value.ref b], below, meth, c, (dC, dI), dA, (fun q => s.heap.size ≤ q), f0, [], lw_Z below #[Value.ref b] s, 4) b L xs := ⟨e9, hX, hbl, Nat.not_le.mpr hbl⟩
  have E : ∀ (pc : Nat) (ls : List (Nat × V)) (h' : Hp), decode code pc = .ok (.ireturn, 1) → xK h' <+: AL P63 true true → Rr (p, l, e, room_1, s, m, #[Value.ref b], below, meth, c, (dC, dI), dA, (fun q => s.heap.size ≤ q), f0, [], lw_Z below #[Value.ref b] s, 4) pc ls [vi 1] h' := by
    intro pc ls h' hdg hp f H locs LS h1 h2 h3 hP hD hS hl w1 w2
    have n1 : (xK h').length ≤ 600000 := Nat.le_trans (pfx_len hp) (by decide +kernel)
    have n2 : slo (xK h') ≤ 7302250 := Nat.le_trans (pfx_slo hp) (by decide +kernel)
    refine va_forget (fun q hq => hS.2.2 q hq) ?_
    refine W.widen (k := 600000) (n := 7302250) (Nat.le_trans (Nat.sub_le _ _) n1) (Nat.le_trans (Nat.sub_le _ _) n2) ?_
    exact lw_ret hx hb hr hlocks hdg
  have hl := lv_entry ([.ref b]) (n := 4) (Nat.le_of_ble_eq_true rfl)
  rw [lg_entry_eq]
  generalize (lg_sl ([.ref b]) ++ List.replicate (4 - (lg_sl ([.ref b])).length) Slot.unset).toArray = ls at hl ⊢
  have hl : lv_has ls 4 [(0, .ref b)] := hl
  have R := law_new C rfl X (fun h' v' => law_loop C X S hL E (L + 6) 0 h' (by omega) (by omega) v')
  exact R f0 s.heap [] ls (fun _ _ => rfl) List.nil_prefix (fun a k h => by have q : ([] : List Nat)[a]? = some k := h; simp at q) (fun k q h => by have z : ([] : va_W)[k]? = some q := h; simp at z) ⟨fun i j p q h => by (have z : ([] : va_W)[i]? = some p := h); simp at z, fun k q h => by (have z : ([] : va_W)[k]? = some q := h); simp at z⟩ va_S.rf (by show lv_has ls 4 [(0, .ref (f0 9000))]; rw [e9]; exact hl) (fun q hq => by rw [List.mem_singleton.mp hq]; show 1000 ≤ 9000; decide) (fun q hq => by cases hq)
end
