/-! PART 11: teams -/
theorem rn_sh1 {G : Gt} {cc : ByteArray} {nL pc : Nat} {own : String} {ls : List (Nat × V)} {st : List V} {h : Hp} (C : Cx G cc nL own) {o : Nat} (ho : o < 13) (dd : decode cc pc = .ok (.ishl, 1)) (kk : Rr G (pc + 1) ls (vi (nI (2 ^ o)) :: st) h) : Rr G pc ls (vi (nI o) :: vi (nI 1) :: st) h :=
  r_ishl C dd (by rw [sh1 ho]; exact kk)
theorem c_allS {l : Launch} {h : Hp} {k S : Nat} {v : Vg} (hv : VilAt h k v) (hS : S = 2 ^ vN v) : Mp l yX5_allPeople cX5_allPeople 1 (some .int) 1 [vr 5 k] h (vi (nI (S - 1))) := by subst hS; exact c_X5_allPeople hv
def sumIfL (p : Nat → Bool) (f : Nat → Int64) : Nat → Int64
  | 0 => 0
  | n + 1 => if p n then sumIfL p f n + f n else sumIfL p f n
def oddsC (v : Vg) (m : Nat) : Int64 := sumIfL (fun s => needW v (gat v s (vN v)) m) (fun s => wgt v s (vN v)) (2 ^ vN v)
def oddsPC (v : Vg) (m o : Nat) : Int64 := sumIfL (fun s => bothW v m o (nI s)) (fun s => wgt v s (vN v)) (2 ^ vN v)
def dayC (v : Vg) : Int64 := sumL (fun s => wgt v s (vN v) * (worthS v (gat v s (vN v))).toInt64) (2 ^ vN v)
set_option maxHeartbeats 4000000 in
theorem c_X4_weigh {l : Launch} {h : Hp} {k kv : Nat} {v : Vg} (hv : VilAt h kv v) (hd : kv + 9 ≤ k ∨ k + 4 ≤ kv) : Ms l yX4_weigh cX4_weigh 6 none 1 [vr 4 k, vr 5 kv] h (xK h) (fun r h' => r = none ∧ (∀ s, s < 2 ^ vN v → xL h' (k + 1) s = wgt v s (vN v)) ∧ Fr (k + 1) (k + 2) h h') := by
  refine Ms.of (by decide) (Nat.le_of_ble_eq_true rfl) (fun G C X F => ?_)
  have C : Cx G cX4_weigh 6 RX4 := C
  show Rr G 0 [(0, vr 4 k), (1, vr 5 kv)] [] h
  have bP := hv.bP
  have bM := hv.bM
  have bN := hv.bN
  have p8 := pow8 bN
  refine r_aload_n C (dx dX4_weigh 0 rfl) rfl ?_
  refine g_X4_9 C (dx dX4_weigh 1 rfl) ?_
  refine r_iconst (v := nI 0) C (dx dX4_weigh 2 rfl) rfl ?_
  refine r_lconst (v := 1) C (dx dX4_weigh 3 rfl) rfl ?_
  refine r_last (j := 0) C rfl rfl (by decide) rfl (by omega) (dx dX4_weigh 4 rfl) ?_
  have eh1 : ∀ i, xL (sL h (k + 1) 0 1) (k + 1) i = if i = 0 then 1 else xL h (k + 1) i := fun i => sL_at
  have fh1 : Fr (k + 1) (k + 2) h (sL h (k + 1) 0 1) := Fr.sL (by omega) (by omega)
  have kh1 : xK (sL h (k + 1) 0 1) = xK h := rfl
  have uh1 : VilAt (sL h (k + 1) 0 1) kv v := hv.fr fh1 (by omega)
  generalize sL h (k + 1) 0 1 = h1 at eh1 fh1 kh1 uh1 ⊢
  refine r_iconst (v := nI 0) C (dx dX4_weigh 5 rfl) rfl ?_
  refine r_istore_n (ls' := [(0, vr 4 k), (1, vr 5 kv), (2, vi (nI 0))]) C (dx dX4_weigh 6 rfl) (by decide) [1, 2, 0] rfl ?_
  have q0 : ∀ s, s < 2 ^ 0 → xL h1 (k + 1) s = wgt v s 0 := fun s hs => by rw [show s = 0 by omega]; exact ((eh1 _).trans (if_pos rfl))
  refine loopU (Φ := fun o => ∀ h9, (∀ s, s < 2 ^ o → xL h9 (k + 1) s = wgt v s o) → Fr (k + 1) (k + 2) h h9 → xK h9 = xK h → Rr G 9 [(0, vr 4 k), (1, vr 5 kv), (2, vi (nI o))] [] h9) (N := vN v) ?_ ?_ 0 (Nat.zero_le _) _ q0 fh1 kh1
  ·
    intro  h2 qh2 fh2 kh2
    have uh2 : VilAt h2 kv v := hv.fr fh2 (by omega)
    refine r_iload_n C (dx dX4_weigh 7 rfl) rfl ?_
    refine r_aload_n C (dx dX4_weigh 8 rfl) rfl ?_
    refine g_X4_22 (x := nI (vN v)) C (dx dX4_weigh 9 rfl) uh2.eN ?_
    refine rn_ge (a := vN v) (b := vN v) (tgt := 105) C (by omega) (by omega) (dx dX4_weigh 10 rfl) (by decide) (fun c3 => ?_) (fun c3 => ?_)
    · first
      | (omega; done)
      | (
          have c3 : vN v ≤ vN v := c3
          exact F.2.2.1 _ _ _ rfl (dx dX4_weigh 62 rfl) kh2 ⟨rfl, qh2, fh2⟩)
    · first
      | (omega; done)
      | (
          have c3 : vN v < vN v := c3
          refine r_aload_n C (dx dX4_weigh 11 rfl) rfl ?_
          refine g_X4_28 C (dx dX4_weigh 12 rfl) ?_
          refine r_iload_n C (dx dX4_weigh 13 rfl) rfl ?_
          refine r_zald (j := vN v) (x := vF v 6 (vN v)) C rfl rfl (by decide) rfl (by omega) (dx dX4_weigh 14 rfl) (uh2.e6 (by omega)) ?_
          refine r_if_eq (tgt := 31) C (dx dX4_weigh 15 rfl) (by decide) (fun c4 => ?_) (fun c4 => ?_)
          ·
            have c4 : vF v 6 (vN v) = 0 := c4
            refine r_aload_n C (dx dX4_weigh 18 rfl) rfl ?_
            refine g_X4_32 C (dx dX4_weigh 19 rfl) ?_
            refine r_iload_n C (dx dX4_weigh 20 rfl) rfl ?_
            refine r_iald (j := vN v) (x := vF v 5 (vN v)) C rfl rfl (by decide) rfl (by omega) (dx dX4_weigh 21 rfl) (uh2.e5 (by omega)) ?_
            refine r_istore_n (ls' := [(0, vr 4 k), (1, vr 5 kv), (2, vi (nI (vN v))), (3, vi (vF v 5 (vN v)))]) C (dx dX4_weigh 22 rfl) (by decide) [1, 2, 3, 0] rfl ?_
            refine r_iconst (v := nI 1) C (dx dX4_weigh 23 rfl) rfl ?_
            refine r_iload_n C (dx dX4_weigh 24 rfl) rfl ?_
            refine rn_sh1 (o := vN v) C (by omega) (dx dX4_weigh 25 rfl) ?_
            refine r_istore (ls' := [(0, vr 4 k), (1, vr 5 kv), (2, vi (nI (vN v))), (3, vi (vF v 5 (vN v))), (4, vi (nI (2 ^ (vN v))))]) C (dx dX4_weigh 26 rfl) (by decide) [1, 2, 3, 4, 0] rfl ?_
            refine r_iconst (v := nI 0) C (dx dX4_weigh 27 rfl) rfl ?_
            refine r_istore (ls' := [(0, vr 4 k), (1, vr 5 kv), (2, vi (nI (vN v))), (3, vi (vF v 5 (vN v))), (4, vi (nI (2 ^ (vN v)))), (5, vi (nI 0))]) C (dx dX4_weigh 28 rfl) (by decide) [1, 2, 3, 4, 5, 0] rfl ?_
            have fcF : fac v o false = vF v 5 (vN v) := by simp [fac, c4]
            have fcT : fac v o true = nI 10 - (vF v 5 (vN v)) := by simp [fac, c4]
            refine loopU (Φ := fun s => ∀ h9, (∀ i, i < s → xL h9 (k + 1) i = wgt v i (o + 1) ∧ xL h9 (k + 1) (i + 2 ^ o) = wgt v (i + 2 ^ o) (o + 1)) → (∀ i, s ≤ i → i < 2 ^ o → xL h9 (k + 1) i = wgt v i o) → Fr (k + 1) (k + 2) h h9 → xK h9 = xK h → Rr G 46 [(0, vr 4 k), (1, vr 5 kv), (2, vi (nI (vN v))), (3, vi (vF v 5 (vN v))), (4, vi (nI (2 ^ (vN v)))), (5, vi (nI s))] [] h9) (N := 2 ^ o) ?_ ?_ 0 (Nat.zero_le _) _ (fun i hi => absurd hi (by omega)) (fun i _ hi => qh2 i hi) fh2 kh2
            ·
              intro  h5 qa qb fh5 kh5
              have uh5 : VilAt h5 kv v := hv.fr fh5 (by omega)
              have qh5 : ∀ s, s < 2 ^ (o + 1) → xL h5 (k + 1) s = wgt v s (o + 1) := fun s hs => by
                have := pow_s o
                by_cases hs2 : s < 2 ^ o
                · exact (qa s hs2).1
                · have q := (qa (s - 2 ^ o) (by omega)).2
                  rw [show s - 2 ^ o + 2 ^ o = s by omega] at q; exact q
              refine r_iload C (dx dX4_weigh 29 rfl) rfl ?_
              refine r_iload C (dx dX4_weigh 30 rfl) rfl ?_
              refine rn_ge (a := 2 ^ o) (b := 2 ^ (vN v)) (tgt := 99) C (by omega) (by omega) (dx dX4_weigh 31 rfl) (by decide) (fun c6 => ?_) (fun c6 => ?_)
              · first
                | (omega; done)
              · first
                | (omega; done)
            ·
              intro s hs ih h9 qa qb fh9 kh9
              have uh9 : VilAt h9 kv v := hv.fr fh9 (by omega)
              refine r_iload C (dx dX4_weigh 29 rfl) rfl ?_
              refine r_iload C (dx dX4_weigh 30 rfl) rfl ?_
              refine rn_ge (a := s) (b := 2 ^ (vN v)) (tgt := 99) C (by omega) (by omega) (dx dX4_weigh 31 rfl) (by decide) (fun c10 => ?_) (fun c10 => ?_)
              · first
                | (omega; done)
              · first
                | (omega; done)
                | (
                    have c10 : s < 2 ^ (vN v) := c10
                    refine r_aload_n C (dx dX4_weigh 32 rfl) rfl ?_
                    refine g_X4_9 C (dx dX4_weigh 33 rfl) ?_
                    refine r_iload C (dx dX4_weigh 34 rfl) rfl ?_
                    refine r_iload C (dx dX4_weigh 35 rfl) rfl ?_
                    refine r_ior C (dx dX4_weigh 36 rfl) ?_
                    refine r_aload_n C (dx dX4_weigh 37 rfl) rfl ?_
                    refine g_X4_9 C (dx dX4_weigh 38 rfl) ?_
                    refine r_iload C (dx dX4_weigh 39 rfl) rfl ?_
                    refine r_lald (j := s) (x := wgt v s o) C rfl rfl (by decide) rfl (by omega) (dx dX4_weigh 40 rfl) (qb s (Nat.le_refl _) hs) ?_
                    refine r_bipush (v := nI 10) C (dx dX4_weigh 41 rfl) rfl ?_
                    refine r_iload_n C (dx dX4_weigh 42 rfl) rfl ?_
                    refine r_isub C (dx dX4_weigh 43 rfl) ?_
                    refine r_i2l C (dx dX4_weigh 44 rfl) ?_
                    refine r_lmul C (dx dX4_weigh 45 rfl) ?_
                    refine r_last (j := s + 2 ^ o) C rfl rfl (by decide) (or_pow (by omega) hs) (by omega) (dx dX4_weigh 46 rfl) ?_
                    have eh11 : ∀ i, xL (sL h9 (k + 1) (s + 2 ^ o) ((wgt v s o) * (((nI 10) - (vF v 5 (vN v))).toInt64))) (k + 1) i = if i = s + 2 ^ o then (wgt v s o) * (((nI 10) - (vF v 5 (vN v))).toInt64) else xL h9 (k + 1) i := fun i => sL_at
                    have fh11 : Fr (k + 1) (k + 2) h (sL h9 (k + 1) (s + 2 ^ o) ((wgt v s o) * (((nI 10) - (vF v 5 (vN v))).toInt64))) := fh9.tr <| Fr.sL (by omega) (by omega)
                    have kh11 : xK (sL h9 (k + 1) (s + 2 ^ o) ((wgt v s o) * (((nI 10) - (vF v 5 (vN v))).toInt64))) = xK h := kh9
                    have uh11 : VilAt (sL h9 (k + 1) (s + 2 ^ o) ((wgt v s o) * (((nI 10) - (vF v 5 (vN v))).toInt64))) kv v := hv.fr fh11 (by omega)
                    generalize sL h9 (k + 1) (s + 2 ^ o) ((wgt v s o) * (((nI 10) - (vF v 5 (vN v))).toInt64)) = h11 at eh11 fh11 kh11 uh11 ⊢
                    refine r_aload_n C (dx dX4_weigh 47 rfl) rfl ?_
                    refine g_X4_9 C (dx dX4_weigh 48 rfl) ?_
                    refine r_iload C (dx dX4_weigh 49 rfl) rfl ?_
                    refine r_aload_n C (dx dX4_weigh 50 rfl) rfl ?_
                    refine g_X4_9 C (dx dX4_weigh 51 rfl) ?_
                    refine r_iload C (dx dX4_weigh 52 rfl) rfl ?_
                    refine r_lald (j := s) (x := wgt v s o) C rfl rfl (by decide) rfl (by omega) (dx dX4_weigh 53 rfl) ((eh11 _).trans ((if_neg (by omega)).trans (qb s (Nat.le_refl _) hs))) ?_
                    refine r_iload_n C (dx dX4_weigh 54 rfl) rfl ?_
                    refine r_i2l C (dx dX4_weigh 55 rfl) ?_
                    refine r_lmul C (dx dX4_weigh 56 rfl) ?_
                    refine r_last (j := s) C rfl rfl (by decide) rfl (by omega) (dx dX4_weigh 57 rfl) ?_
                    have eh12 : ∀ i, xL (sL h11 (k + 1) s ((wgt v s o) * ((vF v 5 (vN v)).toInt64))) (k + 1) i = if i = s then (wgt v s o) * ((vF v 5 (vN v)).toInt64) else xL h11 (k + 1) i := fun i => sL_at
                    have fh12 : Fr (k + 1) (k + 2) h (sL h11 (k + 1) s ((wgt v s o) * ((vF v 5 (vN v)).toInt64))) := fh11.tr <| Fr.sL (by omega) (by omega)
                    have kh12 : xK (sL h11 (k + 1) s ((wgt v s o) * ((vF v 5 (vN v)).toInt64))) = xK h := kh11
                    have uh12 : VilAt (sL h11 (k + 1) s ((wgt v s o) * ((vF v 5 (vN v)).toInt64))) kv v := hv.fr fh12 (by omega)
                    generalize sL h11 (k + 1) s ((wgt v s o) * ((vF v 5 (vN v)).toInt64)) = h12 at eh12 fh12 kh12 uh12 ⊢
                    refine rn_iinc (a := s) (k := 1) (ls' := [(0, vr 4 k), (1, vr 5 kv), (2, vi (nI (vN v))), (3, vi (vF v 5 (vN v))), (4, vi (nI (2 ^ (vN v)))), (5, vi (nI (s + 1)))]) C (dx dX4_weigh 58 rfl) rfl rfl (by decide) [1, 2, 3, 4, 5, 0] rfl ?_
                    refine r_goto (tgt := 46) C (dx dX4_weigh 59 rfl) (by decide) ?_
                    refine ih _ (fun i hi => ?_) (fun i h1 h2 => ?_) fh12 kh12
                    · by_cases hi2 : i = s
                      · subst hi2
                        refine ⟨(eh12 _).trans ((if_pos rfl).trans ?_), (eh12 _).trans ((if_neg (by omega)).trans ((eh11 _).trans ((if_pos rfl).trans ?_)))⟩
                        · rw [wgt_at v hs, fcF]
                        · rw [wgt_hi v hs, fcT]
                      · have q := qa i (by omega)
                        exact ⟨(eh12 _).trans ((if_neg (by omega)).trans ((eh11 _).trans ((if_neg (by omega)).trans q.1))), (eh12 _).trans ((if_neg (by omega)).trans ((eh11 _).trans ((if_neg (by omega)).trans q.2)))⟩
                    · exact (eh12 _).trans ((if_neg (by omega)).trans ((eh11 _).trans ((if_neg (by omega)).trans (qb i (by omega) h2)))))
          ·
            have c4 : ¬ vF v 6 (vN v) = 0 := c4
            refine r_bipush (v := nI 10) C (dx dX4_weigh 16 rfl) rfl ?_
            refine r_goto (tgt := 37) C (dx dX4_weigh 17 rfl) (by decide) ?_
            refine r_istore_n (ls' := [(0, vr 4 k), (1, vr 5 kv), (2, vi (nI (vN v))), (3, vi (nI 10))]) C (dx dX4_weigh 22 rfl) (by decide) [1, 2, 3, 0] rfl ?_
            refine r_iconst (v := nI 1) C (dx dX4_weigh 23 rfl) rfl ?_
            refine r_iload_n C (dx dX4_weigh 24 rfl) rfl ?_
            refine rn_sh1 (o := vN v) C (by omega) (dx dX4_weigh 25 rfl) ?_
            refine r_istore (ls' := [(0, vr 4 k), (1, vr 5 kv), (2, vi (nI (vN v))), (3, vi (nI 10)), (4, vi (nI (2 ^ (vN v))))]) C (dx dX4_weigh 26 rfl) (by decide) [1, 2, 3, 4, 0] rfl ?_
            refine r_iconst (v := nI 0) C (dx dX4_weigh 27 rfl) rfl ?_
            refine r_istore (ls' := [(0, vr 4 k), (1, vr 5 kv), (2, vi (nI (vN v))), (3, vi (nI 10)), (4, vi (nI (2 ^ (vN v)))), (5, vi (nI 0))]) C (dx dX4_weigh 28 rfl) (by decide) [1, 2, 3, 4, 5, 0] rfl ?_
            have fcF : fac v o false = nI 10 := by simp [fac, c4]
            have fcT : fac v o true = nI 10 - (nI 10) := by simp [fac, c4]
            refine loopU (Φ := fun s => ∀ h9, (∀ i, i < s → xL h9 (k + 1) i = wgt v i (o + 1) ∧ xL h9 (k + 1) (i + 2 ^ o) = wgt v (i + 2 ^ o) (o + 1)) → (∀ i, s ≤ i → i < 2 ^ o → xL h9 (k + 1) i = wgt v i o) → Fr (k + 1) (k + 2) h h9 → xK h9 = xK h → Rr G 46 [(0, vr 4 k), (1, vr 5 kv), (2, vi (nI (vN v))), (3, vi (nI 10)), (4, vi (nI (2 ^ (vN v)))), (5, vi (nI s))] [] h9) (N := 2 ^ o) ?_ ?_ 0 (Nat.zero_le _) _ (fun i hi => absurd hi (by omega)) (fun i _ hi => qh2 i hi) fh2 kh2
            ·
              intro  h13 qa qb fh13 kh13
              have uh13 : VilAt h13 kv v := hv.fr fh13 (by omega)
              have qh13 : ∀ s, s < 2 ^ (o + 1) → xL h13 (k + 1) s = wgt v s (o + 1) := fun s hs => by
                have := pow_s o
                by_cases hs2 : s < 2 ^ o
                · exact (qa s hs2).1
                · have q := (qa (s - 2 ^ o) (by omega)).2
                  rw [show s - 2 ^ o + 2 ^ o = s by omega] at q; exact q
              refine r_iload C (dx dX4_weigh 29 rfl) rfl ?_
              refine r_iload C (dx dX4_weigh 30 rfl) rfl ?_
              refine rn_ge (a := 2 ^ o) (b := 2 ^ (vN v)) (tgt := 99) C (by omega) (by omega) (dx dX4_weigh 31 rfl) (by decide) (fun c14 => ?_) (fun c14 => ?_)
              · first
                | (omega; done)
              · first
                | (omega; done)
            ·
              intro s hs ih h17 qa qb fh17 kh17
              have uh17 : VilAt h17 kv v := hv.fr fh17 (by omega)
              refine r_iload C (dx dX4_weigh 29 rfl) rfl ?_
              refine r_iload C (dx dX4_weigh 30 rfl) rfl ?_
              refine rn_ge (a := s) (b := 2 ^ (vN v)) (tgt := 99) C (by omega) (by omega) (dx dX4_weigh 31 rfl) (by decide) (fun c18 => ?_) (fun c18 => ?_)
              · first
                | (omega; done)
              · first
                | (omega; done)
                | (
                    have c18 : s < 2 ^ (vN v) := c18
                    refine r_aload_n C (dx dX4_weigh 32 rfl) rfl ?_
                    refine g_X4_9 C (dx dX4_weigh 33 rfl) ?_
                    refine r_iload C (dx dX4_weigh 34 rfl) rfl ?_
                    refine r_iload C (dx dX4_weigh 35 rfl) rfl ?_
                    refine r_ior C (dx dX4_weigh 36 rfl) ?_
                    refine r_aload_n C (dx dX4_weigh 37 rfl) rfl ?_
                    refine g_X4_9 C (dx dX4_weigh 38 rfl) ?_
                    refine r_iload C (dx dX4_weigh 39 rfl) rfl ?_
                    refine r_lald (j := s) (x := wgt v s o) C rfl rfl (by decide) rfl (by omega) (dx dX4_weigh 40 rfl) (qb s (Nat.le_refl _) hs) ?_
                    refine r_bipush (v := nI 10) C (dx dX4_weigh 41 rfl) rfl ?_
                    refine r_iload_n C (dx dX4_weigh 42 rfl) rfl ?_
                    refine r_isub C (dx dX4_weigh 43 rfl) ?_
                    refine r_i2l C (dx dX4_weigh 44 rfl) ?_
                    refine r_lmul C (dx dX4_weigh 45 rfl) ?_
                    refine r_last (j := s + 2 ^ o) C rfl rfl (by decide) (or_pow (by omega) hs) (by omega) (dx dX4_weigh 46 rfl) ?_
                    have eh19 : ∀ i, xL (sL h17 (k + 1) (s + 2 ^ o) ((wgt v s o) * (((nI 10) - (nI 10)).toInt64))) (k + 1) i = if i = s + 2 ^ o then (wgt v s o) * (((nI 10) - (nI 10)).toInt64) else xL h17 (k + 1) i := fun i => sL_at
                    have fh19 : Fr (k + 1) (k + 2) h (sL h17 (k + 1) (s + 2 ^ o) ((wgt v s o) * (((nI 10) - (nI 10)).toInt64))) := fh17.tr <| Fr.sL (by omega) (by omega)
                    have kh19 : xK (sL h17 (k + 1) (s + 2 ^ o) ((wgt v s o) * (((nI 10) - (nI 10)).toInt64))) = xK h := kh17
                    have uh19 : VilAt (sL h17 (k + 1) (s + 2 ^ o) ((wgt v s o) * (((nI 10) - (nI 10)).toInt64))) kv v := hv.fr fh19 (by omega)
                    generalize sL h17 (k + 1) (s + 2 ^ o) ((wgt v s o) * (((nI 10) - (nI 10)).toInt64)) = h19 at eh19 fh19 kh19 uh19 ⊢
                    refine r_aload_n C (dx dX4_weigh 47 rfl) rfl ?_
                    refine g_X4_9 C (dx dX4_weigh 48 rfl) ?_
                    refine r_iload C (dx dX4_weigh 49 rfl) rfl ?_
                    refine r_aload_n C (dx dX4_weigh 50 rfl) rfl ?_
                    refine g_X4_9 C (dx dX4_weigh 51 rfl) ?_
                    refine r_iload C (dx dX4_weigh 52 rfl) rfl ?_
                    refine r_lald (j := s) (x := wgt v s o) C rfl rfl (by decide) rfl (by omega) (dx dX4_weigh 53 rfl) ((eh19 _).trans ((if_neg (by omega)).trans (qb s (Nat.le_refl _) hs))) ?_
                    refine r_iload_n C (dx dX4_weigh 54 rfl) rfl ?_
                    refine r_i2l C (dx dX4_weigh 55 rfl) ?_
                    refine r_lmul C (dx dX4_weigh 56 rfl) ?_
                    refine r_last (j := s) C rfl rfl (by decide) rfl (by omega) (dx dX4_weigh 57 rfl) ?_
                    have eh20 : ∀ i, xL (sL h19 (k + 1) s ((wgt v s o) * ((nI 10).toInt64))) (k + 1) i = if i = s then (wgt v s o) * ((nI 10).toInt64) else xL h19 (k + 1) i := fun i => sL_at
                    have fh20 : Fr (k + 1) (k + 2) h (sL h19 (k + 1) s ((wgt v s o) * ((nI 10).toInt64))) := fh19.tr <| Fr.sL (by omega) (by omega)
                    have kh20 : xK (sL h19 (k + 1) s ((wgt v s o) * ((nI 10).toInt64))) = xK h := kh19
                    have uh20 : VilAt (sL h19 (k + 1) s ((wgt v s o) * ((nI 10).toInt64))) kv v := hv.fr fh20 (by omega)
                    generalize sL h19 (k + 1) s ((wgt v s o) * ((nI 10).toInt64)) = h20 at eh20 fh20 kh20 uh20 ⊢
                    refine rn_iinc (a := s) (k := 1) (ls' := [(0, vr 4 k), (1, vr 5 kv), (2, vi (nI (vN v))), (3, vi (nI 10)), (4, vi (nI (2 ^ (vN v)))), (5, vi (nI (s + 1)))]) C (dx dX4_weigh 58 rfl) rfl rfl (by decide) [1, 2, 3, 4, 5, 0] rfl ?_
                    refine r_goto (tgt := 46) C (dx dX4_weigh 59 rfl) (by decide) ?_
                    refine ih _ (fun i hi => ?_) (fun i h1 h2 => ?_) fh20 kh20
                    · by_cases hi2 : i = s
                      · subst hi2
                        refine ⟨(eh20 _).trans ((if_pos rfl).trans ?_), (eh20 _).trans ((if_neg (by omega)).trans ((eh19 _).trans ((if_pos rfl).trans ?_)))⟩
                        · rw [wgt_at v hs, fcF]
                        · rw [wgt_hi v hs, fcT]
                      · have q := qa i (by omega)
                        exact ⟨(eh20 _).trans ((if_neg (by omega)).trans ((eh19 _).trans ((if_neg (by omega)).trans q.1))), (eh20 _).trans ((if_neg (by omega)).trans ((eh19 _).trans ((if_neg (by omega)).trans q.2)))⟩
                    · exact (eh20 _).trans ((if_neg (by omega)).trans ((eh19 _).trans ((if_neg (by omega)).trans (qb i (by omega) h2))))))
  ·
    intro o ho ih h21 qh21 fh21 kh21
    have uh21 : VilAt h21 kv v := hv.fr fh21 (by omega)
    have p7 : 2 ^ o ≤ 2 ^ 7 := Nat.pow_le_pow_right (by omega) (by omega)
    refine r_iload_n C (dx dX4_weigh 7 rfl) rfl ?_
    refine r_aload_n C (dx dX4_weigh 8 rfl) rfl ?_
    refine g_X4_22 (x := nI (vN v)) C (dx dX4_weigh 9 rfl) uh21.eN ?_
    refine rn_ge (a := o) (b := vN v) (tgt := 105) C (by omega) (by omega) (dx dX4_weigh 10 rfl) (by decide) (fun c22 => ?_) (fun c22 => ?_)
    · first
      | (omega; done)
      | (
          have c22 : vN v ≤ o := c22
          exact F.2.2.1 _ _ _ rfl (dx dX4_weigh 62 rfl) kh21 ⟨rfl, qh21, fh21⟩)
    · first
      | (omega; done)
      | (
          have c22 : o < vN v := c22
          refine r_aload_n C (dx dX4_weigh 11 rfl) rfl ?_
          refine g_X4_28 C (dx dX4_weigh 12 rfl) ?_
          refine r_iload_n C (dx dX4_weigh 13 rfl) rfl ?_
          refine r_zald (j := o) (x := vF v 6 o) C rfl rfl (by decide) rfl (by omega) (dx dX4_weigh 14 rfl) (uh21.e6 (by omega)) ?_
          refine r_if_eq (tgt := 31) C (dx dX4_weigh 15 rfl) (by decide) (fun c23 => ?_) (fun c23 => ?_)
          ·
            have c23 : vF v 6 o = 0 := c23
            refine r_aload_n C (dx dX4_weigh 18 rfl) rfl ?_
            refine g_X4_32 C (dx dX4_weigh 19 rfl) ?_
            refine r_iload_n C (dx dX4_weigh 20 rfl) rfl ?_
            refine r_iald (j := o) (x := vF v 5 o) C rfl rfl (by decide) rfl (by omega) (dx dX4_weigh 21 rfl) (uh21.e5 (by omega)) ?_
            refine r_istore_n (ls' := [(0, vr 4 k), (1, vr 5 kv), (2, vi (nI o)), (3, vi (vF v 5 o))]) C (dx dX4_weigh 22 rfl) (by decide) [1, 2, 3, 0] rfl ?_
            refine r_iconst (v := nI 1) C (dx dX4_weigh 23 rfl) rfl ?_
            refine r_iload_n C (dx dX4_weigh 24 rfl) rfl ?_
            refine rn_sh1 (o := o) C (by omega) (dx dX4_weigh 25 rfl) ?_
            refine r_istore (ls' := [(0, vr 4 k), (1, vr 5 kv), (2, vi (nI o)), (3, vi (vF v 5 o)), (4, vi (nI (2 ^ o)))]) C (dx dX4_weigh 26 rfl) (by decide) [1, 2, 3, 4, 0] rfl ?_
            refine r_iconst (v := nI 0) C (dx dX4_weigh 27 rfl) rfl ?_
            refine r_istore (ls' := [(0, vr 4 k), (1, vr 5 kv), (2, vi (nI o)), (3, vi (vF v 5 o)), (4, vi (nI (2 ^ o))), (5, vi (nI 0))]) C (dx dX4_weigh 28 rfl) (by decide) [1, 2, 3, 4, 5, 0] rfl ?_
            have fcF : fac v o false = vF v 5 o := by simp [fac, c23]
            have fcT : fac v o true = nI 10 - (vF v 5 o) := by simp [fac, c23]
            refine loopU (Φ := fun s => ∀ h9, (∀ i, i < s → xL h9 (k + 1) i = wgt v i (o + 1) ∧ xL h9 (k + 1) (i + 2 ^ o) = wgt v (i + 2 ^ o) (o + 1)) → (∀ i, s ≤ i → i < 2 ^ o → xL h9 (k + 1) i = wgt v i o) → Fr (k + 1) (k + 2) h h9 → xK h9 = xK h → Rr G 46 [(0, vr 4 k), (1, vr 5 kv), (2, vi (nI o)), (3, vi (vF v 5 o)), (4, vi (nI (2 ^ o))), (5, vi (nI s))] [] h9) (N := 2 ^ o) ?_ ?_ 0 (Nat.zero_le _) _ (fun i hi => absurd hi (by omega)) (fun i _ hi => qh21 i hi) fh21 kh21
            ·
              intro  h24 qa qb fh24 kh24
              have uh24 : VilAt h24 kv v := hv.fr fh24 (by omega)
              have qh24 : ∀ s, s < 2 ^ (o + 1) → xL h24 (k + 1) s = wgt v s (o + 1) := fun s hs => by
                have := pow_s o
                by_cases hs2 : s < 2 ^ o
                · exact (qa s hs2).1
                · have q := (qa (s - 2 ^ o) (by omega)).2
                  rw [show s - 2 ^ o + 2 ^ o = s by omega] at q; exact q
              refine r_iload C (dx dX4_weigh 29 rfl) rfl ?_
              refine r_iload C (dx dX4_weigh 30 rfl) rfl ?_
              refine rn_ge (a := 2 ^ o) (b := 2 ^ o) (tgt := 99) C (by omega) (by omega) (dx dX4_weigh 31 rfl) (by decide) (fun c25 => ?_) (fun c25 => ?_)
              · first
                | (omega; done)
                | (
                    have c25 : 2 ^ o ≤ 2 ^ o := c25
                    refine rn_iinc (a := o) (k := 1) (ls' := [(0, vr 4 k), (1, vr 5 kv), (2, vi (nI (o + 1))), (3, vi (vF v 5 o)), (4, vi (nI (2 ^ o))), (5, vi (nI (2 ^ o)))]) C (dx dX4_weigh 60 rfl) rfl rfl (by decide) [1, 2, 0, 3, 4, 5] rfl ?_
                    refine r_goto (tgt := 9) C (dx dX4_weigh 61 rfl) (by decide) ?_
                    refine r_weak C [0, 1, 2] rfl ?_
                    exact ih _ qh24 fh24 kh24)
              · first
                | (omega; done)
            ·
              intro s hs ih h28 qa qb fh28 kh28
              have uh28 : VilAt h28 kv v := hv.fr fh28 (by omega)
              refine r_iload C (dx dX4_weigh 29 rfl) rfl ?_
              refine r_iload C (dx dX4_weigh 30 rfl) rfl ?_
              refine rn_ge (a := s) (b := 2 ^ o) (tgt := 99) C (by omega) (by omega) (dx dX4_weigh 31 rfl) (by decide) (fun c29 => ?_) (fun c29 => ?_)
              · first
                | (omega; done)
              · first
                | (omega; done)
                | (
                    have c29 : s < 2 ^ o := c29
                    refine r_aload_n C (dx dX4_weigh 32 rfl) rfl ?_
                    refine g_X4_9 C (dx dX4_weigh 33 rfl) ?_
                    refine r_iload C (dx dX4_weigh 34 rfl) rfl ?_
                    refine r_iload C (dx dX4_weigh 35 rfl) rfl ?_
                    refine r_ior C (dx dX4_weigh 36 rfl) ?_
                    refine r_aload_n C (dx dX4_weigh 37 rfl) rfl ?_
                    refine g_X4_9 C (dx dX4_weigh 38 rfl) ?_
                    refine r_iload C (dx dX4_weigh 39 rfl) rfl ?_
                    refine r_lald (j := s) (x := wgt v s o) C rfl rfl (by decide) rfl (by omega) (dx dX4_weigh 40 rfl) (qb s (Nat.le_refl _) hs) ?_
                    refine r_bipush (v := nI 10) C (dx dX4_weigh 41 rfl) rfl ?_
                    refine r_iload_n C (dx dX4_weigh 42 rfl) rfl ?_
                    refine r_isub C (dx dX4_weigh 43 rfl) ?_
                    refine r_i2l C (dx dX4_weigh 44 rfl) ?_
                    refine r_lmul C (dx dX4_weigh 45 rfl) ?_
                    refine r_last (j := s + 2 ^ o) C rfl rfl (by decide) (or_pow (by omega) hs) (by omega) (dx dX4_weigh 46 rfl) ?_
                    have eh30 : ∀ i, xL (sL h28 (k + 1) (s + 2 ^ o) ((wgt v s o) * (((nI 10) - (vF v 5 o)).toInt64))) (k + 1) i = if i = s + 2 ^ o then (wgt v s o) * (((nI 10) - (vF v 5 o)).toInt64) else xL h28 (k + 1) i := fun i => sL_at
                    have fh30 : Fr (k + 1) (k + 2) h (sL h28 (k + 1) (s + 2 ^ o) ((wgt v s o) * (((nI 10) - (vF v 5 o)).toInt64))) := fh28.tr <| Fr.sL (by omega) (by omega)
                    have kh30 : xK (sL h28 (k + 1) (s + 2 ^ o) ((wgt v s o) * (((nI 10) - (vF v 5 o)).toInt64))) = xK h := kh28
                    have uh30 : VilAt (sL h28 (k + 1) (s + 2 ^ o) ((wgt v s o) * (((nI 10) - (vF v 5 o)).toInt64))) kv v := hv.fr fh30 (by omega)
                    generalize sL h28 (k + 1) (s + 2 ^ o) ((wgt v s o) * (((nI 10) - (vF v 5 o)).toInt64)) = h30 at eh30 fh30 kh30 uh30 ⊢
                    refine r_aload_n C (dx dX4_weigh 47 rfl) rfl ?_
                    refine g_X4_9 C (dx dX4_weigh 48 rfl) ?_
                    refine r_iload C (dx dX4_weigh 49 rfl) rfl ?_
                    refine r_aload_n C (dx dX4_weigh 50 rfl) rfl ?_
                    refine g_X4_9 C (dx dX4_weigh 51 rfl) ?_
                    refine r_iload C (dx dX4_weigh 52 rfl) rfl ?_
                    refine r_lald (j := s) (x := wgt v s o) C rfl rfl (by decide) rfl (by omega) (dx dX4_weigh 53 rfl) ((eh30 _).trans ((if_neg (by omega)).trans (qb s (Nat.le_refl _) hs))) ?_
                    refine r_iload_n C (dx dX4_weigh 54 rfl) rfl ?_
                    refine r_i2l C (dx dX4_weigh 55 rfl) ?_
                    refine r_lmul C (dx dX4_weigh 56 rfl) ?_
                    refine r_last (j := s) C rfl rfl (by decide) rfl (by omega) (dx dX4_weigh 57 rfl) ?_
                    have eh31 : ∀ i, xL (sL h30 (k + 1) s ((wgt v s o) * ((vF v 5 o).toInt64))) (k + 1) i = if i = s then (wgt v s o) * ((vF v 5 o).toInt64) else xL h30 (k + 1) i := fun i => sL_at
                    have fh31 : Fr (k + 1) (k + 2) h (sL h30 (k + 1) s ((wgt v s o) * ((vF v 5 o).toInt64))) := fh30.tr <| Fr.sL (by omega) (by omega)
                    have kh31 : xK (sL h30 (k + 1) s ((wgt v s o) * ((vF v 5 o).toInt64))) = xK h := kh30
                    have uh31 : VilAt (sL h30 (k + 1) s ((wgt v s o) * ((vF v 5 o).toInt64))) kv v := hv.fr fh31 (by omega)
                    generalize sL h30 (k + 1) s ((wgt v s o) * ((vF v 5 o).toInt64)) = h31 at eh31 fh31 kh31 uh31 ⊢
                    refine rn_iinc (a := s) (k := 1) (ls' := [(0, vr 4 k), (1, vr 5 kv), (2, vi (nI o)), (3, vi (vF v 5 o)), (4, vi (nI (2 ^ o))), (5, vi (nI (s + 1)))]) C (dx dX4_weigh 58 rfl) rfl rfl (by decide) [1, 2, 3, 4, 5, 0] rfl ?_
                    refine r_goto (tgt := 46) C (dx dX4_weigh 59 rfl) (by decide) ?_
                    refine ih _ (fun i hi => ?_) (fun i h1 h2 => ?_) fh31 kh31
                    · by_cases hi2 : i = s
                      · subst hi2
                        refine ⟨(eh31 _).trans ((if_pos rfl).trans ?_), (eh31 _).trans ((if_neg (by omega)).trans ((eh30 _).trans ((if_pos rfl).trans ?_)))⟩
                        · rw [wgt_at v hs, fcF]
                        · rw [wgt_hi v hs, fcT]
                      · have q := qa i (by omega)
                        exact ⟨(eh31 _).trans ((if_neg (by omega)).trans ((eh30 _).trans ((if_neg (by omega)).trans q.1))), (eh31 _).trans ((if_neg (by omega)).trans ((eh30 _).trans ((if_neg (by omega)).trans q.2)))⟩
                    · exact (eh31 _).trans ((if_neg (by omega)).trans ((eh30 _).trans ((if_neg (by omega)).trans (qb i (by omega) h2)))))
          ·
            have c23 : ¬ vF v 6 o = 0 := c23
            refine r_bipush (v := nI 10) C (dx dX4_weigh 16 rfl) rfl ?_
            refine r_goto (tgt := 37) C (dx dX4_weigh 17 rfl) (by decide) ?_
            refine r_istore_n (ls' := [(0, vr 4 k), (1, vr 5 kv), (2, vi (nI o)), (3, vi (nI 10))]) C (dx dX4_weigh 22 rfl) (by decide) [1, 2, 3, 0] rfl ?_
            refine r_iconst (v := nI 1) C (dx dX4_weigh 23 rfl) rfl ?_
            refine r_iload_n C (dx dX4_weigh 24 rfl) rfl ?_
            refine rn_sh1 (o := o) C (by omega) (dx dX4_weigh 25 rfl) ?_
            refine r_istore (ls' := [(0, vr 4 k), (1, vr 5 kv), (2, vi (nI o)), (3, vi (nI 10)), (4, vi (nI (2 ^ o)))]) C (dx dX4_weigh 26 rfl) (by decide) [1, 2, 3, 4, 0] rfl ?_
            refine r_iconst (v := nI 0) C (dx dX4_weigh 27 rfl) rfl ?_
            refine r_istore (ls' := [(0, vr 4 k), (1, vr 5 kv), (2, vi (nI o)), (3, vi (nI 10)), (4, vi (nI (2 ^ o))), (5, vi (nI 0))]) C (dx dX4_weigh 28 rfl) (by decide) [1, 2, 3, 4, 5, 0] rfl ?_
            have fcF : fac v o false = nI 10 := by simp [fac, c23]
            have fcT : fac v o true = nI 10 - (nI 10) := by simp [fac, c23]
            refine loopU (Φ := fun s => ∀ h9, (∀ i, i < s → xL h9 (k + 1) i = wgt v i (o + 1) ∧ xL h9 (k + 1) (i + 2 ^ o) = wgt v (i + 2 ^ o) (o + 1)) → (∀ i, s ≤ i → i < 2 ^ o → xL h9 (k + 1) i = wgt v i o) → Fr (k + 1) (k + 2) h h9 → xK h9 = xK h → Rr G 46 [(0, vr 4 k), (1, vr 5 kv), (2, vi (nI o)), (3, vi (nI 10)), (4, vi (nI (2 ^ o))), (5, vi (nI s))] [] h9) (N := 2 ^ o) ?_ ?_ 0 (Nat.zero_le _) _ (fun i hi => absurd hi (by omega)) (fun i _ hi => qh21 i hi) fh21 kh21
            ·
              intro  h32 qa qb fh32 kh32
              have uh32 : VilAt h32 kv v := hv.fr fh32 (by omega)
              have qh32 : ∀ s, s < 2 ^ (o + 1) → xL h32 (k + 1) s = wgt v s (o + 1) := fun s hs => by
                have := pow_s o
                by_cases hs2 : s < 2 ^ o
                · exact (qa s hs2).1
                · have q := (qa (s - 2 ^ o) (by omega)).2
                  rw [show s - 2 ^ o + 2 ^ o = s by omega] at q; exact q
              refine r_iload C (dx dX4_weigh 29 rfl) rfl ?_
              refine r_iload C (dx dX4_weigh 30 rfl) rfl ?_
              refine rn_ge (a := 2 ^ o) (b := 2 ^ o) (tgt := 99) C (by omega) (by omega) (dx dX4_weigh 31 rfl) (by decide) (fun c33 => ?_) (fun c33 => ?_)
              · first
                | (omega; done)
                | (
                    have c33 : 2 ^ o ≤ 2 ^ o := c33
                    refine rn_iinc (a := o) (k := 1) (ls' := [(0, vr 4 k), (1, vr 5 kv), (2, vi (nI (o + 1))), (3, vi (nI 10)), (4, vi (nI (2 ^ o))), (5, vi (nI (2 ^ o)))]) C (dx dX4_weigh 60 rfl) rfl rfl (by decide) [1, 2, 0, 3, 4, 5] rfl ?_
                    refine r_goto (tgt := 9) C (dx dX4_weigh 61 rfl) (by decide) ?_
                    refine r_weak C [0, 1, 2] rfl ?_
                    exact ih _ qh32 fh32 kh32)
              · first
                | (omega; done)
            ·
              intro s hs ih h36 qa qb fh36 kh36
              have uh36 : VilAt h36 kv v := hv.fr fh36 (by omega)
              refine r_iload C (dx dX4_weigh 29 rfl) rfl ?_
              refine r_iload C (dx dX4_weigh 30 rfl) rfl ?_
              refine rn_ge (a := s) (b := 2 ^ o) (tgt := 99) C (by omega) (by omega) (dx dX4_weigh 31 rfl) (by decide) (fun c37 => ?_) (fun c37 => ?_)
              · first
                | (omega; done)
              · first
                | (omega; done)
                | (
                    have c37 : s < 2 ^ o := c37
                    refine r_aload_n C (dx dX4_weigh 32 rfl) rfl ?_
                    refine g_X4_9 C (dx dX4_weigh 33 rfl) ?_
                    refine r_iload C (dx dX4_weigh 34 rfl) rfl ?_
                    refine r_iload C (dx dX4_weigh 35 rfl) rfl ?_
                    refine r_ior C (dx dX4_weigh 36 rfl) ?_
                    refine r_aload_n C (dx dX4_weigh 37 rfl) rfl ?_
                    refine g_X4_9 C (dx dX4_weigh 38 rfl) ?_
                    refine r_iload C (dx dX4_weigh 39 rfl) rfl ?_
                    refine r_lald (j := s) (x := wgt v s o) C rfl rfl (by decide) rfl (by omega) (dx dX4_weigh 40 rfl) (qb s (Nat.le_refl _) hs) ?_
                    refine r_bipush (v := nI 10) C (dx dX4_weigh 41 rfl) rfl ?_
                    refine r_iload_n C (dx dX4_weigh 42 rfl) rfl ?_
                    refine r_isub C (dx dX4_weigh 43 rfl) ?_
                    refine r_i2l C (dx dX4_weigh 44 rfl) ?_
                    refine r_lmul C (dx dX4_weigh 45 rfl) ?_
                    refine r_last (j := s + 2 ^ o) C rfl rfl (by decide) (or_pow (by omega) hs) (by omega) (dx dX4_weigh 46 rfl) ?_
                    have eh38 : ∀ i, xL (sL h36 (k + 1) (s + 2 ^ o) ((wgt v s o) * (((nI 10) - (nI 10)).toInt64))) (k + 1) i = if i = s + 2 ^ o then (wgt v s o) * (((nI 10) - (nI 10)).toInt64) else xL h36 (k + 1) i := fun i => sL_at
                    have fh38 : Fr (k + 1) (k + 2) h (sL h36 (k + 1) (s + 2 ^ o) ((wgt v s o) * (((nI 10) - (nI 10)).toInt64))) := fh36.tr <| Fr.sL (by omega) (by omega)
                    have kh38 : xK (sL h36 (k + 1) (s + 2 ^ o) ((wgt v s o) * (((nI 10) - (nI 10)).toInt64))) = xK h := kh36
                    have uh38 : VilAt (sL h36 (k + 1) (s + 2 ^ o) ((wgt v s o) * (((nI 10) - (nI 10)).toInt64))) kv v := hv.fr fh38 (by omega)
                    generalize sL h36 (k + 1) (s + 2 ^ o) ((wgt v s o) * (((nI 10) - (nI 10)).toInt64)) = h38 at eh38 fh38 kh38 uh38 ⊢
                    refine r_aload_n C (dx dX4_weigh 47 rfl) rfl ?_
                    refine g_X4_9 C (dx dX4_weigh 48 rfl) ?_
                    refine r_iload C (dx dX4_weigh 49 rfl) rfl ?_
                    refine r_aload_n C (dx dX4_weigh 50 rfl) rfl ?_
                    refine g_X4_9 C (dx dX4_weigh 51 rfl) ?_
                    refine r_iload C (dx dX4_weigh 52 rfl) rfl ?_
                    refine r_lald (j := s) (x := wgt v s o) C rfl rfl (by decide) rfl (by omega) (dx dX4_weigh 53 rfl) ((eh38 _).trans ((if_neg (by omega)).trans (qb s (Nat.le_refl _) hs))) ?_
                    refine r_iload_n C (dx dX4_weigh 54 rfl) rfl ?_
                    refine r_i2l C (dx dX4_weigh 55 rfl) ?_
                    refine r_lmul C (dx dX4_weigh 56 rfl) ?_
                    refine r_last (j := s) C rfl rfl (by decide) rfl (by omega) (dx dX4_weigh 57 rfl) ?_
                    have eh39 : ∀ i, xL (sL h38 (k + 1) s ((wgt v s o) * ((nI 10).toInt64))) (k + 1) i = if i = s then (wgt v s o) * ((nI 10).toInt64) else xL h38 (k + 1) i := fun i => sL_at
                    have fh39 : Fr (k + 1) (k + 2) h (sL h38 (k + 1) s ((wgt v s o) * ((nI 10).toInt64))) := fh38.tr <| Fr.sL (by omega) (by omega)
                    have kh39 : xK (sL h38 (k + 1) s ((wgt v s o) * ((nI 10).toInt64))) = xK h := kh38
                    have uh39 : VilAt (sL h38 (k + 1) s ((wgt v s o) * ((nI 10).toInt64))) kv v := hv.fr fh39 (by omega)
                    generalize sL h38 (k + 1) s ((wgt v s o) * ((nI 10).toInt64)) = h39 at eh39 fh39 kh39 uh39 ⊢
                    refine rn_iinc (a := s) (k := 1) (ls' := [(0, vr 4 k), (1, vr 5 kv), (2, vi (nI o)), (3, vi (nI 10)), (4, vi (nI (2 ^ o))), (5, vi (nI (s + 1)))]) C (dx dX4_weigh 58 rfl) rfl rfl (by decide) [1, 2, 3, 4, 5, 0] rfl ?_
                    refine r_goto (tgt := 46) C (dx dX4_weigh 59 rfl) (by decide) ?_
                    refine ih _ (fun i hi => ?_) (fun i h1 h2 => ?_) fh39 kh39
                    · by_cases hi2 : i = s
                      · subst hi2
                        refine ⟨(eh39 _).trans ((if_pos rfl).trans ?_), (eh39 _).trans ((if_neg (by omega)).trans ((eh38 _).trans ((if_pos rfl).trans ?_)))⟩
                        · rw [wgt_at v hs, fcF]
                        · rw [wgt_hi v hs, fcT]
                      · have q := qa i (by omega)
                        exact ⟨(eh39 _).trans ((if_neg (by omega)).trans ((eh38 _).trans ((if_neg (by omega)).trans q.1))), (eh39 _).trans ((if_neg (by omega)).trans ((eh38 _).trans ((if_neg (by omega)).trans q.2)))⟩
                    · exact (eh39 _).trans ((if_neg (by omega)).trans ((eh38 _).trans ((if_neg (by omega)).trans (qb i (by omega) h2))))))
set_option maxHeartbeats 4000000 in
theorem c_X4_gather {l : Launch} {h : Hp} {k kv : Nat} {v : Vg} (hv : VilAt h kv v) (hd : kv + 9 ≤ k ∨ k + 4 ≤ kv) : Ms l yX4_gather cX4_gather 6 none 2 [vr 4 k, vr 5 kv] h (xK h) (fun r h' => r = none ∧ (∀ s, s < 2 ^ vN v → xI h' (k + 2) s = gat v s (vN v)) ∧ Fr (k + 2) (k + 3) h h') := by
  refine Ms.of (by decide) (Nat.le_of_ble_eq_true rfl) (fun G C X F => ?_)
  have C : Cx G cX4_gather 6 RX4 := C
  show Rr G 0 [(0, vr 4 k), (1, vr 5 kv)] [] h
  have bP := hv.bP
  have bM := hv.bM
  have bN := hv.bN
  have p8 := pow8 bN
  refine r_aload_n C (dx dX4_gather 0 rfl) rfl ?_
  refine g_X4_15 C (dx dX4_gather 1 rfl) ?_
  refine r_iconst (v := nI 0) C (dx dX4_gather 2 rfl) rfl ?_
  refine r_iconst (v := nI 0) C (dx dX4_gather 3 rfl) rfl ?_
  refine r_iast (j := 0) C rfl rfl (by decide) rfl (by omega) (dx dX4_gather 4 rfl) ?_
  have eh1 : ∀ i, xI (sI h (k + 2) 0 (nI 0)) (k + 2) i = if i = 0 then nI 0 else xI h (k + 2) i := fun i => sI_at
  have fh1 : Fr (k + 2) (k + 3) h (sI h (k + 2) 0 (nI 0)) := Fr.sI (by omega) (by omega)
  have kh1 : xK (sI h (k + 2) 0 (nI 0)) = xK h := rfl
  have uh1 : VilAt (sI h (k + 2) 0 (nI 0)) kv v := hv.fr fh1 (by omega)
  generalize sI h (k + 2) 0 (nI 0) = h1 at eh1 fh1 kh1 uh1 ⊢
  refine r_iconst (v := nI 0) C (dx dX4_gather 5 rfl) rfl ?_
  refine r_istore_n (ls' := [(0, vr 4 k), (1, vr 5 kv), (2, vi (nI 0))]) C (dx dX4_gather 6 rfl) (by decide) [1, 2, 0] rfl ?_
  have q0 : ∀ s, s < 2 ^ 0 → xI h1 (k + 2) s = gat v s 0 := fun s hs => by rw [show s = 0 by omega]; exact ((eh1 _).trans (if_pos rfl))
  refine loopU (Φ := fun o => ∀ h9, (∀ s, s < 2 ^ o → xI h9 (k + 2) s = gat v s o) → Fr (k + 2) (k + 3) h h9 → xK h9 = xK h → Rr G 9 [(0, vr 4 k), (1, vr 5 kv), (2, vi (nI o))] [] h9) (N := vN v) ?_ ?_ 0 (Nat.zero_le _) _ q0 fh1 kh1
  ·
    intro  h2 qh2 fh2 kh2
    have uh2 : VilAt h2 kv v := hv.fr fh2 (by omega)
    refine r_iload_n C (dx dX4_gather 7 rfl) rfl ?_
    refine r_aload_n C (dx dX4_gather 8 rfl) rfl ?_
    refine g_X4_22 (x := nI (vN v)) C (dx dX4_gather 9 rfl) uh2.eN ?_
    refine rn_ge (a := vN v) (b := vN v) (tgt := 69) C (by omega) (by omega) (dx dX4_gather 10 rfl) (by decide) (fun c3 => ?_) (fun c3 => ?_)
    · first
      | (omega; done)
      | (
          have c3 : vN v ≤ vN v := c3
          exact F.2.2.1 _ _ _ rfl (dx dX4_gather 40 rfl) kh2 ⟨rfl, qh2, fh2⟩)
    · first
      | (omega; done)
      | (
          have c3 : vN v < vN v := c3
          refine r_aload_n C (dx dX4_gather 11 rfl) rfl ?_
          refine r_iload_n C (dx dX4_gather 12 rfl) rfl ?_
          refine r_cvP (as := [vi (nI (vN v))]) (st := []) (v := vi (ownP v (nI (vN v)))) C X I_X5_partsOfOne l_X4_35 (c_X5_partsOfOne uh2 _) (by decide) (Nat.le_of_ble_eq_true rfl) (pfx_eq kh2) rfl rfl (Nat.le_of_ble_eq_true rfl) rfl (dx dX4_gather 13 rfl) ?_
          refine r_istore_n (ls' := [(0, vr 4 k), (1, vr 5 kv), (2, vi (nI (vN v))), (3, vi (ownP v (nI (vN v))))]) C (dx dX4_gather 14 rfl) (by decide) [1, 2, 3, 0] rfl ?_
          refine r_iconst (v := nI 1) C (dx dX4_gather 15 rfl) rfl ?_
          refine r_iload_n C (dx dX4_gather 16 rfl) rfl ?_
          refine rn_sh1 (o := vN v) C (by omega) (dx dX4_gather 17 rfl) ?_
          refine r_istore (ls' := [(0, vr 4 k), (1, vr 5 kv), (2, vi (nI (vN v))), (3, vi (ownP v (nI (vN v)))), (4, vi (nI (2 ^ (vN v))))]) C (dx dX4_gather 18 rfl) (by decide) [1, 2, 3, 4, 0] rfl ?_
          refine r_iconst (v := nI 0) C (dx dX4_gather 19 rfl) rfl ?_
          refine r_istore (ls' := [(0, vr 4 k), (1, vr 5 kv), (2, vi (nI (vN v))), (3, vi (ownP v (nI (vN v)))), (4, vi (nI (2 ^ (vN v)))), (5, vi (nI 0))]) C (dx dX4_gather 20 rfl) (by decide) [1, 2, 3, 4, 5, 0] rfl ?_
          refine loopU (Φ := fun s => ∀ h9, (∀ i, i < s → xI h9 (k + 2) (i + 2 ^ o) = gat v (i + 2 ^ o) (o + 1)) → (∀ i, i < 2 ^ o → xI h9 (k + 2) i = gat v i o) → Fr (k + 2) (k + 3) h h9 → xK h9 = xK h → Rr G 31 [(0, vr 4 k), (1, vr 5 kv), (2, vi (nI (vN v))), (3, vi (ownP v (nI (vN v)))), (4, vi (nI (2 ^ (vN v)))), (5, vi (nI s))] [] h9) (N := 2 ^ o) ?_ ?_ 0 (Nat.zero_le _) _ (fun i hi => absurd hi (by omega)) (fun i hi => qh2 i hi) fh2 kh2
          ·
            intro  h4 qa qb fh4 kh4
            have uh4 : VilAt h4 kv v := hv.fr fh4 (by omega)
            have qh4 : ∀ s, s < 2 ^ (o + 1) → xI h4 (k + 2) s = gat v s (o + 1) := fun s hs => by
              have := pow_s o
              by_cases hs2 : s < 2 ^ o
              · rw [gat_at v hs2]; exact qb s hs2
              · have q := qa (s - 2 ^ o) (by omega)
                rw [show s - 2 ^ o + 2 ^ o = s by omega] at q; exact q
            refine r_iload C (dx dX4_gather 21 rfl) rfl ?_
            refine r_iload C (dx dX4_gather 22 rfl) rfl ?_
            refine rn_ge (a := 2 ^ o) (b := 2 ^ (vN v)) (tgt := 63) C (by omega) (by omega) (dx dX4_gather 23 rfl) (by decide) (fun c5 => ?_) (fun c5 => ?_)
            · first
              | (omega; done)
            · first
              | (omega; done)
          ·
            intro s hs ih h7 qa qb fh7 kh7
            have uh7 : VilAt h7 kv v := hv.fr fh7 (by omega)
            refine r_iload C (dx dX4_gather 21 rfl) rfl ?_
            refine r_iload C (dx dX4_gather 22 rfl) rfl ?_
            refine rn_ge (a := s) (b := 2 ^ (vN v)) (tgt := 63) C (by omega) (by omega) (dx dX4_gather 23 rfl) (by decide) (fun c8 => ?_) (fun c8 => ?_)
            · first
              | (omega; done)
            · first
              | (omega; done)
              | (
                  have c8 : s < 2 ^ (vN v) := c8
                  refine r_aload_n C (dx dX4_gather 24 rfl) rfl ?_
                  refine g_X4_15 C (dx dX4_gather 25 rfl) ?_
                  refine r_iload C (dx dX4_gather 26 rfl) rfl ?_
                  refine r_iload C (dx dX4_gather 27 rfl) rfl ?_
                  refine r_ior C (dx dX4_gather 28 rfl) ?_
                  refine r_aload_n C (dx dX4_gather 29 rfl) rfl ?_
                  refine g_X4_15 C (dx dX4_gather 30 rfl) ?_
                  refine r_iload C (dx dX4_gather 31 rfl) rfl ?_
                  refine r_iald (j := s) (x := gat v s o) C rfl rfl (by decide) rfl (by omega) (dx dX4_gather 32 rfl) (qb s hs) ?_
                  refine r_iload_n C (dx dX4_gather 33 rfl) rfl ?_
                  refine r_ior C (dx dX4_gather 34 rfl) ?_
                  refine r_iast (j := s + 2 ^ o) C rfl rfl (by decide) (or_pow (by omega) hs) (by omega) (dx dX4_gather 35 rfl) ?_
                  have eh9 : ∀ i, xI (sI h7 (k + 2) (s + 2 ^ o) ((gat v s o) ||| (ownP v (nI (vN v))))) (k + 2) i = if i = s + 2 ^ o then (gat v s o) ||| (ownP v (nI (vN v))) else xI h7 (k + 2) i := fun i => sI_at
                  have fh9 : Fr (k + 2) (k + 3) h (sI h7 (k + 2) (s + 2 ^ o) ((gat v s o) ||| (ownP v (nI (vN v))))) := fh7.tr <| Fr.sI (by omega) (by omega)
                  have kh9 : xK (sI h7 (k + 2) (s + 2 ^ o) ((gat v s o) ||| (ownP v (nI (vN v))))) = xK h := kh7
                  have uh9 : VilAt (sI h7 (k + 2) (s + 2 ^ o) ((gat v s o) ||| (ownP v (nI (vN v))))) kv v := hv.fr fh9 (by omega)
                  generalize sI h7 (k + 2) (s + 2 ^ o) ((gat v s o) ||| (ownP v (nI (vN v)))) = h9 at eh9 fh9 kh9 uh9 ⊢
                  refine rn_iinc (a := s) (k := 1) (ls' := [(0, vr 4 k), (1, vr 5 kv), (2, vi (nI (vN v))), (3, vi (ownP v (nI (vN v)))), (4, vi (nI (2 ^ (vN v)))), (5, vi (nI (s + 1)))]) C (dx dX4_gather 36 rfl) rfl rfl (by decide) [1, 2, 3, 4, 5, 0] rfl ?_
                  refine r_goto (tgt := 31) C (dx dX4_gather 37 rfl) (by decide) ?_
                  refine ih _ (fun i hi => ?_) (fun i hi => ?_) fh9 kh9
                  · by_cases hi2 : i = s
                    · subst hi2
                      exact (eh9 _).trans ((if_pos rfl).trans (gat_hi v hs).symm)
                    · exact (eh9 _).trans ((if_neg (by omega)).trans (qa i (by omega)))
                  · exact (eh9 _).trans ((if_neg (by omega)).trans (qb i hi))))
  ·
    intro o ho ih h10 qh10 fh10 kh10
    have uh10 : VilAt h10 kv v := hv.fr fh10 (by omega)
    have p7 : 2 ^ o ≤ 2 ^ 7 := Nat.pow_le_pow_right (by omega) (by omega)
    refine r_iload_n C (dx dX4_gather 7 rfl) rfl ?_
    refine r_aload_n C (dx dX4_gather 8 rfl) rfl ?_
    refine g_X4_22 (x := nI (vN v)) C (dx dX4_gather 9 rfl) uh10.eN ?_
    refine rn_ge (a := o) (b := vN v) (tgt := 69) C (by omega) (by omega) (dx dX4_gather 10 rfl) (by decide) (fun c11 => ?_) (fun c11 => ?_)
    · first
      | (omega; done)
      | (
          have c11 : vN v ≤ o := c11
          exact F.2.2.1 _ _ _ rfl (dx dX4_gather 40 rfl) kh10 ⟨rfl, qh10, fh10⟩)
    · first
      | (omega; done)
      | (
          have c11 : o < vN v := c11
          refine r_aload_n C (dx dX4_gather 11 rfl) rfl ?_
          refine r_iload_n C (dx dX4_gather 12 rfl) rfl ?_
          refine r_cvP (as := [vi (nI o)]) (st := []) (v := vi (ownP v (nI o))) C X I_X5_partsOfOne l_X4_35 (c_X5_partsOfOne uh10 _) (by decide) (Nat.le_of_ble_eq_true rfl) (pfx_eq kh10) rfl rfl (Nat.le_of_ble_eq_true rfl) rfl (dx dX4_gather 13 rfl) ?_
          refine r_istore_n (ls' := [(0, vr 4 k), (1, vr 5 kv), (2, vi (nI o)), (3, vi (ownP v (nI o)))]) C (dx dX4_gather 14 rfl) (by decide) [1, 2, 3, 0] rfl ?_
          refine r_iconst (v := nI 1) C (dx dX4_gather 15 rfl) rfl ?_
          refine r_iload_n C (dx dX4_gather 16 rfl) rfl ?_
          refine rn_sh1 (o := o) C (by omega) (dx dX4_gather 17 rfl) ?_
          refine r_istore (ls' := [(0, vr 4 k), (1, vr 5 kv), (2, vi (nI o)), (3, vi (ownP v (nI o))), (4, vi (nI (2 ^ o)))]) C (dx dX4_gather 18 rfl) (by decide) [1, 2, 3, 4, 0] rfl ?_
          refine r_iconst (v := nI 0) C (dx dX4_gather 19 rfl) rfl ?_
          refine r_istore (ls' := [(0, vr 4 k), (1, vr 5 kv), (2, vi (nI o)), (3, vi (ownP v (nI o))), (4, vi (nI (2 ^ o))), (5, vi (nI 0))]) C (dx dX4_gather 20 rfl) (by decide) [1, 2, 3, 4, 5, 0] rfl ?_
          refine loopU (Φ := fun s => ∀ h9, (∀ i, i < s → xI h9 (k + 2) (i + 2 ^ o) = gat v (i + 2 ^ o) (o + 1)) → (∀ i, i < 2 ^ o → xI h9 (k + 2) i = gat v i o) → Fr (k + 2) (k + 3) h h9 → xK h9 = xK h → Rr G 31 [(0, vr 4 k), (1, vr 5 kv), (2, vi (nI o)), (3, vi (ownP v (nI o))), (4, vi (nI (2 ^ o))), (5, vi (nI s))] [] h9) (N := 2 ^ o) ?_ ?_ 0 (Nat.zero_le _) _ (fun i hi => absurd hi (by omega)) (fun i hi => qh10 i hi) fh10 kh10
          ·
            intro  h12 qa qb fh12 kh12
            have uh12 : VilAt h12 kv v := hv.fr fh12 (by omega)
            have qh12 : ∀ s, s < 2 ^ (o + 1) → xI h12 (k + 2) s = gat v s (o + 1) := fun s hs => by
              have := pow_s o
              by_cases hs2 : s < 2 ^ o
              · rw [gat_at v hs2]; exact qb s hs2
              · have q := qa (s - 2 ^ o) (by omega)
                rw [show s - 2 ^ o + 2 ^ o = s by omega] at q; exact q
            refine r_iload C (dx dX4_gather 21 rfl) rfl ?_
            refine r_iload C (dx dX4_gather 22 rfl) rfl ?_
            refine rn_ge (a := 2 ^ o) (b := 2 ^ o) (tgt := 63) C (by omega) (by omega) (dx dX4_gather 23 rfl) (by decide) (fun c13 => ?_) (fun c13 => ?_)
            · first
              | (omega; done)
              | (
                  have c13 : 2 ^ o ≤ 2 ^ o := c13
                  refine rn_iinc (a := o) (k := 1) (ls' := [(0, vr 4 k), (1, vr 5 kv), (2, vi (nI (o + 1))), (3, vi (ownP v (nI o))), (4, vi (nI (2 ^ o))), (5, vi (nI (2 ^ o)))]) C (dx dX4_gather 38 rfl) rfl rfl (by decide) [1, 2, 0, 3, 4, 5] rfl ?_
                  refine r_goto (tgt := 9) C (dx dX4_gather 39 rfl) (by decide) ?_
                  refine r_weak C [0, 1, 2] rfl ?_
                  exact ih _ qh12 fh12 kh12)
            · first
              | (omega; done)
          ·
            intro s hs ih h15 qa qb fh15 kh15
            have uh15 : VilAt h15 kv v := hv.fr fh15 (by omega)
            refine r_iload C (dx dX4_gather 21 rfl) rfl ?_
            refine r_iload C (dx dX4_gather 22 rfl) rfl ?_
            refine rn_ge (a := s) (b := 2 ^ o) (tgt := 63) C (by omega) (by omega) (dx dX4_gather 23 rfl) (by decide) (fun c16 => ?_) (fun c16 => ?_)
            · first
              | (omega; done)
            · first
              | (omega; done)
              | (
                  have c16 : s < 2 ^ o := c16
                  refine r_aload_n C (dx dX4_gather 24 rfl) rfl ?_
                  refine g_X4_15 C (dx dX4_gather 25 rfl) ?_
                  refine r_iload C (dx dX4_gather 26 rfl) rfl ?_
                  refine r_iload C (dx dX4_gather 27 rfl) rfl ?_
                  refine r_ior C (dx dX4_gather 28 rfl) ?_
                  refine r_aload_n C (dx dX4_gather 29 rfl) rfl ?_
                  refine g_X4_15 C (dx dX4_gather 30 rfl) ?_
                  refine r_iload C (dx dX4_gather 31 rfl) rfl ?_
                  refine r_iald (j := s) (x := gat v s o) C rfl rfl (by decide) rfl (by omega) (dx dX4_gather 32 rfl) (qb s hs) ?_
                  refine r_iload_n C (dx dX4_gather 33 rfl) rfl ?_
                  refine r_ior C (dx dX4_gather 34 rfl) ?_
                  refine r_iast (j := s + 2 ^ o) C rfl rfl (by decide) (or_pow (by omega) hs) (by omega) (dx dX4_gather 35 rfl) ?_
                  have eh17 : ∀ i, xI (sI h15 (k + 2) (s + 2 ^ o) ((gat v s o) ||| (ownP v (nI o)))) (k + 2) i = if i = s + 2 ^ o then (gat v s o) ||| (ownP v (nI o)) else xI h15 (k + 2) i := fun i => sI_at
                  have fh17 : Fr (k + 2) (k + 3) h (sI h15 (k + 2) (s + 2 ^ o) ((gat v s o) ||| (ownP v (nI o)))) := fh15.tr <| Fr.sI (by omega) (by omega)
                  have kh17 : xK (sI h15 (k + 2) (s + 2 ^ o) ((gat v s o) ||| (ownP v (nI o)))) = xK h := kh15
                  have uh17 : VilAt (sI h15 (k + 2) (s + 2 ^ o) ((gat v s o) ||| (ownP v (nI o)))) kv v := hv.fr fh17 (by omega)
                  generalize sI h15 (k + 2) (s + 2 ^ o) ((gat v s o) ||| (ownP v (nI o))) = h17 at eh17 fh17 kh17 uh17 ⊢
                  refine rn_iinc (a := s) (k := 1) (ls' := [(0, vr 4 k), (1, vr 5 kv), (2, vi (nI o)), (3, vi (ownP v (nI o))), (4, vi (nI (2 ^ o))), (5, vi (nI (s + 1)))]) C (dx dX4_gather 36 rfl) rfl rfl (by decide) [1, 2, 3, 4, 5, 0] rfl ?_
                  refine r_goto (tgt := 31) C (dx dX4_gather 37 rfl) (by decide) ?_
                  refine ih _ (fun i hi => ?_) (fun i hi => ?_) fh17 kh17
                  · by_cases hi2 : i = s
                    · subst hi2
                      exact (eh17 _).trans ((if_pos rfl).trans (gat_hi v hs).symm)
                    · exact (eh17 _).trans ((if_neg (by omega)).trans (qa i (by omega)))
                  · exact (eh17 _).trans ((if_neg (by omega)).trans (qb i hi))))
set_option maxHeartbeats 4000000 in
theorem c_X4_oddsOf {l : Launch} {h : Hp} {k kv : Nat} {v : Vg} (hv : VilAt h kv v) (hd : kv + 9 ≤ k ∨ k + 4 ≤ kv) (m : Nat) (hm : m < vM v) : Ms l yX4_oddsOf cX4_oddsOf 6 (some .long) 3 [vr 4 k, vr 5 kv, vi (nI m)] h (xK h) (fun r h' => r = some (vl (oddsC v m)) ∧ Fr (k + 1) (k + 3) h h') := by
  refine Ms.of (by decide) (Nat.le_of_ble_eq_true rfl) (fun G C X F => ?_)
  have C : Cx G cX4_oddsOf 6 RX4 := C
  show Rr G 0 [(0, vr 4 k), (1, vr 5 kv), (2, vi (nI m))] [] h
  have bP := hv.bP
  have bM := hv.bM
  have bN := hv.bN
  have p8 := pow8 bN
  obtain ⟨S, hS⟩ : ∃ S, S = 2 ^ vN v := ⟨_, rfl⟩
  rw [← hS] at p8
  have em : inR (nI m) (vM v) = true := by rw [inR_nI (by omega)]; exact decide_eq_true hm
  have hcm : (nI m).toNatClampNeg = m := nI_clamp (by omega)
  refine r_aload_n C (dx dX4_oddsOf 0 rfl) rfl ?_
  refine r_aload_n C (dx dX4_oddsOf 1 rfl) rfl ?_
  refine r_cv (as := [vr 5 kv]) (st := []) C X I_X4_weigh l_X4_39 (c_X4_weigh hv hd) (by decide) (Nat.le_of_ble_eq_true rfl) List.prefix_rfl List.prefix_rfl rfl rfl (Nat.le_of_ble_eq_true rfl) rfl (dx dX4_oddsOf 2 rfl) ?_
  intro rh1 h1 hph1 kkh1
  obtain ⟨rfl, qh1, gh1⟩ := hph1
  rw [← hS] at qh1
  have fh1 : Fr (k + 1) (k + 3) h h1 := (gh1.mono (by omega) (by omega))
  have kh1 : xK h1 = xK h := kkh1
  have uh1 : VilAt h1 kv v := hv.fr fh1 (by omega)
  refine r_aload_n C (dx dX4_oddsOf 3 rfl) rfl ?_
  refine r_aload_n C (dx dX4_oddsOf 4 rfl) rfl ?_
  refine r_cv (as := [vr 5 kv]) (st := []) C X I_X4_gather l_X4_43 (c_X4_gather uh1 hd) (by decide) (Nat.le_of_ble_eq_true rfl) List.prefix_rfl (pfx_eq kh1) rfl rfl (Nat.le_of_ble_eq_true rfl) rfl (dx dX4_oddsOf 5 rfl) ?_
  intro rh2 h2 hph2 kkh2
  obtain ⟨rfl, qh2, gh2⟩ := hph2
  rw [← hS] at qh2
  have fh2 : Fr (k + 1) (k + 3) h h2 := fh1.tr (gh2.mono (by omega) (by omega))
  have kh2 : xK h2 = xK h := kkh2.trans kh1
  have uh2 : VilAt h2 kv v := hv.fr fh2 (by omega)
  have wh2 : ∀ s, s < S → xL h2 (k + 1) s = wgt v s (vN v) := fun s hs => (gh2.L (by omega) s).trans (qh1 s hs)
  refine r_lconst (v := 0) C (dx dX4_oddsOf 6 rfl) rfl ?_
  refine r_lstore_n (ls' := [(0, vr 4 k), (1, vr 5 kv), (2, vi (nI m)), (3, vl 0)]) C (dx dX4_oddsOf 7 rfl) (by decide) [1, 2, 3, 0] rfl ?_
  refine r_iconst (v := nI 0) C (dx dX4_oddsOf 8 rfl) rfl ?_
  refine r_istore (ls' := [(0, vr 4 k), (1, vr 5 kv), (2, vi (nI m)), (3, vl 0), (5, vi (nI 0))]) C (dx dX4_oddsOf 9 rfl) (by decide) [1, 2, 3, 4, 0] rfl ?_
  refine loopU (Φ := fun p => Rr G 15 [(0, vr 4 k), (1, vr 5 kv), (2, vi (nI m)), (3, vl (sumIfL (fun s => needW v (gat v s (vN v)) m) (fun s => wgt v s (vN v)) p)), (5, vi (nI p))] [] h2) (N := S) ?_ ?_ 0 (Nat.zero_le _)
  ·
    refine r_iload C (dx dX4_oddsOf 10 rfl) rfl ?_
    refine r_aload_n C (dx dX4_oddsOf 11 rfl) rfl ?_
    refine r_cvP (as := []) (st := [vi (nI S)]) (v := vi (nI (S - 1))) C X I_X5_allPeople l_X4_46 (c_allS uh2 hS) (by decide) (Nat.le_of_ble_eq_true rfl) (pfx_eq kh2) rfl rfl (Nat.le_of_ble_eq_true rfl) rfl (dx dX4_oddsOf 12 rfl) ?_
    refine rn_gt (a := S) (b := S - 1) (tgt := 55) C (by omega) (by omega) (dx dX4_oddsOf 13 rfl) (by decide) (fun c3 => ?_) (fun c3 => ?_)
    · first
      | (omega; done)
      | (
          have c3 : S - 1 < S := c3
          refine r_lload_n C (dx dX4_oddsOf 31 rfl) rfl ?_
          exact F.2.1 _ _ _ _ rfl (dx dX4_oddsOf 32 rfl) kh2 ⟨congrArg (fun x => some (vl x)) (show sumIfL (fun s => needW v (gat v s (vN v)) m) (fun s => wgt v s (vN v)) S = oddsC v m by rw [hS]; rfl), fh2⟩)
    · first
      | (omega; done)
  ·
    intro p hp ih
    refine r_iload C (dx dX4_oddsOf 10 rfl) rfl ?_
    refine r_aload_n C (dx dX4_oddsOf 11 rfl) rfl ?_
    refine r_cvP (as := []) (st := [vi (nI p)]) (v := vi (nI (S - 1))) C X I_X5_allPeople l_X4_46 (c_allS uh2 hS) (by decide) (Nat.le_of_ble_eq_true rfl) (pfx_eq kh2) rfl rfl (Nat.le_of_ble_eq_true rfl) rfl (dx dX4_oddsOf 12 rfl) ?_
    refine rn_gt (a := p) (b := S - 1) (tgt := 55) C (by omega) (by omega) (dx dX4_oddsOf 13 rfl) (by decide) (fun c5 => ?_) (fun c5 => ?_)
    · first
      | (omega; done)
      | (
          have c5 : S - 1 < p := c5
          refine r_lload_n C (dx dX4_oddsOf 31 rfl) rfl ?_
          exact F.2.1 _ _ _ _ rfl (dx dX4_oddsOf 32 rfl) kh2 ⟨congrArg (fun x => some (vl x)) (show sumIfL (fun s => needW v (gat v s (vN v)) m) (fun s => wgt v s (vN v)) p = oddsC v m by rw [hS]; rfl), fh2⟩)
    · first
      | (omega; done)
      | (
          have c5 : p ≤ S - 1 := c5
          refine r_aload_n C (dx dX4_oddsOf 14 rfl) rfl ?_
          refine r_iload_n C (dx dX4_oddsOf 15 rfl) rfl ?_
          refine r_aload_n C (dx dX4_oddsOf 16 rfl) rfl ?_
          refine g_X4_15 C (dx dX4_oddsOf 17 rfl) ?_
          refine r_iload C (dx dX4_oddsOf 18 rfl) rfl ?_
          refine r_iald (j := p) (x := gat v p (vN v)) C rfl rfl (by decide) rfl (by omega) (dx dX4_oddsOf 19 rfl) (qh2 _ (by omega)) ?_
          refine r_cvP (as := [vi (nI m), vi (gat v p (vN v))]) (st := []) (v := vi (b2i (wkW v (nI m) (gat v p (vN v))))) C X I_X5_isWorkedWith l_X4_50 (c_X5_isWorkedWith uh2 _ _) (by decide) (Nat.le_of_ble_eq_true rfl) (pfx_eq kh2) rfl rfl (Nat.le_of_ble_eq_true rfl) rfl (dx dX4_oddsOf 20 rfl) ?_
          refine rb_eq (b := wkW v (nI m) (gat v p (vN v))) (tgt := 49) C (dx dX4_oddsOf 21 rfl) (by decide) (fun c6 => ?_) (fun c6 => ?_)
          ·
            have c6 : (wkW v (nI m) (gat v p (vN v))) = false := c6
            refine rn_iinc (a := p) (k := 1) (ls' := [(0, vr 4 k), (1, vr 5 kv), (2, vi (nI m)), (3, vl (sumIfL (fun s => needW v (gat v s (vN v)) m) (fun s => wgt v s (vN v)) p)), (5, vi (nI (p + 1)))]) C (dx dX4_oddsOf 29 rfl) rfl rfl (by decide) [1, 2, 3, 4, 0] rfl ?_
            refine r_goto (tgt := 15) C (dx dX4_oddsOf 30 rfl) (by decide) ?_
            have e9 : sumIfL (fun s => needW v (gat v s (vN v)) m) (fun s => wgt v s (vN v)) p = sumIfL (fun s => needW v (gat v s (vN v)) m) (fun s => wgt v s (vN v)) (p + 1) := by (have e6 := c6); simp only [wkW, em, hcm, Bool.true_and] at e6; simp [sumIfL, e6]
            rw [e9]
            exact ih
          ·
            have c6 : (wkW v (nI m) (gat v p (vN v))) = true := c6
            refine r_lload_n C (dx dX4_oddsOf 22 rfl) rfl ?_
            refine r_aload_n C (dx dX4_oddsOf 23 rfl) rfl ?_
            refine g_X4_9 C (dx dX4_oddsOf 24 rfl) ?_
            refine r_iload C (dx dX4_oddsOf 25 rfl) rfl ?_
            refine r_lald (j := p) (x := wgt v p (vN v)) C rfl rfl (by decide) rfl (by omega) (dx dX4_oddsOf 26 rfl) (wh2 _ (by omega)) ?_
            refine r_ladd C (dx dX4_oddsOf 27 rfl) ?_
            refine r_lstore_n (ls' := [(0, vr 4 k), (1, vr 5 kv), (2, vi (nI m)), (3, vl ((sumIfL (fun s => needW v (gat v s (vN v)) m) (fun s => wgt v s (vN v)) p) + (wgt v p (vN v)))), (5, vi (nI p))]) C (dx dX4_oddsOf 28 rfl) (by decide) [1, 2, 3, 0, 4] rfl ?_
            refine rn_iinc (a := p) (k := 1) (ls' := [(0, vr 4 k), (1, vr 5 kv), (2, vi (nI m)), (3, vl ((sumIfL (fun s => needW v (gat v s (vN v)) m) (fun s => wgt v s (vN v)) p) + (wgt v p (vN v)))), (5, vi (nI (p + 1)))]) C (dx dX4_oddsOf 29 rfl) rfl rfl (by decide) [1, 2, 3, 4, 0] rfl ?_
            refine r_goto (tgt := 15) C (dx dX4_oddsOf 30 rfl) (by decide) ?_
            have e9 : (sumIfL (fun s => needW v (gat v s (vN v)) m) (fun s => wgt v s (vN v)) p) + (wgt v p (vN v)) = sumIfL (fun s => needW v (gat v s (vN v)) m) (fun s => wgt v s (vN v)) (p + 1) := by (have e6 := c6); simp only [wkW, em, hcm, Bool.true_and] at e6; simp [sumIfL, e6]
            rw [e9]
            exact ih)
set_option maxHeartbeats 4000000 in
theorem c_X4_oddsOfPair {l : Launch} {h : Hp} {k kv : Nat} {v : Vg} (hv : VilAt h kv v) (hd : kv + 9 ≤ k ∨ k + 4 ≤ kv) (m o : Nat) (hm : m < vM v) (ho : o < vM v) (hne : m ≠ o) : Ms l yX4_oddsOfPair cX4_oddsOfPair 7 (some .long) 4 [vr 4 k, vr 5 kv, vi (nI m), vi (nI o)] h (xK h) (fun r h' => r = some (vl (oddsPC v m o)) ∧ Fr (k + 1) (k + 3) h h') := by
  refine Ms.of (by decide) (Nat.le_of_ble_eq_true rfl) (fun G C X F => ?_)
  have C : Cx G cX4_oddsOfPair 7 RX4 := C
  show Rr G 0 [(0, vr 4 k), (1, vr 5 kv), (2, vi (nI m)), (3, vi (nI o))] [] h
  have bP := hv.bP
  have bM := hv.bM
  have bN := hv.bN
  have p8 := pow8 bN
  obtain ⟨S, hS⟩ : ∃ S, S = 2 ^ vN v := ⟨_, rfl⟩
  rw [← hS] at p8
  refine r_aload_n C (dx dX4_oddsOfPair 0 rfl) rfl ?_
  refine r_aload_n C (dx dX4_oddsOfPair 1 rfl) rfl ?_
  refine r_cv (as := [vr 5 kv]) (st := []) C X I_X4_weigh l_X4_39 (c_X4_weigh hv hd) (by decide) (Nat.le_of_ble_eq_true rfl) List.prefix_rfl List.prefix_rfl rfl rfl (Nat.le_of_ble_eq_true rfl) rfl (dx dX4_oddsOfPair 2 rfl) ?_
  intro rh1 h1 hph1 kkh1
  obtain ⟨rfl, qh1, gh1⟩ := hph1
  rw [← hS] at qh1
  have fh1 : Fr (k + 1) (k + 3) h h1 := (gh1.mono (by omega) (by omega))
  have kh1 : xK h1 = xK h := kkh1
  have uh1 : VilAt h1 kv v := hv.fr fh1 (by omega)
  refine r_lconst (v := 0) C (dx dX4_oddsOfPair 3 rfl) rfl ?_
  refine r_lstore (ls' := [(0, vr 4 k), (1, vr 5 kv), (2, vi (nI m)), (3, vi (nI o)), (4, vl 0)]) C (dx dX4_oddsOfPair 4 rfl) (by decide) [1, 2, 3, 4, 0] rfl ?_
  refine r_iconst (v := nI 0) C (dx dX4_oddsOfPair 5 rfl) rfl ?_
  refine r_istore (ls' := [(0, vr 4 k), (1, vr 5 kv), (2, vi (nI m)), (3, vi (nI o)), (4, vl 0), (6, vi (nI 0))]) C (dx dX4_oddsOfPair 6 rfl) (by decide) [1, 2, 3, 4, 5, 0] rfl ?_
  refine loopU (Φ := fun p => Rr G 11 [(0, vr 4 k), (1, vr 5 kv), (2, vi (nI m)), (3, vi (nI o)), (4, vl (sumIfL (fun s => bothW v m o (nI s)) (fun s => wgt v s (vN v)) p)), (6, vi (nI p))] [] h1) (N := S) ?_ ?_ 0 (Nat.zero_le _)
  ·
    refine r_iload C (dx dX4_oddsOfPair 7 rfl) rfl ?_
    refine r_aload_n C (dx dX4_oddsOfPair 8 rfl) rfl ?_
    refine r_cvP (as := []) (st := [vi (nI S)]) (v := vi (nI (S - 1))) C X I_X5_allPeople l_X4_46 (c_allS uh1 hS) (by decide) (Nat.le_of_ble_eq_true rfl) (pfx_eq kh1) rfl rfl (Nat.le_of_ble_eq_true rfl) rfl (dx dX4_oddsOfPair 9 rfl) ?_
    refine rn_gt (a := S) (b := S - 1) (tgt := 61) C (by omega) (by omega) (dx dX4_oddsOfPair 10 rfl) (by decide) (fun c2 => ?_) (fun c2 => ?_)
    · first
      | (omega; done)
      | (
          have c2 : S - 1 < S := c2
          refine r_lload C (dx dX4_oddsOfPair 33 rfl) rfl ?_
          exact F.2.1 _ _ _ _ rfl (dx dX4_oddsOfPair 34 rfl) kh1 ⟨congrArg (fun x => some (vl x)) (show sumIfL (fun s => bothW v m o (nI s)) (fun s => wgt v s (vN v)) S = oddsPC v m o by rw [hS]; rfl), fh1⟩)
    · first
      | (omega; done)
  ·
    intro p hp ih
    refine r_iload C (dx dX4_oddsOfPair 7 rfl) rfl ?_
    refine r_aload_n C (dx dX4_oddsOfPair 8 rfl) rfl ?_
    refine r_cvP (as := []) (st := [vi (nI p)]) (v := vi (nI (S - 1))) C X I_X5_allPeople l_X4_46 (c_allS uh1 hS) (by decide) (Nat.le_of_ble_eq_true rfl) (pfx_eq kh1) rfl rfl (Nat.le_of_ble_eq_true rfl) rfl (dx dX4_oddsOfPair 9 rfl) ?_
    refine rn_gt (a := p) (b := S - 1) (tgt := 61) C (by omega) (by omega) (dx dX4_oddsOfPair 10 rfl) (by decide) (fun c4 => ?_) (fun c4 => ?_)
    · first
      | (omega; done)
      | (
          have c4 : S - 1 < p := c4
          refine r_lload C (dx dX4_oddsOfPair 33 rfl) rfl ?_
          exact F.2.1 _ _ _ _ rfl (dx dX4_oddsOfPair 34 rfl) kh1 ⟨congrArg (fun x => some (vl x)) (show sumIfL (fun s => bothW v m o (nI s)) (fun s => wgt v s (vN v)) p = oddsPC v m o by rw [hS]; rfl), fh1⟩)
    · first
      | (omega; done)
      | (
          have c4 : p ≤ S - 1 := c4
          refine r_aload_n C (dx dX4_oddsOfPair 11 rfl) rfl ?_
          refine g_X4_9 C (dx dX4_oddsOfPair 12 rfl) ?_
          refine r_iload C (dx dX4_oddsOfPair 13 rfl) rfl ?_
          refine r_lald (j := p) (x := wgt v p (vN v)) C rfl rfl (by decide) rfl (by omega) (dx dX4_oddsOfPair 14 rfl) (qh1 _ (by omega)) ?_
          refine r_lconst (v := 0) C (dx dX4_oddsOfPair 15 rfl) rfl ?_
          refine r_lcmp C (dx dX4_oddsOfPair 16 rfl) ?_
          refine r_if_eq (tgt := 55) C (dx dX4_oddsOfPair 17 rfl) (by decide) (fun c5 => ?_) (fun c5 => ?_)
          ·
            have c5 : wgt v p (vN v) = 0 := (lg_cmp_eq _ _).mp c5
            refine rn_iinc (a := p) (k := 1) (ls' := [(0, vr 4 k), (1, vr 5 kv), (2, vi (nI m)), (3, vi (nI o)), (4, vl (sumIfL (fun s => bothW v m o (nI s)) (fun s => wgt v s (vN v)) p)), (6, vi (nI (p + 1)))]) C (dx dX4_oddsOfPair 31 rfl) rfl rfl (by decide) [1, 2, 3, 4, 5, 0] rfl ?_
            refine r_goto (tgt := 11) C (dx dX4_oddsOfPair 32 rfl) (by decide) ?_
            have e9 : sumIfL (fun s => bothW v m o (nI s)) (fun s => wgt v s (vN v)) p = sumIfL (fun s => bothW v m o (nI s)) (fun s => wgt v s (vN v)) (p + 1) := by (simp only [sumIfL]; split <;> simp_all)
            rw [e9]
            exact ih
          ·
            have c5 : ¬ (wgt v p (vN v) = 0) := fun q => c5 ((lg_cmp_eq _ _).mpr q)
            refine r_aload_n C (dx dX4_oddsOfPair 18 rfl) rfl ?_
            refine r_iload_n C (dx dX4_oddsOfPair 19 rfl) rfl ?_
            refine r_iload_n C (dx dX4_oddsOfPair 20 rfl) rfl ?_
            refine r_iload C (dx dX4_oddsOfPair 21 rfl) rfl ?_
            refine r_cvP (as := [vi (nI m), vi (nI o), vi (nI p)]) (st := []) (v := vi (b2i (bothW v m o (nI p)))) C X I_X5_areBothWorked l_X4_54 (c_X5_areBothWorked uh1 _ _ _ hm ho hne) (by decide) (Nat.le_of_ble_eq_true rfl) (pfx_eq kh1) rfl rfl (Nat.le_of_ble_eq_true rfl) rfl (dx dX4_oddsOfPair 22 rfl) ?_
            refine rb_eq (b := bothW v m o (nI p)) (tgt := 55) C (dx dX4_oddsOfPair 23 rfl) (by decide) (fun c6 => ?_) (fun c6 => ?_)
            ·
              have c6 : (bothW v m o (nI p)) = false := c6
              refine rn_iinc (a := p) (k := 1) (ls' := [(0, vr 4 k), (1, vr 5 kv), (2, vi (nI m)), (3, vi (nI o)), (4, vl (sumIfL (fun s => bothW v m o (nI s)) (fun s => wgt v s (vN v)) p)), (6, vi (nI (p + 1)))]) C (dx dX4_oddsOfPair 31 rfl) rfl rfl (by decide) [1, 2, 3, 4, 5, 0] rfl ?_
              refine r_goto (tgt := 11) C (dx dX4_oddsOfPair 32 rfl) (by decide) ?_
              have e9 : sumIfL (fun s => bothW v m o (nI s)) (fun s => wgt v s (vN v)) p = sumIfL (fun s => bothW v m o (nI s)) (fun s => wgt v s (vN v)) (p + 1) := by (simp only [sumIfL]; split <;> simp_all)
              rw [e9]
              exact ih
            ·
              have c6 : (bothW v m o (nI p)) = true := c6
              refine r_lload C (dx dX4_oddsOfPair 24 rfl) rfl ?_
              refine r_aload_n C (dx dX4_oddsOfPair 25 rfl) rfl ?_
              refine g_X4_9 C (dx dX4_oddsOfPair 26 rfl) ?_
              refine r_iload C (dx dX4_oddsOfPair 27 rfl) rfl ?_
              refine r_lald (j := p) (x := wgt v p (vN v)) C rfl rfl (by decide) rfl (by omega) (dx dX4_oddsOfPair 28 rfl) (qh1 _ (by omega)) ?_
              refine r_ladd C (dx dX4_oddsOfPair 29 rfl) ?_
              refine r_lstore (ls' := [(0, vr 4 k), (1, vr 5 kv), (2, vi (nI m)), (3, vi (nI o)), (4, vl ((sumIfL (fun s => bothW v m o (nI s)) (fun s => wgt v s (vN v)) p) + (wgt v p (vN v)))), (6, vi (nI p))]) C (dx dX4_oddsOfPair 30 rfl) (by decide) [1, 2, 3, 4, 0, 5] rfl ?_
              refine rn_iinc (a := p) (k := 1) (ls' := [(0, vr 4 k), (1, vr 5 kv), (2, vi (nI m)), (3, vi (nI o)), (4, vl ((sumIfL (fun s => bothW v m o (nI s)) (fun s => wgt v s (vN v)) p) + (wgt v p (vN v)))), (6, vi (nI (p + 1)))]) C (dx dX4_oddsOfPair 31 rfl) rfl rfl (by decide) [1, 2, 3, 4, 5, 0] rfl ?_
              refine r_goto (tgt := 11) C (dx dX4_oddsOfPair 32 rfl) (by decide) ?_
              have e9 : (sumIfL (fun s => bothW v m o (nI s)) (fun s => wgt v s (vN v)) p) + (wgt v p (vN v)) = sumIfL (fun s => bothW v m o (nI s)) (fun s => wgt v s (vN v)) (p + 1) := by (simp only [sumIfL]; split <;> simp_all)
              rw [e9]
              exact ih)
set_option maxHeartbeats 4000000 in
theorem c_X4_worthAsWeighed {l : Launch} {h : Hp} {k kv : Nat} {v : Vg} (hv : VilAt h kv v) (hd : kv + 9 ≤ k ∨ k + 4 ≤ kv) (hw : ∀ s, s < 2 ^ vN v → xL h (k + 1) s = wgt v s (vN v)) : Ms l yX4_worthAsWeighed cX4_worthAsWeighed 5 (some .long) 3 [vr 4 k, vr 5 kv] h (xK h) (fun r h' => r = some (vl (dayC v)) ∧ Fr (k + 2) (k + 3) h h') := by
  refine Ms.of (by decide) (Nat.le_of_ble_eq_true rfl) (fun G C X F => ?_)
  have C : Cx G cX4_worthAsWeighed 5 RX4 := C
  show Rr G 0 [(0, vr 4 k), (1, vr 5 kv)] [] h
  have bP := hv.bP
  have bM := hv.bM
  have bN := hv.bN
  have p8 := pow8 bN
  obtain ⟨S, hS⟩ : ∃ S, S = 2 ^ vN v := ⟨_, rfl⟩
  rw [← hS] at p8
  rw [← hS] at hw
  refine r_aload_n C (dx dX4_worthAsWeighed 0 rfl) rfl ?_
  refine r_aload_n C (dx dX4_worthAsWeighed 1 rfl) rfl ?_
  refine r_cv (as := [vr 5 kv]) (st := []) C X I_X4_gather l_X4_43 (c_X4_gather hv hd) (by decide) (Nat.le_of_ble_eq_true rfl) List.prefix_rfl List.prefix_rfl rfl rfl (Nat.le_of_ble_eq_true rfl) rfl (dx dX4_worthAsWeighed 2 rfl) ?_
  intro rh1 h1 hph1 kkh1
  obtain ⟨rfl, qh1, gh1⟩ := hph1
  rw [← hS] at qh1
  have fh1 : Fr (k + 1) (k + 3) h h1 := (gh1.mono (by omega) (by omega))
  have kh1 : xK h1 = xK h := kkh1
  have uh1 : VilAt h1 kv v := hv.fr fh1 (by omega)
  have wh1 : ∀ s, s < S → xL h1 (k + 1) s = wgt v s (vN v) := fun s hs => (gh1.L (by omega) s).trans (hw s hs)
  refine r_lconst (v := 0) C (dx dX4_worthAsWeighed 3 rfl) rfl ?_
  refine r_lstore_n (ls' := [(0, vr 4 k), (1, vr 5 kv), (2, vl 0)]) C (dx dX4_worthAsWeighed 4 rfl) (by decide) [1, 2, 0] rfl ?_
  refine r_iconst (v := nI 0) C (dx dX4_worthAsWeighed 5 rfl) rfl ?_
  refine r_istore (ls' := [(0, vr 4 k), (1, vr 5 kv), (2, vl 0), (4, vi (nI 0))]) C (dx dX4_worthAsWeighed 6 rfl) (by decide) [1, 2, 3, 0] rfl ?_
  refine loopU (Φ := fun p => Rr G 10 [(0, vr 4 k), (1, vr 5 kv), (2, vl (sumL (fun s => wgt v s (vN v) * (worthS v (gat v s (vN v))).toInt64) p)), (4, vi (nI p))] [] h1) (N := S) ?_ ?_ 0 (Nat.zero_le _)
  ·
    refine r_iload C (dx dX4_worthAsWeighed 7 rfl) rfl ?_
    refine r_aload_n C (dx dX4_worthAsWeighed 8 rfl) rfl ?_
    refine r_cvP (as := []) (st := [vi (nI S)]) (v := vi (nI (S - 1))) C X I_X5_allPeople l_X4_46 (c_allS uh1 hS) (by decide) (Nat.le_of_ble_eq_true rfl) (pfx_eq kh1) rfl rfl (Nat.le_of_ble_eq_true rfl) rfl (dx dX4_worthAsWeighed 9 rfl) ?_
    refine rn_gt (a := S) (b := S - 1) (tgt := 60) C (by omega) (by omega) (dx dX4_worthAsWeighed 10 rfl) (by decide) (fun c2 => ?_) (fun c2 => ?_)
    · first
      | (omega; done)
      | (
          have c2 : S - 1 < S := c2
          refine r_lload_n C (dx dX4_worthAsWeighed 35 rfl) rfl ?_
          exact F.2.1 _ _ _ _ rfl (dx dX4_worthAsWeighed 36 rfl) kh1 ⟨congrArg (fun x => some (vl x)) (show sumL (fun s => wgt v s (vN v) * (worthS v (gat v s (vN v))).toInt64) S = dayC v by rw [hS]; rfl), gh1⟩)
    · first
      | (omega; done)
  ·
    intro p hp ih
    refine r_iload C (dx dX4_worthAsWeighed 7 rfl) rfl ?_
    refine r_aload_n C (dx dX4_worthAsWeighed 8 rfl) rfl ?_
    refine r_cvP (as := []) (st := [vi (nI p)]) (v := vi (nI (S - 1))) C X I_X5_allPeople l_X4_46 (c_allS uh1 hS) (by decide) (Nat.le_of_ble_eq_true rfl) (pfx_eq kh1) rfl rfl (Nat.le_of_ble_eq_true rfl) rfl (dx dX4_worthAsWeighed 9 rfl) ?_
    refine rn_gt (a := p) (b := S - 1) (tgt := 60) C (by omega) (by omega) (dx dX4_worthAsWeighed 10 rfl) (by decide) (fun c4 => ?_) (fun c4 => ?_)
    · first
      | (omega; done)
      | (
          have c4 : S - 1 < p := c4
          refine r_lload_n C (dx dX4_worthAsWeighed 35 rfl) rfl ?_
          exact F.2.1 _ _ _ _ rfl (dx dX4_worthAsWeighed 36 rfl) kh1 ⟨congrArg (fun x => some (vl x)) (show sumL (fun s => wgt v s (vN v) * (worthS v (gat v s (vN v))).toInt64) p = dayC v by rw [hS]; rfl), gh1⟩)
    · first
      | (omega; done)
      | (
          have c4 : p ≤ S - 1 := c4
          refine r_aload_n C (dx dX4_worthAsWeighed 11 rfl) rfl ?_
          refine g_X4_9 C (dx dX4_worthAsWeighed 12 rfl) ?_
          refine r_iload C (dx dX4_worthAsWeighed 13 rfl) rfl ?_
          refine r_lald (j := p) (x := wgt v p (vN v)) C rfl rfl (by decide) rfl (by omega) (dx dX4_worthAsWeighed 14 rfl) (wh1 _ (by omega)) ?_
          refine r_lconst (v := 0) C (dx dX4_worthAsWeighed 15 rfl) rfl ?_
          refine r_lcmp C (dx dX4_worthAsWeighed 16 rfl) ?_
          refine r_if_eq (tgt := 54) C (dx dX4_worthAsWeighed 17 rfl) (by decide) (fun c5 => ?_) (fun c5 => ?_)
          ·
            have c5 : wgt v p (vN v) = 0 := (lg_cmp_eq _ _).mp c5
            refine rn_iinc (a := p) (k := 1) (ls' := [(0, vr 4 k), (1, vr 5 kv), (2, vl (sumL (fun s => wgt v s (vN v) * (worthS v (gat v s (vN v))).toInt64) p)), (4, vi (nI (p + 1)))]) C (dx dX4_worthAsWeighed 33 rfl) rfl rfl (by decide) [1, 2, 3, 0] rfl ?_
            refine r_goto (tgt := 10) C (dx dX4_worthAsWeighed 34 rfl) (by decide) ?_
            have e9 : sumL (fun s => wgt v s (vN v) * (worthS v (gat v s (vN v))).toInt64) p = sumL (fun s => wgt v s (vN v) * (worthS v (gat v s (vN v))).toInt64) (p + 1) := by (simp only [sumL]; try rw [c5]; try simp)
            rw [e9]
            exact ih
          ·
            have c5 : ¬ (wgt v p (vN v) = 0) := fun q => c5 ((lg_cmp_eq _ _).mpr q)
            refine r_lload_n C (dx dX4_worthAsWeighed 18 rfl) rfl ?_
            refine r_aload_n C (dx dX4_worthAsWeighed 19 rfl) rfl ?_
            refine g_X4_9 C (dx dX4_worthAsWeighed 20 rfl) ?_
            refine r_iload C (dx dX4_worthAsWeighed 21 rfl) rfl ?_
            refine r_lald (j := p) (x := wgt v p (vN v)) C rfl rfl (by decide) rfl (by omega) (dx dX4_worthAsWeighed 22 rfl) (wh1 _ (by omega)) ?_
            refine r_aload_n C (dx dX4_worthAsWeighed 23 rfl) rfl ?_
            refine r_aload_n C (dx dX4_worthAsWeighed 24 rfl) rfl ?_
            refine g_X4_15 C (dx dX4_worthAsWeighed 25 rfl) ?_
            refine r_iload C (dx dX4_worthAsWeighed 26 rfl) rfl ?_
            refine r_iald (j := p) (x := gat v p (vN v)) C rfl rfl (by decide) rfl (by omega) (dx dX4_worthAsWeighed 27 rfl) (qh1 _ (by omega)) ?_
            refine r_cvP (as := [vi (gat v p (vN v))]) (st := [vl (wgt v p (vN v)), vl (sumL (fun s => wgt v s (vN v) * (worthS v (gat v s (vN v))).toInt64) p)]) (v := vi (worthS v (gat v p (vN v)))) C X I_X5_worthWith l_X4_62 (c_X5_worthWith uh1 _) (by decide) (Nat.le_of_ble_eq_true rfl) (pfx_eq kh1) rfl rfl (Nat.le_of_ble_eq_true rfl) rfl (dx dX4_worthAsWeighed 28 rfl) ?_
            refine r_i2l C (dx dX4_worthAsWeighed 29 rfl) ?_
            refine r_lmul C (dx dX4_worthAsWeighed 30 rfl) ?_
            refine r_ladd C (dx dX4_worthAsWeighed 31 rfl) ?_
            refine r_lstore_n (ls' := [(0, vr 4 k), (1, vr 5 kv), (2, vl ((sumL (fun s => wgt v s (vN v) * (worthS v (gat v s (vN v))).toInt64) p) + ((wgt v p (vN v)) * ((worthS v (gat v p (vN v))).toInt64)))), (4, vi (nI p))]) C (dx dX4_worthAsWeighed 32 rfl) (by decide) [1, 2, 0, 3] rfl ?_
            refine rn_iinc (a := p) (k := 1) (ls' := [(0, vr 4 k), (1, vr 5 kv), (2, vl ((sumL (fun s => wgt v s (vN v) * (worthS v (gat v s (vN v))).toInt64) p) + ((wgt v p (vN v)) * ((worthS v (gat v p (vN v))).toInt64)))), (4, vi (nI (p + 1)))]) C (dx dX4_worthAsWeighed 33 rfl) rfl rfl (by decide) [1, 2, 3, 0] rfl ?_
            refine r_goto (tgt := 10) C (dx dX4_worthAsWeighed 34 rfl) (by decide) ?_
            have e9 : (sumL (fun s => wgt v s (vN v) * (worthS v (gat v s (vN v))).toInt64) p) + ((wgt v p (vN v)) * ((worthS v (gat v p (vN v))).toInt64)) = sumL (fun s => wgt v s (vN v) * (worthS v (gat v s (vN v))).toInt64) (p + 1) := by (simp only [sumL]; try rw [c5]; try simp)
            rw [e9]
            exact ih)

