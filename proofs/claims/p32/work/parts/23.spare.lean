/-! PART 23: the class: spare -/
theorem c_worthOfDayW {l : Launch} {h : Hp} {k kv : Nat} {v : Vg} (hv : VilAt h kv v) (hd : kv + 9 ≤ k ∨ k + 4 ≤ kv)  : Ms l yX4_worthOfDay cX4_worthOfDay 2 (some .long) 4 [vr 4 k, vr 5 kv] h (xK h) (fun r h' => r = some (vl (dayC v)) ∧ (∀ s, s < 2 ^ vN v → xL h' (k + 1) s = wgt v s (vN v)) ∧ Fr (k + 1) (k + 3) h h') := by
  refine Ms.of (by decide) (Nat.le_of_ble_eq_true rfl) (fun G C X F => ?_)
  have C : Cx G cX4_worthOfDay 2 RX4 := C
  show Rr G 0 [(0, vr 4 k), (1, vr 5 kv)] [] h
  have bN := hv.bN
  have p8 := pow8 bN
  refine r_aload_n C (dx dX4_worthOfDay 0 rfl) rfl ?_
  refine r_aload_n C (dx dX4_worthOfDay 1 rfl) rfl ?_
  refine r_cv (as := [vr 5 kv]) (st := []) C X I_X4_weigh l_X4_39 (c_X4_weigh hv hd) (by decide) (Nat.le_of_ble_eq_true rfl) List.prefix_rfl List.prefix_rfl rfl rfl (Nat.le_of_ble_eq_true rfl) rfl (dx dX4_worthOfDay 2 rfl) ?_
  intro rh1 h1 hph1 kkh1
  obtain ⟨rfl, qh1, gh1⟩ := hph1
  have fh1 : Fr (k + 1) (k + 3) h h1 := (gh1.mono (by omega) (by omega))
  have kh1 : xK h1 = xK h := kkh1
  have uh1 : VilAt h1 kv v := hv.fr fh1 (by omega)
  refine r_aload_n C (dx dX4_worthOfDay 3 rfl) rfl ?_
  refine r_aload_n C (dx dX4_worthOfDay 4 rfl) rfl ?_
  refine r_cv (as := [vr 5 kv]) (st := []) C X I_X4_worthAsWeighed l_X4_58 (c_X4_worthAsWeighed uh1 hd qh1) (by decide) (Nat.le_of_ble_eq_true rfl) List.prefix_rfl (pfx_eq kh1) rfl rfl (Nat.le_of_ble_eq_true rfl) rfl (dx dX4_worthOfDay 5 rfl) ?_
  intro rh2 h2 hph2 kkh2
  obtain ⟨rfl, gh2⟩ := hph2
  have fh2 : Fr (k + 1) (k + 3) h h2 := fh1.tr (gh2.mono (by omega) (by omega))
  have kh2 : xK h2 = xK h := kkh2.trans kh1
  exact F.2.1 _ _ _ _ rfl (dx dX4_worthOfDay 6 rfl) kh2 ⟨rfl, fun s hs => (gh2.L (by omega) s).trans (qh1 s hs), fh2⟩
/-- the village tried differs in its pieces alone, and it is weighed -/
def SpI (v u : Vg) (h : Hp) : Prop := vN u = vN v ∧ (∀ i, vF u 5 i = vF v 5 i) ∧ (∀ i, vF u 6 i = vF v 6 i) ∧ ∀ s, s < 2 ^ vN v → xL h (28 + 1) s = wgt v s (vN v)
theorem SpI.st {v u : Vg} {h : Hp} {a c j i : Nat} {x y : Int32} (q : SpI v u h) (hc : c < 2) : SpI v (vset u c i x) (sI h a j y) :=
  ⟨q.1, fun i9 => by rw [← q.2.1 i9]; simp [vset, vF, show ¬ 5 = c by omega], fun i9 => by rw [← q.2.2.1 i9]; simp [vset, vF, show ¬ 6 = c by omega], fun s hs => q.2.2.2 s hs⟩
theorem SpI.fr {v u : Vg} {h h1 : Hp} (q : SpI v u h) (f : Fr (28 + 2) (28 + 3) h h1) : SpI v u h1 := ⟨q.1, q.2.1, q.2.2.1, fun s hs => (f.L (by omega) s).trans (q.2.2.2 s hs)⟩
theorem SpI.w {v u : Vg} {h : Hp} (q : SpI v u h) : ∀ s, s < 2 ^ vN u → xL h (28 + 1) s = wgt u s (vN u) := fun s hs => by
  rw [wgt_c q.2.1 q.2.2.1, q.1]; exact q.2.2.2 s (by rw [← q.1]; exact hs)
set_option maxHeartbeats 4000000 in
theorem c_X6_spare {l : Launch} {h : Hp} {v u w : Vg} {g : Sg} {B : Nat → Int32} {z : Nat} {κ : Int32} (o : Ow h v u w g B z κ) (hg : GOk g)  : Ms l yX6_spare cX6_spare 8 (some .int) 20 [vr 6 0] h (xK h) (fun r h' => PI r ∧ OwE h h' g z κ) := by
  refine Ms.of (by decide) (Nat.le_of_ble_eq_true rfl) (fun G C X F => ?_)
  have C : Cx G cX6_spare 8 RX6 := C
  show Rr G 0 [(0, vr 6 0)] [] h
  have bP := o.pv.bP
  have bM := o.pv.bM
  have bN := o.pv.bN
  have bz := o.pt.2.2
  refine r_aload_n C (dx dX6_spare 0 rfl) rfl ?_
  refine g_X6_16 C (dx dX6_spare 1 rfl) ?_
  refine r_aload_n C (dx dX6_spare 2 rfl) rfl ?_
  refine g_X6_10 C (dx dX6_spare 3 rfl) ?_
  refine r_cv (as := [vr 5 1]) (st := []) C X I_X5_takeOver l_X6_191 (c_X5_takeOver o.pu o.pv (by omega)) (by decide) (Nat.le_of_ble_eq_true rfl) List.prefix_rfl List.prefix_rfl rfl rfl (Nat.le_of_ble_eq_true rfl) rfl (dx dX6_spare 4 rfl) ?_
  intro rh1 h1 hph1 kkh1
  obtain ⟨rfl, wh1, gh1⟩ := hph1
  have oh1 : Ow h1 v v w g B z κ := o.tri wh1 gh1
  have fh1 : Fr 0 63 h h1 := gh1.mono (by omega) (by omega)
  have kh1 : xK h1 = xK h := kkh1
  refine r_iconst (v := -1) C (dx dX6_spare 5 rfl) rfl ?_
  refine r_istore_n (ls' := [(0, vr 6 0), (1, vi (-1))]) C (dx dX6_spare 6 rfl) (by decide) [1, 0] rfl ?_
  refine r_aload_n C (dx dX6_spare 7 rfl) rfl ?_
  refine g_X6_29 C (dx dX6_spare 8 rfl) ?_
  refine r_aload_n C (dx dX6_spare 9 rfl) rfl ?_
  refine g_X6_16 C (dx dX6_spare 10 rfl) ?_
  refine r_cv (as := [vr 5 10]) (st := []) C X I_X4_worthOfDay l_X6_244 (c_worthOfDayW oh1.pu (by omega)) (by decide) (Nat.le_of_ble_eq_true rfl) List.prefix_rfl (pfx_eq kh1) rfl rfl (Nat.le_of_ble_eq_true rfl) rfl (dx dX6_spare 11 rfl) ?_
  intro rh2 h2 hph2 kkh2
  obtain ⟨rfl, qh2, gh2⟩ := hph2
  have oh2 : Ow h2 v v w g B z κ := oh1.tm (gh2.mono (by omega) (by omega))
  have fh2 : Fr 0 63 h h2 := fh1.tr (gh2.mono (by omega) (by omega))
  have kh2 : xK h2 = xK h := (kkh2).trans kh1
  have sh2 : SpI v v h2 := ⟨rfl, fun _ => rfl, fun _ => rfl, qh2⟩
  refine r_lstore_n (ls' := [(0, vr 6 0), (1, vi (-1)), (2, vl (dayC v))]) C (dx dX6_spare 12 rfl) (by decide) [1, 2, 0] rfl ?_
  refine r_iconst (v := nI 0) C (dx dX6_spare 13 rfl) rfl ?_
  refine r_istore (ls' := [(0, vr 6 0), (1, vi (-1)), (2, vl (dayC v)), (4, vi (nI 0))]) C (dx dX6_spare 14 rfl) (by decide) [1, 2, 3, 0] rfl ?_
  refine loopU (Φ := fun p => ∀ (x1 : Int32), ∀ (x2 : Int64), ∀ (h9p : Hp) (u9p : Vg), Ow h9p v u9p w g B z κ → Fr 0 63 h h9p → xK h9p = xK h → SpI v u9p h9p → Rr G 28 [(0, vr 6 0), (1, vi x1), (2, vl x2), (4, vi (nI p))] [] h9p) (N := vP v) ?_ ?_ 0 (by omega) (-1) (dayC v) h2 v oh2 fh2 kh2 sh2
  ·
    intro  x1 x2 h9p u9p oh9p fh9p kh9p sp9p
    refine r_iload C (dx dX6_spare 15 rfl) rfl ?_
    refine r_aload_n C (dx dX6_spare 16 rfl) rfl ?_
    refine g_X6_10 C (dx dX6_spare 17 rfl) ?_
    refine g_X6_138 (x := nI (vP v)) C (dx dX6_spare 18 rfl) oh9p.pv.eP ?_
    refine rn_ge (a := vP v) (b := vP v) (tgt := 163) C (by omega) (by omega) (dx dX6_spare 19 rfl) (by decide) (fun c3 => ?_) (fun c3 => ?_)
    · first
      | (omega; done)
      | (
          have c3 : vP v ≤ vP v := c3
          refine r_iload_n C (dx dX6_spare 80 rfl) rfl ?_
          exact F.1 _ _ _ _ _ rfl rfl (dx dX6_spare 81 rfl) kh9p ⟨⟨_, rfl⟩, ⟨_, _, _, _, oh9p⟩, fh9p⟩)
    · first
      | (omega; done)
  ·
    intro p hp ihp x1 x2 h9p u9p oh9p fh9p kh9p sp9p
    refine r_iload C (dx dX6_spare 15 rfl) rfl ?_
    refine r_aload_n C (dx dX6_spare 16 rfl) rfl ?_
    refine g_X6_10 C (dx dX6_spare 17 rfl) ?_
    refine g_X6_138 (x := nI (vP v)) C (dx dX6_spare 18 rfl) oh9p.pv.eP ?_
    refine rn_ge (a := p) (b := vP v) (tgt := 163) C (by omega) (by omega) (dx dX6_spare 19 rfl) (by decide) (fun c5 => ?_) (fun c5 => ?_)
    · first
      | (omega; done)
      | (
          have c5 : vP v ≤ p := c5
          refine r_iload_n C (dx dX6_spare 80 rfl) rfl ?_
          exact F.1 _ _ _ _ _ rfl rfl (dx dX6_spare 81 rfl) kh9p ⟨⟨_, rfl⟩, ⟨_, _, _, _, oh9p⟩, fh9p⟩)
    · first
      | (omega; done)
      | (
          have c5 : p < vP v := c5
          refine r_aload_n C (dx dX6_spare 20 rfl) rfl ?_
          refine g_X6_10 C (dx dX6_spare 21 rfl) ?_
          refine g_X6_173 C (dx dX6_spare 22 rfl) ?_
          refine r_iload C (dx dX6_spare 23 rfl) rfl ?_
          refine r_iald (j := p) (x := vF v 1 p) C rfl rfl (by decide) rfl (by omega) (dx dX6_spare 24 rfl) (oh9p.pv.e1 (by omega)) ?_
          refine r_iconst (v := -1) C (dx dX6_spare 25 rfl) rfl ?_
          refine r_icmp_ne (tgt := 157) C (dx dX6_spare 26 rfl) (by decide) (fun c6 => ?_) (fun c6 => ?_)
          ·
            have c6 : ¬ vF v 1 p = -1 := c6
            refine rn_iinc (a := p) (k := 1) (ls' := [(0, vr 6 0), (1, vi x1), (2, vl x2), (4, vi (nI (p + 1)))]) C (dx dX6_spare 78 rfl) rfl rfl (by decide) [1, 2, 3, 0] rfl ?_
            refine r_goto (tgt := 28) C (dx dX6_spare 79 rfl) (by decide) ?_
            exact ihp x1 x2 h9p u9p oh9p fh9p kh9p sp9p
          ·
            have c6 : vF v 1 p = -1 := c6
            refine r_iconst (v := nI 0) C (dx dX6_spare 27 rfl) rfl ?_
            refine r_istore (ls' := [(0, vr 6 0), (1, vi x1), (2, vl x2), (4, vi (nI p)), (5, vi (nI 0))]) C (dx dX6_spare 28 rfl) (by decide) [1, 2, 3, 4, 0] rfl ?_
            refine loopU (Φ := fun q => ∀ (x1 : Int32), ∀ (x2 : Int64), ∀ (h9q : Hp) (u9q : Vg), Ow h9q v u9q w g B z κ → Fr 0 63 h h9q → xK h9q = xK h → SpI v u9q h9q → Rr G 57 [(0, vr 6 0), (1, vi x1), (2, vl x2), (4, vi (nI p)), (5, vi (nI q))] [] h9q) (N := vN v) ?_ ?_ 0 (by omega) x1 x2 h9p u9p oh9p fh9p kh9p sp9p
            ·
              intro  x1 x2 h9q u9q oh9q fh9q kh9q sp9q
              refine r_iload C (dx dX6_spare 29 rfl) rfl ?_
              refine r_aload_n C (dx dX6_spare 30 rfl) rfl ?_
              refine g_X6_10 C (dx dX6_spare 31 rfl) ?_
              refine g_X6_154 (x := nI (vN v)) C (dx dX6_spare 32 rfl) oh9q.pv.eN ?_
              refine rn_ge (a := vN v) (b := vN v) (tgt := 146) C (by omega) (by omega) (dx dX6_spare 33 rfl) (by decide) (fun c7 => ?_) (fun c7 => ?_)
              · first
                | (omega; done)
                | (
                    have c7 : vN v ≤ vN v := c7
                    refine r_aload_n C (dx dX6_spare 72 rfl) rfl ?_
                    refine g_X6_16 C (dx dX6_spare 73 rfl) ?_
                    refine g_X6_173 C (dx dX6_spare 74 rfl) ?_
                    refine r_iload C (dx dX6_spare 75 rfl) rfl ?_
                    refine r_iconst (v := -1) C (dx dX6_spare 76 rfl) rfl ?_
                    refine r_iast (j := p) C rfl rfl (by decide) rfl (by omega) (dx dX6_spare 77 rfl) ?_
                    have sh8 : SpI v (vset u9q 1 p (-1)) (sI h9q 12 p (-1)) := sp9q.st (by omega)
                    have oh8 : Ow (sI h9q 12 p (-1)) v (vset u9q 1 p (-1)) w g B z κ := oh9q.tri (oh9q.pu.s1) (Fr.sI (by omega) (by omega))
                    have fh8 : Fr 0 63 h (sI h9q 12 p (-1)) := fh9q.tr (Fr.sI (by omega) (by omega))
                    have kh8 : xK (sI h9q 12 p (-1)) = xK h := kh9q
                    generalize sI h9q 12 p (-1) = h8 at oh8 fh8 kh8 sh8 ⊢
                    refine rn_iinc (a := p) (k := 1) (ls' := [(0, vr 6 0), (1, vi x1), (2, vl x2), (4, vi (nI (p + 1))), (5, vi (nI (vN v)))]) C (dx dX6_spare 78 rfl) rfl rfl (by decide) [1, 2, 3, 0, 4] rfl ?_
                    refine r_goto (tgt := 28) C (dx dX6_spare 79 rfl) (by decide) ?_
                    refine r_weak C [0, 1, 2, 3] rfl ?_
                    exact ihp x1 x2 h8 (vset u9q 1 p (-1)) oh8 fh8 kh8 sh8)
              · first
                | (omega; done)
            ·
              intro q hq ihq x1 x2 h9q u9q oh9q fh9q kh9q sp9q
              refine r_iload C (dx dX6_spare 29 rfl) rfl ?_
              refine r_aload_n C (dx dX6_spare 30 rfl) rfl ?_
              refine g_X6_10 C (dx dX6_spare 31 rfl) ?_
              refine g_X6_154 (x := nI (vN v)) C (dx dX6_spare 32 rfl) oh9q.pv.eN ?_
              refine rn_ge (a := q) (b := vN v) (tgt := 146) C (by omega) (by omega) (dx dX6_spare 33 rfl) (by decide) (fun c10 => ?_) (fun c10 => ?_)
              · first
                | (omega; done)
              · first
                | (omega; done)
                | (
                    have c10 : q < vN v := c10
                    refine r_iload C (dx dX6_spare 34 rfl) rfl ?_
                    refine r_aload_n C (dx dX6_spare 35 rfl) rfl ?_
                    refine g_X6_10 C (dx dX6_spare 36 rfl) ?_
                    refine g_X6_176 C (dx dX6_spare 37 rfl) ?_
                    refine r_iload C (dx dX6_spare 38 rfl) rfl ?_
                    refine r_iald (j := p) (x := vF v 0 p) C rfl rfl (by decide) rfl (by omega) (dx dX6_spare 39 rfl) (oh9q.pv.e0 (by omega)) ?_
                    refine r_icmp_eq (tgt := 140) C (dx dX6_spare 40 rfl) (by decide) (fun c12 => ?_) (fun c12 => ?_)
                    ·
                      have c12 : nI q = vF v 0 p := c12
                      refine rn_iinc (a := q) (k := 1) (ls' := [(0, vr 6 0), (1, vi x1), (2, vl x2), (4, vi (nI p)), (5, vi (nI (q + 1)))]) C (dx dX6_spare 70 rfl) rfl rfl (by decide) [1, 2, 3, 4, 0] rfl ?_
                      refine r_goto (tgt := 57) C (dx dX6_spare 71 rfl) (by decide) ?_
                      exact ihq x1 x2 h9q u9q oh9q fh9q kh9q sp9q
                    ·
                      have c12 : ¬ nI q = vF v 0 p := c12
                      refine r_aload_n C (dx dX6_spare 41 rfl) rfl ?_
                      refine g_X6_10 C (dx dX6_spare 42 rfl) ?_
                      refine r_iload C (dx dX6_spare 43 rfl) rfl ?_
                      refine r_cvP (as := [vi (nI q)]) (st := []) (v := vi (b2i (hasRm v (nI q)))) C X I_X5_hasRoom l_X6_179 (c_X5_hasRoom oh9q.pv _) (by decide) (Nat.le_of_ble_eq_true rfl) (pfx_eq kh9q) rfl rfl (Nat.le_of_ble_eq_true rfl) rfl (dx dX6_spare 44 rfl) ?_
                      refine rb_eq (b := hasRm v (nI q)) (tgt := 140) C (dx dX6_spare 45 rfl) (by decide) (fun c13 => ?_) (fun c13 => ?_)
                      ·
                        have c13 : (hasRm v (nI q)) = false := c13
                        refine rn_iinc (a := q) (k := 1) (ls' := [(0, vr 6 0), (1, vi x1), (2, vl x2), (4, vi (nI p)), (5, vi (nI (q + 1)))]) C (dx dX6_spare 70 rfl) rfl rfl (by decide) [1, 2, 3, 4, 0] rfl ?_
                        refine r_goto (tgt := 57) C (dx dX6_spare 71 rfl) (by decide) ?_
                        exact ihq x1 x2 h9q u9q oh9q fh9q kh9q sp9q
                      ·
                        have c13 : (hasRm v (nI q)) = true := c13
                        refine r_aload_n C (dx dX6_spare 46 rfl) rfl ?_
                        refine g_X6_16 C (dx dX6_spare 47 rfl) ?_
                        refine g_X6_173 C (dx dX6_spare 48 rfl) ?_
                        refine r_iload C (dx dX6_spare 49 rfl) rfl ?_
                        refine r_iload C (dx dX6_spare 50 rfl) rfl ?_
                        refine r_iast (j := p) C rfl rfl (by decide) rfl (by omega) (dx dX6_spare 51 rfl) ?_
                        have sh14 : SpI v (vset u9q 1 p (nI q)) (sI h9q 12 p (nI q)) := sp9q.st (by omega)
                        have oh14 : Ow (sI h9q 12 p (nI q)) v (vset u9q 1 p (nI q)) w g B z κ := oh9q.tri (oh9q.pu.s1) (Fr.sI (by omega) (by omega))
                        have fh14 : Fr 0 63 h (sI h9q 12 p (nI q)) := fh9q.tr (Fr.sI (by omega) (by omega))
                        have kh14 : xK (sI h9q 12 p (nI q)) = xK h := kh9q
                        generalize sI h9q 12 p (nI q) = h14 at oh14 fh14 kh14 sh14 ⊢
                        refine r_aload_n C (dx dX6_spare 52 rfl) rfl ?_
                        refine g_X6_29 C (dx dX6_spare 53 rfl) ?_
                        refine r_aload_n C (dx dX6_spare 54 rfl) rfl ?_
                        refine g_X6_16 C (dx dX6_spare 55 rfl) ?_
                        refine r_cv (as := [vr 5 10]) (st := []) C X I_X4_worthAsWeighed l_X6_299 (c_X4_worthAsWeighed oh14.pu (by omega) sh14.w) (by decide) (Nat.le_of_ble_eq_true rfl) List.prefix_rfl (pfx_eq kh14) rfl rfl (Nat.le_of_ble_eq_true rfl) rfl (dx dX6_spare 56 rfl) ?_
                        intro rh15 h15 hph15 kkh15
                        obtain ⟨rfl, gh15⟩ := hph15
                        have oh15 : Ow h15 v (vset u9q 1 p (nI q)) w g B z κ := oh14.tm (gh15.mono (by omega) (by omega))
                        have fh15 : Fr 0 63 h h15 := fh14.tr (gh15.mono (by omega) (by omega))
                        have kh15 : xK h15 = xK h := (kkh15).trans kh14
                        have sh15 : SpI v (vset u9q 1 p (nI q)) h15 := sh14.fr gh15
                        refine r_lstore (ls' := [(0, vr 6 0), (1, vi x1), (2, vl x2), (4, vi (nI p)), (5, vi (nI q)), (6, vl (dayC (vset u9q 1 p (nI q))))]) C (dx dX6_spare 57 rfl) (by decide) [1, 2, 3, 4, 5, 0] rfl ?_
                        refine r_lload C (dx dX6_spare 58 rfl) rfl ?_
                        refine r_lload_n C (dx dX6_spare 59 rfl) rfl ?_
                        refine r_lcmp C (dx dX6_spare 60 rfl) ?_
                        refine r_if_le (tgt := 140) C (dx dX6_spare 61 rfl) (by decide) (fun c16 => ?_) (fun c16 => ?_)
                        ·
                          have c16 : dayC (vset u9q 1 p (nI q)) ≤ x2 := (lg_cmp_le _ _).mp c16
                          refine rn_iinc (a := q) (k := 1) (ls' := [(0, vr 6 0), (1, vi x1), (2, vl x2), (4, vi (nI p)), (5, vi (nI (q + 1))), (6, vl (dayC (vset u9q 1 p (nI q))))]) C (dx dX6_spare 70 rfl) rfl rfl (by decide) [1, 2, 3, 4, 0, 5] rfl ?_
                          refine r_goto (tgt := 57) C (dx dX6_spare 71 rfl) (by decide) ?_
                          refine r_weak C [0, 1, 2, 3, 4] rfl ?_
                          exact ihq x1 x2 h15 (vset u9q 1 p (nI q)) oh15 fh15 kh15 sh15
                        ·
                          have c16 : ¬ (dayC (vset u9q 1 p (nI q)) ≤ x2) := fun q => c16 ((lg_cmp_le _ _).mpr q)
                          refine r_lload C (dx dX6_spare 62 rfl) rfl ?_
                          refine r_lstore_n (ls' := [(0, vr 6 0), (1, vi x1), (2, vl (dayC (vset u9q 1 p (nI q)))), (4, vi (nI p)), (5, vi (nI q)), (6, vl (dayC (vset u9q 1 p (nI q))))]) C (dx dX6_spare 63 rfl) (by decide) [1, 2, 0, 3, 4, 5] rfl ?_
                          refine r_bipush (v := nI 10) C (dx dX6_spare 64 rfl) rfl ?_
                          refine r_iload C (dx dX6_spare 65 rfl) rfl ?_
                          refine rn_imul (a := 10) (b := p) C (dx dX6_spare 66 rfl) ?_
                          refine r_iload C (dx dX6_spare 67 rfl) rfl ?_
                          refine rn_iadd (a := 10 * p) (b := q) C (dx dX6_spare 68 rfl) ?_
                          refine r_istore_n (ls' := [(0, vr 6 0), (1, vi (nI (10 * p + q))), (2, vl (dayC (vset u9q 1 p (nI q)))), (4, vi (nI p)), (5, vi (nI q)), (6, vl (dayC (vset u9q 1 p (nI q))))]) C (dx dX6_spare 69 rfl) (by decide) [1, 0, 2, 3, 4, 5] rfl ?_
                          refine rn_iinc (a := q) (k := 1) (ls' := [(0, vr 6 0), (1, vi (nI (10 * p + q))), (2, vl (dayC (vset u9q 1 p (nI q)))), (4, vi (nI p)), (5, vi (nI (q + 1))), (6, vl (dayC (vset u9q 1 p (nI q))))]) C (dx dX6_spare 70 rfl) rfl rfl (by decide) [1, 2, 3, 4, 0, 5] rfl ?_
                          refine r_goto (tgt := 57) C (dx dX6_spare 71 rfl) (by decide) ?_
                          refine r_weak C [0, 1, 2, 3, 4] rfl ?_
                          exact ihq (nI (10 * p + q)) (dayC (vset u9q 1 p (nI q))) h15 (vset u9q 1 p (nI q)) oh15 fh15 kh15 sh15))
