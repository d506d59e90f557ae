/-! PART 57n: the class's search, exactly -/
def tkX (v : Vg) (h : Hp) (k p w m : Nat) : Int32 := if vF v 2 m &&& nI (2 ^ p) = 0 then xI h (k + 5 + p) m else xI h (k + 5 + p) m ||| nI w
def wgX (v : Vg) (h : Hp) (k g : Nat) : Int64 := sumL (fun m => (vF v 3 m).toInt64 * xL h (k + 12) (xI h (k + 5 + g) m).toNatClampNeg) (vM v)
/-- the search's cells, the holders of the first j parts chosen, with what was best so far -/
def ScP (h : Hp) (k : Nat) (v : Vg) (f : Nat → Int32) (j : Nat) (a : Int64 × (Nat → Int32)) : Prop :=
  (∀ o, o < vN v → xI h (k + 3) o = rmV v f j o) ∧ (∀ i, i < j → xI h (k + 1) i = f i) ∧ (∀ q, q ≤ j → ∀ m, m < vM v → xI h (k + 5 + q) m = nI (ownN v f m q)) ∧ (∀ w, w < 32 → xL h (k + 12) w = odW v w) ∧ xL h k 5 = a.1 ∧ ∀ i, i < vP v → xI h (k + 2) i = a.2 i
theorem own_sf {v : Vg} {f : Nat → Int32} {m p : Nat} {x : Int32} : ∀ q, q ≤ p → ownN v (sf f p x) m q = ownN v f m q
  | 0, _ => rfl
  | q + 1, h => by
    simp only [ownN]
    rw [own_sf q (by omega), sf_n (show ¬ q = p by omega)]
theorem bt_p {x : Int32} {p : Nat} (hp : p < 13) : (x &&& nI (2 ^ p) = 0) ↔ bt x p = false := by
  rw [← sh1 hp]; exact pow_0 x (by omega)
theorem tk_own {v : Vg} {h : Hp} {k p m w : Nat} {f : Nat → Int32} {x : Int32} (hp : p < 13) (e : xI h (k + 5 + p) m = nI (ownN v f m p)) (hw : w = if x = -1 then 16 else 2 ^ x.toNatClampNeg) : tkX v h k p w m = nI (ownN v (sf f p x) m (p + 1)) := by
  unfold tkX
  simp only [ownN]
  rw [own_sf p (Nat.le_refl _), sf_x, e]
  by_cases c : vF v 2 m &&& nI (2 ^ p) = 0
  · rw [if_pos c, if_neg (by rw [(bt_p hp).mp c]; decide)]
  · rw [if_neg c, if_pos (by
      rcases Bool.eq_false_or_eq_true (bt (vF v 2 m) p) with z | z
      · exact z
      · exact absurd ((bt_p hp).mpr z) c), nI_or, hw]
theorem rm_no {v : Vg} {f : Nat → Int32} {p o : Nat} (ho : o < 2 ^ 31) : rmV v (sf f p (-1)) (p + 1) o = rmV v f p o := by
  unfold rmV
  simp only [cnF]
  rw [cnF_sf p (Nat.le_refl _), sf_x, if_neg (show ¬ (-1 : Int32) = nI o from fun q => nI_nm1 ho q.symm), Nat.add_zero]
theorem rm_o {v : Vg} {f : Nat → Int32} {p o : Nat} : rmV v (sf f p (nI o)) (p + 1) o = rmV v f p o - nI 1 := by
  unfold rmV
  simp only [cnF]
  rw [cnF_sf p (Nat.le_refl _), sf_x, if_pos rfl, ← nI_add, Int32.sub_sub]
theorem rm_n {v : Vg} {f : Nat → Int32} {p o q : Nat} (ho : o < 2 ^ 31) (hq : q < 2 ^ 31) (h : ¬ q = o) : rmV v (sf f p (nI o)) (p + 1) q = rmV v f p q := by
  unfold rmV
  simp only [cnF]
  rw [cnF_sf p (Nat.le_refl _), sf_x, if_neg (show ¬ nI o = nI q from fun z => h ((nI_eq ho hq).mp z).symm), Nat.add_zero]
section SCP
variable {h h1 h2 : Hp} {k p w : Nat} {v : Vg} {f : Nat → Int32} {x : Int32} {a : Int64 × (Nat → Int32)}
theorem sc_dn (SC : ScP h k v f p a) (hp : p < 6) (hw : w = if x = -1 then 16 else 2 ^ x.toNatClampNeg) (T : ∀ m, m < vM v → xI h1 (k + 5 + (p + 1)) m = tkX v h k p w m) (g : Fr (k + 5 + (p + 1)) (k + 5 + (p + 1) + 1) h h1)
    (e3 : ∀ o, o < vN v → xI h2 (k + 3) o = rmV v (sf f p x) (p + 1) o) (e1 : ∀ i, i < p → xI h2 (k + 1) i = xI h1 (k + 1) i) (e9 : xI h2 (k + 1) p = x) (ew : ∀ q, q ≤ p + 1 → xI h2 (k + 5 + q) = xI h1 (k + 5 + q)) (eo : ∀ b, xL h2 b = xL h1 b) (eg : xI h2 (k + 2) = xI h1 (k + 2)) : ScP h2 k v (sf f p x) (p + 1) a := by
  obtain ⟨s3, s1, sw, so, sm, sg⟩ := SC
  refine ⟨e3, fun i hi => ?_, fun q hq m hm => ?_, fun w hw => ?_, ?_, fun i hi => ?_⟩
  · by_cases c : i = p
    · subst c; rw [e9, sf_x]
    · rw [e1 i (by omega), g.I (by omega), s1 i (by omega), sf_n c]
  · rw [ew q hq]
    by_cases c : q = p + 1
    · subst c; rw [T m hm]; exact tk_own (by omega) (sw p (Nat.le_refl _) m hm) hw
    · rw [g.I (by omega), sw q (by omega) m hm, own_sf q (by omega)]
  · rw [eo, g.L (by omega)]; exact so w hw
  · rw [eo, g.L (by omega)]; exact sm
  · rw [eg, g.I (by omega)]; exact sg i hi
theorem sc_up (SC : ScP h k v (sf f p x) (p + 1) a) (e3 : ∀ o, o < vN v → xI h2 (k + 3) o = rmV v f p o) (e1 : xI h2 (k + 1) = xI h (k + 1)) (ew : ∀ q, xI h2 (k + 5 + q) = xI h (k + 5 + q)) (eo : ∀ b, xL h2 b = xL h b) (eg : xI h2 (k + 2) = xI h (k + 2)) : ScP h2 k v f p a := by
  obtain ⟨s3, s1, sw, so, sm, sg⟩ := SC
  refine ⟨e3, fun i hi => ?_, fun q hq m hm => ?_, fun w hw => ?_, ?_, fun i hi => ?_⟩
  · rw [e1, s1 i (by omega), sf_n (by omega)]
  · rw [ew q, sw q (by omega) m hm, own_sf q hq]
  · rw [eo]; exact so w hw
  · rw [eo]; exact sm
  · rw [eg]; exact sg i hi
theorem sc_up0 (SC : ScP h k v (sf f p (-1)) (p + 1) a) (h4 : vN v ≤ 4) : ScP h k v f p a :=
  sc_up SC (fun o ho => (SC.1 o ho).trans (rm_no (by omega))) rfl (fun _ => rfl) (fun _ => rfl) rfl
theorem sc_upO {o : Nat} (SC : ScP h k v (sf f p (nI o)) (p + 1) a) (h4 : vN v ≤ 4) (ho : o < vN v) : ScP (sI h (k + 3) o (xI h (k + 3) o + nI 1)) k v f p a :=
  sc_up SC (fun q hq => by
    rw [sI_at]
    by_cases c : q = o
    · subst c; rw [if_pos rfl, SC.1 q hq, rm_o, Int32.sub_add_cancel]
    · rw [if_neg c, SC.1 q hq, rm_n (by omega) (by omega) c]) (funext fun i => sI_ne (by omega)) (fun q => funext fun i => sI_ne (by omega)) (fun _ => rfl) (funext fun i => sI_ne (by omega))
theorem sc_d0 (SC : ScP h k v f p a) (hp : p < 6) (h4 : vN v ≤ 4) (T : ∀ m, m < vM v → xI h1 (k + 5 + (p + 1)) m = tkX v h k p 16 m) (g : Fr (k + 5 + (p + 1)) (k + 5 + (p + 1) + 1) h h1) : ScP (sI h1 (k + 1) p (-1)) k v (sf f p (-1)) (p + 1) a :=
  sc_dn SC (by omega) rfl T g (fun o ho => by rw [sI_ne (by omega), g.I (by omega), SC.1 o ho, rm_no (by omega)]) (fun i hi => by rw [sI_at, if_neg (by omega)]) (by rw [sI_at, if_pos rfl]) (fun q _ => funext fun i => sI_ne (by omega)) (fun _ => rfl) (funext fun i => sI_ne (by omega))
theorem sc_dO {o : Nat} (SC : ScP h k v f p a) (hp : p < 6) (h4 : vN v ≤ 4) (ho : o < vN v) (T : ∀ m, m < vM v → xI h1 (k + 5 + (p + 1)) m = tkX v h k p (2 ^ o) m) (g : Fr (k + 5 + (p + 1)) (k + 5 + (p + 1) + 1) h h1) : ScP (sI (sI h1 (k + 1) p (nI o)) (k + 3) o (xI (sI h1 (k + 1) p (nI o)) (k + 3) o - nI 1)) k v (sf f p (nI o)) (p + 1) a :=
  sc_dn SC (by omega) (by rw [if_neg (nI_nm1 (show o < 2 ^ 31 by omega)), clN (show o < 2 ^ 31 by omega)]) T g (fun q hq => by
    rw [sI_at, sI_ne (show k + 3 ≠ k + 1 by omega), sI_ne (show k + 3 ≠ k + 1 by omega), g.I (by omega), g.I (by omega)]
    by_cases c : q = o
    · subst c; rw [if_pos rfl, SC.1 q hq, rm_o]
    · rw [if_neg c, SC.1 q hq, rm_n (by omega) (by omega) c]) (fun i hi => by rw [sI_ne (by omega), sI_at, if_neg (by omega)]) (by rw [sI_ne (by omega), sI_at, if_pos rfl]) (fun q _ => funext fun i => by rw [sI_ne (by omega), sI_ne (by omega)]) (fun _ => rfl) (funext fun i => by rw [sI_ne (by omega), sI_ne (by omega)])
theorem wg_leaf (SC : ScP h k v f (vP v) a) (hf : FOk v f) (h4 : vN v ≤ 4) : wgX v h k (vP v) = wghV v f := by
  unfold wgX wghV
  refine sumL_c _ (fun m hm => ?_)
  have l := own_lt h4 hf m (vP v) (Nat.le_refl _)
  rw [SC.2.2.1 _ (Nat.le_refl _) m hm, clN (by omega), SC.2.2.2.1 _ l]
theorem sc_leaf (SC : ScP h k v f (vP v) a) (hf : FOk v f) (h4 : vN v ≤ 4) (q : (wgX v h k (vP v) ≤ xL h k 5 ∧ h2 = h) ∨ (¬ wgX v h k (vP v) ≤ xL h k 5 ∧ h2 = cpI (sL h k 5 (wgX v h k (vP v))) (k + 1) (k + 2) 0 0 (vP v))) : ScP h2 k v f (vP v) (tcS v 0 (vP v) f a) := by
  rw [wg_leaf SC hf h4, SC.2.2.2.2.1] at q
  simp only [tcS]
  rcases q with ⟨c, rfl⟩ | ⟨c, rfl⟩
  · rw [if_pos c]; exact SC
  · rw [if_neg c]
    obtain ⟨s3, s1, sw, so, sm, sg⟩ := SC
    refine ⟨fun o ho => ?_, fun i hi => ?_, fun q hq m hm => ?_, fun w hw => ?_, ?_, fun i hi => ?_⟩
    · rw [cpI_ne (by omega)]; exact s3 o ho
    · rw [cpI_ne (by omega)]; exact s1 i hi
    · rw [cpI_ne (by omega)]; exact sw q hq m hm
    · show xL (sL h k 5 _) (k + 12) w = _
      rw [sL_ne (by omega)]; exact so w hw
    · show xL (sL h k 5 _) k 5 = _
      rw [sL_at, if_pos rfl]
    · rw [cpI_at hi]; exact s1 i hi
end SCP
def ChoX (l : Launch) (k kv : Nat) (v : Vg) (n : Nat) : Prop := ∀ (h : Hp) (p : Nat) (f : Nat → Int32) (a : Int64 × (Nat → Int32)), p + n = vP v → VilAt h kv v → SInv h k → FOk v f → ScP h k v f p a → Ms l yX1_choose cX1_choose 4 none (n + 2) [vr 1 k, vr 5 kv, vi (nI p)] h (xK h) (fun r0 h' => r0 = none ∧ SInv h' k ∧ ScP h' k v f p (tcS v n p f a) ∧ Fr k (k + 13) h h')
set_option maxHeartbeats 4000000 in
theorem s1_take {l : Launch} {h : Hp} {k kv : Nat} {v : Vg} (hv : VilAt h kv v) (hs : SInv h k) (hd : kv + 9 ≤ k ∨ k + 13 ≤ kv) {p w : Nat} (hP : p < 6) (hw : w < 32) : Ms l yX1_take cX1_take 6 none 1 [vr 1 k, vr 5 kv, vi (nI p), vi (nI w)] h (xK h) (fun r0 h' => r0 = none ∧ SInv h' k ∧ (∀ m, m < vM v → xI h' (k + 5 + (p + 1)) m = tkX v h k p w m) ∧ Fr (k + 5 + (p + 1)) (k + 5 + (p + 1) + 1) h h') := by
  refine Ms.of (by decide) (Nat.le_of_ble_eq_true rfl) (fun G C X F => ?_)
  have C : Cx G cX1_take 6 RX1 := C
  show Rr G 0 [(0, vr 1 k), (1, vr 5 kv), (2, vi (nI p)), (3, vi (nI w))] [] h
  have bP := hv.bP
  have bM := hv.bM
  have bN := hv.bN
  refine r_iconst (v := nI 0) C (dx dX1_take 0 rfl) rfl ?_
  refine r_istore (ls' := [(0, vr 1 k), (1, vr 5 kv), (2, vi (nI p)), (3, vi (nI w)), (4, vi (nI 0))]) C (dx dX1_take 1 rfl) (by decide) [1, 2, 3, 4, 0] rfl ?_
  refine loopU (Φ := fun j => ∀ h9, SInv h9 k → (∀ m, m < j → xI h9 (k + 5 + (p + 1)) m = tkX v h k p w m) → Fr (k + 5 + (p + 1)) (k + 5 + (p + 1) + 1) h h9 → xK h9 = xK h → Rr G 3 [(0, vr 1 k), (1, vr 5 kv), (2, vi (nI p)), (3, vi (nI w)), (4, vi (nI j))] [] h9) (N := vM v) ?_ ?_ 0 (Nat.zero_le _) _ hs (fun m hm => absurd hm (by omega)) Fr.rf rfl
  ·
    intro h1 sh1 th1 fh1 kh1
    have wh1 : VilAt h1 kv v := hv.fr fh1 (by omega)
    refine r_iload C (dx dX1_take 2 rfl) rfl ?_
    refine r_aload_n C (dx dX1_take 3 rfl) rfl ?_
    refine g_X1_52 (x := nI (vM v)) C (dx dX1_take 4 rfl) wh1.eM ?_
    refine rn_ge (a := vM v) (b := vM v) (tgt := 78) C (by omega) (by omega) (dx dX1_take 5 rfl) (by decide) (fun c2 => ?_) (fun c2 => ?_)
    · first
      | (omega; done)
      | (
          have c2 : vM v ≤ vM v := c2
          exact F.2.2.1 _ _ _ rfl (dx dX1_take 46 rfl) kh1 ⟨rfl, sh1, th1, fh1⟩)
    · first
      | (omega; done)
  ·
    intro j hj ih h6 sh6 th6 fh6 kh6
    have wh6 : VilAt h6 kv v := hv.fr fh6 (by omega)
    refine r_iload C (dx dX1_take 2 rfl) rfl ?_
    refine r_aload_n C (dx dX1_take 3 rfl) rfl ?_
    refine g_X1_52 (x := nI (vM v)) C (dx dX1_take 4 rfl) wh6.eM ?_
    refine rn_ge (a := j) (b := vM v) (tgt := 78) C (by omega) (by omega) (dx dX1_take 5 rfl) (by decide) (fun c7 => ?_) (fun c7 => ?_)
    · first
      | (omega; done)
      | (
          have c7 : vM v ≤ j := c7
          exact F.2.2.1 _ _ _ rfl (dx dX1_take 46 rfl) kh6 ⟨rfl, sh6, th6, fh6⟩)
    · first
      | (omega; done)
      | (
          have c7 : j < vM v := c7
          refine r_aload_n C (dx dX1_take 6 rfl) rfl ?_
          refine g_X1_76 C (dx dX1_take 7 rfl) ?_
          refine r_iload C (dx dX1_take 8 rfl) rfl ?_
          refine r_iald (j := j) (x := vF v 2 j) C rfl rfl (by decide) rfl (by omega) (dx dX1_take 9 rfl) (wh6.e2 (by omega)) ?_
          refine r_iconst (v := nI 1) C (dx dX1_take 10 rfl) rfl ?_
          refine r_iload_n C (dx dX1_take 11 rfl) rfl ?_
          refine rn_sh1 (o := p) C (by omega) (dx dX1_take 12 rfl) ?_
          refine r_iand C (dx dX1_take 13 rfl) ?_
          refine r_if_eq (tgt := 30) C (dx dX1_take 14 rfl) (by decide) (fun c8 => ?_) (fun c8 => ?_)
          ·
            have c8 : (vF v 2 j) &&& (nI (2 ^ p)) = 0 := c8
            refine r_iconst (v := nI 0) C (dx dX1_take 17 rfl) rfl ?_
            refine r_istore (ls' := [(0, vr 1 k), (1, vr 5 kv), (2, vi (nI p)), (3, vi (nI w)), (4, vi (nI j)), (5, vi (nI 0))]) C (dx dX1_take 18 rfl) (by decide) [1, 2, 3, 4, 5, 0] rfl ?_
            refine r_aload_n C (dx dX1_take 19 rfl) rfl ?_
            refine g_X1_23 C (dx dX1_take 20 rfl) ?_
            refine r_iload_n C (dx dX1_take 21 rfl) rfl ?_
            refine r_iconst (v := nI 1) C (dx dX1_take 22 rfl) rfl ?_
            refine rn_iadd (a := p) (b := 1) C (dx dX1_take 23 rfl) ?_
            refine r_aald4 (j := p + 1) C rfl rfl (by decide) rfl (by omega) (dx dX1_take 24 rfl) ?_
            refine r_iload C (dx dX1_take 25 rfl) rfl ?_
            refine r_iload C (dx dX1_take 26 rfl) rfl ?_
            refine r_if_eq (tgt := 62) C (dx dX1_take 27 rfl) (by decide) (fun _ => ?_) (fun c9 => (show False from by revert c9; decide).elim)
            refine r_aload_n C (dx dX1_take 37 rfl) rfl ?_
            refine g_X1_23 C (dx dX1_take 38 rfl) ?_
            refine r_iload_n C (dx dX1_take 39 rfl) rfl ?_
            refine r_aald4 (j := p) C rfl rfl (by decide) rfl (by omega) (dx dX1_take 40 rfl) ?_
            refine r_iload C (dx dX1_take 41 rfl) rfl ?_
            refine r_iald (j := j) (x := xI h6 (k + 5 + p) j) C rfl rfl (by decide) rfl (by omega) (dx dX1_take 42 rfl) rfl ?_
            refine r_iast (j := j) C rfl rfl (by decide) rfl (by omega) (dx dX1_take 43 rfl) ?_
            have sh10 : SInv (sI h6 (k + 5 + (p + 1)) j (xI h6 (k + 5 + p) j)) k := sh6.st (by first | exact sh6.1 _ (by omega) _ (by omega) | exact s_or (sh6.1 _ (by omega) _ (by omega)) hw)
            have th10 : ∀ m, m < j + 1 → xI (sI h6 (k + 5 + (p + 1)) j (xI h6 (k + 5 + p) j)) (k + 5 + (p + 1)) m = tkX v h k p w m := fun m hm => by
              rw [sI_at]
              by_cases e : m = j
              · rw [if_pos e, e]; unfold tkX; rw [if_pos c8, fh6.I (by omega)]
              · rw [if_neg e]; exact th6 m (by omega)
            have fh10 : Fr (k + 5 + (p + 1)) (k + 5 + (p + 1) + 1) h (sI h6 (k + 5 + (p + 1)) j (xI h6 (k + 5 + p) j)) := fh6.tr (Fr.sI (by omega) (by omega))
            have kh10 : xK (sI h6 (k + 5 + (p + 1)) j (xI h6 (k + 5 + p) j)) = xK h := kh6
            generalize sI h6 (k + 5 + (p + 1)) j (xI h6 (k + 5 + p) j) = h10 at sh10 th10 fh10 kh10 ⊢
            refine rn_iinc (a := j) (k := 1) (ls' := [(0, vr 1 k), (1, vr 5 kv), (2, vi (nI p)), (3, vi (nI w)), (4, vi (nI (j + 1))), (5, vi (nI 0))]) C (dx dX1_take 44 rfl) rfl rfl (by decide) [1, 2, 3, 4, 0, 5] rfl ?_
            refine r_goto (tgt := 3) C (dx dX1_take 45 rfl) (by decide) ?_
            refine r_weak C [0, 1, 2, 3, 4] rfl ?_
            exact ih _ sh10 th10 fh10 kh10
          ·
            have c8 : ¬ (vF v 2 j) &&& (nI (2 ^ p)) = 0 := c8
            refine r_iconst (v := nI 1) C (dx dX1_take 15 rfl) rfl ?_
            refine r_goto (tgt := 31) C (dx dX1_take 16 rfl) (by decide) ?_
            refine r_istore (ls' := [(0, vr 1 k), (1, vr 5 kv), (2, vi (nI p)), (3, vi (nI w)), (4, vi (nI j)), (5, vi (nI 1))]) C (dx dX1_take 18 rfl) (by decide) [1, 2, 3, 4, 5, 0] rfl ?_
            refine r_aload_n C (dx dX1_take 19 rfl) rfl ?_
            refine g_X1_23 C (dx dX1_take 20 rfl) ?_
            refine r_iload_n C (dx dX1_take 21 rfl) rfl ?_
            refine r_iconst (v := nI 1) C (dx dX1_take 22 rfl) rfl ?_
            refine rn_iadd (a := p) (b := 1) C (dx dX1_take 23 rfl) ?_
            refine r_aald4 (j := p + 1) C rfl rfl (by decide) rfl (by omega) (dx dX1_take 24 rfl) ?_
            refine r_iload C (dx dX1_take 25 rfl) rfl ?_
            refine r_iload C (dx dX1_take 26 rfl) rfl ?_
            refine r_if_eq (tgt := 62) C (dx dX1_take 27 rfl) (by decide) (fun c11 => (show False from by revert c11; decide).elim) (fun _ => ?_)
            refine r_aload_n C (dx dX1_take 28 rfl) rfl ?_
            refine g_X1_23 C (dx dX1_take 29 rfl) ?_
            refine r_iload_n C (dx dX1_take 30 rfl) rfl ?_
            refine r_aald4 (j := p) C rfl rfl (by decide) rfl (by omega) (dx dX1_take 31 rfl) ?_
            refine r_iload C (dx dX1_take 32 rfl) rfl ?_
            refine r_iald (j := j) (x := xI h6 (k + 5 + p) j) C rfl rfl (by decide) rfl (by omega) (dx dX1_take 33 rfl) rfl ?_
            refine r_iload_n C (dx dX1_take 34 rfl) rfl ?_
            refine r_ior C (dx dX1_take 35 rfl) ?_
            refine r_goto (tgt := 71) C (dx dX1_take 36 rfl) (by decide) ?_
            refine r_iast (j := j) C rfl rfl (by decide) rfl (by omega) (dx dX1_take 43 rfl) ?_
            have sh12 : SInv (sI h6 (k + 5 + (p + 1)) j ((xI h6 (k + 5 + p) j) ||| (nI w))) k := sh6.st (by first | exact sh6.1 _ (by omega) _ (by omega) | exact s_or (sh6.1 _ (by omega) _ (by omega)) hw)
            have th12 : ∀ m, m < j + 1 → xI (sI h6 (k + 5 + (p + 1)) j ((xI h6 (k + 5 + p) j) ||| (nI w))) (k + 5 + (p + 1)) m = tkX v h k p w m := fun m hm => by
              rw [sI_at]
              by_cases e : m = j
              · rw [if_pos e, e]; unfold tkX; rw [if_neg c8, fh6.I (by omega)]
              · rw [if_neg e]; exact th6 m (by omega)
            have fh12 : Fr (k + 5 + (p + 1)) (k + 5 + (p + 1) + 1) h (sI h6 (k + 5 + (p + 1)) j ((xI h6 (k + 5 + p) j) ||| (nI w))) := fh6.tr (Fr.sI (by omega) (by omega))
            have kh12 : xK (sI h6 (k + 5 + (p + 1)) j ((xI h6 (k + 5 + p) j) ||| (nI w))) = xK h := kh6
            generalize sI h6 (k + 5 + (p + 1)) j ((xI h6 (k + 5 + p) j) ||| (nI w)) = h12 at sh12 th12 fh12 kh12 ⊢
            refine rn_iinc (a := j) (k := 1) (ls' := [(0, vr 1 k), (1, vr 5 kv), (2, vi (nI p)), (3, vi (nI w)), (4, vi (nI (j + 1))), (5, vi (nI 1))]) C (dx dX1_take 44 rfl) rfl rfl (by decide) [1, 2, 3, 4, 0, 5] rfl ?_
            refine r_goto (tgt := 3) C (dx dX1_take 45 rfl) (by decide) ?_
            refine r_weak C [0, 1, 2, 3, 4] rfl ?_
            exact ih _ sh12 th12 fh12 kh12)
set_option maxHeartbeats 4000000 in
theorem s1_weigh {l : Launch} {h : Hp} {k kv : Nat} {v : Vg} (hv : VilAt h kv v) (hs : SInv h k) (hd : kv + 9 ≤ k ∨ k + 13 ≤ kv) {g : Nat} (hg : g ≤ 6) : Ms l yX1_weigh cX1_weigh 6 none 1 [vr 1 k, vr 5 kv, vi (nI g)] h (xK h) (fun r0 h' => r0 = none ∧ SInv h' k ∧ ((wgX v h k g ≤ xL h k 5 ∧ h' = h) ∨ (¬ wgX v h k g ≤ xL h k 5 ∧ h' = cpI (sL h k 5 (wgX v h k g)) (k + 1) (k + 2) 0 0 g))) := by
  refine Ms.of (by decide) (Nat.le_of_ble_eq_true rfl) (fun G C X F => ?_)
  have C : Cx G cX1_weigh 6 RX1 := C
  show Rr G 0 [(0, vr 1 k), (1, vr 5 kv), (2, vi (nI g))] [] h
  have bP := hv.bP
  have bM := hv.bM
  have bN := hv.bN
  refine r_lconst (v := 0) C (dx dX1_weigh 0 rfl) rfl ?_
  refine r_lstore_n (ls' := [(0, vr 1 k), (1, vr 5 kv), (2, vi (nI g)), (3, vl 0)]) C (dx dX1_weigh 1 rfl) (by decide) [1, 2, 3, 0] rfl ?_
  refine r_iconst (v := nI 0) C (dx dX1_weigh 2 rfl) rfl ?_
  refine r_istore (ls' := [(0, vr 1 k), (1, vr 5 kv), (2, vi (nI g)), (3, vl 0), (5, vi (nI 0))]) C (dx dX1_weigh 3 rfl) (by decide) [1, 2, 3, 4, 0] rfl ?_
  refine loopU (Φ := fun p => Rr G 5 [(0, vr 1 k), (1, vr 5 kv), (2, vi (nI g)), (3, vl (sumL (fun m => (vF v 3 m).toInt64 * xL h (k + 12) (xI h (k + 5 + g) m).toNatClampNeg) p)), (5, vi (nI p))] [] h) (N := vM v) ?_ ?_ 0 (Nat.zero_le _)
  ·
    refine r_iload C (dx dX1_weigh 4 rfl) rfl ?_
    refine r_aload_n C (dx dX1_weigh 5 rfl) rfl ?_
    refine g_X1_52 (x := nI (vM v)) C (dx dX1_weigh 6 rfl) hv.eM ?_
    refine rn_ge (a := vM v) (b := vM v) (tgt := 46) C (by omega) (by omega) (dx dX1_weigh 7 rfl) (by decide) (fun c1 => ?_) (fun c1 => ?_)
    · first
      | (omega; done)
      | (
          have c1 : vM v ≤ vM v := c1
          refine r_lload_n C (dx dX1_weigh 28 rfl) rfl ?_
          refine r_aload_n C (dx dX1_weigh 29 rfl) rfl ?_
          refine g_X1_32 C (dx dX1_weigh 30 rfl) rfl ?_
          refine r_lcmp C (dx dX1_weigh 31 rfl) ?_
          refine r_if_le (tgt := 74) C (dx dX1_weigh 32 rfl) (by decide) (fun c2 => ?_) (fun c2 => ?_)
          ·
            have c2 : sumL (fun m => (vF v 3 m).toInt64 * xL h (k + 12) (xI h (k + 5 + g) m).toNatClampNeg) (vM v) ≤ xL h k 5 := (lg_cmp_le _ _).mp c2
            exact F.2.2.1 _ _ _ rfl (dx dX1_weigh 44 rfl) rfl ⟨rfl, hs, Or.inl ⟨c2, rfl⟩⟩
          ·
            have c2 : ¬ (sumL (fun m => (vF v 3 m).toInt64 * xL h (k + 12) (xI h (k + 5 + g) m).toNatClampNeg) (vM v) ≤ xL h k 5) := fun q => c2 ((lg_cmp_le _ _).mpr q)
            refine r_aload_n C (dx dX1_weigh 33 rfl) rfl ?_
            refine r_lload_n C (dx dX1_weigh 34 rfl) rfl ?_
            refine p_X1_32 C (dx dX1_weigh 35 rfl) ?_
            have sq : SInv (sL h k 5 (sumL (fun m => (vF v 3 m).toInt64 * xL h (k + 12) (xI h (k + 5 + g) m).toNatClampNeg) (vM v))) k := hs.fr (Fr.sL (lo := k) (hi := k + 1) (by omega) (by omega)) (by omega)
            refine r_aload_n C (dx dX1_weigh 36 rfl) rfl ?_
            refine g_X1_9 C (dx dX1_weigh 37 rfl) ?_
            refine r_iconst (v := nI 0) C (dx dX1_weigh 38 rfl) rfl ?_
            refine r_aload_n C (dx dX1_weigh 39 rfl) rfl ?_
            refine g_X1_15 C (dx dX1_weigh 40 rfl) ?_
            refine r_iconst (v := nI 0) C (dx dX1_weigh 41 rfl) rfl ?_
            refine r_iload_n C (dx dX1_weigh 42 rfl) rfl ?_
            refine r_copyI (sp := 0) (dp := 0) (n := g) C X (by decide) (Nat.le_of_ble_eq_true rfl) l_X1_82 q_cp rfl rfl rfl rfl rfl rfl rfl (by decide) (by decide) (by omega) (by omega) (by omega) (dx dX1_weigh 43 rfl) ?_
            exact F.2.2.1 _ _ _ rfl (dx dX1_weigh 44 rfl) rfl ⟨rfl, sq.fr (Fr.cpI (lo := k + 2) (hi := k + 3) (by omega) (by omega)) (by omega), Or.inr ⟨c2, rfl⟩⟩)
    · first
      | (omega; done)
  ·
    intro p hp ih
    refine r_iload C (dx dX1_weigh 4 rfl) rfl ?_
    refine r_aload_n C (dx dX1_weigh 5 rfl) rfl ?_
    refine g_X1_52 (x := nI (vM v)) C (dx dX1_weigh 6 rfl) hv.eM ?_
    refine rn_ge (a := p) (b := vM v) (tgt := 46) C (by omega) (by omega) (dx dX1_weigh 7 rfl) (by decide) (fun c3 => ?_) (fun c3 => ?_)
    · first
      | (omega; done)
      | (
          have c3 : vM v ≤ p := c3
          refine r_lload_n C (dx dX1_weigh 28 rfl) rfl ?_
          refine r_aload_n C (dx dX1_weigh 29 rfl) rfl ?_
          refine g_X1_32 C (dx dX1_weigh 30 rfl) rfl ?_
          refine r_lcmp C (dx dX1_weigh 31 rfl) ?_
          refine r_if_le (tgt := 74) C (dx dX1_weigh 32 rfl) (by decide) (fun c4 => ?_) (fun c4 => ?_)
          ·
            have c4 : sumL (fun m => (vF v 3 m).toInt64 * xL h (k + 12) (xI h (k + 5 + g) m).toNatClampNeg) p ≤ xL h k 5 := (lg_cmp_le _ _).mp c4
            exact F.2.2.1 _ _ _ rfl (dx dX1_weigh 44 rfl) rfl ⟨rfl, hs, Or.inl ⟨c4, rfl⟩⟩
          ·
            have c4 : ¬ (sumL (fun m => (vF v 3 m).toInt64 * xL h (k + 12) (xI h (k + 5 + g) m).toNatClampNeg) p ≤ xL h k 5) := fun q => c4 ((lg_cmp_le _ _).mpr q)
            refine r_aload_n C (dx dX1_weigh 33 rfl) rfl ?_
            refine r_lload_n C (dx dX1_weigh 34 rfl) rfl ?_
            refine p_X1_32 C (dx dX1_weigh 35 rfl) ?_
            have sq : SInv (sL h k 5 (sumL (fun m => (vF v 3 m).toInt64 * xL h (k + 12) (xI h (k + 5 + g) m).toNatClampNeg) p)) k := hs.fr (Fr.sL (lo := k) (hi := k + 1) (by omega) (by omega)) (by omega)
            refine r_aload_n C (dx dX1_weigh 36 rfl) rfl ?_
            refine g_X1_9 C (dx dX1_weigh 37 rfl) ?_
            refine r_iconst (v := nI 0) C (dx dX1_weigh 38 rfl) rfl ?_
            refine r_aload_n C (dx dX1_weigh 39 rfl) rfl ?_
            refine g_X1_15 C (dx dX1_weigh 40 rfl) ?_
            refine r_iconst (v := nI 0) C (dx dX1_weigh 41 rfl) rfl ?_
            refine r_iload_n C (dx dX1_weigh 42 rfl) rfl ?_
            refine r_copyI (sp := 0) (dp := 0) (n := g) C X (by decide) (Nat.le_of_ble_eq_true rfl) l_X1_82 q_cp rfl rfl rfl rfl rfl rfl rfl (by decide) (by decide) (by omega) (by omega) (by omega) (dx dX1_weigh 43 rfl) ?_
            exact F.2.2.1 _ _ _ rfl (dx dX1_weigh 44 rfl) rfl ⟨rfl, sq.fr (Fr.cpI (lo := k + 2) (hi := k + 3) (by omega) (by omega)) (by omega), Or.inr ⟨c4, rfl⟩⟩)
    · first
      | (omega; done)
      | (
          have c3 : p < vM v := c3
          refine r_lload_n C (dx dX1_weigh 8 rfl) rfl ?_
          refine r_aload_n C (dx dX1_weigh 9 rfl) rfl ?_
          refine g_X1_79 C (dx dX1_weigh 10 rfl) ?_
          refine r_iload C (dx dX1_weigh 11 rfl) rfl ?_
          refine r_iald (j := p) (x := vF v 3 p) C rfl rfl (by decide) rfl (by omega) (dx dX1_weigh 12 rfl) (hv.e3 (by omega)) ?_
          refine r_i2l C (dx dX1_weigh 13 rfl) ?_
          refine r_aload_n C (dx dX1_weigh 14 rfl) rfl ?_
          refine g_X1_26 C (dx dX1_weigh 15 rfl) ?_
          refine r_aload_n C (dx dX1_weigh 16 rfl) rfl ?_
          refine g_X1_23 C (dx dX1_weigh 17 rfl) ?_
          refine r_iload_n C (dx dX1_weigh 18 rfl) rfl ?_
          refine r_aald4 (j := g) C rfl rfl (by decide) rfl (by omega) (dx dX1_weigh 19 rfl) ?_
          refine r_iload C (dx dX1_weigh 20 rfl) rfl ?_
          refine r_iald (j := p) (x := xI h (k + 5 + g) p) C rfl rfl (by decide) rfl (by omega) (dx dX1_weigh 21 rfl) rfl ?_
          refine r_lald (j := (xI h (k + 5 + g) p).toNatClampNeg) (x := xL h (k + 12) ((xI h (k + 5 + g) p).toNatClampNeg)) C rfl rfl (by decide) (s_at (hs.1 _ (by omega) _ (by omega))).1 (s_at (hs.1 _ (by omega) _ (by omega))).2 (dx dX1_weigh 22 rfl) rfl ?_
          refine r_lmul C (dx dX1_weigh 23 rfl) ?_
          refine r_ladd C (dx dX1_weigh 24 rfl) ?_
          refine r_lstore_n (ls' := [(0, vr 1 k), (1, vr 5 kv), (2, vi (nI g)), (3, vl ((sumL (fun m => (vF v 3 m).toInt64 * xL h (k + 12) (xI h (k + 5 + g) m).toNatClampNeg) p) + (((vF v 3 p).toInt64) * (xL h (k + 12) ((xI h (k + 5 + g) p).toNatClampNeg))))), (5, vi (nI p))]) C (dx dX1_weigh 25 rfl) (by decide) [1, 2, 3, 0, 4] rfl ?_
          refine rn_iinc (a := p) (k := 1) (ls' := [(0, vr 1 k), (1, vr 5 kv), (2, vi (nI g)), (3, vl ((sumL (fun m => (vF v 3 m).toInt64 * xL h (k + 12) (xI h (k + 5 + g) m).toNatClampNeg) p) + (((vF v 3 p).toInt64) * (xL h (k + 12) ((xI h (k + 5 + g) p).toNatClampNeg))))), (5, vi (nI (p + 1)))]) C (dx dX1_weigh 26 rfl) rfl rfl (by decide) [1, 2, 3, 4, 0] rfl ?_
          refine r_goto (tgt := 5) C (dx dX1_weigh 27 rfl) (by decide) ?_
          have e9 : ((sumL (fun m => (vF v 3 m).toInt64 * xL h (k + 12) (xI h (k + 5 + g) m).toNatClampNeg) p) + (((vF v 3 p).toInt64) * (xL h (k + 12) ((xI h (k + 5 + g) p).toNatClampNeg)))) = (sumL (fun m => (vF v 3 m).toInt64 * xL h (k + 12) (xI h (k + 5 + g) m).toNatClampNeg) (p + 1)) := by rfl
          rw [e9]
          exact ih)
set_option maxHeartbeats 4000000 in
theorem s1_choose_0 {l : Launch} {h : Hp} {k kv : Nat} {v : Vg} (hd : kv + 9 ≤ k ∨ k + 13 ≤ kv) (h6 : vP v ≤ 6) (h4 : vN v ≤ 4) {f : Nat → Int32} {a : Int64 × (Nat → Int32)} (hf : FOk v f) {p : Nat} (hp0 : p = vP v) (hv : VilAt h kv v) (hs : SInv h k) (sc : ScP h k v f p a) : Ms l yX1_choose cX1_choose 4 none 2 [vr 1 k, vr 5 kv, vi (nI p)] h (xK h) (fun r0 h' => r0 = none ∧ SInv h' k ∧ ScP h' k v f p (tcS v 0 p f a) ∧ Fr k (k + 13) h h') := by
  refine Ms.of (by decide) (Nat.le_of_ble_eq_true rfl) (fun G C X F => ?_)
  have C : Cx G cX1_choose 4 RX1 := C
  show Rr G 0 [(0, vr 1 k), (1, vr 5 kv), (2, vi (nI p))] [] h
  have bP := hv.bP
  have bM := hv.bM
  have bN := hv.bN
  refine r_iload_n C (dx dX1_choose 0 rfl) rfl ?_
  refine r_aload_n C (dx dX1_choose 1 rfl) rfl ?_
  refine g_X1_42 (x := nI (vP v)) C (dx dX1_choose 2 rfl) hv.eP ?_
  refine rn_ge (a := p) (b := vP v) (tgt := 14) C (by omega) (by omega) (dx dX1_choose 3 rfl) (by decide) (fun c1 => ?_) (fun c1 => ?_)
  · first
    | (omega; done)
    | (
        have c1 : vP v ≤ p := c1
        refine r_aload_n C (dx dX1_choose 7 rfl) rfl ?_
        refine r_aload_n C (dx dX1_choose 8 rfl) rfl ?_
        refine r_iload_n C (dx dX1_choose 9 rfl) rfl ?_
        refine r_cv (as := [vr 5 kv, vi (nI p)]) (st := []) C X I_X1_weigh l_X1_68 (s1_weigh hv hs hd (g := p) (by omega)) (by omega) (Nat.le_of_ble_eq_true rfl) List.prefix_rfl List.prefix_rfl rfl rfl (Nat.le_of_ble_eq_true rfl) rfl (dx dX1_choose 10 rfl) ?_
        intro rh2 h2 hph2 kkh2
        obtain ⟨rfl, sh2, qh2⟩ := hph2
        subst hp0
        have ch2 := sc_leaf sc hf h4 qh2
        have fh2 : Fr k (k + 13) h h2 := by
          rcases qh2 with ⟨-, rfl⟩ | ⟨-, rfl⟩
          · exact Fr.rf
          · exact (Fr.sL (by omega) (by omega)).tr (Fr.cpI (by omega) (by omega))
        have kh2 : xK h2 = xK h := kkh2
        exact F.2.2.1 _ _ _ rfl (dx dX1_choose 11 rfl) kh2 ⟨rfl, sh2, ch2, fh2⟩)
  · omega
set_option maxHeartbeats 4000000 in
theorem s1_choose_s {l : Launch} {h : Hp} {k kv : Nat} {v : Vg} (hd : kv + 9 ≤ k ∨ k + 13 ≤ kv) (h6 : vP v ≤ 6) (h4 : vN v ≤ 4) {f : Nat → Int32} {a : Int64 × (Nat → Int32)} (hf : FOk v f) {p n : Nat} (hp0 : p < vP v) (hpn : p + 1 + n = vP v) (ihc : ChoX l k kv v n) (hv : VilAt h kv v) (hs : SInv h k) (sc : ScP h k v f p a) : Ms l yX1_choose cX1_choose 4 none (n + 3) [vr 1 k, vr 5 kv, vi (nI p)] h (xK h) (fun r0 h' => r0 = none ∧ SInv h' k ∧ ScP h' k v f p (tcS v (n + 1) p f a) ∧ Fr k (k + 13) h h') := by
  refine Ms.of (by decide) (Nat.le_of_ble_eq_true rfl) (fun G C X F => ?_)
  have C : Cx G cX1_choose 4 RX1 := C
  show Rr G 0 [(0, vr 1 k), (1, vr 5 kv), (2, vi (nI p))] [] h
  have bP := hv.bP
  have bM := hv.bM
  have bN := hv.bN
  refine r_iload_n C (dx dX1_choose 0 rfl) rfl ?_
  refine r_aload_n C (dx dX1_choose 1 rfl) rfl ?_
  refine g_X1_42 (x := nI (vP v)) C (dx dX1_choose 2 rfl) hv.eP ?_
  refine rn_ge (a := p) (b := vP v) (tgt := 14) C (by omega) (by omega) (dx dX1_choose 3 rfl) (by decide) (fun c1 => ?_) (fun c1 => ?_)
  · first
    | (omega; done)
    | (
        have c1 : vP v ≤ p := c1
        refine r_aload_n C (dx dX1_choose 7 rfl) rfl ?_
        refine r_aload_n C (dx dX1_choose 8 rfl) rfl ?_
        refine r_iload_n C (dx dX1_choose 9 rfl) rfl ?_
        refine r_cv (as := [vr 5 kv, vi (nI p)]) (st := []) C X I_X1_weigh l_X1_68 (s1_weigh hv hs hd (g := p) (by omega)) (by omega) (Nat.le_of_ble_eq_true rfl) List.prefix_rfl List.prefix_rfl rfl rfl (Nat.le_of_ble_eq_true rfl) rfl (dx dX1_choose 10 rfl) ?_
        intro rh2 h2 hph2 kkh2
        obtain ⟨rfl, sh2, qh2⟩ := hph2
        subst hp0
        have ch2 := sc_leaf sc hf h4 qh2
        have fh2 : Fr k (k + 13) h h2 := by
          rcases qh2 with ⟨-, rfl⟩ | ⟨-, rfl⟩
          · exact Fr.rf
          · exact (Fr.sL (by omega) (by omega)).tr (Fr.cpI (by omega) (by omega))
        have kh2 : xK h2 = xK h := kkh2
        exact F.2.2.1 _ _ _ rfl (dx dX1_choose 11 rfl) kh2 ⟨rfl, sh2, ch2, fh2⟩)
  · first
    | (omega; done)
    | (
        have c1 : p < vP v := c1
        refine r_iload_n C (dx dX1_choose 4 rfl) rfl ?_
        refine r_bipush (v := nI 6) C (dx dX1_choose 5 rfl) rfl ?_
        refine rn_lt (a := p) (b := 6) (tgt := 21) C (by omega) (by omega) (dx dX1_choose 6 rfl) (by decide) (fun c3 => ?_) (fun c3 => ?_)
        · first
          | (omega; done)
          | (
              have c3 : p < 6 := c3
              refine r_iconst (v := -1) C (dx dX1_choose 12 rfl) rfl ?_
              refine r_istore_n (ls' := [(0, vr 1 k), (1, vr 5 kv), (2, vi (nI p)), (3, vi (-1))]) C (dx dX1_choose 13 rfl) (by decide) [1, 2, 3, 0] rfl ?_
              refine r_iload_n C (dx dX1_choose 14 rfl) rfl ?_
              refine r_aload_n C (dx dX1_choose 15 rfl) rfl ?_
              refine g_X1_36 (x := nI (vN v)) C (dx dX1_choose 16 rfl) hv.eN ?_
              refine r_icmp_ge (tgt := 121) C (dx dX1_choose 17 rfl) (by decide) (fun c4 => ?_) (fun c4 => ?_)
              · exact absurd c4 (nI_lm1 (by omega))
              ·
                have c4 : ¬ nI (vN v) ≤ -1 := c4
                refine r_iload_n C (dx dX1_choose 18 rfl) rfl ?_
                refine r_iconst (v := -1) C (dx dX1_choose 19 rfl) rfl ?_
                refine r_icmp_ne (tgt := 62) C (dx dX1_choose 20 rfl) (by decide) (fun c5 => ?_) (fun c5 => ?_)
                · exact (c5 rfl).elim
                ·
                  have c5 : (-1 : Int32) = -1 := c5
                  refine r_aload_n C (dx dX1_choose 21 rfl) rfl ?_
                  refine r_aload_n C (dx dX1_choose 22 rfl) rfl ?_
                  refine r_iload_n C (dx dX1_choose 23 rfl) rfl ?_
                  refine r_bipush (v := nI 16) C (dx dX1_choose 24 rfl) rfl ?_
                  refine r_cv (as := [vr 5 kv, vi (nI p), vi (nI 16)]) (st := []) C X I_X1_take l_X1_72 (s1_take hv hs hd (p := p) (w := 16) (by omega) (by omega)) (by omega) (Nat.le_of_ble_eq_true rfl) List.prefix_rfl List.prefix_rfl rfl rfl (Nat.le_of_ble_eq_true rfl) rfl (dx dX1_choose 25 rfl) ?_
                  intro rh6 h6 hph6 kkh6
                  obtain ⟨rfl, sh6, th6, gh6⟩ := hph6
                  have fh6 : Fr k (k + 13) h h6 := (gh6.mono (by omega) (by omega))
                  have kh6 : xK h6 = xK h := kkh6
                  have wh6 : VilAt h6 kv v := hv.fr fh6 (by omega)
                  refine r_aload_n C (dx dX1_choose 26 rfl) rfl ?_
                  refine g_X1_9 C (dx dX1_choose 27 rfl) ?_
                  refine r_iload_n C (dx dX1_choose 28 rfl) rfl ?_
                  refine r_iconst (v := -1) C (dx dX1_choose 29 rfl) rfl ?_
                  refine r_iast (j := p) C rfl rfl (by decide) rfl (by omega) (dx dX1_choose 30 rfl) ?_
                  have sh7 : SInv (sI h6 (k + 1) p (-1)) k := sh6.fr (Fr.sI (lo := k + 1) (hi := k + 2) (by omega) (by omega)) (by omega)
                  have ch7 : ScP (sI h6 (k + 1) p (-1)) k v (sf f p (-1)) (p + 1) a := sc_d0 sc (by omega) h4 th6 gh6
                  have fh7 : Fr k (k + 13) h (sI h6 (k + 1) p (-1)) := fh6.tr (Fr.sI (by omega) (by omega))
                  have kh7 : xK (sI h6 (k + 1) p (-1)) = xK h := kh6
                  have wh7 : VilAt (sI h6 (k + 1) p (-1)) kv v := hv.fr fh7 (by omega)
                  generalize sI h6 (k + 1) p (-1) = h7 at sh7 ch7 fh7 kh7 wh7 ⊢
                  refine r_aload_n C (dx dX1_choose 31 rfl) rfl ?_
                  refine r_aload_n C (dx dX1_choose 32 rfl) rfl ?_
                  refine r_iload_n C (dx dX1_choose 33 rfl) rfl ?_
                  refine r_iconst (v := nI 1) C (dx dX1_choose 34 rfl) rfl ?_
                  refine rn_iadd (a := p) (b := 1) C (dx dX1_choose 35 rfl) ?_
                  refine r_cs (as := [vr 1 k, vr 5 kv, vi (nI (p + 1))]) (st := []) C X I_X1_choose l_X1_55 (ihc _ _ _ _ (by omega) wh7 sh7 (fok_sf hf (Or.inl rfl)) ch7) (by omega) (Nat.le_of_ble_eq_true rfl) List.prefix_rfl (pfx_eq kh7) (Nat.le_of_ble_eq_true rfl) rfl (dx dX1_choose 36 rfl) ?_
                  intro rh8 h8 hph8 kkh8
                  obtain ⟨rfl, sh8, ch8, gh8⟩ := hph8
                  have fh8 : Fr k (k + 13) h h8 := fh7.tr gh8
                  have kh8 : xK h8 = xK h := kkh8.trans kh7
                  have wh8 : VilAt h8 kv v := hv.fr fh8 (by omega)
                  have dh8 := sc_up0 ch8 h4
                  refine r_goto (tgt := 115) C (dx dX1_choose 37 rfl) (by decide) ?_
                  refine r_iinc (ls' := [(0, vr 1 k), (1, vr 5 kv), (2, vi (nI p)), (3, vi (-1 + (1)))]) C (dx dX1_choose 77 rfl) rfl rfl (by decide) [1, 2, 3, 0] rfl ?_
                  refine r_goto (tgt := 23) C (dx dX1_choose 78 rfl) (by decide) ?_
                  rw [show (-1 + (1) : Int32) = nI 0 from by decide]
                  refine loopU (Φ := fun q => ∀ h9, SInv h9 k → ScP h9 k v f p (tcL v (fun f' a' => tcS v n (p + 1) f' a') p f a q) → Fr k (k + 13) h h9 → xK h9 = xK h → Rr G 23 [(0, vr 1 k), (1, vr 5 kv), (2, vi (nI p)), (3, vi (nI q))] [] h9) (N := vN v) ?_ ?_ 0 (Nat.zero_le _) _ sh8 dh8 fh8 kh8
                  ·
                    intro h9 sh9 ch9 fh9 kh9
                    have wh9 : VilAt h9 kv v := hv.fr fh9 (by omega)
                    refine r_iload_n C (dx dX1_choose 14 rfl) rfl ?_
                    refine r_aload_n C (dx dX1_choose 15 rfl) rfl ?_
                    refine g_X1_36 (x := nI (vN v)) C (dx dX1_choose 16 rfl) wh9.eN ?_
                    refine rn_ge (a := (vN v)) (b := vN v) (tgt := 121) C (by omega) (by omega) (dx dX1_choose 17 rfl) (by decide) (fun c10 => ?_) (fun c10 => ?_)
                    · first
                      | (omega; done)
                      | (
                          have c10 : vN v ≤ (vN v) := c10
                          exact F.2.2.1 _ _ _ rfl (dx dX1_choose 79 rfl) kh9 ⟨rfl, sh9, ch9, fh9⟩)
                    · first
                      | (omega; done)
                  ·
                    intro q hq ih h13 sh13 ch13 fh13 kh13
                    have wh13 : VilAt h13 kv v := hv.fr fh13 (by omega)
                    refine r_iload_n C (dx dX1_choose 14 rfl) rfl ?_
                    refine r_aload_n C (dx dX1_choose 15 rfl) rfl ?_
                    refine g_X1_36 (x := nI (vN v)) C (dx dX1_choose 16 rfl) wh13.eN ?_
                    refine rn_ge (a := q) (b := vN v) (tgt := 121) C (by omega) (by omega) (dx dX1_choose 17 rfl) (by decide) (fun c14 => ?_) (fun c14 => ?_)
                    · first
                      | (omega; done)
                      | (
                          have c14 : vN v ≤ q := c14
                          exact F.2.2.1 _ _ _ rfl (dx dX1_choose 79 rfl) kh13 ⟨rfl, sh13, ch13, fh13⟩)
                    · first
                      | (omega; done)
                      | (
                          have c14 : q < vN v := c14
                          refine r_iload_n C (dx dX1_choose 18 rfl) rfl ?_
                          refine r_iconst (v := -1) C (dx dX1_choose 19 rfl) rfl ?_
                          refine r_icmp_ne (tgt := 62) C (dx dX1_choose 20 rfl) (by decide) (fun c15 => ?_) (fun c15 => ?_)
                          ·
                            have c15 : ¬ nI q = -1 := c15
                            refine r_aload_n C (dx dX1_choose 38 rfl) rfl ?_
                            refine g_X1_18 C (dx dX1_choose 39 rfl) ?_
                            refine r_iload_n C (dx dX1_choose 40 rfl) rfl ?_
                            refine r_iald (j := q) (x := rmV v f p q) C rfl rfl (by decide) rfl (by omega) (dx dX1_choose 41 rfl) (ch13.1 _ (by omega)) ?_
                            refine r_if_le (tgt := 115) C (dx dX1_choose 42 rfl) (by decide) (fun c16 => ?_) (fun c16 => ?_)
                            ·
                              have c16 : rmV v f p q ≤ 0 := c16
                              refine rn_iinc (a := q) (k := 1) (ls' := [(0, vr 1 k), (1, vr 5 kv), (2, vi (nI p)), (3, vi (nI (q + 1)))]) C (dx dX1_choose 77 rfl) rfl rfl (by decide) [1, 2, 3, 0] rfl ?_
                              refine r_goto (tgt := 23) C (dx dX1_choose 78 rfl) (by decide) ?_
                              have e9 : tcL v (fun f' a' => tcS v n (p + 1) f' a') p f a (q + 1) = tcL v (fun f' a' => tcS v n (p + 1) f' a') p f a q := by (simp only [tcL]; rw [if_pos c16])
                              exact ih _ sh13 (by rw [e9]; exact ch13) fh13 kh13
                            ·
                              have c16 : ¬ rmV v f p q ≤ 0 := c16
                              refine r_aload_n C (dx dX1_choose 43 rfl) rfl ?_
                              refine r_aload_n C (dx dX1_choose 44 rfl) rfl ?_
                              refine r_iload_n C (dx dX1_choose 45 rfl) rfl ?_
                              refine r_iconst (v := nI 1) C (dx dX1_choose 46 rfl) rfl ?_
                              refine r_iload_n C (dx dX1_choose 47 rfl) rfl ?_
                              refine rn_sh1 (o := q) C (by omega) (dx dX1_choose 48 rfl) ?_
                              refine r_cv (as := [vr 5 kv, vi (nI p), vi (nI (2 ^ q))]) (st := []) C X I_X1_take l_X1_72 (s1_take wh13 sh13 hd (p := p) (w := 2 ^ q) (by omega) (p5 (by omega))) (by omega) (Nat.le_of_ble_eq_true rfl) List.prefix_rfl (pfx_eq kh13) rfl rfl (Nat.le_of_ble_eq_true rfl) rfl (dx dX1_choose 49 rfl) ?_
                              intro rh17 h17 hph17 kkh17
                              obtain ⟨rfl, sh17, th17, gh17⟩ := hph17
                              have fh17 : Fr k (k + 13) h h17 := fh13.tr (gh17.mono (by omega) (by omega))
                              have kh17 : xK h17 = xK h := kkh17.trans kh13
                              have wh17 : VilAt h17 kv v := hv.fr fh17 (by omega)
                              refine r_aload_n C (dx dX1_choose 50 rfl) rfl ?_
                              refine g_X1_9 C (dx dX1_choose 51 rfl) ?_
                              refine r_iload_n C (dx dX1_choose 52 rfl) rfl ?_
                              refine r_iload_n C (dx dX1_choose 53 rfl) rfl ?_
                              refine r_iast (j := p) C rfl rfl (by decide) rfl (by omega) (dx dX1_choose 54 rfl) ?_
                              refine r_aload_n C (dx dX1_choose 55 rfl) rfl ?_
                              refine g_X1_18 C (dx dX1_choose 56 rfl) ?_
                              refine r_iload_n C (dx dX1_choose 57 rfl) rfl ?_
                              refine r_dup2 C (dx dX1_choose 58 rfl) ?_
                              refine r_iald (j := q) (x := xI (sI h17 (k + 1) p (nI q)) (k + 3) q) C rfl rfl (by decide) rfl (by omega) (dx dX1_choose 59 rfl) rfl ?_
                              refine r_iconst (v := nI 1) C (dx dX1_choose 60 rfl) rfl ?_
                              refine r_isub C (dx dX1_choose 61 rfl) ?_
                              refine r_iast (j := q) C rfl rfl (by decide) rfl (by omega) (dx dX1_choose 62 rfl) ?_
                              have sh18 : SInv (sI (sI h17 (k + 1) p (nI q)) (k + 3) q ((xI (sI h17 (k + 1) p (nI q)) (k + 3) q) - (nI 1))) k := (sh17.fr (Fr.sI (lo := k + 1) (hi := k + 2) (by omega) (by omega)) (by omega)).fr (Fr.sI (lo := k + 3) (hi := k + 4) (by omega) (by omega)) (by omega)
                              have ch18 : ScP (sI (sI h17 (k + 1) p (nI q)) (k + 3) q ((xI (sI h17 (k + 1) p (nI q)) (k + 3) q) - (nI 1))) k v (sf f p (nI q)) (p + 1) (tcL v (fun f' a' => tcS v n (p + 1) f' a') p f a q) := sc_dO ch13 (by omega) h4 (by omega) th17 gh17
                              have fh18 : Fr k (k + 13) h (sI (sI h17 (k + 1) p (nI q)) (k + 3) q ((xI (sI h17 (k + 1) p (nI q)) (k + 3) q) - (nI 1))) := fh17.tr ((Fr.sI (by omega) (by omega)).tr (Fr.sI (by omega) (by omega)))
                              have kh18 : xK (sI (sI h17 (k + 1) p (nI q)) (k + 3) q ((xI (sI h17 (k + 1) p (nI q)) (k + 3) q) - (nI 1))) = xK h := kh17
                              have wh18 : VilAt (sI (sI h17 (k + 1) p (nI q)) (k + 3) q ((xI (sI h17 (k + 1) p (nI q)) (k + 3) q) - (nI 1))) kv v := hv.fr fh18 (by omega)
                              generalize sI (sI h17 (k + 1) p (nI q)) (k + 3) q ((xI (sI h17 (k + 1) p (nI q)) (k + 3) q) - (nI 1)) = h18 at sh18 ch18 fh18 kh18 wh18 ⊢
                              refine r_aload_n C (dx dX1_choose 63 rfl) rfl ?_
                              refine r_aload_n C (dx dX1_choose 64 rfl) rfl ?_
                              refine r_iload_n C (dx dX1_choose 65 rfl) rfl ?_
                              refine r_iconst (v := nI 1) C (dx dX1_choose 66 rfl) rfl ?_
                              refine rn_iadd (a := p) (b := 1) C (dx dX1_choose 67 rfl) ?_
                              refine r_cs (as := [vr 1 k, vr 5 kv, vi (nI (p + 1))]) (st := []) C X I_X1_choose l_X1_55 (ihc _ _ _ _ (by omega) wh18 sh18 (fok_sf hf (Or.inr ⟨_, by omega, rfl⟩)) ch18) (by omega) (Nat.le_of_ble_eq_true rfl) List.prefix_rfl (pfx_eq kh18) (Nat.le_of_ble_eq_true rfl) rfl (dx dX1_choose 68 rfl) ?_
                              intro rh19 h19 hph19 kkh19
                              obtain ⟨rfl, sh19, ch19, gh19⟩ := hph19
                              have fh19 : Fr k (k + 13) h h19 := fh18.tr gh19
                              have kh19 : xK h19 = xK h := kkh19.trans kh18
                              have wh19 : VilAt h19 kv v := hv.fr fh19 (by omega)
                              refine r_aload_n C (dx dX1_choose 69 rfl) rfl ?_
                              refine g_X1_18 C (dx dX1_choose 70 rfl) ?_
                              refine r_iload_n C (dx dX1_choose 71 rfl) rfl ?_
                              refine r_dup2 C (dx dX1_choose 72 rfl) ?_
                              refine r_iald (j := q) (x := xI h19 (k + 3) q) C rfl rfl (by decide) rfl (by omega) (dx dX1_choose 73 rfl) rfl ?_
                              refine r_iconst (v := nI 1) C (dx dX1_choose 74 rfl) rfl ?_
                              refine r_iadd C (dx dX1_choose 75 rfl) ?_
                              refine r_iast (j := q) C rfl rfl (by decide) rfl (by omega) (dx dX1_choose 76 rfl) ?_
                              have sh20 : SInv (sI h19 (k + 3) q ((xI h19 (k + 3) q) + (nI 1))) k := sh19.fr (Fr.sI (lo := k + 3) (hi := k + 4) (by omega) (by omega)) (by omega)
                              have ch20 : ScP (sI h19 (k + 3) q ((xI h19 (k + 3) q) + (nI 1))) k v f p (tcS v n (p + 1) (sf f p (nI q)) (tcL v (fun f' a' => tcS v n (p + 1) f' a') p f a q)) := sc_upO ch19 h4 (by omega)
                              have fh20 : Fr k (k + 13) h (sI h19 (k + 3) q ((xI h19 (k + 3) q) + (nI 1))) := fh19.tr (Fr.sI (by omega) (by omega))
                              have kh20 : xK (sI h19 (k + 3) q ((xI h19 (k + 3) q) + (nI 1))) = xK h := kh19
                              have wh20 : VilAt (sI h19 (k + 3) q ((xI h19 (k + 3) q) + (nI 1))) kv v := hv.fr fh20 (by omega)
                              generalize sI h19 (k + 3) q ((xI h19 (k + 3) q) + (nI 1)) = h20 at sh20 ch20 fh20 kh20 wh20 ⊢
                              refine rn_iinc (a := q) (k := 1) (ls' := [(0, vr 1 k), (1, vr 5 kv), (2, vi (nI p)), (3, vi (nI (q + 1)))]) C (dx dX1_choose 77 rfl) rfl rfl (by decide) [1, 2, 3, 0] rfl ?_
                              refine r_goto (tgt := 23) C (dx dX1_choose 78 rfl) (by decide) ?_
                              have e9 : tcL v (fun f' a' => tcS v n (p + 1) f' a') p f a (q + 1) = tcS v n (p + 1) (sf f p (nI q)) (tcL v (fun f' a' => tcS v n (p + 1) f' a') p f a q) := by (simp only [tcL]; rw [if_neg c16])
                              exact ih _ sh20 (by rw [e9]; exact ch20) fh20 kh20
                          · exact absurd c15 (nI_nm1 (by omega))))
        · first
          | (omega; done)
          | (
              have c3 : 6 ≤ p := c3
              refine r_aload_n C (dx dX1_choose 7 rfl) rfl ?_
              refine r_aload_n C (dx dX1_choose 8 rfl) rfl ?_
              refine r_iload_n C (dx dX1_choose 9 rfl) rfl ?_
              refine r_cv (as := [vr 5 kv, vi (nI p)]) (st := []) C X I_X1_weigh l_X1_68 (s1_weigh hv hs hd (g := p) (by omega)) (by omega) (Nat.le_of_ble_eq_true rfl) List.prefix_rfl List.prefix_rfl rfl rfl (Nat.le_of_ble_eq_true rfl) rfl (dx dX1_choose 10 rfl) ?_
              intro rh21 h21 hph21 kkh21
              obtain ⟨rfl, sh21, qh21⟩ := hph21
              subst hp0
              have ch21 := sc_leaf sc hf h4 qh21
              have fh21 : Fr k (k + 13) h h21 := by
                rcases qh21 with ⟨-, rfl⟩ | ⟨-, rfl⟩
                · exact Fr.rf
                · exact (Fr.sL (by omega) (by omega)).tr (Fr.cpI (by omega) (by omega))
              have kh21 : xK h21 = xK h := kkh21
              exact F.2.2.1 _ _ _ rfl (dx dX1_choose 11 rfl) kh21 ⟨rfl, sh21, ch21, fh21⟩))
theorem s1_choose {l : Launch} {k kv : Nat} {v : Vg} (hd : kv + 9 ≤ k ∨ k + 13 ≤ kv) (h6 : vP v ≤ 6) (h4 : vN v ≤ 4) : ∀ n, ChoX l k kv v n
  | 0 => fun _ _ _ _ hp hv hs hf sc => s1_choose_0 hd h6 h4 hf (by omega) hv hs sc
  | n + 1 => fun _ _ _ _ hp hv hs hf sc => s1_choose_s hd h6 h4 hf (by omega) (by omega) (s1_choose hd h6 h4 n) hv hs sc
theorem sc_0 {h : Hp} {k : Nat} {v : Vg} (s : ∀ i, 16 ≤ i → i < 32 → xL h (k + 12) i = 0) (m : xL h k 5 = -1) (o : ∀ i, i < 16 → xL h (k + 12) i = prdL v i (vN v)) (r : ∀ i, i < vN v → xI h (k + 3) i = vF v 4 i) (w : ∀ i, i < vM v → xI h (k + 5) i = nI 0) : ScP h k v (noF v) 0 (-1, xI h (k + 2)) :=
  ⟨fun q hq => by rw [r q hq]; unfold rmV; show _ = vF v 4 q - nI 0; rw [nI_0, Int32.sub_zero], fun i hi => absurd hi (by omega), fun q hq j hj => by rw [show q = 0 by omega]; exact w j hj, fun i hi => by
    unfold odW
    by_cases c : i < 16
    · rw [if_pos c]; exact o i c
    · rw [if_neg c]; exact s i (by omega) hi, m, fun _ _ => rfl⟩
set_option maxHeartbeats 4000000 in
theorem s1_run {l : Launch} {h : Hp} {k kv : Nat} {v : Vg} (hv : VilAt h kv v) (hs : SInv h k) (hd : kv + 9 ≤ k ∨ k + 13 ≤ kv) (q6 : vP v ≤ 6) (q4 : vN v ≤ 4) : Ms l yX1_run cX1_run 3 none 9 [vr 1 k, vr 5 kv] h (xK h) (fun r0 h' => r0 = none ∧ SInv h' k ∧ (∃ g9, ScP h' k v (noF v) 0 (tcS v (vP v) 0 (noF v) (-1, g9))) ∧ Fr k (k + 13) h h') := by
  refine Ms.of (by decide) (Nat.le_of_ble_eq_true rfl) (fun G C X F => ?_)
  have C : Cx G cX1_run 3 RX1 := C
  show Rr G 0 [(0, vr 1 k), (1, vr 5 kv)] [] h
  have bP := hv.bP
  have bM := hv.bM
  have bN := hv.bN
  refine r_aload_n C (dx dX1_run 0 rfl) rfl ?_
  refine r_ldc2 C n_X1_30 (dx dX1_run 1 rfl) ?_
  refine p_X1_32 C (dx dX1_run 2 rfl) ?_
  have sh1 : SInv (sL h k 5 (-1)) k := hs.fr (Fr.sL (lo := k) (hi := k + 1) (by omega) (by omega)) (by omega)
  have m9h1 : xL (sL h k 5 (-1)) k 5 = -1 := (by rw [sL_at, if_pos rfl])
  have fh1 : Fr k (k + 13) h (sL h k 5 (-1)) := (Fr.sL (by omega) (by omega))
  have kh1 : xK (sL h k 5 (-1)) = xK h := rfl
  have wh1 : VilAt (sL h k 5 (-1)) kv v := hv.fr fh1 (by omega)
  generalize sL h k 5 (-1) = h1 at sh1 fh1 kh1 wh1 m9h1 ⊢
  refine r_aload_n C (dx dX1_run 3 rfl) rfl ?_
  refine g_X1_36 (x := nI (vN v)) C (dx dX1_run 4 rfl) wh1.eN ?_
  refine r_iconst (v := nI 4) C (dx dX1_run 5 rfl) rfl ?_
  refine rn_gt (a := vN v) (b := 4) (tgt := 24) C (by omega) (by omega) (dx dX1_run 6 rfl) (by decide) (fun c2 => ?_) (fun c2 => ?_)
  · omega
  · first
    | (omega; done)
    | (
        have c2 : vN v ≤ 4 := c2
        refine r_aload_n C (dx dX1_run 7 rfl) rfl ?_
        refine g_X1_42 (x := nI (vP v)) C (dx dX1_run 8 rfl) wh1.eP ?_
        refine r_bipush (v := nI 6) C (dx dX1_run 9 rfl) rfl ?_
        refine rn_le (a := vP v) (b := 6) (tgt := 25) C (by omega) (by omega) (dx dX1_run 10 rfl) (by decide) (fun c3 => ?_) (fun c3 => ?_)
        · first
          | (omega; done)
          | (
              have c3 : vP v ≤ 6 := c3
              refine r_iconst (v := nI 0) C (dx dX1_run 12 rfl) rfl ?_
              refine r_istore_n (ls' := [(0, vr 1 k), (1, vr 5 kv), (2, vi (nI 0))]) C (dx dX1_run 13 rfl) (by decide) [1, 2, 0] rfl ?_
              refine loopU (Φ := fun p => ∀ h9, SInv h9 k → (xL h9 k 5 = -1) → (∀ i, i < p → xL h9 (k + 12) i = prdL v i (vN v)) → Fr k (k + 13) h h9 → xK h9 = xK h → Rr G 27 [(0, vr 1 k), (1, vr 5 kv), (2, vi (nI p))] [] h9) (N := 16) ?_ ?_ 0 (Nat.zero_le _) _ sh1 m9h1 (fun i hi => absurd hi (by omega)) fh1 kh1
              ·
                intro h4 sh4 m9h4 o9h4 fh4 kh4
                have wh4 : VilAt h4 kv v := hv.fr fh4 (by omega)
                refine r_iload_n C (dx dX1_run 14 rfl) rfl ?_
                refine r_bipush (v := nI 16) C (dx dX1_run 15 rfl) rfl ?_
                refine rn_ge (a := 16) (b := 16) (tgt := 51) C (by omega) (by omega) (dx dX1_run 16 rfl) (by decide) (fun c5 => ?_) (fun c5 => ?_)
                · first
                  | (omega; done)
                  | (
                      have c5 : 16 ≤ 16 := c5
                      refine r_iconst (v := nI 0) C (dx dX1_run 27 rfl) rfl ?_
                      refine r_istore_n (ls' := [(0, vr 1 k), (1, vr 5 kv), (2, vi (nI 0))]) C (dx dX1_run 28 rfl) (by decide) [1, 2, 0] rfl ?_
                      refine loopU (Φ := fun p => ∀ h9, SInv h9 k → (xL h9 k 5 = -1) → (∀ i, i < 16 → xL h9 (k + 12) i = prdL v i (vN v)) → (∀ i, i < p → xI h9 (k + 3) i = vF v 4 i) → Fr k (k + 13) h h9 → xK h9 = xK h → Rr G 53 [(0, vr 1 k), (1, vr 5 kv), (2, vi (nI p))] [] h9) (N := vN v) ?_ ?_ 0 (Nat.zero_le _) _ sh4 m9h4 o9h4 (fun i hi => absurd hi (by omega)) fh4 kh4
                      ·
                        intro h6 sh6 m9h6 o9h6 r9h6 fh6 kh6
                        have wh6 : VilAt h6 kv v := hv.fr fh6 (by omega)
                        refine r_iload_n C (dx dX1_run 29 rfl) rfl ?_
                        refine r_aload_n C (dx dX1_run 30 rfl) rfl ?_
                        refine g_X1_36 (x := nI (vN v)) C (dx dX1_run 31 rfl) wh6.eN ?_
                        refine rn_ge (a := vN v) (b := vN v) (tgt := 79) C (by omega) (by omega) (dx dX1_run 32 rfl) (by decide) (fun c7 => ?_) (fun c7 => ?_)
                        · first
                          | (omega; done)
                          | (
                              have c7 : vN v ≤ vN v := c7
                              refine r_iconst (v := nI 0) C (dx dX1_run 43 rfl) rfl ?_
                              refine r_istore_n (ls' := [(0, vr 1 k), (1, vr 5 kv), (2, vi (nI 0))]) C (dx dX1_run 44 rfl) (by decide) [1, 2, 0] rfl ?_
                              refine loopU (Φ := fun p => ∀ h9, SInv h9 k → (xL h9 k 5 = -1) → (∀ i, i < 16 → xL h9 (k + 12) i = prdL v i (vN v)) → (∀ i, i < vN v → xI h9 (k + 3) i = vF v 4 i) → (∀ i, i < p → xI h9 (k + 5) i = nI 0) → Fr k (k + 13) h h9 → xK h9 = xK h → Rr G 81 [(0, vr 1 k), (1, vr 5 kv), (2, vi (nI p))] [] h9) (N := vM v) ?_ ?_ 0 (Nat.zero_le _) _ sh6 m9h6 o9h6 r9h6 (fun i hi => absurd hi (by omega)) fh6 kh6
                              ·
                                intro h8 sh8 m9h8 o9h8 r9h8 w9h8 fh8 kh8
                                have wh8 : VilAt h8 kv v := hv.fr fh8 (by omega)
                                refine r_iload_n C (dx dX1_run 45 rfl) rfl ?_
                                refine r_aload_n C (dx dX1_run 46 rfl) rfl ?_
                                refine g_X1_52 (x := nI (vM v)) C (dx dX1_run 47 rfl) wh8.eM ?_
                                refine rn_ge (a := vM v) (b := vM v) (tgt := 104) C (by omega) (by omega) (dx dX1_run 48 rfl) (by decide) (fun c9 => ?_) (fun c9 => ?_)
                                · first
                                  | (omega; done)
                                  | (
                                      have c9 : vM v ≤ vM v := c9
                                      refine r_aload_n C (dx dX1_run 58 rfl) rfl ?_
                                      refine r_aload_n C (dx dX1_run 59 rfl) rfl ?_
                                      refine r_iconst (v := nI 0) C (dx dX1_run 60 rfl) rfl ?_
                                      have sc9 : ScP h8 k v (noF v) 0 (-1, xI h8 (k + 2)) := sc_0 sh8.2 m9h8 o9h8 r9h8 w9h8
                                      refine r_cs (as := [vr 1 k, vr 5 kv, vi (nI 0)]) (st := []) C X I_X1_choose l_X1_55 (s1_choose hd q6 q4 (vP v) _ 0 _ _ (by omega) wh8 sh8 (noF_ok v) sc9) (by omega) (Nat.le_of_ble_eq_true rfl) List.prefix_rfl (pfx_eq kh8) (Nat.le_of_ble_eq_true rfl) rfl (dx dX1_run 61 rfl) ?_
                                      intro rh10 h10 hph10 kkh10
                                      obtain ⟨rfl, sh10, ch10, gh10⟩ := hph10
                                      have fh10 : Fr k (k + 13) h h10 := fh8.tr gh10
                                      have kh10 : xK h10 = xK h := kkh10.trans kh8
                                      exact F.2.2.1 _ _ _ rfl (dx dX1_run 62 rfl) kh10 ⟨rfl, sh10, ⟨_, ch10⟩, fh10⟩)
                                · first
                                  | (omega; done)
                              ·
                                intro p hp ih h12 sh12 m9h12 o9h12 r9h12 w9h12 fh12 kh12
                                have wh12 : VilAt h12 kv v := hv.fr fh12 (by omega)
                                refine r_iload_n C (dx dX1_run 45 rfl) rfl ?_
                                refine r_aload_n C (dx dX1_run 46 rfl) rfl ?_
                                refine g_X1_52 (x := nI (vM v)) C (dx dX1_run 47 rfl) wh12.eM ?_
                                refine rn_ge (a := p) (b := vM v) (tgt := 104) C (by omega) (by omega) (dx dX1_run 48 rfl) (by decide) (fun c13 => ?_) (fun c13 => ?_)
                                · first
                                  | (omega; done)
                                  | (
                                      have c13 : vM v ≤ p := c13
                                      refine r_aload_n C (dx dX1_run 58 rfl) rfl ?_
                                      refine r_aload_n C (dx dX1_run 59 rfl) rfl ?_
                                      refine r_iconst (v := nI 0) C (dx dX1_run 60 rfl) rfl ?_
                                      have sc9 : ScP h12 k v (noF v) 0 (-1, xI h12 (k + 2)) := sc_0 sh12.2 m9h12 o9h12 r9h12 w9h12
                                      refine r_cs (as := [vr 1 k, vr 5 kv, vi (nI 0)]) (st := []) C X I_X1_choose l_X1_55 (s1_choose hd q6 q4 (vP v) _ 0 _ _ (by omega) wh12 sh12 (noF_ok v) sc9) (by omega) (Nat.le_of_ble_eq_true rfl) List.prefix_rfl (pfx_eq kh12) (Nat.le_of_ble_eq_true rfl) rfl (dx dX1_run 61 rfl) ?_
                                      intro rh14 h14 hph14 kkh14
                                      obtain ⟨rfl, sh14, ch14, gh14⟩ := hph14
                                      have fh14 : Fr k (k + 13) h h14 := fh12.tr gh14
                                      have kh14 : xK h14 = xK h := kkh14.trans kh12
                                      exact F.2.2.1 _ _ _ rfl (dx dX1_run 62 rfl) kh14 ⟨rfl, sh14, ⟨_, ch14⟩, fh14⟩)
                                · first
                                  | (omega; done)
                                  | (
                                      have c13 : p < vM v := c13
                                      refine r_aload_n C (dx dX1_run 49 rfl) rfl ?_
                                      refine g_X1_23 C (dx dX1_run 50 rfl) ?_
                                      refine r_iconst (v := nI 0) C (dx dX1_run 51 rfl) rfl ?_
                                      refine r_aald4 (j := 0) C rfl rfl (by decide) rfl (by omega) (dx dX1_run 52 rfl) ?_
                                      refine r_iload_n C (dx dX1_run 53 rfl) rfl ?_
                                      refine r_iconst (v := nI 0) C (dx dX1_run 54 rfl) rfl ?_
                                      refine r_iast (j := p) C rfl rfl (by decide) rfl (by omega) (dx dX1_run 55 rfl) ?_
                                      have sh15 : SInv (sI h12 (k + 5) p (nI 0)) k := sh12.st (q := 0) ⟨0, by omega, rfl⟩
                                      have m9h15 : xL (sI h12 (k + 5) p (nI 0)) k 5 = -1 := m9h12
                                      have o9h15 : ∀ i, i < 16 → xL (sI h12 (k + 5) p (nI 0)) (k + 12) i = prdL v i (vN v) := o9h12
                                      have r9h15 : ∀ i, i < vN v → xI (sI h12 (k + 5) p (nI 0)) (k + 3) i = vF v 4 i := (fun i hi => by rw [sI_ne (by omega)]; exact r9h12 i hi)
                                      have w9h15 : ∀ i, i < p + 1 → xI (sI h12 (k + 5) p (nI 0)) (k + 5) i = nI 0 := (fun i hi => by rw [sI_at]; by_cases e : i = p; (rw [if_pos e]); (rw [if_neg e]; exact w9h12 i (by omega)))
                                      have fh15 : Fr k (k + 13) h (sI h12 (k + 5) p (nI 0)) := fh12.tr (Fr.sI (by omega) (by omega))
                                      have kh15 : xK (sI h12 (k + 5) p (nI 0)) = xK h := kh12
                                      have wh15 : VilAt (sI h12 (k + 5) p (nI 0)) kv v := hv.fr fh15 (by omega)
                                      generalize sI h12 (k + 5) p (nI 0) = h15 at sh15 fh15 kh15 wh15 m9h15 o9h15 r9h15 w9h15 ⊢
                                      refine rn_iinc (a := p) (k := 1) (ls' := [(0, vr 1 k), (1, vr 5 kv), (2, vi (nI (p + 1)))]) C (dx dX1_run 56 rfl) rfl rfl (by decide) [1, 2, 0] rfl ?_
                                      refine r_goto (tgt := 81) C (dx dX1_run 57 rfl) (by decide) ?_
                                      exact ih _ sh15 m9h15 o9h15 r9h15 w9h15 fh15 kh15))
                        · first
                          | (omega; done)
                      ·
                        intro p hp ih h17 sh17 m9h17 o9h17 r9h17 fh17 kh17
                        have wh17 : VilAt h17 kv v := hv.fr fh17 (by omega)
                        refine r_iload_n C (dx dX1_run 29 rfl) rfl ?_
                        refine r_aload_n C (dx dX1_run 30 rfl) rfl ?_
                        refine g_X1_36 (x := nI (vN v)) C (dx dX1_run 31 rfl) wh17.eN ?_
                        refine rn_ge (a := p) (b := vN v) (tgt := 79) C (by omega) (by omega) (dx dX1_run 32 rfl) (by decide) (fun c18 => ?_) (fun c18 => ?_)
                        · first
                          | (omega; done)
                          | (
                              have c18 : vN v ≤ p := c18
                              refine r_iconst (v := nI 0) C (dx dX1_run 43 rfl) rfl ?_
                              refine r_istore_n (ls' := [(0, vr 1 k), (1, vr 5 kv), (2, vi (nI 0))]) C (dx dX1_run 44 rfl) (by decide) [1, 2, 0] rfl ?_
                              refine loopU (Φ := fun p => ∀ h9, SInv h9 k → (xL h9 k 5 = -1) → (∀ i, i < 16 → xL h9 (k + 12) i = prdL v i (vN v)) → (∀ i, i < p → xI h9 (k + 3) i = vF v 4 i) → (∀ i, i < p → xI h9 (k + 5) i = nI 0) → Fr k (k + 13) h h9 → xK h9 = xK h → Rr G 81 [(0, vr 1 k), (1, vr 5 kv), (2, vi (nI p))] [] h9) (N := vM v) ?_ ?_ 0 (Nat.zero_le _) _ sh17 m9h17 o9h17 r9h17 (fun i hi => absurd hi (by omega)) fh17 kh17
                              ·
                                intro h19 sh19 m9h19 o9h19 r9h19 w9h19 fh19 kh19
                                have wh19 : VilAt h19 kv v := hv.fr fh19 (by omega)
                                refine r_iload_n C (dx dX1_run 45 rfl) rfl ?_
                                refine r_aload_n C (dx dX1_run 46 rfl) rfl ?_
                                refine g_X1_52 (x := nI (vM v)) C (dx dX1_run 47 rfl) wh19.eM ?_
                                refine rn_ge (a := vM v) (b := vM v) (tgt := 104) C (by omega) (by omega) (dx dX1_run 48 rfl) (by decide) (fun c20 => ?_) (fun c20 => ?_)
                                · first
                                  | (omega; done)
                                  | (
                                      have c20 : vM v ≤ vM v := c20
                                      refine r_aload_n C (dx dX1_run 58 rfl) rfl ?_
                                      refine r_aload_n C (dx dX1_run 59 rfl) rfl ?_
                                      refine r_iconst (v := nI 0) C (dx dX1_run 60 rfl) rfl ?_
                                      have sc9 : ScP h19 k v (noF v) 0 (-1, xI h19 (k + 2)) := sc_0 sh19.2 m9h19 o9h19 r9h19 w9h19
                                      refine r_cs (as := [vr 1 k, vr 5 kv, vi (nI 0)]) (st := []) C X I_X1_choose l_X1_55 (s1_choose hd q6 q4 (vP v) _ 0 _ _ (by omega) wh19 sh19 (noF_ok v) sc9) (by omega) (Nat.le_of_ble_eq_true rfl) List.prefix_rfl (pfx_eq kh19) (Nat.le_of_ble_eq_true rfl) rfl (dx dX1_run 61 rfl) ?_
                                      intro rh21 h21 hph21 kkh21
                                      obtain ⟨rfl, sh21, ch21, gh21⟩ := hph21
                                      have fh21 : Fr k (k + 13) h h21 := fh19.tr gh21
                                      have kh21 : xK h21 = xK h := kkh21.trans kh19
                                      exact F.2.2.1 _ _ _ rfl (dx dX1_run 62 rfl) kh21 ⟨rfl, sh21, ⟨_, ch21⟩, fh21⟩)
                                · first
                                  | (omega; done)
                              ·
                                intro p hp ih h23 sh23 m9h23 o9h23 r9h23 w9h23 fh23 kh23
                                have wh23 : VilAt h23 kv v := hv.fr fh23 (by omega)
                                refine r_iload_n C (dx dX1_run 45 rfl) rfl ?_
                                refine r_aload_n C (dx dX1_run 46 rfl) rfl ?_
                                refine g_X1_52 (x := nI (vM v)) C (dx dX1_run 47 rfl) wh23.eM ?_
                                refine rn_ge (a := p) (b := vM v) (tgt := 104) C (by omega) (by omega) (dx dX1_run 48 rfl) (by decide) (fun c24 => ?_) (fun c24 => ?_)
                                · first
                                  | (omega; done)
                                  | (
                                      have c24 : vM v ≤ p := c24
                                      refine r_aload_n C (dx dX1_run 58 rfl) rfl ?_
                                      refine r_aload_n C (dx dX1_run 59 rfl) rfl ?_
                                      refine r_iconst (v := nI 0) C (dx dX1_run 60 rfl) rfl ?_
                                      have sc9 : ScP h23 k v (noF v) 0 (-1, xI h23 (k + 2)) := sc_0 sh23.2 m9h23 o9h23 r9h23 w9h23
                                      refine r_cs (as := [vr 1 k, vr 5 kv, vi (nI 0)]) (st := []) C X I_X1_choose l_X1_55 (s1_choose hd q6 q4 (vP v) _ 0 _ _ (by omega) wh23 sh23 (noF_ok v) sc9) (by omega) (Nat.le_of_ble_eq_true rfl) List.prefix_rfl (pfx_eq kh23) (Nat.le_of_ble_eq_true rfl) rfl (dx dX1_run 61 rfl) ?_
                                      intro rh25 h25 hph25 kkh25
                                      obtain ⟨rfl, sh25, ch25, gh25⟩ := hph25
                                      have fh25 : Fr k (k + 13) h h25 := fh23.tr gh25
                                      have kh25 : xK h25 = xK h := kkh25.trans kh23
                                      exact F.2.2.1 _ _ _ rfl (dx dX1_run 62 rfl) kh25 ⟨rfl, sh25, ⟨_, ch25⟩, fh25⟩)
                                · first
                                  | (omega; done)
                                  | (
                                      have c24 : p < vM v := c24
                                      refine r_aload_n C (dx dX1_run 49 rfl) rfl ?_
                                      refine g_X1_23 C (dx dX1_run 50 rfl) ?_
                                      refine r_iconst (v := nI 0) C (dx dX1_run 51 rfl) rfl ?_
                                      refine r_aald4 (j := 0) C rfl rfl (by decide) rfl (by omega) (dx dX1_run 52 rfl) ?_
                                      refine r_iload_n C (dx dX1_run 53 rfl) rfl ?_
                                      refine r_iconst (v := nI 0) C (dx dX1_run 54 rfl) rfl ?_
                                      refine r_iast (j := p) C rfl rfl (by decide) rfl (by omega) (dx dX1_run 55 rfl) ?_
                                      have sh26 : SInv (sI h23 (k + 5) p (nI 0)) k := sh23.st (q := 0) ⟨0, by omega, rfl⟩
                                      have m9h26 : xL (sI h23 (k + 5) p (nI 0)) k 5 = -1 := m9h23
                                      have o9h26 : ∀ i, i < 16 → xL (sI h23 (k + 5) p (nI 0)) (k + 12) i = prdL v i (vN v) := o9h23
                                      have r9h26 : ∀ i, i < p → xI (sI h23 (k + 5) p (nI 0)) (k + 3) i = vF v 4 i := (fun i hi => by rw [sI_ne (by omega)]; exact r9h23 i hi)
                                      have w9h26 : ∀ i, i < p + 1 → xI (sI h23 (k + 5) p (nI 0)) (k + 5) i = nI 0 := (fun i hi => by rw [sI_at]; by_cases e : i = p; (rw [if_pos e]); (rw [if_neg e]; exact w9h23 i (by omega)))
                                      have fh26 : Fr k (k + 13) h (sI h23 (k + 5) p (nI 0)) := fh23.tr (Fr.sI (by omega) (by omega))
                                      have kh26 : xK (sI h23 (k + 5) p (nI 0)) = xK h := kh23
                                      have wh26 : VilAt (sI h23 (k + 5) p (nI 0)) kv v := hv.fr fh26 (by omega)
                                      generalize sI h23 (k + 5) p (nI 0) = h26 at sh26 fh26 kh26 wh26 m9h26 o9h26 r9h26 w9h26 ⊢
                                      refine rn_iinc (a := p) (k := 1) (ls' := [(0, vr 1 k), (1, vr 5 kv), (2, vi (nI (p + 1)))]) C (dx dX1_run 56 rfl) rfl rfl (by decide) [1, 2, 0] rfl ?_
                                      refine r_goto (tgt := 81) C (dx dX1_run 57 rfl) (by decide) ?_
                                      exact ih _ sh26 m9h26 o9h26 r9h26 w9h26 fh26 kh26))
                        · first
                          | (omega; done)
                          | (
                              have c18 : p < vN v := c18
                              refine r_aload_n C (dx dX1_run 33 rfl) rfl ?_
                              refine g_X1_18 C (dx dX1_run 34 rfl) ?_
                              refine r_iload_n C (dx dX1_run 35 rfl) rfl ?_
                              refine r_aload_n C (dx dX1_run 36 rfl) rfl ?_
                              refine g_X1_49 C (dx dX1_run 37 rfl) ?_
                              refine r_iload_n C (dx dX1_run 38 rfl) rfl ?_
                              refine r_iald (j := p) (x := vF v 4 p) C rfl rfl (by decide) rfl (by omega) (dx dX1_run 39 rfl) (wh17.e4 (by omega)) ?_
                              refine r_iast (j := p) C rfl rfl (by decide) rfl (by omega) (dx dX1_run 40 rfl) ?_
                              have sh27 : SInv (sI h17 (k + 3) p (vF v 4 p)) k := sh17.fr (Fr.sI (lo := k + 3) (hi := k + 4) (by omega) (by omega)) (by omega)
                              have m9h27 : xL (sI h17 (k + 3) p (vF v 4 p)) k 5 = -1 := m9h17
                              have o9h27 : ∀ i, i < 16 → xL (sI h17 (k + 3) p (vF v 4 p)) (k + 12) i = prdL v i (vN v) := o9h17
                              have r9h27 : ∀ i, i < p + 1 → xI (sI h17 (k + 3) p (vF v 4 p)) (k + 3) i = vF v 4 i := (fun i hi => by rw [sI_at]; by_cases e : i = p; (rw [if_pos e, e]); (rw [if_neg e]; exact r9h17 i (by omega)))
                              have fh27 : Fr k (k + 13) h (sI h17 (k + 3) p (vF v 4 p)) := fh17.tr (Fr.sI (by omega) (by omega))
                              have kh27 : xK (sI h17 (k + 3) p (vF v 4 p)) = xK h := kh17
                              have wh27 : VilAt (sI h17 (k + 3) p (vF v 4 p)) kv v := hv.fr fh27 (by omega)
                              generalize sI h17 (k + 3) p (vF v 4 p) = h27 at sh27 fh27 kh27 wh27 m9h27 o9h27 r9h27 ⊢
                              refine rn_iinc (a := p) (k := 1) (ls' := [(0, vr 1 k), (1, vr 5 kv), (2, vi (nI (p + 1)))]) C (dx dX1_run 41 rfl) rfl rfl (by decide) [1, 2, 0] rfl ?_
                              refine r_goto (tgt := 53) C (dx dX1_run 42 rfl) (by decide) ?_
                              exact ih _ sh27 m9h27 o9h27 r9h27 fh27 kh27))
                · first
                  | (omega; done)
              ·
                intro p hp ih h29 sh29 m9h29 o9h29 fh29 kh29
                have wh29 : VilAt h29 kv v := hv.fr fh29 (by omega)
                refine r_iload_n C (dx dX1_run 14 rfl) rfl ?_
                refine r_bipush (v := nI 16) C (dx dX1_run 15 rfl) rfl ?_
                refine rn_ge (a := p) (b := 16) (tgt := 51) C (by omega) (by omega) (dx dX1_run 16 rfl) (by decide) (fun c30 => ?_) (fun c30 => ?_)
                · first
                  | (omega; done)
                  | (
                      have c30 : 16 ≤ p := c30
                      refine r_iconst (v := nI 0) C (dx dX1_run 27 rfl) rfl ?_
                      refine r_istore_n (ls' := [(0, vr 1 k), (1, vr 5 kv), (2, vi (nI 0))]) C (dx dX1_run 28 rfl) (by decide) [1, 2, 0] rfl ?_
                      refine loopU (Φ := fun p => ∀ h9, SInv h9 k → (xL h9 k 5 = -1) → (∀ i, i < p → xL h9 (k + 12) i = prdL v i (vN v)) → (∀ i, i < p → xI h9 (k + 3) i = vF v 4 i) → Fr k (k + 13) h h9 → xK h9 = xK h → Rr G 53 [(0, vr 1 k), (1, vr 5 kv), (2, vi (nI p))] [] h9) (N := vN v) ?_ ?_ 0 (Nat.zero_le _) _ sh29 m9h29 o9h29 (fun i hi => absurd hi (by omega)) fh29 kh29
                      ·
                        intro h31 sh31 m9h31 o9h31 r9h31 fh31 kh31
                        have wh31 : VilAt h31 kv v := hv.fr fh31 (by omega)
                        refine r_iload_n C (dx dX1_run 29 rfl) rfl ?_
                        refine r_aload_n C (dx dX1_run 30 rfl) rfl ?_
                        refine g_X1_36 (x := nI (vN v)) C (dx dX1_run 31 rfl) wh31.eN ?_
                        refine rn_ge (a := vN v) (b := vN v) (tgt := 79) C (by omega) (by omega) (dx dX1_run 32 rfl) (by decide) (fun c32 => ?_) (fun c32 => ?_)
                        · first
                          | (omega; done)
                          | (
                              have c32 : vN v ≤ vN v := c32
                              refine r_iconst (v := nI 0) C (dx dX1_run 43 rfl) rfl ?_
                              refine r_istore_n (ls' := [(0, vr 1 k), (1, vr 5 kv), (2, vi (nI 0))]) C (dx dX1_run 44 rfl) (by decide) [1, 2, 0] rfl ?_
                              refine loopU (Φ := fun p => ∀ h9, SInv h9 k → (xL h9 k 5 = -1) → (∀ i, i < p → xL h9 (k + 12) i = prdL v i (vN v)) → (∀ i, i < vN v → xI h9 (k + 3) i = vF v 4 i) → (∀ i, i < p → xI h9 (k + 5) i = nI 0) → Fr k (k + 13) h h9 → xK h9 = xK h → Rr G 81 [(0, vr 1 k), (1, vr 5 kv), (2, vi (nI p))] [] h9) (N := vM v) ?_ ?_ 0 (Nat.zero_le _) _ sh31 m9h31 o9h31 r9h31 (fun i hi => absurd hi (by omega)) fh31 kh31
                              ·
                                intro h33 sh33 m9h33 o9h33 r9h33 w9h33 fh33 kh33
                                have wh33 : VilAt h33 kv v := hv.fr fh33 (by omega)
                                refine r_iload_n C (dx dX1_run 45 rfl) rfl ?_
                                refine r_aload_n C (dx dX1_run 46 rfl) rfl ?_
                                refine g_X1_52 (x := nI (vM v)) C (dx dX1_run 47 rfl) wh33.eM ?_
                                refine rn_ge (a := vM v) (b := vM v) (tgt := 104) C (by omega) (by omega) (dx dX1_run 48 rfl) (by decide) (fun c34 => ?_) (fun c34 => ?_)
                                · first
                                  | (omega; done)
                                  | (
                                      have c34 : vM v ≤ vM v := c34
                                      refine r_aload_n C (dx dX1_run 58 rfl) rfl ?_
                                      refine r_aload_n C (dx dX1_run 59 rfl) rfl ?_
                                      refine r_iconst (v := nI 0) C (dx dX1_run 60 rfl) rfl ?_
                                      have sc9 : ScP h33 k v (noF v) 0 (-1, xI h33 (k + 2)) := sc_0 sh33.2 m9h33 o9h33 r9h33 w9h33
                                      refine r_cs (as := [vr 1 k, vr 5 kv, vi (nI 0)]) (st := []) C X I_X1_choose l_X1_55 (s1_choose hd q6 q4 (vP v) _ 0 _ _ (by omega) wh33 sh33 (noF_ok v) sc9) (by omega) (Nat.le_of_ble_eq_true rfl) List.prefix_rfl (pfx_eq kh33) (Nat.le_of_ble_eq_true rfl) rfl (dx dX1_run 61 rfl) ?_
                                      intro rh35 h35 hph35 kkh35
                                      obtain ⟨rfl, sh35, ch35, gh35⟩ := hph35
                                      have fh35 : Fr k (k + 13) h h35 := fh33.tr gh35
                                      have kh35 : xK h35 = xK h := kkh35.trans kh33
                                      exact F.2.2.1 _ _ _ rfl (dx dX1_run 62 rfl) kh35 ⟨rfl, sh35, ⟨_, ch35⟩, fh35⟩)
                                · first
                                  | (omega; done)
                              ·
                                intro p hp ih h37 sh37 m9h37 o9h37 r9h37 w9h37 fh37 kh37
                                have wh37 : VilAt h37 kv v := hv.fr fh37 (by omega)
                                refine r_iload_n C (dx dX1_run 45 rfl) rfl ?_
                                refine r_aload_n C (dx dX1_run 46 rfl) rfl ?_
                                refine g_X1_52 (x := nI (vM v)) C (dx dX1_run 47 rfl) wh37.eM ?_
                                refine rn_ge (a := p) (b := vM v) (tgt := 104) C (by omega) (by omega) (dx dX1_run 48 rfl) (by decide) (fun c38 => ?_) (fun c38 => ?_)
                                · first
                                  | (omega; done)
                                  | (
                                      have c38 : vM v ≤ p := c38
                                      refine r_aload_n C (dx dX1_run 58 rfl) rfl ?_
                                      refine r_aload_n C (dx dX1_run 59 rfl) rfl ?_
                                      refine r_iconst (v := nI 0) C (dx dX1_run 60 rfl) rfl ?_
                                      have sc9 : ScP h37 k v (noF v) 0 (-1, xI h37 (k + 2)) := sc_0 sh37.2 m9h37 o9h37 r9h37 w9h37
                                      refine r_cs (as := [vr 1 k, vr 5 kv, vi (nI 0)]) (st := []) C X I_X1_choose l_X1_55 (s1_choose hd q6 q4 (vP v) _ 0 _ _ (by omega) wh37 sh37 (noF_ok v) sc9) (by omega) (Nat.le_of_ble_eq_true rfl) List.prefix_rfl (pfx_eq kh37) (Nat.le_of_ble_eq_true rfl) rfl (dx dX1_run 61 rfl) ?_
                                      intro rh39 h39 hph39 kkh39
                                      obtain ⟨rfl, sh39, ch39, gh39⟩ := hph39
                                      have fh39 : Fr k (k + 13) h h39 := fh37.tr gh39
                                      have kh39 : xK h39 = xK h := kkh39.trans kh37
                                      exact F.2.2.1 _ _ _ rfl (dx dX1_run 62 rfl) kh39 ⟨rfl, sh39, ⟨_, ch39⟩, fh39⟩)
                                · first
                                  | (omega; done)
                                  | (
                                      have c38 : p < vM v := c38
                                      refine r_aload_n C (dx dX1_run 49 rfl) rfl ?_
                                      refine g_X1_23 C (dx dX1_run 50 rfl) ?_
                                      refine r_iconst (v := nI 0) C (dx dX1_run 51 rfl) rfl ?_
                                      refine r_aald4 (j := 0) C rfl rfl (by decide) rfl (by omega) (dx dX1_run 52 rfl) ?_
                                      refine r_iload_n C (dx dX1_run 53 rfl) rfl ?_
                                      refine r_iconst (v := nI 0) C (dx dX1_run 54 rfl) rfl ?_
                                      refine r_iast (j := p) C rfl rfl (by decide) rfl (by omega) (dx dX1_run 55 rfl) ?_
                                      have sh40 : SInv (sI h37 (k + 5) p (nI 0)) k := sh37.st (q := 0) ⟨0, by omega, rfl⟩
                                      have m9h40 : xL (sI h37 (k + 5) p (nI 0)) k 5 = -1 := m9h37
                                      have o9h40 : ∀ i, i < p → xL (sI h37 (k + 5) p (nI 0)) (k + 12) i = prdL v i (vN v) := o9h37
                                      have r9h40 : ∀ i, i < vN v → xI (sI h37 (k + 5) p (nI 0)) (k + 3) i = vF v 4 i := (fun i hi => by rw [sI_ne (by omega)]; exact r9h37 i hi)
                                      have w9h40 : ∀ i, i < p + 1 → xI (sI h37 (k + 5) p (nI 0)) (k + 5) i = nI 0 := (fun i hi => by rw [sI_at]; by_cases e : i = p; (rw [if_pos e]); (rw [if_neg e]; exact w9h37 i (by omega)))
                                      have fh40 : Fr k (k + 13) h (sI h37 (k + 5) p (nI 0)) := fh37.tr (Fr.sI (by omega) (by omega))
                                      have kh40 : xK (sI h37 (k + 5) p (nI 0)) = xK h := kh37
                                      have wh40 : VilAt (sI h37 (k + 5) p (nI 0)) kv v := hv.fr fh40 (by omega)
                                      generalize sI h37 (k + 5) p (nI 0) = h40 at sh40 fh40 kh40 wh40 m9h40 o9h40 r9h40 w9h40 ⊢
                                      refine rn_iinc (a := p) (k := 1) (ls' := [(0, vr 1 k), (1, vr 5 kv), (2, vi (nI (p + 1)))]) C (dx dX1_run 56 rfl) rfl rfl (by decide) [1, 2, 0] rfl ?_
                                      refine r_goto (tgt := 81) C (dx dX1_run 57 rfl) (by decide) ?_
                                      exact ih _ sh40 m9h40 o9h40 r9h40 w9h40 fh40 kh40))
                        · first
                          | (omega; done)
                      ·
                        intro p hp ih h42 sh42 m9h42 o9h42 r9h42 fh42 kh42
                        have wh42 : VilAt h42 kv v := hv.fr fh42 (by omega)
                        refine r_iload_n C (dx dX1_run 29 rfl) rfl ?_
                        refine r_aload_n C (dx dX1_run 30 rfl) rfl ?_
                        refine g_X1_36 (x := nI (vN v)) C (dx dX1_run 31 rfl) wh42.eN ?_
                        refine rn_ge (a := p) (b := vN v) (tgt := 79) C (by omega) (by omega) (dx dX1_run 32 rfl) (by decide) (fun c43 => ?_) (fun c43 => ?_)
                        · first
                          | (omega; done)
                          | (
                              have c43 : vN v ≤ p := c43
                              refine r_iconst (v := nI 0) C (dx dX1_run 43 rfl) rfl ?_
                              refine r_istore_n (ls' := [(0, vr 1 k), (1, vr 5 kv), (2, vi (nI 0))]) C (dx dX1_run 44 rfl) (by decide) [1, 2, 0] rfl ?_
                              refine loopU (Φ := fun p => ∀ h9, SInv h9 k → (xL h9 k 5 = -1) → (∀ i, i < p → xL h9 (k + 12) i = prdL v i (vN v)) → (∀ i, i < p → xI h9 (k + 3) i = vF v 4 i) → (∀ i, i < p → xI h9 (k + 5) i = nI 0) → Fr k (k + 13) h h9 → xK h9 = xK h → Rr G 81 [(0, vr 1 k), (1, vr 5 kv), (2, vi (nI p))] [] h9) (N := vM v) ?_ ?_ 0 (Nat.zero_le _) _ sh42 m9h42 o9h42 r9h42 (fun i hi => absurd hi (by omega)) fh42 kh42
                              ·
                                intro h44 sh44 m9h44 o9h44 r9h44 w9h44 fh44 kh44
                                have wh44 : VilAt h44 kv v := hv.fr fh44 (by omega)
                                refine r_iload_n C (dx dX1_run 45 rfl) rfl ?_
                                refine r_aload_n C (dx dX1_run 46 rfl) rfl ?_
                                refine g_X1_52 (x := nI (vM v)) C (dx dX1_run 47 rfl) wh44.eM ?_
                                refine rn_ge (a := vM v) (b := vM v) (tgt := 104) C (by omega) (by omega) (dx dX1_run 48 rfl) (by decide) (fun c45 => ?_) (fun c45 => ?_)
                                · first
                                  | (omega; done)
                                  | (
                                      have c45 : vM v ≤ vM v := c45
                                      refine r_aload_n C (dx dX1_run 58 rfl) rfl ?_
                                      refine r_aload_n C (dx dX1_run 59 rfl) rfl ?_
                                      refine r_iconst (v := nI 0) C (dx dX1_run 60 rfl) rfl ?_
                                      have sc9 : ScP h44 k v (noF v) 0 (-1, xI h44 (k + 2)) := sc_0 sh44.2 m9h44 o9h44 r9h44 w9h44
                                      refine r_cs (as := [vr 1 k, vr 5 kv, vi (nI 0)]) (st := []) C X I_X1_choose l_X1_55 (s1_choose hd q6 q4 (vP v) _ 0 _ _ (by omega) wh44 sh44 (noF_ok v) sc9) (by omega) (Nat.le_of_ble_eq_true rfl) List.prefix_rfl (pfx_eq kh44) (Nat.le_of_ble_eq_true rfl) rfl (dx dX1_run 61 rfl) ?_
                                      intro rh46 h46 hph46 kkh46
                                      obtain ⟨rfl, sh46, ch46, gh46⟩ := hph46
                                      have fh46 : Fr k (k + 13) h h46 := fh44.tr gh46
                                      have kh46 : xK h46 = xK h := kkh46.trans kh44
                                      exact F.2.2.1 _ _ _ rfl (dx dX1_run 62 rfl) kh46 ⟨rfl, sh46, ⟨_, ch46⟩, fh46⟩)
                                · first
                                  | (omega; done)
                              ·
                                intro p hp ih h48 sh48 m9h48 o9h48 r9h48 w9h48 fh48 kh48
                                have wh48 : VilAt h48 kv v := hv.fr fh48 (by omega)
                                refine r_iload_n C (dx dX1_run 45 rfl) rfl ?_
                                refine r_aload_n C (dx dX1_run 46 rfl) rfl ?_
                                refine g_X1_52 (x := nI (vM v)) C (dx dX1_run 47 rfl) wh48.eM ?_
                                refine rn_ge (a := p) (b := vM v) (tgt := 104) C (by omega) (by omega) (dx dX1_run 48 rfl) (by decide) (fun c49 => ?_) (fun c49 => ?_)
                                · first
                                  | (omega; done)
                                  | (
                                      have c49 : vM v ≤ p := c49
                                      refine r_aload_n C (dx dX1_run 58 rfl) rfl ?_
                                      refine r_aload_n C (dx dX1_run 59 rfl) rfl ?_
                                      refine r_iconst (v := nI 0) C (dx dX1_run 60 rfl) rfl ?_
                                      have sc9 : ScP h48 k v (noF v) 0 (-1, xI h48 (k + 2)) := sc_0 sh48.2 m9h48 o9h48 r9h48 w9h48
                                      refine r_cs (as := [vr 1 k, vr 5 kv, vi (nI 0)]) (st := []) C X I_X1_choose l_X1_55 (s1_choose hd q6 q4 (vP v) _ 0 _ _ (by omega) wh48 sh48 (noF_ok v) sc9) (by omega) (Nat.le_of_ble_eq_true rfl) List.prefix_rfl (pfx_eq kh48) (Nat.le_of_ble_eq_true rfl) rfl (dx dX1_run 61 rfl) ?_
                                      intro rh50 h50 hph50 kkh50
                                      obtain ⟨rfl, sh50, ch50, gh50⟩ := hph50
                                      have fh50 : Fr k (k + 13) h h50 := fh48.tr gh50
                                      have kh50 : xK h50 = xK h := kkh50.trans kh48
                                      exact F.2.2.1 _ _ _ rfl (dx dX1_run 62 rfl) kh50 ⟨rfl, sh50, ⟨_, ch50⟩, fh50⟩)
                                · first
                                  | (omega; done)
                                  | (
                                      have c49 : p < vM v := c49
                                      refine r_aload_n C (dx dX1_run 49 rfl) rfl ?_
                                      refine g_X1_23 C (dx dX1_run 50 rfl) ?_
                                      refine r_iconst (v := nI 0) C (dx dX1_run 51 rfl) rfl ?_
                                      refine r_aald4 (j := 0) C rfl rfl (by decide) rfl (by omega) (dx dX1_run 52 rfl) ?_
                                      refine r_iload_n C (dx dX1_run 53 rfl) rfl ?_
                                      refine r_iconst (v := nI 0) C (dx dX1_run 54 rfl) rfl ?_
                                      refine r_iast (j := p) C rfl rfl (by decide) rfl (by omega) (dx dX1_run 55 rfl) ?_
                                      have sh51 : SInv (sI h48 (k + 5) p (nI 0)) k := sh48.st (q := 0) ⟨0, by omega, rfl⟩
                                      have m9h51 : xL (sI h48 (k + 5) p (nI 0)) k 5 = -1 := m9h48
                                      have o9h51 : ∀ i, i < p → xL (sI h48 (k + 5) p (nI 0)) (k + 12) i = prdL v i (vN v) := o9h48
                                      have r9h51 : ∀ i, i < p → xI (sI h48 (k + 5) p (nI 0)) (k + 3) i = vF v 4 i := (fun i hi => by rw [sI_ne (by omega)]; exact r9h48 i hi)
                                      have w9h51 : ∀ i, i < p + 1 → xI (sI h48 (k + 5) p (nI 0)) (k + 5) i = nI 0 := (fun i hi => by rw [sI_at]; by_cases e : i = p; (rw [if_pos e]); (rw [if_neg e]; exact w9h48 i (by omega)))
                                      have fh51 : Fr k (k + 13) h (sI h48 (k + 5) p (nI 0)) := fh48.tr (Fr.sI (by omega) (by omega))
                                      have kh51 : xK (sI h48 (k + 5) p (nI 0)) = xK h := kh48
                                      have wh51 : VilAt (sI h48 (k + 5) p (nI 0)) kv v := hv.fr fh51 (by omega)
                                      generalize sI h48 (k + 5) p (nI 0) = h51 at sh51 fh51 kh51 wh51 m9h51 o9h51 r9h51 w9h51 ⊢
                                      refine rn_iinc (a := p) (k := 1) (ls' := [(0, vr 1 k), (1, vr 5 kv), (2, vi (nI (p + 1)))]) C (dx dX1_run 56 rfl) rfl rfl (by decide) [1, 2, 0] rfl ?_
                                      refine r_goto (tgt := 81) C (dx dX1_run 57 rfl) (by decide) ?_
                                      exact ih _ sh51 m9h51 o9h51 r9h51 w9h51 fh51 kh51))
                        · first
                          | (omega; done)
                          | (
                              have c43 : p < vN v := c43
                              refine r_aload_n C (dx dX1_run 33 rfl) rfl ?_
                              refine g_X1_18 C (dx dX1_run 34 rfl) ?_
                              refine r_iload_n C (dx dX1_run 35 rfl) rfl ?_
                              refine r_aload_n C (dx dX1_run 36 rfl) rfl ?_
                              refine g_X1_49 C (dx dX1_run 37 rfl) ?_
                              refine r_iload_n C (dx dX1_run 38 rfl) rfl ?_
                              refine r_iald (j := p) (x := vF v 4 p) C rfl rfl (by decide) rfl (by omega) (dx dX1_run 39 rfl) (wh42.e4 (by omega)) ?_
                              refine r_iast (j := p) C rfl rfl (by decide) rfl (by omega) (dx dX1_run 40 rfl) ?_
                              have sh52 : SInv (sI h42 (k + 3) p (vF v 4 p)) k := sh42.fr (Fr.sI (lo := k + 3) (hi := k + 4) (by omega) (by omega)) (by omega)
                              have m9h52 : xL (sI h42 (k + 3) p (vF v 4 p)) k 5 = -1 := m9h42
                              have o9h52 : ∀ i, i < p → xL (sI h42 (k + 3) p (vF v 4 p)) (k + 12) i = prdL v i (vN v) := o9h42
                              have r9h52 : ∀ i, i < p + 1 → xI (sI h42 (k + 3) p (vF v 4 p)) (k + 3) i = vF v 4 i := (fun i hi => by rw [sI_at]; by_cases e : i = p; (rw [if_pos e, e]); (rw [if_neg e]; exact r9h42 i (by omega)))
                              have fh52 : Fr k (k + 13) h (sI h42 (k + 3) p (vF v 4 p)) := fh42.tr (Fr.sI (by omega) (by omega))
                              have kh52 : xK (sI h42 (k + 3) p (vF v 4 p)) = xK h := kh42
                              have wh52 : VilAt (sI h42 (k + 3) p (vF v 4 p)) kv v := hv.fr fh52 (by omega)
                              generalize sI h42 (k + 3) p (vF v 4 p) = h52 at sh52 fh52 kh52 wh52 m9h52 o9h52 r9h52 ⊢
                              refine rn_iinc (a := p) (k := 1) (ls' := [(0, vr 1 k), (1, vr 5 kv), (2, vi (nI (p + 1)))]) C (dx dX1_run 41 rfl) rfl rfl (by decide) [1, 2, 0] rfl ?_
                              refine r_goto (tgt := 53) C (dx dX1_run 42 rfl) (by decide) ?_
                              exact ih _ sh52 m9h52 o9h52 r9h52 fh52 kh52))
                · first
                  | (omega; done)
                  | (
                      have c30 : p < 16 := c30
                      refine r_aload_n C (dx dX1_run 17 rfl) rfl ?_
                      refine g_X1_26 C (dx dX1_run 18 rfl) ?_
                      refine r_iload_n C (dx dX1_run 19 rfl) rfl ?_
                      refine r_aload_n C (dx dX1_run 20 rfl) rfl ?_
                      refine r_aload_n C (dx dX1_run 21 rfl) rfl ?_
                      refine r_iload_n C (dx dX1_run 22 rfl) rfl ?_
                      refine r_cvP (as := [vr 5 kv, vi (nI p)]) (st := [vi (nI p), vr 28 (k + 12)]) (v := vl (prdL v p (vN v))) C X I_X1_oddsThatAllCome l_X1_45 (c_X1_oddsThatAllCome wh29 sh29 hd p) (by omega) (Nat.le_of_ble_eq_true rfl) (pfx_eq kh29) rfl rfl (Nat.le_of_ble_eq_true rfl) rfl (dx dX1_run 23 rfl) ?_
                      refine r_last (j := p) C rfl rfl (by decide) rfl (by omega) (dx dX1_run 24 rfl) ?_
                      have sh53 : SInv (sL h29 (k + 12) p (prdL v p (vN v))) k := sh29.od (by omega)
                      have m9h53 : xL (sL h29 (k + 12) p (prdL v p (vN v))) k 5 = -1 := (by rw [sL_ne (by omega)]; exact m9h29)
                      have o9h53 : ∀ i, i < p + 1 → xL (sL h29 (k + 12) p (prdL v p (vN v))) (k + 12) i = prdL v i (vN v) := (fun i hi => by rw [sL_at]; by_cases e : i = p; (rw [if_pos e, e]); (rw [if_neg e]; exact o9h29 i (by omega)))
                      have fh53 : Fr k (k + 13) h (sL h29 (k + 12) p (prdL v p (vN v))) := fh29.tr (Fr.sL (by omega) (by omega))
                      have kh53 : xK (sL h29 (k + 12) p (prdL v p (vN v))) = xK h := kh29
                      have wh53 : VilAt (sL h29 (k + 12) p (prdL v p (vN v))) kv v := hv.fr fh53 (by omega)
                      generalize sL h29 (k + 12) p (prdL v p (vN v)) = h53 at sh53 fh53 kh53 wh53 m9h53 o9h53 ⊢
                      refine rn_iinc (a := p) (k := 1) (ls' := [(0, vr 1 k), (1, vr 5 kv), (2, vi (nI (p + 1)))]) C (dx dX1_run 25 rfl) rfl rfl (by decide) [1, 2, 0] rfl ?_
                      refine r_goto (tgt := 27) C (dx dX1_run 26 rfl) (by decide) ?_
                      exact ih _ sh53 m9h53 o9h53 fh53 kh53))
        · omega)

