/-! PART 24: the reference: what its cells hold; what only reads -/
/-- the village in the reference's cells -/
def MilAt (h : Hp) (k : Nat) (v : Vg) : Prop :=
  xI h k 10 = nI (vP v) ∧ xI h k 13 = nI (vM v) ∧ xI h k 16 = nI (vN v) ∧ xI h k 20 = vS v ∧
  (∀ i, i < 12 → xI h (k + 18) i = vF v 0 i) ∧ (∀ i, i < 12 → xI h (k + 19) i = vF v 1 i) ∧ (∀ i, i < 6 → xI h (k + 20) i = vF v 2 i) ∧ (∀ i, i < 6 → xI h (k + 21) i = vF v 3 i) ∧
  (∀ o, o < 8 → ∀ c, c < 4 → xI h (k + 23 + o) c = vF v (4 + c) o) ∧ vP v ≤ 12 ∧ vM v ≤ 6 ∧ vN v ≤ 8
section MA
variable {h h1 : Hp} {k i : Nat} {v : Vg} {P : Nat → Prop}
theorem MilAt.eP (a : MilAt h k v) : xI h k 10 = nI (vP v) := a.1
theorem MilAt.eM (a : MilAt h k v) : xI h k 13 = nI (vM v) := a.2.1
theorem MilAt.eN (a : MilAt h k v) : xI h k 16 = nI (vN v) := a.2.2.1
theorem MilAt.eS (a : MilAt h k v) : xI h k 20 = vS v := a.2.2.2.1
theorem MilAt.e0 (a : MilAt h k v) (hi : i < 12) : xI h (k + 18) i = vF v 0 i := a.2.2.2.2.1 i hi
theorem MilAt.e1 (a : MilAt h k v) (hi : i < 12) : xI h (k + 19) i = vF v 1 i := a.2.2.2.2.2.1 i hi
theorem MilAt.e2 (a : MilAt h k v) (hi : i < 6) : xI h (k + 20) i = vF v 2 i := a.2.2.2.2.2.2.1 i hi
theorem MilAt.e3 (a : MilAt h k v) (hi : i < 6) : xI h (k + 21) i = vF v 3 i := a.2.2.2.2.2.2.2.1 i hi
theorem MilAt.eo (a : MilAt h k v) {o c : Nat} (ho : o < 8) (hc : c < 4) : xI h (k + 23 + o) c = vF v (4 + c) o := a.2.2.2.2.2.2.2.2.1 o ho c hc
theorem MilAt.bP (a : MilAt h k v) : vP v ≤ 12 := a.2.2.2.2.2.2.2.2.2.1
theorem MilAt.bM (a : MilAt h k v) : vM v ≤ 6 := a.2.2.2.2.2.2.2.2.2.2.1
theorem MilAt.bN (a : MilAt h k v) : vN v ≤ 8 := a.2.2.2.2.2.2.2.2.2.2.2
theorem MilAt.ag (a : MilAt h k v) (f : Fs P h h1) (q0 : ¬ P k) (q : un P (k + 18) (k + 31)) : MilAt h1 k v := by
  have e : ∀ b, k + 18 ≤ b → b < k + 31 → xI h1 b = xI h b := fun b h1 h2 => (f b (q b h1 h2)).1
  have e0 : xI h1 k = xI h k := (f k q0).1
  refine ⟨by rw [e0]; exact a.eP, by rw [e0]; exact a.eM, by rw [e0]; exact a.eN, by rw [e0]; exact a.eS, fun i hi => by rw [e _ (by omega) (by omega)]; exact a.e0 hi, fun i hi => by rw [e _ (by omega) (by omega)]; exact a.e1 hi, fun i hi => by rw [e _ (by omega) (by omega)]; exact a.e2 hi, fun i hi => by rw [e _ (by omega) (by omega)]; exact a.e3 hi, fun o ho c hc => by rw [e _ (by omega) (by omega)]; exact a.eo ho hc, a.bP, a.bM, a.bN⟩
theorem MilAt.fr {lo hi : Nat} (a : MilAt h k v) (f : Fr lo hi h h1) (q : (k < lo ∨ hi ≤ k) ∧ (k + 31 ≤ lo ∨ hi ≤ k + 18)) : MilAt h1 k v := a.ag f.fs (fun z => by omega) (fun b h1 h2 z => by omega)
theorem MilAt.s0 {x : Int32} (a : MilAt h k v) : MilAt (sI h (k + 18) i x) k (vset v 0 i x) :=
  ⟨by rw [sI_ne (by omega)]; exact a.eP, by rw [sI_ne (by omega)]; exact a.eM, by rw [sI_ne (by omega)]; exact a.eN, by rw [sI_ne (by omega)]; exact a.eS, fun j hj => by rw [sI_at, a.e0 hj]; simp [vset, vF], fun j hj => by rw [sI_ne (by omega), a.e1 hj]; simp [vset, vF], fun j hj => by rw [sI_ne (by omega), a.e2 hj]; simp [vset, vF], fun j hj => by rw [sI_ne (by omega), a.e3 hj]; simp [vset, vF], fun o ho c hc => by rw [sI_ne (by omega), a.eo ho hc]; simp [vset, vF, show ¬ 4 + c = 0 by omega], a.bP, a.bM, a.bN⟩
theorem MilAt.s1 {x : Int32} (a : MilAt h k v) : MilAt (sI h (k + 19) i x) k (vset v 1 i x) :=
  ⟨by rw [sI_ne (by omega)]; exact a.eP, by rw [sI_ne (by omega)]; exact a.eM, by rw [sI_ne (by omega)]; exact a.eN, by rw [sI_ne (by omega)]; exact a.eS, fun j hj => by rw [sI_ne (by omega), a.e0 hj]; simp [vset, vF], fun j hj => by rw [sI_at, a.e1 hj]; simp [vset, vF], fun j hj => by rw [sI_ne (by omega), a.e2 hj]; simp [vset, vF], fun j hj => by rw [sI_ne (by omega), a.e3 hj]; simp [vset, vF], fun o ho c hc => by rw [sI_ne (by omega), a.eo ho hc]; simp [vset, vF, show ¬ 4 + c = 1 by omega], a.bP, a.bM, a.bN⟩
theorem MilAt.s2 {x : Int32} (a : MilAt h k v) : MilAt (sI h (k + 20) i x) k (vset v 2 i x) :=
  ⟨by rw [sI_ne (by omega)]; exact a.eP, by rw [sI_ne (by omega)]; exact a.eM, by rw [sI_ne (by omega)]; exact a.eN, by rw [sI_ne (by omega)]; exact a.eS, fun j hj => by rw [sI_ne (by omega), a.e0 hj]; simp [vset, vF], fun j hj => by rw [sI_ne (by omega), a.e1 hj]; simp [vset, vF], fun j hj => by rw [sI_at, a.e2 hj]; simp [vset, vF], fun j hj => by rw [sI_ne (by omega), a.e3 hj]; simp [vset, vF], fun o ho c hc => by rw [sI_ne (by omega), a.eo ho hc]; simp [vset, vF, show ¬ 4 + c = 2 by omega], a.bP, a.bM, a.bN⟩
theorem MilAt.s3 {x : Int32} (a : MilAt h k v) : MilAt (sI h (k + 21) i x) k (vset v 3 i x) :=
  ⟨by rw [sI_ne (by omega)]; exact a.eP, by rw [sI_ne (by omega)]; exact a.eM, by rw [sI_ne (by omega)]; exact a.eN, by rw [sI_ne (by omega)]; exact a.eS, fun j hj => by rw [sI_ne (by omega), a.e0 hj]; simp [vset, vF], fun j hj => by rw [sI_ne (by omega), a.e1 hj]; simp [vset, vF], fun j hj => by rw [sI_ne (by omega), a.e2 hj]; simp [vset, vF], fun j hj => by rw [sI_at, a.e3 hj]; simp [vset, vF], fun o ho c hc => by rw [sI_ne (by omega), a.eo ho hc]; simp [vset, vF, show ¬ 4 + c = 3 by omega], a.bP, a.bM, a.bN⟩
theorem MilAt.so {x : Int32} {o c : Nat} (a : MilAt h k v) (ho : o < 8) (hc : c < 4) : MilAt (sI h (k + 23 + o) c x) k (vset v (4 + c) o x) :=
  ⟨by rw [sI_ne (by omega)]; exact a.eP, by rw [sI_ne (by omega)]; exact a.eM, by rw [sI_ne (by omega)]; exact a.eN, by rw [sI_ne (by omega)]; exact a.eS, fun j hj => by rw [sI_ne (by omega), a.e0 hj]; simp [vset, vF, show ¬ 0 = 4 + c by omega], fun j hj => by rw [sI_ne (by omega), a.e1 hj]; simp [vset, vF, show ¬ 1 = 4 + c by omega], fun j hj => by rw [sI_ne (by omega), a.e2 hj]; simp [vset, vF, show ¬ 2 = 4 + c by omega], fun j hj => by rw [sI_ne (by omega), a.e3 hj]; simp [vset, vF, show ¬ 3 = 4 + c by omega], fun o' ho' c' hc' => by
    by_cases q : o' = o
    · subst q; rw [sI_at, a.eo ho' hc']
      by_cases q2 : c' = c
      · subst q2; simp [vset, vF]
      · simp [vset, vF, q2]
    · rw [sI_ne (by omega), a.eo ho' hc']; simp [vset, vF, q], a.bP, a.bM, a.bN⟩
theorem MilAt.f {x : Int32} {j : Nat} (a : MilAt h k v) (h1 : j ≠ 10) (h2 : j ≠ 13) (h3 : j ≠ 16) (h4 : j ≠ 20) : MilAt (sI h k j x) k v :=
  ⟨by rw [sI_at, if_neg (Ne.symm h1)]; exact a.eP, by rw [sI_at, if_neg (Ne.symm h2)]; exact a.eM, by rw [sI_at, if_neg (Ne.symm h3)]; exact a.eN, by rw [sI_at, if_neg (Ne.symm h4)]; exact a.eS, fun j hj => by rw [sI_ne (by omega)]; exact a.e0 hj, fun j hj => by rw [sI_ne (by omega)]; exact a.e1 hj, fun j hj => by rw [sI_ne (by omega)]; exact a.e2 hj, fun j hj => by rw [sI_ne (by omega)]; exact a.e3 hj, fun o ho c hc => by rw [sI_ne (by omega)]; exact a.eo ho hc, a.bP, a.bM, a.bN⟩
theorem MilAt.sP {n : Nat} (a : MilAt h k v) (hn : n ≤ 12) : MilAt (sI h k 10 (nI n)) k (vsP v n) :=
  ⟨by rw [sI_at]; rfl, by rw [sI_at]; exact a.eM, by rw [sI_at]; exact a.eN, by rw [sI_at]; exact a.eS, fun j hj => by rw [sI_ne (by omega)]; exact a.e0 hj, fun j hj => by rw [sI_ne (by omega)]; exact a.e1 hj, fun j hj => by rw [sI_ne (by omega)]; exact a.e2 hj, fun j hj => by rw [sI_ne (by omega)]; exact a.e3 hj, fun o ho c hc => by rw [sI_ne (by omega)]; exact a.eo ho hc, hn, a.bM, a.bN⟩
theorem MilAt.sM {n : Nat} (a : MilAt h k v) (hn : n ≤ 6) : MilAt (sI h k 13 (nI n)) k (vsM v n) :=
  ⟨by rw [sI_at]; exact a.eP, by rw [sI_at]; rfl, by rw [sI_at]; exact a.eN, by rw [sI_at]; exact a.eS, fun j hj => by rw [sI_ne (by omega)]; exact a.e0 hj, fun j hj => by rw [sI_ne (by omega)]; exact a.e1 hj, fun j hj => by rw [sI_ne (by omega)]; exact a.e2 hj, fun j hj => by rw [sI_ne (by omega)]; exact a.e3 hj, fun o ho c hc => by rw [sI_ne (by omega)]; exact a.eo ho hc, a.bP, hn, a.bN⟩
theorem MilAt.sN {n : Nat} (a : MilAt h k v) (hn : n ≤ 8) : MilAt (sI h k 16 (nI n)) k (vsN v n) :=
  ⟨by rw [sI_at]; exact a.eP, by rw [sI_at]; exact a.eM, by rw [sI_at]; rfl, by rw [sI_at]; exact a.eS, fun j hj => by rw [sI_ne (by omega)]; exact a.e0 hj, fun j hj => by rw [sI_ne (by omega)]; exact a.e1 hj, fun j hj => by rw [sI_ne (by omega)]; exact a.e2 hj, fun j hj => by rw [sI_ne (by omega)]; exact a.e3 hj, fun o ho c hc => by rw [sI_ne (by omega)]; exact a.eo ho hc, a.bP, a.bM, hn⟩
theorem MilAt.sS {x : Int32} (a : MilAt h k v) : MilAt (sI h k 20 x) k (vsS v x) :=
  ⟨by rw [sI_at]; exact a.eP, by rw [sI_at]; exact a.eM, by rw [sI_at]; exact a.eN, by rw [sI_at]; rfl, fun j hj => by rw [sI_ne (by omega)]; exact a.e0 hj, fun j hj => by rw [sI_ne (by omega)]; exact a.e1 hj, fun j hj => by rw [sI_ne (by omega)]; exact a.e2 hj, fun j hj => by rw [sI_ne (by omega)]; exact a.e3 hj, fun o ho c hc => by rw [sI_ne (by omega)]; exact a.eo ho hc, a.bP, a.bM, a.bN⟩
end MA
section RW
variable {G : Gt} {cc : ByteArray} {nL pc : Nat} {own : String} {ls : List (Nat × V)} {st : List V} {h : Hp} {l : Launch} {d : Nat} {alX : List Nat} {y : MethodName} {cc' : ByteArray} {nL' d' index n : Nat} {ret : Option FieldType} {as : List V} {Q : Option V → Prop}
end RW
/-- between bounds -/
def inL (v lo hi : Int64) : Bool := decide (lo ≤ v) && decide (v ≤ hi)
def btwB (x : Int32) (a b : Nat) : Bool := decide (¬ x < nI a) && decide (¬ nI b < x)
theorem i64 {x y : Int32} : x.toInt64 ≤ y.toInt64 ↔ x ≤ y := by
  rw [Int64.le_iff_toInt_le, Int32.toInt_toInt64, Int32.toInt_toInt64, Int32.le_iff_toInt_le]
theorem inL_B {x : Int32} {a b : Nat} : inL x.toInt64 (nI a).toInt64 (nI b).toInt64 = btwB x a b := by
  unfold inL btwB
  rw [Bool.eq_iff_iff]
  simp only [Bool.and_eq_true, decide_eq_true_eq, i64, Int32.not_lt]
theorem btw_R {x : Int32} {b : Nat} (hb : b < 2 ^ 30) : btwB x 0 b = inR x (b + 1) := by
  rw [Bool.eq_iff_iff]
  unfold btwB
  simp only [Bool.and_eq_true, decide_eq_true_eq]
  constructor
  · rintro ⟨h0, h1⟩; exact inR_mid hb h0 h1
  · intro h
    obtain ⟨j, hj, rfl⟩ := inR_ex (by omega) h
    exact ⟨nI_pos (by omega), fun q => by have := (nI_ltI (by omega) (by omega)).mp q; omega⟩
theorem inL_N {x : Int32} {n : Nat} (hn : n < 2 ^ 30) : inL x.toInt64 0 (nI n - nI 1).toInt64 = inR x n := by
  rcases Nat.eq_zero_or_pos n with rfl | h
  · rw [Bool.eq_iff_iff]
    unfold inL inR
    simp only [Bool.and_eq_true, decide_eq_true_eq]
    rw [show (nI 0 - nI 1 : Int32).toInt64 = -1 by decide, Int64.le_iff_toInt_le, Int64.le_iff_toInt_le, show (0 : Int64).toInt = 0 by decide, show (-1 : Int64).toInt = -1 by decide]
    constructor <;> intro q <;> omega
  · rw [pk_sub (by omega), show (0 : Int64) = (nI 0).toInt64 by decide, inL_B, btw_R (by omega), show n - 1 + 1 = n by omega]
theorem inL_F {x : Int32} {n : Nat} (hn : n ≤ 12) : inL x.toInt64 0 (full n).toInt64 = inR x (2 ^ n) := by
  have := pow12 hn
  unfold full
  rw [show (0 : Int64) = (nI 0).toInt64 by decide, inL_B, btw_R (by omega), show 2 ^ n - 1 + 1 = 2 ^ n by omega]
set_option maxHeartbeats 4000000 in
theorem c_X7_in {l : Launch} {h : Hp} (x lo hi : Int64) : Mp l yX7_in cX7_in 6 (some .boolean) 1 [vl x, vl lo, vl hi] h (vi (b2i (inL x lo hi))) := by
  refine Ms.of (by decide) (Nat.le_of_ble_eq_true rfl) (fun G C X F => ?_)
  have C : Cx G cX7_in 6 RX7 := C
  show Rr G 0 [(0, vl x), (2, vl lo), (4, vl hi)] [] h
  refine r_lload_n C (dx dX7_in 0 rfl) rfl ?_
  refine r_lload_n C (dx dX7_in 1 rfl) rfl ?_
  refine r_lcmp C (dx dX7_in 2 rfl) ?_
  refine r_if_lt (tgt := 17) C (dx dX7_in 3 rfl) (by decide) (fun c1 => ?_) (fun c1 => ?_)
  ·
    have c1 : x < lo := (lg_cmp_lt _ _).mp c1
    refine r_iconst (v := nI 0) C (dx dX7_in 10 rfl) rfl ?_
    exact F.1 _ _ _ _ _ rfl rfl (dx dX7_in 11 rfl) rfl ⟨congrArg (fun x => some (vi x)) (show nI 0 = b2i _ by rw [show (inL x lo hi) = false by (unfold inL; first | (simp [Int64.not_le.mpr c1]; done) | (rw [decide_eq_true (Int64.not_lt.mp c1)]; simp [Int64.not_le.mpr c1]; done) | (rw [decide_eq_true (Int64.not_lt.mp c1), decide_eq_true (Int64.not_lt.mp c1)]; rfl))]; rfl), rfl⟩
  ·
    have c1 : ¬ (x < lo) := fun q => c1 ((lg_cmp_lt _ _).mpr q)
    refine r_lload_n C (dx dX7_in 4 rfl) rfl ?_
    refine r_lload C (dx dX7_in 5 rfl) rfl ?_
    refine r_lcmp C (dx dX7_in 6 rfl) ?_
    refine r_if_gt (tgt := 17) C (dx dX7_in 7 rfl) (by decide) (fun c2 => ?_) (fun c2 => ?_)
    ·
      have c2 : hi < x := (lg_cmp_gt _ _).mp c2
      refine r_iconst (v := nI 0) C (dx dX7_in 10 rfl) rfl ?_
      exact F.1 _ _ _ _ _ rfl rfl (dx dX7_in 11 rfl) rfl ⟨congrArg (fun x => some (vi x)) (show nI 0 = b2i _ by rw [show (inL x lo hi) = false by (unfold inL; first | (simp [Int64.not_le.mpr c1]; done) | (rw [decide_eq_true (Int64.not_lt.mp c1)]; simp [Int64.not_le.mpr c2]; done) | (rw [decide_eq_true (Int64.not_lt.mp c1), decide_eq_true (Int64.not_lt.mp c2)]; rfl))]; rfl), rfl⟩
    ·
      have c2 : ¬ (hi < x) := fun q => c2 ((lg_cmp_gt _ _).mpr q)
      refine r_iconst (v := nI 1) C (dx dX7_in 8 rfl) rfl ?_
      refine r_goto (tgt := 18) C (dx dX7_in 9 rfl) (by decide) ?_
      exact F.1 _ _ _ _ _ rfl rfl (dx dX7_in 11 rfl) rfl ⟨congrArg (fun x => some (vi x)) (show nI 1 = b2i _ by rw [show (inL x lo hi) = true by (unfold inL; first | (simp [Int64.not_le.mpr c1]; done) | (rw [decide_eq_true (Int64.not_lt.mp c1)]; simp [Int64.not_le.mpr c2]; done) | (rw [decide_eq_true (Int64.not_lt.mp c1), decide_eq_true (Int64.not_lt.mp c2)]; rfl))]; rfl), rfl⟩
theorem c_inB {l : Launch} {h : Hp} {x : Int32} {lo hi : Int64} {a b : Nat} (e1 : lo = (nI a).toInt64) (e2 : hi = (nI b).toInt64) : Mp l yX7_in cX7_in 6 (some .boolean) 1 [vl x.toInt64, vl lo, vl hi] h (vi (b2i (btwB x a b))) := by
  subst e1; subst e2; rw [← inL_B]; exact c_X7_in _ _ _
theorem c_inR {l : Launch} {h : Hp} {x : Int32} {hi : Int64} {b : Nat} (e2 : hi = (nI b).toInt64) (hb : b < 2 ^ 30) : Mp l yX7_in cX7_in 6 (some .boolean) 1 [vl x.toInt64, vl 0, vl hi] h (vi (b2i (inR x (b + 1)))) := by
  rw [← btw_R hb]; exact c_inB (by decide) e2
theorem c_inN {l : Launch} {h : Hp} {x : Int32} {n : Nat} (hn : n < 2 ^ 30) : Mp l yX7_in cX7_in 6 (some .boolean) 1 [vl x.toInt64, vl 0, vl (nI n - nI 1).toInt64] h (vi (b2i (inR x n))) := by
  rw [← inL_N hn]; exact c_X7_in _ _ _
theorem c_inF {l : Launch} {h : Hp} {x : Int32} {n : Nat} (hn : n ≤ 12) : Mp l yX7_in cX7_in 6 (some .boolean) 1 [vl x.toInt64, vl 0, vl (full n).toInt64] h (vi (b2i (inR x (2 ^ n)))) := by
  rw [← inL_F hn]; exact c_X7_in _ _ _
set_option maxHeartbeats 4000000 in
theorem c_X7_isPart {l : Launch} {h : Hp} {k : Nat} {v : Vg} (hm : MilAt h k v) (x : Int32) : Mp l yX7_isPart cX7_isPart 2 (some .boolean) 2 [vr 7 k, vi x] h (vi (b2i (inR x (vP v)))) := by
  refine Ms.of (by decide) (Nat.le_of_ble_eq_true rfl) (fun G C X F => ?_)
  have C : Cx G cX7_isPart 2 RX7 := C
  show Rr G 0 [(0, vr 7 k), (1, vi x)] [] h
  have bP := hm.bP
  have bM := hm.bM
  have bN := hm.bN
  refine r_iload_n C (dx dX7_isPart 0 rfl) rfl ?_
  refine r_i2l C (dx dX7_isPart 1 rfl) ?_
  refine r_lconst (v := 0) C (dx dX7_isPart 2 rfl) rfl ?_
  refine r_aload_n C (dx dX7_isPart 3 rfl) rfl ?_
  refine g_X7_64 (x := nI (vP v)) C (dx dX7_isPart 4 rfl) hm.eP ?_
  refine r_iconst (v := nI 1) C (dx dX7_isPart 5 rfl) rfl ?_
  refine r_isub C (dx dX7_isPart 6 rfl) ?_
  refine r_i2l C (dx dX7_isPart 7 rfl) ?_
  refine r_csP (as := [vl x.toInt64, vl 0, vl (((nI (vP v)) - (nI 1)).toInt64)]) (st := []) (v := vi (b2i (inR x (vP v)))) C X I_X7_in l_X7_67 (c_inN (by omega)) (by decide) (Nat.le_of_ble_eq_true rfl) List.prefix_rfl (Nat.le_of_ble_eq_true rfl) rfl (dx dX7_isPart 8 rfl) ?_
  exact F.1 _ _ _ _ _ rfl (nar_b _) (dx dX7_isPart 9 rfl) rfl ⟨congrArg (fun x => some (vi x)) (b2i_inj (by rfl)), rfl⟩
set_option maxHeartbeats 4000000 in
theorem c_X7_isMachine {l : Launch} {h : Hp} {k : Nat} {v : Vg} (hm : MilAt h k v) (x : Int32) : Mp l yX7_isMachine cX7_isMachine 2 (some .boolean) 2 [vr 7 k, vi x] h (vi (b2i (inR x (vM v)))) := by
  refine Ms.of (by decide) (Nat.le_of_ble_eq_true rfl) (fun G C X F => ?_)
  have C : Cx G cX7_isMachine 2 RX7 := C
  show Rr G 0 [(0, vr 7 k), (1, vi x)] [] h
  have bP := hm.bP
  have bM := hm.bM
  have bN := hm.bN
  refine r_iload_n C (dx dX7_isMachine 0 rfl) rfl ?_
  refine r_i2l C (dx dX7_isMachine 1 rfl) ?_
  refine r_lconst (v := 0) C (dx dX7_isMachine 2 rfl) rfl ?_
  refine r_aload_n C (dx dX7_isMachine 3 rfl) rfl ?_
  refine g_X7_71 (x := nI (vM v)) C (dx dX7_isMachine 4 rfl) hm.eM ?_
  refine r_iconst (v := nI 1) C (dx dX7_isMachine 5 rfl) rfl ?_
  refine r_isub C (dx dX7_isMachine 6 rfl) ?_
  refine r_i2l C (dx dX7_isMachine 7 rfl) ?_
  refine r_csP (as := [vl x.toInt64, vl 0, vl (((nI (vM v)) - (nI 1)).toInt64)]) (st := []) (v := vi (b2i (inR x (vM v)))) C X I_X7_in l_X7_67 (c_inN (by omega)) (by decide) (Nat.le_of_ble_eq_true rfl) List.prefix_rfl (Nat.le_of_ble_eq_true rfl) rfl (dx dX7_isMachine 8 rfl) ?_
  exact F.1 _ _ _ _ _ rfl (nar_b _) (dx dX7_isMachine 9 rfl) rfl ⟨congrArg (fun x => some (vi x)) (b2i_inj (by rfl)), rfl⟩
set_option maxHeartbeats 4000000 in
theorem c_X7_isOne {l : Launch} {h : Hp} {k : Nat} {v : Vg} (hm : MilAt h k v) (x : Int32) : Mp l yX7_isOne cX7_isOne 2 (some .boolean) 2 [vr 7 k, vi x] h (vi (b2i (inR x (vN v)))) := by
  refine Ms.of (by decide) (Nat.le_of_ble_eq_true rfl) (fun G C X F => ?_)
  have C : Cx G cX7_isOne 2 RX7 := C
  show Rr G 0 [(0, vr 7 k), (1, vi x)] [] h
  have bP := hm.bP
  have bM := hm.bM
  have bN := hm.bN
  refine r_iload_n C (dx dX7_isOne 0 rfl) rfl ?_
  refine r_i2l C (dx dX7_isOne 1 rfl) ?_
  refine r_lconst (v := 0) C (dx dX7_isOne 2 rfl) rfl ?_
  refine r_aload_n C (dx dX7_isOne 3 rfl) rfl ?_
  refine g_X7_74 (x := nI (vN v)) C (dx dX7_isOne 4 rfl) hm.eN ?_
  refine r_iconst (v := nI 1) C (dx dX7_isOne 5 rfl) rfl ?_
  refine r_isub C (dx dX7_isOne 6 rfl) ?_
  refine r_i2l C (dx dX7_isOne 7 rfl) ?_
  refine r_csP (as := [vl x.toInt64, vl 0, vl (((nI (vN v)) - (nI 1)).toInt64)]) (st := []) (v := vi (b2i (inR x (vN v)))) C X I_X7_in l_X7_67 (c_inN (by omega)) (by decide) (Nat.le_of_ble_eq_true rfl) List.prefix_rfl (Nat.le_of_ble_eq_true rfl) rfl (dx dX7_isOne 8 rfl) ?_
  exact F.1 _ _ _ _ _ rfl (nar_b _) (dx dX7_isOne 9 rfl) rfl ⟨congrArg (fun x => some (vi x)) (b2i_inj (by rfl)), rfl⟩
set_option maxHeartbeats 4000000 in
theorem c_X7_all {l : Launch} {h : Hp} {k : Nat} {v : Vg} (hm : MilAt h k v)  : Mp l yX7_all cX7_all 1 (some .int) 1 [vr 7 k] h (vi (full (vN v))) := by
  refine Ms.of (by decide) (Nat.le_of_ble_eq_true rfl) (fun G C X F => ?_)
  have C : Cx G cX7_all 1 RX7 := C
  show Rr G 0 [(0, vr 7 k)] [] h
  have bP := hm.bP
  have bM := hm.bM
  have bN := hm.bN
  refine r_iconst (v := nI 1) C (dx dX7_all 0 rfl) rfl ?_
  refine r_aload_n C (dx dX7_all 1 rfl) rfl ?_
  refine g_X7_74 (x := nI (vN v)) C (dx dX7_all 2 rfl) hm.eN ?_
  refine r_ishl C (dx dX7_all 3 rfl) ?_
  refine r_iconst (v := nI 1) C (dx dX7_all 4 rfl) rfl ?_
  refine r_isub C (dx dX7_all 5 rfl) ?_
  exact F.1 _ _ _ _ _ rfl rfl (dx dX7_all 6 rfl) rfl ⟨congrArg (fun x => some (vi x)) (show ((nI 1) <<< ((nI (vN v)) &&& 31)) - (nI 1) = full (vN v) by exact full_sh (by omega)), rfl⟩
theorem c_mallS {l : Launch} {h : Hp} {k S : Nat} {v : Vg} (hm : MilAt h k v) (hS : S = 2 ^ vN v) : Mp l yX7_all cX7_all 1 (some .int) 1 [vr 7 k] h (vi (nI (S - 1))) := by subst hS; exact c_X7_all hm
