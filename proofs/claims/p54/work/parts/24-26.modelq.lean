section
/-! PART 24: the reference: what its cells hold; what only reads -/
/-- the village in the reference's cells -/
def MilAt (h : Hp) (k : Nat) (v : Vg) : Prop :=
  xI h k 10 = nI (vP v) ∧ xI h k 13 = nI (vM v) ∧ xI h k 16 = nI (vN v) ∧ xI h k 20 = vS v ∧
  (∀ i, i < 12 → xI h (k + 18) i = vF v 0 i) ∧ (∀ i, i < 12 → xI h (k + 19) i = vF v 1 i) ∧ (∀ i, i < 6 → xI h (k + 20) i = vF v 2 i) ∧ (∀ i, i < 6 → xI h (k + 21) i = vF v 3 i) ∧
  (∀ o, o < 8 → ∀ c, c < 4 → xI h (k + 23 + o) c = vF v (4 + c) o) ∧ vP v ≤ 12 ∧ vM v ≤ 6 ∧ vN v ≤ 8
section MA
variable {h h1 : Hp} {k i : Nat} {v : Vg} {P : Nat → Prop}
theorem MilAt.eP (a : MilAt h k v) : xI h k 10 = nI (vP v) := a.1
theorem MilAt.eM (a : MilAt h k v) : xI h k 13 = nI (vM v) := a.2.1
theorem MilAt.eN (a : MilAt h k v) : xI h k 16 = nI (vN v) := a.2.2.1
theorem MilAt.eS (a : MilAt h k v) : xI h k 20 = vS v := a.2.2.2.1
theorem MilAt.e0 (a : MilAt h k v) (hi : i < 12) : xI h (k + 18) i = vF v 0 i := a.2.2.2.2.1 i hi
theorem MilAt.e1 (a : MilAt h k v) (hi : i < 12) : xI h (k + 19) i = vF v 1 i := a.2.2.2.2.2.1 i hi
theorem MilAt.e2 (a : MilAt h k v) (hi : i < 6) : xI h (k + 20) i = vF v 2 i := a.2.2.2.2.2.2.1 i hi
theorem MilAt.e3 (a : MilAt h k v) (hi : i < 6) : xI h (k + 21) i = vF v 3 i := a.2.2.2.2.2.2.2.1 i hi
theorem MilAt.eo (a : MilAt h k v) {o c : Nat} (ho : o < 8) (hc : c < 4) : xI h (k + 23 + o) c = vF v (4 + c) o := a.2.2.2.2.2.2.2.2.1 o ho c hc
theorem MilAt.bP (a : MilAt h k v) : vP v ≤ 12 := a.2.2.2.2.2.2.2.2.2.1
theorem MilAt.bM (a : MilAt h k v) : vM v ≤ 6 := a.2.2.2.2.2.2.2.2.2.2.1
theorem MilAt.bN (a : MilAt h k v) : vN v ≤ 8 := a.2.2.2.2.2.2.2.2.2.2.2
theorem MilAt.ag (a : MilAt h k v) (f : Fs P h h1) (q0 : ¬ P k) (q : un P (k + 18) (k + 31)) : MilAt h1 k v := by
  have e : ∀ b, k + 18 ≤ b → b < k + 31 → xI h1 b = xI h b := fun b h1 h2 => (f b (q b h1 h2)).1
  have e0 : xI h1 k = xI h k := (f k q0).1
  refine ⟨by rw [e0]; exact a.eP, by rw [e0]; exact a.eM, by rw [e0]; exact a.eN, by rw [e0]; exact a.eS, fun i hi => by rw [e _ (by omega) (by omega)]; exact a.e0 hi, fun i hi => by rw [e _ (by omega) (by omega)]; exact a.e1 hi, fun i hi => by rw [e _ (by omega) (by omega)]; exact a.e2 hi, fun i hi => by rw [e _ (by omega) (by omega)]; exact a.e3 hi, fun o ho c hc => by rw [e _ (by omega) (by omega)]; exact a.eo ho hc, a.bP, a.bM, a.bN⟩
theorem MilAt.fr {lo hi : Nat} (a : MilAt h k v) (f : Fr lo hi h h1) (q : (k < lo ∨ hi ≤ k) ∧ (k + 31 ≤ lo ∨ hi ≤ k + 18)) : MilAt h1 k v := a.ag f.fs (fun z => by omega) (fun b h1 h2 z => by omega)
theorem MilAt.s0 {x : Int32} (a : MilAt h k v) : MilAt (sI h (k + 18) i x) k (vset v 0 i x) :=
  ⟨by rw [sI_ne (by omega)]; exact a.eP, by rw [sI_ne (by omega)]; exact a.eM, by rw [sI_ne (by omega)]; exact a.eN, by rw [sI_ne (by omega)]; exact a.eS, fun j hj => by rw [sI_at, a.e0 hj]; simp [vset, vF], fun j hj => by rw [sI_ne (by omega), a.e1 hj]; simp [vset, vF], fun j hj => by rw [sI_ne (by omega), a.e2 hj]; simp [vset, vF], fun j hj => by rw [sI_ne (by omega), a.e3 hj]; simp [vset, vF], fun o ho c hc => by rw [sI_ne (by omega), a.eo ho hc]; simp [vset, vF, show ¬ 4 + c = 0 by omega], a.bP, a.bM, a.bN⟩
theorem MilAt.s1 {x : Int32} (a : MilAt h k v) : MilAt (sI h (k + 19) i x) k (vset v 1 i x) :=
  ⟨by rw [sI_ne (by omega)]; exact a.eP, by rw [sI_ne (by omega)]; exact a.eM, by rw [sI_ne (by omega)]; exact a.eN, by rw [sI_ne (by omega)]; exact a.eS, fun j hj => by rw [sI_ne (by omega), a.e0 hj]; simp [vset, vF], fun j hj => by rw [sI_at, a.e1 hj]; simp [vset, vF], fun j hj => by rw [sI_ne (by omega), a.e2 hj]; simp [vset, vF], fun j hj => by rw [sI_ne (by omega), a.e3 hj]; simp [vset, vF], fun o ho c hc => by rw [sI_ne (by omega), a.eo ho hc]; simp [vset, vF, show ¬ 4 + c = 1 by omega], a.bP, a.bM, a.bN⟩
theorem MilAt.s2 {x : Int32} (a : MilAt h k v) : MilAt (sI h (k + 20) i x) k (vset v 2 i x) :=
  ⟨by rw [sI_ne (by omega)]; exact a.eP, by rw [sI_ne (by omega)]; exact a.eM, by rw [sI_ne (by omega)]; exact a.eN, by rw [sI_ne (by omega)]; exact a.eS, fun j hj => by rw [sI_ne (by omega), a.e0 hj]; simp [vset, vF], fun j hj => by rw [sI_ne (by omega), a.e1 hj]; simp [vset, vF], fun j hj => by rw [sI_at, a.e2 hj]; simp [vset, vF], fun j hj => by rw [sI_ne (by omega), a.e3 hj]; simp [vset, vF], fun o ho c hc => by rw [sI_ne (by omega), a.eo ho hc]; simp [vset, vF, show ¬ 4 + c = 2 by omega], a.bP, a.bM, a.bN⟩
theorem MilAt.s3 {x : Int32} (a : MilAt h k v) : MilAt (sI h (k + 21) i x) k (vset v 3 i x) :=
  ⟨by rw [sI_ne (by omega)]; exact a.eP, by rw [sI_ne (by omega)]; exact a.eM, by rw [sI_ne (by omega)]; exact a.eN, by rw [sI_ne (by omega)]; exact a.eS, fun j hj => by rw [sI_ne (by omega), a.e0 hj]; simp [vset, vF], fun j hj => by rw [sI_ne (by omega), a.e1 hj]; simp [vset, vF], fun j hj => by rw [sI_ne (by omega), a.e2 hj]; simp [vset, vF], fun j hj => by rw [sI_at, a.e3 hj]; simp [vset, vF], fun o ho c hc => by rw [sI_ne (by omega), a.eo ho hc]; simp [vset, vF, show ¬ 4 + c = 3 by omega], a.bP, a.bM, a.bN⟩
theorem MilAt.so {x : Int32} {o c : Nat} (a : MilAt h k v) (ho : o < 8) (hc : c < 4) : MilAt (sI h (k + 23 + o) c x) k (vset v (4 + c) o x) :=
  ⟨by rw [sI_ne (by omega)]; exact a.eP, by rw [sI_ne (by omega)]; exact a.eM, by rw [sI_ne (by omega)]; exact a.eN, by rw [sI_ne (by omega)]; exact a.eS, fun j hj => by rw [sI_ne (by omega), a.e0 hj]; simp [vset, vF, show ¬ 0 = 4 + c by omega], fun j hj => by rw [sI_ne (by omega), a.e1 hj]; simp [vset, vF, show ¬ 1 = 4 + c by omega], fun j hj => by rw [sI_ne (by omega), a.e2 hj]; simp [vset, vF, show ¬ 2 = 4 + c by omega], fun j hj => by rw [sI_ne (by omega), a.e3 hj]; simp [vset, vF, show ¬ 3 = 4 + c by omega], fun o' ho' c' hc' => by
    by_cases q : o' = o
    · subst q; rw [sI_at, a.eo ho' hc']
      by_cases q2 : c' = c
      · subst q2; simp [vset, vF]
      · simp [vset, vF, q2]
    · rw [sI_ne (by omega), a.eo ho' hc']; simp [vset, vF, q], a.bP, a.bM, a.bN⟩
theorem MilAt.f {x : Int32} {j : Nat} (a : MilAt h k v) (h1 : j ≠ 10) (h2 : j ≠ 13) (h3 : j ≠ 16) (h4 : j ≠ 20) : MilAt (sI h k j x) k v :=
  ⟨by rw [sI_at, if_neg (Ne.symm h1)]; exact a.eP, by rw [sI_at, if_neg (Ne.symm h2)]; exact a.eM, by rw [sI_at, if_neg (Ne.symm h3)]; exact a.eN, by rw [sI_at, if_neg (Ne.symm h4)]; exact a.eS, fun j hj => by rw [sI_ne (by omega)]; exact a.e0 hj, fun j hj => by rw [sI_ne (by omega)]; exact a.e1 hj, fun j hj => by rw [sI_ne (by omega)]; exact a.e2 hj, fun j hj => by rw [sI_ne (by omega)]; exact a.e3 hj, fun o ho c hc => by rw [sI_ne (by omega)]; exact a.eo ho hc, a.bP, a.bM, a.bN⟩
theorem MilAt.sP {n : Nat} (a : MilAt h k v) (hn : n ≤ 12) : MilAt (sI h k 10 (nI n)) k (vsP v n) :=
  ⟨by rw [sI_at]; rfl, by rw [sI_at]; exact a.eM, by rw [sI_at]; exact a.eN, by rw [sI_at]; exact a.eS, fun j hj => by rw [sI_ne (by omega)]; exact a.e0 hj, fun j hj => by rw [sI_ne (by omega)]; exact a.e1 hj, fun j hj => by rw [sI_ne (by omega)]; exact a.e2 hj, fun j hj => by rw [sI_ne (by omega)]; exact a.e3 hj, fun o ho c hc => by rw [sI_ne (by omega)]; exact a.eo ho hc, hn, a.bM, a.bN⟩
theorem MilAt.sM {n : Nat} (a : MilAt h k v) (hn : n ≤ 6) : MilAt (sI h k 13 (nI n)) k (vsM v n) :=
  ⟨by rw [sI_at]; exact a.eP, by rw [sI_at]; rfl, by rw [sI_at]; exact a.eN, by rw [sI_at]; exact a.eS, fun j hj => by rw [sI_ne (by omega)]; exact a.e0 hj, fun j hj => by rw [sI_ne (by omega)]; exact a.e1 hj, fun j hj => by rw [sI_ne (by omega)]; exact a.e2 hj, fun j hj => by rw [sI_ne (by omega)]; exact a.e3 hj, fun o ho c hc => by rw [sI_ne (by omega)]; exact a.eo ho hc, a.bP, hn, a.bN⟩
theorem MilAt.sN {n : Nat} (a : MilAt h k v) (hn : n ≤ 8) : MilAt (sI h k 16 (nI n)) k (vsN v n) :=
  ⟨by rw [sI_at]; exact a.eP, by rw [sI_at]; exact a.eM, by rw [sI_at]; rfl, by rw [sI_at]; exact a.eS, fun j hj => by rw [sI_ne (by omega)]; exact a.e0 hj, fun j hj => by rw [sI_ne (by omega)]; exact a.e1 hj, fun j hj => by rw [sI_ne (by omega)]; exact a.e2 hj, fun j hj => by rw [sI_ne (by omega)]; exact a.e3 hj, fun o ho c hc => by rw [sI_ne (by omega)]; exact a.eo ho hc, a.bP, a.bM, hn⟩
theorem MilAt.sS {x : Int32} (a : MilAt h k v) : MilAt (sI h k 20 x) k (vsS v x) :=
  ⟨by rw [sI_at]; exact a.eP, by rw [sI_at]; exact a.eM, by rw [sI_at]; exact a.eN, by rw [sI_at]; rfl, fun j hj => by rw [sI_ne (by omega)]; exact a.e0 hj, fun j hj => by rw [sI_ne (by omega)]; exact a.e1 hj, fun j hj => by rw [sI_ne (by omega)]; exact a.e2 hj, fun j hj => by rw [sI_ne (by omega)]; exact a.e3 hj, fun o ho c hc => by rw [sI_ne (by omega)]; exact a.eo ho hc, a.bP, a.bM, a.bN⟩
end MA
def PB (r : Option V) : Prop := ∃ b : Bool, r = some (vi (b2i b))
section RW
variable {G : Gt} {cc : ByteArray} {nL pc : Nat} {own : String} {ls : List (Nat × V)} {st : List V} {h : Hp} {l : Launch} {d : Nat} {alX : List Nat} {y : MethodName} {cc' : ByteArray} {nL' d' index n : Nat} {ret : Option FieldType} {as : List V} {Q : Option V → Prop}
/-- calls of methods that only read, of whose answer little is known -/
theorem r_cvW {k a N : Nat} {T : u_T} {L : List Fd3} (C : Cx G cc nL own) (X : Rmx l G d alX) (I : VI y cc' nL' ret n) (q1 : Cond.methodLink own index y ∈ lw_g) (hM : Ms l y cc' nL' ret d' (vr k a :: as) h (xK h) (fun r h' => Q r ∧ h' = h)) (hd' : d' + 1 ≤ d) (hn : nL' ≤ 21) (hal : xK h <+: alX) (hc : vwCl[k]? = some (y.cls, T, N)) (hL : fkL[k]? = some L) (hcat : catS st ≤ 8) (hlen : n = as.length) (dd : decode cc pc = .ok (.invokevirtual index, 3))
    (kk : ∀ r, Q r → Rr G (pc + 3) ls (r.toList ++ st) h) : Rr G pc ls (as.reverse ++ vr k a :: st) h := by
  refine r_cv C X I q1 hM hd' hn List.prefix_rfl hal hc hL hcat hlen dd (fun r h' hp _ => ?_)
  obtain ⟨q, rfl⟩ := hp
  exact kk r q
theorem r_csW (C : Cx G cc nL own) (X : Rmx l G d alX) (I : SI y cc' nL' ret n) (q1 : Cond.methodLink own index y ∈ lw_g) (hM : Ms l y cc' nL' ret d' as h (xK h) (fun r h' => Q r ∧ h' = h)) (hd' : d' + 1 ≤ d) (hn : nL' ≤ 21) (hal : xK h <+: alX) (hcat : catS st ≤ 8) (hlen : n = as.length) (dd : decode cc pc = .ok (.invokestatic index, 3))
    (kk : ∀ r, Q r → Rr G (pc + 3) ls (r.toList ++ st) h) : Rr G pc ls (as.reverse ++ st) h := by
  refine r_cs C X I q1 hM hd' hn List.prefix_rfl hal hcat hlen dd (fun r h' hp _ => ?_)
  obtain ⟨q, rfl⟩ := hp
  exact kk r q
end RW
/-- between bounds -/
def inL (v lo hi : Int64) : Bool := decide (lo ≤ v) && decide (v ≤ hi)
def btwB (x : Int32) (a b : Nat) : Bool := decide (¬ x < nI a) && decide (¬ nI b < x)
theorem i64 {x y : Int32} : x.toInt64 ≤ y.toInt64 ↔ x ≤ y := by
  rw [Int64.le_iff_toInt_le, Int32.toInt_toInt64, Int32.toInt_toInt64, Int32.le_iff_toInt_le]
theorem inL_B {x : Int32} {a b : Nat} : inL x.toInt64 (nI a).toInt64 (nI b).toInt64 = btwB x a b := by
  unfold inL btwB
  rw [Bool.eq_iff_iff]
  simp only [Bool.and_eq_true, decide_eq_true_eq, i64, Int32.not_lt]
theorem btw_R {x : Int32} {b : Nat} (hb : b < 2 ^ 30) : btwB x 0 b = inR x (b + 1) := by
  rw [Bool.eq_iff_iff]
  unfold btwB
  simp only [Bool.and_eq_true, decide_eq_true_eq]
  constructor
  · rintro ⟨h0, h1⟩; exact inR_mid hb h0 h1
  · intro h
    obtain ⟨j, hj, rfl⟩ := inR_ex (by omega) h
    exact ⟨nI_pos (by omega), fun q => by have := (nI_ltI (by omega) (by omega)).mp q; omega⟩
theorem inL_N {x : Int32} {n : Nat} (hn : n < 2 ^ 30) : inL x.toInt64 0 (nI n - nI 1).toInt64 = inR x n := by
  rcases Nat.eq_zero_or_pos n with rfl | h
  · rw [Bool.eq_iff_iff]
    unfold inL inR
    simp only [Bool.and_eq_true, decide_eq_true_eq]
    rw [show (nI 0 - nI 1 : Int32).toInt64 = -1 by decide, Int64.le_iff_toInt_le, Int64.le_iff_toInt_le, show (0 : Int64).toInt = 0 by decide, show (-1 : Int64).toInt = -1 by decide]
    constructor <;> intro q <;> omega
  · rw [pk_sub (by omega), show (0 : Int64) = (nI 0).toInt64 by decide, inL_B, btw_R (by omega), show n - 1 + 1 = n by omega]
theorem inL_F {x : Int32} {n : Nat} (hn : n ≤ 12) : inL x.toInt64 0 (full n).toInt64 = inR x (2 ^ n) := by
  have := pow12 hn
  unfold full
  rw [show (0 : Int64) = (nI 0).toInt64 by decide, inL_B, btw_R (by omega), show 2 ^ n - 1 + 1 = 2 ^ n by omega]
set_option maxHeartbeats 4000000 in
theorem c_X7_in {l : Launch} {h : Hp} (x lo hi : Int64) : Mp l yX7_in cX7_in 6 (some .boolean) 1 [vl x, vl lo, vl hi] h (vi (b2i (inL x lo hi))) := by
  refine Ms.of (by decide) (Nat.le_of_ble_eq_true rfl) (fun G C X F => ?_)
  have C : Cx G cX7_in 6 RX7 := C
  show Rr G 0 [(0, vl x), (2, vl lo), (4, vl hi)] [] h
  refine r_lload_n C (dx dX7_in 0 rfl) rfl ?_
  refine r_lload_n C (dx dX7_in 1 rfl) rfl ?_
  refine r_lcmp C (dx dX7_in 2 rfl) ?_
  refine r_if_lt (tgt := 17) C (dx dX7_in 3 rfl) (by decide) (fun c1 => ?_) (fun c1 => ?_)
  ·
    have c1 : x < lo := (lg_cmp_lt _ _).mp c1
    refine r_iconst (v := nI 0) C (dx dX7_in 10 rfl) rfl ?_
    exact F.1 _ _ _ _ _ rfl rfl (dx dX7_in 11 rfl) rfl ⟨congrArg (fun x => some (vi x)) (show nI 0 = b2i _ by rw [show (inL x lo hi) = false by (unfold inL; first | (simp [Int64.not_le.mpr c1]; done) | (rw [decide_eq_true (Int64.not_lt.mp c1)]; simp [Int64.not_le.mpr c1]; done) | (rw [decide_eq_true (Int64.not_lt.mp c1), decide_eq_true (Int64.not_lt.mp c1)]; rfl))]; rfl), rfl⟩
  ·
    have c1 : ¬ (x < lo) := fun q => c1 ((lg_cmp_lt _ _).mpr q)
    refine r_lload_n C (dx dX7_in 4 rfl) rfl ?_
    refine r_lload C (dx dX7_in 5 rfl) rfl ?_
    refine r_lcmp C (dx dX7_in 6 rfl) ?_
    refine r_if_gt (tgt := 17) C (dx dX7_in 7 rfl) (by decide) (fun c2 => ?_) (fun c2 => ?_)
    ·
      have c2 : hi < x := (lg_cmp_gt _ _).mp c2
      refine r_iconst (v := nI 0) C (dx dX7_in 10 rfl) rfl ?_
      exact F.1 _ _ _ _ _ rfl rfl (dx dX7_in 11 rfl) rfl ⟨congrArg (fun x => some (vi x)) (show nI 0 = b2i _ by rw [show (inL x lo hi) = false by (unfold inL; first | (simp [Int64.not_le.mpr c1]; done) | (rw [decide_eq_true (Int64.not_lt.mp c1)]; simp [Int64.not_le.mpr c2]; done) | (rw [decide_eq_true (Int64.not_lt.mp c1), decide_eq_true (Int64.not_lt.mp c2)]; rfl))]; rfl), rfl⟩
    ·
      have c2 : ¬ (hi < x) := fun q => c2 ((lg_cmp_gt _ _).mpr q)
      refine r_iconst (v := nI 1) C (dx dX7_in 8 rfl) rfl ?_
      refine r_goto (tgt := 18) C (dx dX7_in 9 rfl) (by decide) ?_
      exact F.1 _ _ _ _ _ rfl rfl (dx dX7_in 11 rfl) rfl ⟨congrArg (fun x => some (vi x)) (show nI 1 = b2i _ by rw [show (inL x lo hi) = true by (unfold inL; first | (simp [Int64.not_le.mpr c1]; done) | (rw [decide_eq_true (Int64.not_lt.mp c1)]; simp [Int64.not_le.mpr c2]; done) | (rw [decide_eq_true (Int64.not_lt.mp c1), decide_eq_true (Int64.not_lt.mp c2)]; rfl))]; rfl), rfl⟩
theorem c_inB {l : Launch} {h : Hp} {x : Int32} {lo hi : Int64} {a b : Nat} (e1 : lo = (nI a).toInt64) (e2 : hi = (nI b).toInt64) : Mp l yX7_in cX7_in 6 (some .boolean) 1 [vl x.toInt64, vl lo, vl hi] h (vi (b2i (btwB x a b))) := by
  subst e1; subst e2; rw [← inL_B]; exact c_X7_in _ _ _
theorem c_inR {l : Launch} {h : Hp} {x : Int32} {hi : Int64} {b : Nat} (e2 : hi = (nI b).toInt64) (hb : b < 2 ^ 30) : Mp l yX7_in cX7_in 6 (some .boolean) 1 [vl x.toInt64, vl 0, vl hi] h (vi (b2i (inR x (b + 1)))) := by
  rw [← btw_R hb]; exact c_inB (by decide) e2
theorem c_inN {l : Launch} {h : Hp} {x : Int32} {n : Nat} (hn : n < 2 ^ 30) : Mp l yX7_in cX7_in 6 (some .boolean) 1 [vl x.toInt64, vl 0, vl (nI n - nI 1).toInt64] h (vi (b2i (inR x n))) := by
  rw [← inL_N hn]; exact c_X7_in _ _ _
theorem c_inF {l : Launch} {h : Hp} {x : Int32} {n : Nat} (hn : n ≤ 12) : Mp l yX7_in cX7_in 6 (some .boolean) 1 [vl x.toInt64, vl 0, vl (full n).toInt64] h (vi (b2i (inR x (2 ^ n)))) := by
  rw [← inL_F hn]; exact c_X7_in _ _ _
set_option maxHeartbeats 4000000 in
theorem c_X7_isPart {l : Launch} {h : Hp} {k : Nat} {v : Vg} (hm : MilAt h k v) (x : Int32) : Mp l yX7_isPart cX7_isPart 2 (some .boolean) 2 [vr 7 k, vi x] h (vi (b2i (inR x (vP v)))) := by
  refine Ms.of (by decide) (Nat.le_of_ble_eq_true rfl) (fun G C X F => ?_)
  have C : Cx G cX7_isPart 2 RX7 := C
  show Rr G 0 [(0, vr 7 k), (1, vi x)] [] h
  have bP := hm.bP
  have bM := hm.bM
  have bN := hm.bN
  refine r_iload_n C (dx dX7_isPart 0 rfl) rfl ?_
  refine r_i2l C (dx dX7_isPart 1 rfl) ?_
  refine r_lconst (v := 0) C (dx dX7_isPart 2 rfl) rfl ?_
  refine r_aload_n C (dx dX7_isPart 3 rfl) rfl ?_
  refine g_X7_64 (x := nI (vP v)) C (dx dX7_isPart 4 rfl) hm.eP ?_
  refine r_iconst (v := nI 1) C (dx dX7_isPart 5 rfl) rfl ?_
  refine r_isub C (dx dX7_isPart 6 rfl) ?_
  refine r_i2l C (dx dX7_isPart 7 rfl) ?_
  refine r_csP (as := [vl x.toInt64, vl 0, vl (((nI (vP v)) - (nI 1)).toInt64)]) (st := []) (v := vi (b2i (inR x (vP v)))) C X I_X7_in l_X7_67 (c_inN (by omega)) (by decide) (Nat.le_of_ble_eq_true rfl) List.prefix_rfl (Nat.le_of_ble_eq_true rfl) rfl (dx dX7_isPart 8 rfl) ?_
  exact F.1 _ _ _ _ _ rfl (nar_b _) (dx dX7_isPart 9 rfl) rfl ⟨congrArg (fun x => some (vi x)) (b2i_inj (by rfl)), rfl⟩
set_option maxHeartbeats 4000000 in
theorem c_X7_isMachine {l : Launch} {h : Hp} {k : Nat} {v : Vg} (hm : MilAt h k v) (x : Int32) : Mp l yX7_isMachine cX7_isMachine 2 (some .boolean) 2 [vr 7 k, vi x] h (vi (b2i (inR x (vM v)))) := by
  refine Ms.of (by decide) (Nat.le_of_ble_eq_true rfl) (fun G C X F => ?_)
  have C : Cx G cX7_isMachine 2 RX7 := C
  show Rr G 0 [(0, vr 7 k), (1, vi x)] [] h
  have bP := hm.bP
  have bM := hm.bM
  have bN := hm.bN
  refine r_iload_n C (dx dX7_isMachine 0 rfl) rfl ?_
  refine r_i2l C (dx dX7_isMachine 1 rfl) ?_
  refine r_lconst (v := 0) C (dx dX7_isMachine 2 rfl) rfl ?_
  refine r_aload_n C (dx dX7_isMachine 3 rfl) rfl ?_
  refine g_X7_71 (x := nI (vM v)) C (dx dX7_isMachine 4 rfl) hm.eM ?_
  refine r_iconst (v := nI 1) C (dx dX7_isMachine 5 rfl) rfl ?_
  refine r_isub C (dx dX7_isMachine 6 rfl) ?_
  refine r_i2l C (dx dX7_isMachine 7 rfl) ?_
  refine r_csP (as := [vl x.toInt64, vl 0, vl (((nI (vM v)) - (nI 1)).toInt64)]) (st := []) (v := vi (b2i (inR x (vM v)))) C X I_X7_in l_X7_67 (c_inN (by omega)) (by decide) (Nat.le_of_ble_eq_true rfl) List.prefix_rfl (Nat.le_of_ble_eq_true rfl) rfl (dx dX7_isMachine 8 rfl) ?_
  exact F.1 _ _ _ _ _ rfl (nar_b _) (dx dX7_isMachine 9 rfl) rfl ⟨congrArg (fun x => some (vi x)) (b2i_inj (by rfl)), rfl⟩
set_option maxHeartbeats 4000000 in
theorem c_X7_isOne {l : Launch} {h : Hp} {k : Nat} {v : Vg} (hm : MilAt h k v) (x : Int32) : Mp l yX7_isOne cX7_isOne 2 (some .boolean) 2 [vr 7 k, vi x] h (vi (b2i (inR x (vN v)))) := by
  refine Ms.of (by decide) (Nat.le_of_ble_eq_true rfl) (fun G C X F => ?_)
  have C : Cx G cX7_isOne 2 RX7 := C
  show Rr G 0 [(0, vr 7 k), (1, vi x)] [] h
  have bP := hm.bP
  have bM := hm.bM
  have bN := hm.bN
  refine r_iload_n C (dx dX7_isOne 0 rfl) rfl ?_
  refine r_i2l C (dx dX7_isOne 1 rfl) ?_
  refine r_lconst (v := 0) C (dx dX7_isOne 2 rfl) rfl ?_
  refine r_aload_n C (dx dX7_isOne 3 rfl) rfl ?_
  refine g_X7_74 (x := nI (vN v)) C (dx dX7_isOne 4 rfl) hm.eN ?_
  refine r_iconst (v := nI 1) C (dx dX7_isOne 5 rfl) rfl ?_
  refine r_isub C (dx dX7_isOne 6 rfl) ?_
  refine r_i2l C (dx dX7_isOne 7 rfl) ?_
  refine r_csP (as := [vl x.toInt64, vl 0, vl (((nI (vN v)) - (nI 1)).toInt64)]) (st := []) (v := vi (b2i (inR x (vN v)))) C X I_X7_in l_X7_67 (c_inN (by omega)) (by decide) (Nat.le_of_ble_eq_true rfl) List.prefix_rfl (Nat.le_of_ble_eq_true rfl) rfl (dx dX7_isOne 8 rfl) ?_
  exact F.1 _ _ _ _ _ rfl (nar_b _) (dx dX7_isOne 9 rfl) rfl ⟨congrArg (fun x => some (vi x)) (b2i_inj (by rfl)), rfl⟩
set_option maxHeartbeats 4000000 in
theorem c_X7_all {l : Launch} {h : Hp} {k : Nat} {v : Vg} (hm : MilAt h k v)  : Mp l yX7_all cX7_all 1 (some .int) 1 [vr 7 k] h (vi (full (vN v))) := by
  refine Ms.of (by decide) (Nat.le_of_ble_eq_true rfl) (fun G C X F => ?_)
  have C : Cx G cX7_all 1 RX7 := C
  show Rr G 0 [(0, vr 7 k)] [] h
  have bP := hm.bP
  have bM := hm.bM
  have bN := hm.bN
  refine r_iconst (v := nI 1) C (dx dX7_all 0 rfl) rfl ?_
  refine r_aload_n C (dx dX7_all 1 rfl) rfl ?_
  refine g_X7_74 (x := nI (vN v)) C (dx dX7_all 2 rfl) hm.eN ?_
  refine r_ishl C (dx dX7_all 3 rfl) ?_
  refine r_iconst (v := nI 1) C (dx dX7_all 4 rfl) rfl ?_
  refine r_isub C (dx dX7_all 5 rfl) ?_
  exact F.1 _ _ _ _ _ rfl rfl (dx dX7_all 6 rfl) rfl ⟨congrArg (fun x => some (vi x)) (show ((nI 1) <<< ((nI (vN v)) &&& 31)) - (nI 1) = full (vN v) by exact full_sh (by omega)), rfl⟩
theorem and1 (x : Int32) : ∃ b, b ≤ 1 ∧ x &&& nI 1 = nI b := by
  obtain ⟨j, rfl⟩ := nI_ex x
  exact ⟨j &&& 1, Nat.and_le_right, nI_and⟩
set_option maxHeartbeats 4000000 in
theorem c_X7_bits {l : Launch} {h : Hp} (x : Int32) : Ms l yX7_bits cX7_bits 3 (some .int) 1 [vi x] h (xK h) (fun r h' => (∃ j, j ≤ 12 ∧ r = some (vi (nI j))) ∧ h' = h) := by
  refine Ms.of (by decide) (Nat.le_of_ble_eq_true rfl) (fun G C X F => ?_)
  have C : Cx G cX7_bits 3 RX7 := C
  show Rr G 0 [(0, vi x)] [] h
  refine r_iconst (v := nI 0) C (dx dX7_bits 0 rfl) rfl ?_
  refine r_istore_n (ls' := [(0, vi x), (1, vi (nI 0))]) C (dx dX7_bits 1 rfl) (by decide) [1, 0] rfl ?_
  refine r_iconst (v := nI 0) C (dx dX7_bits 2 rfl) rfl ?_
  refine r_istore_n (ls' := [(0, vi x), (1, vi (nI 0)), (2, vi (nI 0))]) C (dx dX7_bits 3 rfl) (by decide) [1, 2, 0] rfl ?_
  refine loopU (Φ := fun p => ∀ (x1 : Nat), x1 ≤ p → Rr G 4 [(0, vi x), (1, vi (nI x1)), (2, vi (nI p))] [] h) (N := 12) ?_ ?_ 0 (by omega) 0 (by omega)
  ·
    intro  x1 hx1
    refine r_iload_n C (dx dX7_bits 4 rfl) rfl ?_
    refine r_bipush (v := nI 12) C (dx dX7_bits 5 rfl) rfl ?_
    refine rn_ge (a := 12) (b := 12) (tgt := 24) C (by omega) (by omega) (dx dX7_bits 6 rfl) (by decide) (fun c1 => ?_) (fun c1 => ?_)
    · first
      | (omega; done)
      | (
          have c1 : 12 ≤ 12 := c1
          refine r_iload_n C (dx dX7_bits 17 rfl) rfl ?_
          exact F.1 _ _ _ _ .int rfl rfl (dx dX7_bits 18 rfl) rfl ⟨⟨_, by omega, rfl⟩, rfl⟩)
    · first
      | (omega; done)
  ·
    intro p hp ihp x1 hx1
    refine r_iload_n C (dx dX7_bits 4 rfl) rfl ?_
    refine r_bipush (v := nI 12) C (dx dX7_bits 5 rfl) rfl ?_
    refine rn_ge (a := p) (b := 12) (tgt := 24) C (by omega) (by omega) (dx dX7_bits 6 rfl) (by decide) (fun c3 => ?_) (fun c3 => ?_)
    · first
      | (omega; done)
      | (
          have c3 : 12 ≤ p := c3
          refine r_iload_n C (dx dX7_bits 17 rfl) rfl ?_
          exact F.1 _ _ _ _ .int rfl rfl (dx dX7_bits 18 rfl) rfl ⟨⟨_, by omega, rfl⟩, rfl⟩)
    · first
      | (omega; done)
      | (
          have c3 : p < 12 := c3
          refine r_iload_n C (dx dX7_bits 7 rfl) rfl ?_
          refine r_iload_n C (dx dX7_bits 8 rfl) rfl ?_
          refine r_iload_n C (dx dX7_bits 9 rfl) rfl ?_
          refine r_ishr C (dx dX7_bits 10 rfl) ?_
          refine r_iconst (v := nI 1) C (dx dX7_bits 11 rfl) rfl ?_
          refine r_iand C (dx dX7_bits 12 rfl) ?_
          obtain ⟨a4, ha4, ea4⟩ := and1 (x >>> ((nI p) &&& 31))
          rw [ea4]
          refine rn_iadd (a := x1) (b := a4) C (dx dX7_bits 13 rfl) ?_
          refine r_istore_n (ls' := [(0, vi x), (1, vi (nI (x1 + a4))), (2, vi (nI p))]) C (dx dX7_bits 14 rfl) (by decide) [1, 0, 2] rfl ?_
          refine rn_iinc (a := p) (k := 1) (ls' := [(0, vi x), (1, vi (nI (x1 + a4))), (2, vi (nI (p + 1)))]) C (dx dX7_bits 15 rfl) rfl rfl (by decide) [1, 2, 0] rfl ?_
          refine r_goto (tgt := 4) C (dx dX7_bits 16 rfl) (by decide) ?_
          exact ihp (x1 + a4) (by omega))
set_option maxHeartbeats 4000000 in
theorem c_X7_isIn {l : Launch} {h : Hp} (x y : Int32) : Ms l yX7_isIn cX7_isIn 2 (some .boolean) 1 [vi x, vi y] h (xK h) (fun r h' => PB r ∧ h' = h) := by
  refine Ms.of (by decide) (Nat.le_of_ble_eq_true rfl) (fun G C X F => ?_)
  have C : Cx G cX7_isIn 2 RX7 := C
  show Rr G 0 [(0, vi x), (1, vi y)] [] h
  refine r_iload_n C (dx dX7_isIn 0 rfl) rfl ?_
  refine r_iconst (v := -1) C (dx dX7_isIn 1 rfl) rfl ?_
  refine r_icmp_eq (tgt := 17) C (dx dX7_isIn 2 rfl) (by decide) (fun c1 => ?_) (fun c1 => ?_)
  ·
    have c1 : y = -1 := c1
    refine r_iconst (v := nI 0) C (dx dX7_isIn 11 rfl) rfl ?_
    exact F.1 _ _ _ _ .boolean rfl rfl (dx dX7_isIn 12 rfl) rfl ⟨⟨false, rfl⟩, rfl⟩
  ·
    have c1 : ¬ y = -1 := c1
    refine r_iload_n C (dx dX7_isIn 3 rfl) rfl ?_
    refine r_iload_n C (dx dX7_isIn 4 rfl) rfl ?_
    refine r_ishr C (dx dX7_isIn 5 rfl) ?_
    refine r_iconst (v := nI 1) C (dx dX7_isIn 6 rfl) rfl ?_
    refine r_iand C (dx dX7_isIn 7 rfl) ?_
    refine r_if_eq (tgt := 17) C (dx dX7_isIn 8 rfl) (by decide) (fun c2 => ?_) (fun c2 => ?_)
    ·
      have c2 : (x >>> (y &&& 31)) &&& (nI 1) = 0 := c2
      refine r_iconst (v := nI 0) C (dx dX7_isIn 11 rfl) rfl ?_
      exact F.1 _ _ _ _ .boolean rfl rfl (dx dX7_isIn 12 rfl) rfl ⟨⟨false, rfl⟩, rfl⟩
    ·
      have c2 : ¬ (x >>> (y &&& 31)) &&& (nI 1) = 0 := c2
      refine r_iconst (v := nI 1) C (dx dX7_isIn 9 rfl) rfl ?_
      refine r_goto (tgt := 18) C (dx dX7_isIn 10 rfl) (by decide) ?_
      exact F.1 _ _ _ _ .boolean rfl rfl (dx dX7_isIn 12 rfl) rfl ⟨⟨true, rfl⟩, rfl⟩
set_option maxHeartbeats 4000000 in
theorem c_X7_piecesOf {l : Launch} {h : Hp} {k : Nat} {v : Vg} (hm : MilAt h k v) (o : Int32) : Ms l yX7_piecesOf cX7_piecesOf 4 (some .int) 1 [vr 7 k, vi o] h (xK h) (fun r h' => PI r ∧ h' = h) := by
  refine Ms.of (by decide) (Nat.le_of_ble_eq_true rfl) (fun G C X F => ?_)
  have C : Cx G cX7_piecesOf 4 RX7 := C
  show Rr G 0 [(0, vr 7 k), (1, vi o)] [] h
  have bP := hm.bP
  have bM := hm.bM
  have bN := hm.bN
  refine r_iconst (v := nI 0) C (dx dX7_piecesOf 0 rfl) rfl ?_
  refine r_istore_n (ls' := [(0, vr 7 k), (1, vi o), (2, vi (nI 0))]) C (dx dX7_piecesOf 1 rfl) (by decide) [1, 2, 0] rfl ?_
  refine r_iconst (v := nI 0) C (dx dX7_piecesOf 2 rfl) rfl ?_
  refine r_istore_n (ls' := [(0, vr 7 k), (1, vi o), (2, vi (nI 0)), (3, vi (nI 0))]) C (dx dX7_piecesOf 3 rfl) (by decide) [1, 2, 3, 0] rfl ?_
  refine loopU (Φ := fun p => ∀ (x2 : Int32), Rr G 4 [(0, vr 7 k), (1, vi o), (2, vi x2), (3, vi (nI p))] [] h) (N := vP v) ?_ ?_ 0 (by omega) (nI 0)
  ·
    intro  x2
    refine r_iload_n C (dx dX7_piecesOf 4 rfl) rfl ?_
    refine r_aload_n C (dx dX7_piecesOf 5 rfl) rfl ?_
    refine g_X7_64 (x := nI (vP v)) C (dx dX7_piecesOf 6 rfl) hm.eP ?_
    refine rn_ge (a := vP v) (b := vP v) (tgt := 52) C (by omega) (by omega) (dx dX7_piecesOf 7 rfl) (by decide) (fun c1 => ?_) (fun c1 => ?_)
    · first
      | (omega; done)
      | (
          have c1 : vP v ≤ vP v := c1
          refine r_iload_n C (dx dX7_piecesOf 32 rfl) rfl ?_
          exact F.1 _ _ _ _ .int rfl rfl (dx dX7_piecesOf 33 rfl) rfl ⟨⟨_, rfl⟩, rfl⟩)
    · first
      | (omega; done)
  ·
    intro p hp ihp x2
    refine r_iload_n C (dx dX7_piecesOf 4 rfl) rfl ?_
    refine r_aload_n C (dx dX7_piecesOf 5 rfl) rfl ?_
    refine g_X7_64 (x := nI (vP v)) C (dx dX7_piecesOf 6 rfl) hm.eP ?_
    refine rn_ge (a := p) (b := vP v) (tgt := 52) C (by omega) (by omega) (dx dX7_piecesOf 7 rfl) (by decide) (fun c4 => ?_) (fun c4 => ?_)
    · first
      | (omega; done)
      | (
          have c4 : vP v ≤ p := c4
          refine r_iload_n C (dx dX7_piecesOf 32 rfl) rfl ?_
          exact F.1 _ _ _ _ .int rfl rfl (dx dX7_piecesOf 33 rfl) rfl ⟨⟨_, rfl⟩, rfl⟩)
    · first
      | (omega; done)
      | (
          have c4 : p < vP v := c4
          refine r_iload_n C (dx dX7_piecesOf 8 rfl) rfl ?_
          refine r_aload_n C (dx dX7_piecesOf 9 rfl) rfl ?_
          refine g_X7_40 C (dx dX7_piecesOf 10 rfl) ?_
          refine r_iload_n C (dx dX7_piecesOf 11 rfl) rfl ?_
          refine r_iald (j := p) (x := vF v 0 p) C rfl rfl (by decide) rfl (by omega) (dx dX7_piecesOf 12 rfl) (hm.e0 (by omega)) ?_
          refine r_iload_n C (dx dX7_piecesOf 13 rfl) rfl ?_
          refine r_icmp_ne (tgt := 27) C (dx dX7_piecesOf 14 rfl) (by decide) (fun c5 => ?_) (fun c5 => ?_)
          ·
            have c5 : ¬ vF v 0 p = o := c5
            refine r_iconst (v := nI 0) C (dx dX7_piecesOf 17 rfl) rfl ?_
            refine r_aload_n C (dx dX7_piecesOf 18 rfl) rfl ?_
            refine g_X7_43 C (dx dX7_piecesOf 19 rfl) ?_
            refine r_iload_n C (dx dX7_piecesOf 20 rfl) rfl ?_
            refine r_iald (j := p) (x := vF v 1 p) C rfl rfl (by decide) rfl (by omega) (dx dX7_piecesOf 21 rfl) (hm.e1 (by omega)) ?_
            refine r_iload_n C (dx dX7_piecesOf 22 rfl) rfl ?_
            refine r_icmp_ne (tgt := 42) C (dx dX7_piecesOf 23 rfl) (by decide) (fun c6 => ?_) (fun c6 => ?_)
            ·
              have c6 : ¬ vF v 1 p = o := c6
              refine r_iconst (v := nI 0) C (dx dX7_piecesOf 26 rfl) rfl ?_
              refine rn_iadd (a := 0) (b := 0) C (dx dX7_piecesOf 27 rfl) ?_
              refine r_iadd C (dx dX7_piecesOf 28 rfl) ?_
              refine r_istore_n (ls' := [(0, vr 7 k), (1, vi o), (2, vi (x2 + (nI 0))), (3, vi (nI p))]) C (dx dX7_piecesOf 29 rfl) (by decide) [1, 2, 0, 3] rfl ?_
              refine rn_iinc (a := p) (k := 1) (ls' := [(0, vr 7 k), (1, vi o), (2, vi (x2 + (nI 0))), (3, vi (nI (p + 1)))]) C (dx dX7_piecesOf 30 rfl) rfl rfl (by decide) [1, 2, 3, 0] rfl ?_
              refine r_goto (tgt := 4) C (dx dX7_piecesOf 31 rfl) (by decide) ?_
              exact ihp (x2 + (nI 0))
            ·
              have c6 : vF v 1 p = o := c6
              refine r_iconst (v := nI 1) C (dx dX7_piecesOf 24 rfl) rfl ?_
              refine r_goto (tgt := 43) C (dx dX7_piecesOf 25 rfl) (by decide) ?_
              refine rn_iadd (a := 0) (b := 1) C (dx dX7_piecesOf 27 rfl) ?_
              refine r_iadd C (dx dX7_piecesOf 28 rfl) ?_
              refine r_istore_n (ls' := [(0, vr 7 k), (1, vi o), (2, vi (x2 + (nI 1))), (3, vi (nI p))]) C (dx dX7_piecesOf 29 rfl) (by decide) [1, 2, 0, 3] rfl ?_
              refine rn_iinc (a := p) (k := 1) (ls' := [(0, vr 7 k), (1, vi o), (2, vi (x2 + (nI 1))), (3, vi (nI (p + 1)))]) C (dx dX7_piecesOf 30 rfl) rfl rfl (by decide) [1, 2, 3, 0] rfl ?_
              refine r_goto (tgt := 4) C (dx dX7_piecesOf 31 rfl) (by decide) ?_
              exact ihp (x2 + (nI 1))
          ·
            have c5 : vF v 0 p = o := c5
            refine r_iconst (v := nI 1) C (dx dX7_piecesOf 15 rfl) rfl ?_
            refine r_goto (tgt := 28) C (dx dX7_piecesOf 16 rfl) (by decide) ?_
            refine r_aload_n C (dx dX7_piecesOf 18 rfl) rfl ?_
            refine g_X7_43 C (dx dX7_piecesOf 19 rfl) ?_
            refine r_iload_n C (dx dX7_piecesOf 20 rfl) rfl ?_
            refine r_iald (j := p) (x := vF v 1 p) C rfl rfl (by decide) rfl (by omega) (dx dX7_piecesOf 21 rfl) (hm.e1 (by omega)) ?_
            refine r_iload_n C (dx dX7_piecesOf 22 rfl) rfl ?_
            refine r_icmp_ne (tgt := 42) C (dx dX7_piecesOf 23 rfl) (by decide) (fun c7 => ?_) (fun c7 => ?_)
            ·
              have c7 : ¬ vF v 1 p = o := c7
              refine r_iconst (v := nI 0) C (dx dX7_piecesOf 26 rfl) rfl ?_
              refine rn_iadd (a := 1) (b := 0) C (dx dX7_piecesOf 27 rfl) ?_
              refine r_iadd C (dx dX7_piecesOf 28 rfl) ?_
              refine r_istore_n (ls' := [(0, vr 7 k), (1, vi o), (2, vi (x2 + (nI 1))), (3, vi (nI p))]) C (dx dX7_piecesOf 29 rfl) (by decide) [1, 2, 0, 3] rfl ?_
              refine rn_iinc (a := p) (k := 1) (ls' := [(0, vr 7 k), (1, vi o), (2, vi (x2 + (nI 1))), (3, vi (nI (p + 1)))]) C (dx dX7_piecesOf 30 rfl) rfl rfl (by decide) [1, 2, 3, 0] rfl ?_
              refine r_goto (tgt := 4) C (dx dX7_piecesOf 31 rfl) (by decide) ?_
              exact ihp (x2 + (nI 1))
            ·
              have c7 : vF v 1 p = o := c7
              refine r_iconst (v := nI 1) C (dx dX7_piecesOf 24 rfl) rfl ?_
              refine r_goto (tgt := 43) C (dx dX7_piecesOf 25 rfl) (by decide) ?_
              refine rn_iadd (a := 1) (b := 1) C (dx dX7_piecesOf 27 rfl) ?_
              refine r_iadd C (dx dX7_piecesOf 28 rfl) ?_
              refine r_istore_n (ls' := [(0, vr 7 k), (1, vi o), (2, vi (x2 + (nI 2))), (3, vi (nI p))]) C (dx dX7_piecesOf 29 rfl) (by decide) [1, 2, 0, 3] rfl ?_
              refine rn_iinc (a := p) (k := 1) (ls' := [(0, vr 7 k), (1, vi o), (2, vi (x2 + (nI 2))), (3, vi (nI (p + 1)))]) C (dx dX7_piecesOf 30 rfl) rfl rfl (by decide) [1, 2, 3, 0] rfl ?_
              refine r_goto (tgt := 4) C (dx dX7_piecesOf 31 rfl) (by decide) ?_
              exact ihp (x2 + (nI 2)))
set_option maxHeartbeats 4000000 in
theorem c_X7_hasRoom {l : Launch} {h : Hp} {k : Nat} {v : Vg} (hm : MilAt h k v) {j : Nat} (hj : j < vN v) : Ms l yX7_hasRoom cX7_hasRoom 2 (some .boolean) 2 [vr 7 k, vi (nI j)] h (xK h) (fun r h' => PB r ∧ h' = h) := by
  refine Ms.of (by decide) (Nat.le_of_ble_eq_true rfl) (fun G C X F => ?_)
  have C : Cx G cX7_hasRoom 2 RX7 := C
  show Rr G 0 [(0, vr 7 k), (1, vi (nI j))] [] h
  have bP := hm.bP
  have bM := hm.bM
  have bN := hm.bN
  refine r_aload_n C (dx dX7_hasRoom 0 rfl) rfl ?_
  refine r_iload_n C (dx dX7_hasRoom 1 rfl) rfl ?_
  refine r_cvW (as := [vi (nI j)]) (st := []) C X I_X7_piecesOf l_X7_129 (c_X7_piecesOf hm _) (by decide) (Nat.le_of_ble_eq_true rfl) List.prefix_rfl rfl rfl (Nat.le_of_ble_eq_true rfl) rfl (dx dX7_hasRoom 2 rfl) ?_
  rintro _ ⟨x1, rfl⟩
  refine r_aload_n C (dx dX7_hasRoom 3 rfl) rfl ?_
  refine g_X7_54 C (dx dX7_hasRoom 4 rfl) ?_
  refine r_iload_n C (dx dX7_hasRoom 5 rfl) rfl ?_
  refine r_aald4 (j := j) C rfl rfl (by decide) rfl (by omega) (dx dX7_hasRoom 6 rfl) ?_
  refine r_iconst (v := nI 0) C (dx dX7_hasRoom 7 rfl) rfl ?_
  refine r_iald (j := 0) (x := vF v 4 j) C rfl rfl (by decide) rfl (by omega) (dx dX7_hasRoom 8 rfl) (hm.eo (by omega) (by omega)) ?_
  refine r_icmp_ge (tgt := 20) C (dx dX7_hasRoom 9 rfl) (by decide) (fun c2 => ?_) (fun c2 => ?_)
  ·
    have c2 : vF v 4 j ≤ x1 := c2
    refine r_iconst (v := nI 0) C (dx dX7_hasRoom 12 rfl) rfl ?_
    exact F.1 _ _ _ _ .boolean rfl rfl (dx dX7_hasRoom 13 rfl) rfl ⟨⟨false, rfl⟩, rfl⟩
  ·
    have c2 : ¬ vF v 4 j ≤ x1 := c2
    refine r_iconst (v := nI 1) C (dx dX7_hasRoom 10 rfl) rfl ?_
    refine r_goto (tgt := 21) C (dx dX7_hasRoom 11 rfl) (by decide) ?_
    exact F.1 _ _ _ _ .boolean rfl rfl (dx dX7_hasRoom 13 rfl) rfl ⟨⟨true, rfl⟩, rfl⟩
set_option maxHeartbeats 4000000 in
theorem c_X7_hasOf {l : Launch} {h : Hp} {k : Nat} {v : Vg} (hm : MilAt h k v) (s : Int32) : Ms l yX7_hasOf cX7_hasOf 4 (some .int) 2 [vr 7 k, vi s] h (xK h) (fun r h' => PI r ∧ h' = h) := by
  refine Ms.of (by decide) (Nat.le_of_ble_eq_true rfl) (fun G C X F => ?_)
  have C : Cx G cX7_hasOf 4 RX7 := C
  show Rr G 0 [(0, vr 7 k), (1, vi s)] [] h
  have bP := hm.bP
  have bM := hm.bM
  have bN := hm.bN
  refine r_iconst (v := nI 0) C (dx dX7_hasOf 0 rfl) rfl ?_
  refine r_istore_n (ls' := [(0, vr 7 k), (1, vi s), (2, vi (nI 0))]) C (dx dX7_hasOf 1 rfl) (by decide) [1, 2, 0] rfl ?_
  refine r_iconst (v := nI 0) C (dx dX7_hasOf 2 rfl) rfl ?_
  refine r_istore_n (ls' := [(0, vr 7 k), (1, vi s), (2, vi (nI 0)), (3, vi (nI 0))]) C (dx dX7_hasOf 3 rfl) (by decide) [1, 2, 3, 0] rfl ?_
  refine loopU (Φ := fun p => ∀ (x2 : Int32), Rr G 4 [(0, vr 7 k), (1, vi s), (2, vi x2), (3, vi (nI p))] [] h) (N := vP v) ?_ ?_ 0 (by omega) (nI 0)
  ·
    intro  x2
    refine r_iload_n C (dx dX7_hasOf 4 rfl) rfl ?_
    refine r_aload_n C (dx dX7_hasOf 5 rfl) rfl ?_
    refine g_X7_64 (x := nI (vP v)) C (dx dX7_hasOf 6 rfl) hm.eP ?_
    refine rn_ge (a := vP v) (b := vP v) (tgt := 54) C (by omega) (by omega) (dx dX7_hasOf 7 rfl) (by decide) (fun c1 => ?_) (fun c1 => ?_)
    · first
      | (omega; done)
      | (
          have c1 : vP v ≤ vP v := c1
          refine r_iload_n C (dx dX7_hasOf 32 rfl) rfl ?_
          exact F.1 _ _ _ _ .int rfl rfl (dx dX7_hasOf 33 rfl) rfl ⟨⟨_, rfl⟩, rfl⟩)
    · first
      | (omega; done)
  ·
    intro p hp ihp x2
    refine r_iload_n C (dx dX7_hasOf 4 rfl) rfl ?_
    refine r_aload_n C (dx dX7_hasOf 5 rfl) rfl ?_
    refine g_X7_64 (x := nI (vP v)) C (dx dX7_hasOf 6 rfl) hm.eP ?_
    refine rn_ge (a := p) (b := vP v) (tgt := 54) C (by omega) (by omega) (dx dX7_hasOf 7 rfl) (by decide) (fun c4 => ?_) (fun c4 => ?_)
    · first
      | (omega; done)
      | (
          have c4 : vP v ≤ p := c4
          refine r_iload_n C (dx dX7_hasOf 32 rfl) rfl ?_
          exact F.1 _ _ _ _ .int rfl rfl (dx dX7_hasOf 33 rfl) rfl ⟨⟨_, rfl⟩, rfl⟩)
    · first
      | (omega; done)
      | (
          have c4 : p < vP v := c4
          refine r_iload_n C (dx dX7_hasOf 8 rfl) rfl ?_
          refine r_iload_n C (dx dX7_hasOf 9 rfl) rfl ?_
          refine r_aload_n C (dx dX7_hasOf 10 rfl) rfl ?_
          refine g_X7_40 C (dx dX7_hasOf 11 rfl) ?_
          refine r_iload_n C (dx dX7_hasOf 12 rfl) rfl ?_
          refine r_iald (j := p) (x := vF v 0 p) C rfl rfl (by decide) rfl (by omega) (dx dX7_hasOf 13 rfl) (hm.e0 (by omega)) ?_
          refine r_csW (as := [vi s, vi (vF v 0 p)]) (st := [vi x2]) C X I_X7_isIn l_X7_244 (c_X7_isIn _ _) (by decide) (Nat.le_of_ble_eq_true rfl) List.prefix_rfl (Nat.le_of_ble_eq_true rfl) rfl (dx dX7_hasOf 14 rfl) ?_
          rintro _ ⟨x5, rfl⟩
          refine rb_ne (b := x5) (tgt := 39) C (dx dX7_hasOf 15 rfl) (by decide) (fun c6 => ?_) (fun c6 => ?_)
          ·
            have c6 : x5 = true := c6
            refine r_iconst (v := nI 1) C (dx dX7_hasOf 23 rfl) rfl ?_
            refine r_iload_n C (dx dX7_hasOf 24 rfl) rfl ?_
            refine r_ishl C (dx dX7_hasOf 25 rfl) ?_
            refine r_goto (tgt := 46) C (dx dX7_hasOf 26 rfl) (by decide) ?_
            refine r_ior C (dx dX7_hasOf 28 rfl) ?_
            refine r_istore_n (ls' := [(0, vr 7 k), (1, vi s), (2, vi (x2 ||| ((nI 1) <<< ((nI p) &&& 31)))), (3, vi (nI p))]) C (dx dX7_hasOf 29 rfl) (by decide) [1, 2, 0, 3] rfl ?_
            refine rn_iinc (a := p) (k := 1) (ls' := [(0, vr 7 k), (1, vi s), (2, vi (x2 ||| ((nI 1) <<< ((nI p) &&& 31)))), (3, vi (nI (p + 1)))]) C (dx dX7_hasOf 30 rfl) rfl rfl (by decide) [1, 2, 3, 0] rfl ?_
            refine r_goto (tgt := 4) C (dx dX7_hasOf 31 rfl) (by decide) ?_
            exact ihp (x2 ||| ((nI 1) <<< ((nI p) &&& 31)))
          ·
            have c6 : x5 = false := c6
            refine r_iload_n C (dx dX7_hasOf 16 rfl) rfl ?_
            refine r_aload_n C (dx dX7_hasOf 17 rfl) rfl ?_
            refine g_X7_43 C (dx dX7_hasOf 18 rfl) ?_
            refine r_iload_n C (dx dX7_hasOf 19 rfl) rfl ?_
            refine r_iald (j := p) (x := vF v 1 p) C rfl rfl (by decide) rfl (by omega) (dx dX7_hasOf 20 rfl) (hm.e1 (by omega)) ?_
            refine r_csW (as := [vi s, vi (vF v 1 p)]) (st := [vi x2]) C X I_X7_isIn l_X7_244 (c_X7_isIn _ _) (by decide) (Nat.le_of_ble_eq_true rfl) List.prefix_rfl (Nat.le_of_ble_eq_true rfl) rfl (dx dX7_hasOf 21 rfl) ?_
            rintro _ ⟨x7, rfl⟩
            refine rb_eq (b := x7) (tgt := 45) C (dx dX7_hasOf 22 rfl) (by decide) (fun c8 => ?_) (fun c8 => ?_)
            ·
              have c8 : x7 = false := c8
              refine r_iconst (v := nI 0) C (dx dX7_hasOf 27 rfl) rfl ?_
              refine r_ior C (dx dX7_hasOf 28 rfl) ?_
              refine r_istore_n (ls' := [(0, vr 7 k), (1, vi s), (2, vi (x2 ||| (nI 0))), (3, vi (nI p))]) C (dx dX7_hasOf 29 rfl) (by decide) [1, 2, 0, 3] rfl ?_
              refine rn_iinc (a := p) (k := 1) (ls' := [(0, vr 7 k), (1, vi s), (2, vi (x2 ||| (nI 0))), (3, vi (nI (p + 1)))]) C (dx dX7_hasOf 30 rfl) rfl rfl (by decide) [1, 2, 3, 0] rfl ?_
              refine r_goto (tgt := 4) C (dx dX7_hasOf 31 rfl) (by decide) ?_
              exact ihp (x2 ||| (nI 0))
            ·
              have c8 : x7 = true := c8
              refine r_iconst (v := nI 1) C (dx dX7_hasOf 23 rfl) rfl ?_
              refine r_iload_n C (dx dX7_hasOf 24 rfl) rfl ?_
              refine r_ishl C (dx dX7_hasOf 25 rfl) ?_
              refine r_goto (tgt := 46) C (dx dX7_hasOf 26 rfl) (by decide) ?_
              refine r_ior C (dx dX7_hasOf 28 rfl) ?_
              refine r_istore_n (ls' := [(0, vr 7 k), (1, vi s), (2, vi (x2 ||| ((nI 1) <<< ((nI p) &&& 31)))), (3, vi (nI p))]) C (dx dX7_hasOf 29 rfl) (by decide) [1, 2, 0, 3] rfl ?_
              refine rn_iinc (a := p) (k := 1) (ls' := [(0, vr 7 k), (1, vi s), (2, vi (x2 ||| ((nI 1) <<< ((nI p) &&& 31)))), (3, vi (nI (p + 1)))]) C (dx dX7_hasOf 30 rfl) rfl rfl (by decide) [1, 2, 3, 0] rfl ?_
              refine r_goto (tgt := 4) C (dx dX7_hasOf 31 rfl) (by decide) ?_
              exact ihp (x2 ||| ((nI 1) <<< ((nI p) &&& 31))))
set_option maxHeartbeats 4000000 in
theorem c_X7_worksOf {l : Launch} {h : Hp} {k : Nat} {v : Vg} (hm : MilAt h k v) {m : Nat} (hj : m < vM v) (s : Int32) : Ms l yX7_worksOf cX7_worksOf 3 (some .boolean) 3 [vr 7 k, vi (nI m), vi s] h (xK h) (fun r h' => PB r ∧ h' = h) := by
  refine Ms.of (by decide) (Nat.le_of_ble_eq_true rfl) (fun G C X F => ?_)
  have C : Cx G cX7_worksOf 3 RX7 := C
  show Rr G 0 [(0, vr 7 k), (1, vi (nI m)), (2, vi s)] [] h
  have bP := hm.bP
  have bM := hm.bM
  have bN := hm.bN
  refine r_aload_n C (dx dX7_worksOf 0 rfl) rfl ?_
  refine g_X7_46 C (dx dX7_worksOf 1 rfl) ?_
  refine r_iload_n C (dx dX7_worksOf 2 rfl) rfl ?_
  refine r_iald (j := m) (x := vF v 2 m) C rfl rfl (by decide) rfl (by omega) (dx dX7_worksOf 3 rfl) (hm.e2 (by omega)) ?_
  refine r_aload_n C (dx dX7_worksOf 4 rfl) rfl ?_
  refine r_iload_n C (dx dX7_worksOf 5 rfl) rfl ?_
  refine r_cvW (as := [vi s]) (st := [vi (vF v 2 m)]) C X I_X7_hasOf l_X7_247 (c_X7_hasOf hm _) (by decide) (Nat.le_of_ble_eq_true rfl) List.prefix_rfl rfl rfl (Nat.le_of_ble_eq_true rfl) rfl (dx dX7_worksOf 6 rfl) ?_
  rintro _ ⟨x1, rfl⟩
  refine r_iconst (v := -1) C (dx dX7_worksOf 7 rfl) rfl ?_
  refine r_ixor C (dx dX7_worksOf 8 rfl) ?_
  refine r_iand C (dx dX7_worksOf 9 rfl) ?_
  refine r_if_ne (tgt := 21) C (dx dX7_worksOf 10 rfl) (by decide) (fun c2 => ?_) (fun c2 => ?_)
  ·
    have c2 : ¬ (vF v 2 m) &&& (x1 ^^^ (-1)) = 0 := c2
    refine r_iconst (v := nI 0) C (dx dX7_worksOf 13 rfl) rfl ?_
    exact F.1 _ _ _ _ .boolean rfl rfl (dx dX7_worksOf 14 rfl) rfl ⟨⟨false, rfl⟩, rfl⟩
  ·
    have c2 : (vF v 2 m) &&& (x1 ^^^ (-1)) = 0 := c2
    refine r_iconst (v := nI 1) C (dx dX7_worksOf 11 rfl) rfl ?_
    refine r_goto (tgt := 22) C (dx dX7_worksOf 12 rfl) (by decide) ?_
    exact F.1 _ _ _ _ .boolean rfl rfl (dx dX7_worksOf 14 rfl) rfl ⟨⟨true, rfl⟩, rfl⟩
set_option maxHeartbeats 4000000 in
theorem c_X7_bothOf {l : Launch} {h : Hp} {k : Nat} {v : Vg} (hm : MilAt h k v) {m n : Nat} (hj : m < vM v) (hn : n < vM v) (s : Int32) : Ms l yX7_bothOf cX7_bothOf 5 (some .boolean) 4 [vr 7 k, vi (nI m), vi (nI n), vi s] h (xK h) (fun r h' => PB r ∧ h' = h) := by
  refine Ms.of (by decide) (Nat.le_of_ble_eq_true rfl) (fun G C X F => ?_)
  have C : Cx G cX7_bothOf 5 RX7 := C
  show Rr G 0 [(0, vr 7 k), (1, vi (nI m)), (2, vi (nI n)), (3, vi s)] [] h
  have bP := hm.bP
  have bM := hm.bM
  have bN := hm.bN
  refine r_aload_n C (dx dX7_bothOf 0 rfl) rfl ?_
  refine r_iload_n C (dx dX7_bothOf 1 rfl) rfl ?_
  refine r_iload_n C (dx dX7_bothOf 2 rfl) rfl ?_
  refine r_cvW (as := [vi (nI m), vi s]) (st := []) C X I_X7_worksOf l_X7_250 (c_X7_worksOf hm (m := m) (by omega) _) (by decide) (Nat.le_of_ble_eq_true rfl) List.prefix_rfl rfl rfl (Nat.le_of_ble_eq_true rfl) rfl (dx dX7_bothOf 3 rfl) ?_
  rintro _ ⟨x1, rfl⟩
  refine rb_eq (b := x1) (tgt := 18) C (dx dX7_bothOf 4 rfl) (by decide) (fun c2 => ?_) (fun c2 => ?_)
  ·
    have c2 : x1 = false := c2
    refine r_iconst (v := nI 0) C (dx dX7_bothOf 10 rfl) rfl ?_
    exact F.1 _ _ _ _ .boolean rfl rfl (dx dX7_bothOf 11 rfl) rfl ⟨⟨false, rfl⟩, rfl⟩
  ·
    have c2 : x1 = true := c2
    refine r_aload_n C (dx dX7_bothOf 5 rfl) rfl ?_
    refine r_iload_n C (dx dX7_bothOf 6 rfl) rfl ?_
    refine r_iload_n C (dx dX7_bothOf 7 rfl) rfl ?_
    refine r_cvW (as := [vi (nI n), vi s]) (st := []) C X I_X7_worksOf l_X7_250 (c_X7_worksOf hm (m := n) (by omega) _) (by decide) (Nat.le_of_ble_eq_true rfl) List.prefix_rfl rfl rfl (Nat.le_of_ble_eq_true rfl) rfl (dx dX7_bothOf 8 rfl) ?_
    rintro _ ⟨x3, rfl⟩
    refine rb_ne (b := x3) (tgt := 20) C (dx dX7_bothOf 9 rfl) (by decide) (fun c4 => ?_) (fun c4 => ?_)
    ·
      have c4 : x3 = true := c4
      refine r_iconst (v := nI 0) C (dx dX7_bothOf 12 rfl) rfl ?_
      refine r_istore (ls' := [(0, vr 7 k), (1, vi (nI m)), (2, vi (nI n)), (3, vi s), (4, vi (nI 0))]) C (dx dX7_bothOf 13 rfl) (by decide) [1, 2, 3, 4, 0] rfl ?_
      refine loopU (Φ := fun p => Rr G 23 [(0, vr 7 k), (1, vi (nI m)), (2, vi (nI n)), (3, vi s), (4, vi (nI p))] [] h) (N := vP v) ?_ ?_ 0 (by omega) 
      ·
        refine r_iload C (dx dX7_bothOf 14 rfl) rfl ?_
        refine r_aload_n C (dx dX7_bothOf 15 rfl) rfl ?_
        refine g_X7_64 (x := nI (vP v)) C (dx dX7_bothOf 16 rfl) hm.eP ?_
        refine rn_ge (a := vP v) (b := vP v) (tgt := 89) C (by omega) (by omega) (dx dX7_bothOf 17 rfl) (by decide) (fun c5 => ?_) (fun c5 => ?_)
        · first
          | (omega; done)
          | (
              have c5 : vP v ≤ vP v := c5
              refine r_iconst (v := nI 1) C (dx dX7_bothOf 48 rfl) rfl ?_
              exact F.1 _ _ _ _ .boolean rfl rfl (dx dX7_bothOf 49 rfl) rfl ⟨⟨true, rfl⟩, rfl⟩)
        · first
          | (omega; done)
      ·
        intro p hp ihp
        refine r_iload C (dx dX7_bothOf 14 rfl) rfl ?_
        refine r_aload_n C (dx dX7_bothOf 15 rfl) rfl ?_
        refine g_X7_64 (x := nI (vP v)) C (dx dX7_bothOf 16 rfl) hm.eP ?_
        refine rn_ge (a := p) (b := vP v) (tgt := 89) C (by omega) (by omega) (dx dX7_bothOf 17 rfl) (by decide) (fun c8 => ?_) (fun c8 => ?_)
        · first
          | (omega; done)
          | (
              have c8 : vP v ≤ p := c8
              refine r_iconst (v := nI 1) C (dx dX7_bothOf 48 rfl) rfl ?_
              exact F.1 _ _ _ _ .boolean rfl rfl (dx dX7_bothOf 49 rfl) rfl ⟨⟨true, rfl⟩, rfl⟩)
        · first
          | (omega; done)
          | (
              have c8 : p < vP v := c8
              refine r_aload_n C (dx dX7_bothOf 18 rfl) rfl ?_
              refine g_X7_46 C (dx dX7_bothOf 19 rfl) ?_
              refine r_iload_n C (dx dX7_bothOf 20 rfl) rfl ?_
              refine r_iald (j := m) (x := vF v 2 m) C rfl rfl (by decide) rfl (by omega) (dx dX7_bothOf 21 rfl) (hm.e2 (by omega)) ?_
              refine r_aload_n C (dx dX7_bothOf 22 rfl) rfl ?_
              refine g_X7_46 C (dx dX7_bothOf 23 rfl) ?_
              refine r_iload_n C (dx dX7_bothOf 24 rfl) rfl ?_
              refine r_iald (j := n) (x := vF v 2 n) C rfl rfl (by decide) rfl (by omega) (dx dX7_bothOf 25 rfl) (hm.e2 (by omega)) ?_
              refine r_iand C (dx dX7_bothOf 26 rfl) ?_
              refine r_iload C (dx dX7_bothOf 27 rfl) rfl ?_
              refine r_csW (as := [vi ((vF v 2 m) &&& (vF v 2 n)), vi (nI p)]) (st := []) C X I_X7_isIn l_X7_244 (c_X7_isIn _ _) (by decide) (Nat.le_of_ble_eq_true rfl) List.prefix_rfl (Nat.le_of_ble_eq_true rfl) rfl (dx dX7_bothOf 28 rfl) ?_
              rintro _ ⟨x9, rfl⟩
              refine rb_eq (b := x9) (tgt := 83) C (dx dX7_bothOf 29 rfl) (by decide) (fun c10 => ?_) (fun c10 => ?_)
              ·
                have c10 : x9 = false := c10
                refine rn_iinc (a := p) (k := 1) (ls' := [(0, vr 7 k), (1, vi (nI m)), (2, vi (nI n)), (3, vi s), (4, vi (nI (p + 1)))]) C (dx dX7_bothOf 46 rfl) rfl rfl (by decide) [1, 2, 3, 4, 0] rfl ?_
                refine r_goto (tgt := 23) C (dx dX7_bothOf 47 rfl) (by decide) ?_
                exact ihp 
              ·
                have c10 : x9 = true := c10
                refine r_iload_n C (dx dX7_bothOf 30 rfl) rfl ?_
                refine r_aload_n C (dx dX7_bothOf 31 rfl) rfl ?_
                refine g_X7_40 C (dx dX7_bothOf 32 rfl) ?_
                refine r_iload C (dx dX7_bothOf 33 rfl) rfl ?_
                refine r_iald (j := p) (x := vF v 0 p) C rfl rfl (by decide) rfl (by omega) (dx dX7_bothOf 34 rfl) (hm.e0 (by omega)) ?_
                refine r_csW (as := [vi s, vi (vF v 0 p)]) (st := []) C X I_X7_isIn l_X7_244 (c_X7_isIn _ _) (by decide) (Nat.le_of_ble_eq_true rfl) List.prefix_rfl (Nat.le_of_ble_eq_true rfl) rfl (dx dX7_bothOf 35 rfl) ?_
                rintro _ ⟨x11, rfl⟩
                refine rb_eq (b := x11) (tgt := 81) C (dx dX7_bothOf 36 rfl) (by decide) (fun c12 => ?_) (fun c12 => ?_)
                ·
                  have c12 : x11 = false := c12
                  refine r_iconst (v := nI 0) C (dx dX7_bothOf 44 rfl) rfl ?_
                  exact F.1 _ _ _ _ .boolean rfl rfl (dx dX7_bothOf 45 rfl) rfl ⟨⟨false, rfl⟩, rfl⟩
                ·
                  have c12 : x11 = true := c12
                  refine r_iload_n C (dx dX7_bothOf 37 rfl) rfl ?_
                  refine r_aload_n C (dx dX7_bothOf 38 rfl) rfl ?_
                  refine g_X7_43 C (dx dX7_bothOf 39 rfl) ?_
                  refine r_iload C (dx dX7_bothOf 40 rfl) rfl ?_
                  refine r_iald (j := p) (x := vF v 1 p) C rfl rfl (by decide) rfl (by omega) (dx dX7_bothOf 41 rfl) (hm.e1 (by omega)) ?_
                  refine r_csW (as := [vi s, vi (vF v 1 p)]) (st := []) C X I_X7_isIn l_X7_244 (c_X7_isIn _ _) (by decide) (Nat.le_of_ble_eq_true rfl) List.prefix_rfl (Nat.le_of_ble_eq_true rfl) rfl (dx dX7_bothOf 42 rfl) ?_
                  rintro _ ⟨x13, rfl⟩
                  refine rb_ne (b := x13) (tgt := 83) C (dx dX7_bothOf 43 rfl) (by decide) (fun c14 => ?_) (fun c14 => ?_)
                  ·
                    have c14 : x13 = true := c14
                    refine rn_iinc (a := p) (k := 1) (ls' := [(0, vr 7 k), (1, vi (nI m)), (2, vi (nI n)), (3, vi s), (4, vi (nI (p + 1)))]) C (dx dX7_bothOf 46 rfl) rfl rfl (by decide) [1, 2, 3, 4, 0] rfl ?_
                    refine r_goto (tgt := 23) C (dx dX7_bothOf 47 rfl) (by decide) ?_
                    exact ihp 
                  ·
                    have c14 : x13 = false := c14
                    refine r_iconst (v := nI 0) C (dx dX7_bothOf 44 rfl) rfl ?_
                    exact F.1 _ _ _ _ .boolean rfl rfl (dx dX7_bothOf 45 rfl) rfl ⟨⟨false, rfl⟩, rfl⟩)
    ·
      have c4 : x3 = false := c4
      refine r_iconst (v := nI 0) C (dx dX7_bothOf 10 rfl) rfl ?_
      exact F.1 _ _ _ _ .boolean rfl rfl (dx dX7_bothOf 11 rfl) rfl ⟨⟨false, rfl⟩, rfl⟩
set_option maxHeartbeats 4000000 in
theorem c_X7_crossOnes {l : Launch} {h : Hp} {k : Nat} {v : Vg} (hm : MilAt h k v)  : Ms l yX7_crossOnes cX7_crossOnes 3 (some .int) 1 [vr 7 k] h (xK h) (fun r h' => PI r ∧ h' = h) := by
  refine Ms.of (by decide) (Nat.le_of_ble_eq_true rfl) (fun G C X F => ?_)
  have C : Cx G cX7_crossOnes 3 RX7 := C
  show Rr G 0 [(0, vr 7 k)] [] h
  have bP := hm.bP
  have bM := hm.bM
  have bN := hm.bN
  refine r_iconst (v := nI 0) C (dx dX7_crossOnes 0 rfl) rfl ?_
  refine r_istore_n (ls' := [(0, vr 7 k), (1, vi (nI 0))]) C (dx dX7_crossOnes 1 rfl) (by decide) [1, 0] rfl ?_
  refine r_iconst (v := nI 0) C (dx dX7_crossOnes 2 rfl) rfl ?_
  refine r_istore_n (ls' := [(0, vr 7 k), (1, vi (nI 0)), (2, vi (nI 0))]) C (dx dX7_crossOnes 3 rfl) (by decide) [1, 2, 0] rfl ?_
  refine loopU (Φ := fun p => ∀ (x1 : Int32), Rr G 4 [(0, vr 7 k), (1, vi x1), (2, vi (nI p))] [] h) (N := vN v) ?_ ?_ 0 (by omega) (nI 0)
  ·
    intro  x1
    refine r_iload_n C (dx dX7_crossOnes 4 rfl) rfl ?_
    refine r_aload_n C (dx dX7_crossOnes 5 rfl) rfl ?_
    refine g_X7_74 (x := nI (vN v)) C (dx dX7_crossOnes 6 rfl) hm.eN ?_
    refine rn_ge (a := vN v) (b := vN v) (tgt := 31) C (by omega) (by omega) (dx dX7_crossOnes 7 rfl) (by decide) (fun c1 => ?_) (fun c1 => ?_)
    · first
      | (omega; done)
      | (
          have c1 : vN v ≤ vN v := c1
          refine r_iload_n C (dx dX7_crossOnes 21 rfl) rfl ?_
          exact F.1 _ _ _ _ .int rfl rfl (dx dX7_crossOnes 22 rfl) rfl ⟨⟨_, rfl⟩, rfl⟩)
    · first
      | (omega; done)
  ·
    intro p hp ihp x1
    refine r_iload_n C (dx dX7_crossOnes 4 rfl) rfl ?_
    refine r_aload_n C (dx dX7_crossOnes 5 rfl) rfl ?_
    refine g_X7_74 (x := nI (vN v)) C (dx dX7_crossOnes 6 rfl) hm.eN ?_
    refine rn_ge (a := p) (b := vN v) (tgt := 31) C (by omega) (by omega) (dx dX7_crossOnes 7 rfl) (by decide) (fun c2 => ?_) (fun c2 => ?_)
    · first
      | (omega; done)
      | (
          have c2 : vN v ≤ p := c2
          refine r_iload_n C (dx dX7_crossOnes 21 rfl) rfl ?_
          exact F.1 _ _ _ _ .int rfl rfl (dx dX7_crossOnes 22 rfl) rfl ⟨⟨_, rfl⟩, rfl⟩)
    · first
      | (omega; done)
      | (
          have c2 : p < vN v := c2
          refine r_iload_n C (dx dX7_crossOnes 8 rfl) rfl ?_
          refine r_aload_n C (dx dX7_crossOnes 9 rfl) rfl ?_
          refine g_X7_54 C (dx dX7_crossOnes 10 rfl) ?_
          refine r_iload_n C (dx dX7_crossOnes 11 rfl) rfl ?_
          refine r_aald4 (j := p) C rfl rfl (by decide) rfl (by omega) (dx dX7_crossOnes 12 rfl) ?_
          refine r_iconst (v := nI 2) C (dx dX7_crossOnes 13 rfl) rfl ?_
          refine r_iald (j := 2) (x := vF v 6 p) C rfl rfl (by decide) rfl (by omega) (dx dX7_crossOnes 14 rfl) (hm.eo (by omega) (by omega)) ?_
          refine r_iload_n C (dx dX7_crossOnes 15 rfl) rfl ?_
          refine r_ishl C (dx dX7_crossOnes 16 rfl) ?_
          refine r_ior C (dx dX7_crossOnes 17 rfl) ?_
          refine r_istore_n (ls' := [(0, vr 7 k), (1, vi (x1 ||| ((vF v 6 p) <<< ((nI p) &&& 31)))), (2, vi (nI p))]) C (dx dX7_crossOnes 18 rfl) (by decide) [1, 0, 2] rfl ?_
          refine rn_iinc (a := p) (k := 1) (ls' := [(0, vr 7 k), (1, vi (x1 ||| ((vF v 6 p) <<< ((nI p) &&& 31)))), (2, vi (nI (p + 1)))]) C (dx dX7_crossOnes 19 rfl) rfl rfl (by decide) [1, 2, 0] rfl ?_
          refine r_goto (tgt := 4) C (dx dX7_crossOnes 20 rfl) (by decide) ?_
          exact ihp (x1 ||| ((vF v 6 p) <<< ((nI p) &&& 31))))
set_option maxHeartbeats 4000000 in
theorem c_X7_oddsOf {l : Launch} {h : Hp} {k : Nat} {v : Vg} (hm : MilAt h k v) (s : Int32) : Ms l yX7_oddsOf cX7_oddsOf 6 (some .long) 2 [vr 7 k, vi s] h (xK h) (fun r h' => PL r ∧ h' = h) := by
  refine Ms.of (by decide) (Nat.le_of_ble_eq_true rfl) (fun G C X F => ?_)
  have C : Cx G cX7_oddsOf 6 RX7 := C
  show Rr G 0 [(0, vr 7 k), (1, vi s)] [] h
  have bP := hm.bP
  have bM := hm.bM
  have bN := hm.bN
  refine r_lconst (v := 1) C (dx dX7_oddsOf 0 rfl) rfl ?_
  refine r_lstore_n (ls' := [(0, vr 7 k), (1, vi s), (2, vl 1)]) C (dx dX7_oddsOf 1 rfl) (by decide) [1, 2, 0] rfl ?_
  refine r_iconst (v := nI 0) C (dx dX7_oddsOf 2 rfl) rfl ?_
  refine r_istore (ls' := [(0, vr 7 k), (1, vi s), (2, vl 1), (4, vi (nI 0))]) C (dx dX7_oddsOf 3 rfl) (by decide) [1, 2, 3, 0] rfl ?_
  refine loopU (Φ := fun p => ∀ (x2 : Int64), Rr G 5 [(0, vr 7 k), (1, vi s), (2, vl x2), (4, vi (nI p))] [] h) (N := vN v) ?_ ?_ 0 (by omega) 1
  ·
    intro  x2
    refine r_iload C (dx dX7_oddsOf 4 rfl) rfl ?_
    refine r_aload_n C (dx dX7_oddsOf 5 rfl) rfl ?_
    refine g_X7_74 (x := nI (vN v)) C (dx dX7_oddsOf 6 rfl) hm.eN ?_
    refine rn_ge (a := vN v) (b := vN v) (tgt := 93) C (by omega) (by omega) (dx dX7_oddsOf 7 rfl) (by decide) (fun c1 => ?_) (fun c1 => ?_)
    · first
      | (omega; done)
      | (
          have c1 : vN v ≤ vN v := c1
          refine r_lload_n C (dx dX7_oddsOf 53 rfl) rfl ?_
          exact F.2.1 _ _ _ _ rfl (dx dX7_oddsOf 54 rfl) rfl ⟨⟨_, rfl⟩, rfl⟩)
    · first
      | (omega; done)
  ·
    intro p hp ihp x2
    refine r_iload C (dx dX7_oddsOf 4 rfl) rfl ?_
    refine r_aload_n C (dx dX7_oddsOf 5 rfl) rfl ?_
    refine g_X7_74 (x := nI (vN v)) C (dx dX7_oddsOf 6 rfl) hm.eN ?_
    refine rn_ge (a := p) (b := vN v) (tgt := 93) C (by omega) (by omega) (dx dX7_oddsOf 7 rfl) (by decide) (fun c5 => ?_) (fun c5 => ?_)
    · first
      | (omega; done)
      | (
          have c5 : vN v ≤ p := c5
          refine r_lload_n C (dx dX7_oddsOf 53 rfl) rfl ?_
          exact F.2.1 _ _ _ _ rfl (dx dX7_oddsOf 54 rfl) rfl ⟨⟨_, rfl⟩, rfl⟩)
    · first
      | (omega; done)
      | (
          have c5 : p < vN v := c5
          refine r_iload_n C (dx dX7_oddsOf 8 rfl) rfl ?_
          refine r_iload C (dx dX7_oddsOf 9 rfl) rfl ?_
          refine r_csW (as := [vi s, vi (nI p)]) (st := []) C X I_X7_isIn l_X7_244 (c_X7_isIn _ _) (by decide) (Nat.le_of_ble_eq_true rfl) List.prefix_rfl (Nat.le_of_ble_eq_true rfl) rfl (dx dX7_oddsOf 10 rfl) ?_
          rintro _ ⟨x6, rfl⟩
          refine r_istore (ls' := [(0, vr 7 k), (1, vi s), (2, vl x2), (4, vi (nI p)), (5, vi (b2i x6))]) C (dx dX7_oddsOf 11 rfl) (by decide) [1, 2, 3, 4, 0] rfl ?_
          refine r_aload_n C (dx dX7_oddsOf 12 rfl) rfl ?_
          refine g_X7_54 C (dx dX7_oddsOf 13 rfl) ?_
          refine r_iload C (dx dX7_oddsOf 14 rfl) rfl ?_
          refine r_aald4 (j := p) C rfl rfl (by decide) rfl (by omega) (dx dX7_oddsOf 15 rfl) ?_
          refine r_iconst (v := nI 2) C (dx dX7_oddsOf 16 rfl) rfl ?_
          refine r_iald (j := 2) (x := vF v 6 p) C rfl rfl (by decide) rfl (by omega) (dx dX7_oddsOf 17 rfl) (hm.eo (by omega) (by omega)) ?_
          refine r_iconst (v := nI 1) C (dx dX7_oddsOf 18 rfl) rfl ?_
          refine r_icmp_ne (tgt := 53) C (dx dX7_oddsOf 19 rfl) (by decide) (fun c7 => ?_) (fun c7 => ?_)
          ·
            have c7 : ¬ vF v 6 p = nI 1 := c7
            refine r_lload_n C (dx dX7_oddsOf 29 rfl) rfl ?_
            refine r_iload C (dx dX7_oddsOf 30 rfl) rfl ?_
            refine rb_eq (b := x6) (tgt := 75) C (dx dX7_oddsOf 31 rfl) (by decide) (fun c8 => ?_) (fun c8 => ?_)
            ·
              have c8 : x6 = false := c8
              refine r_aload_n C (dx dX7_oddsOf 42 rfl) rfl ?_
              refine g_X7_54 C (dx dX7_oddsOf 43 rfl) ?_
              refine r_iload C (dx dX7_oddsOf 44 rfl) rfl ?_
              refine r_aald4 (j := p) C rfl rfl (by decide) rfl (by omega) (dx dX7_oddsOf 45 rfl) ?_
              refine r_iconst (v := nI 1) C (dx dX7_oddsOf 46 rfl) rfl ?_
              refine r_iald (j := 1) (x := vF v 5 p) C rfl rfl (by decide) rfl (by omega) (dx dX7_oddsOf 47 rfl) (hm.eo (by omega) (by omega)) ?_
              refine r_i2l C (dx dX7_oddsOf 48 rfl) ?_
              refine r_lmul C (dx dX7_oddsOf 49 rfl) ?_
              refine r_lstore_n (ls' := [(0, vr 7 k), (1, vi s), (2, vl (x2 * ((vF v 5 p).toInt64))), (4, vi (nI p)), (5, vi (b2i x6))]) C (dx dX7_oddsOf 50 rfl) (by decide) [1, 2, 0, 3, 4] rfl ?_
              refine rn_iinc (a := p) (k := 1) (ls' := [(0, vr 7 k), (1, vi s), (2, vl (x2 * ((vF v 5 p).toInt64))), (4, vi (nI (p + 1))), (5, vi (b2i x6))]) C (dx dX7_oddsOf 51 rfl) rfl rfl (by decide) [1, 2, 3, 0, 4] rfl ?_
              refine r_goto (tgt := 5) C (dx dX7_oddsOf 52 rfl) (by decide) ?_
              refine r_weak C [0, 1, 2, 3] rfl ?_
              exact ihp (x2 * ((vF v 5 p).toInt64))
            ·
              have c8 : x6 = true := c8
              refine r_bipush (v := nI 10) C (dx dX7_oddsOf 32 rfl) rfl ?_
              refine r_aload_n C (dx dX7_oddsOf 33 rfl) rfl ?_
              refine g_X7_54 C (dx dX7_oddsOf 34 rfl) ?_
              refine r_iload C (dx dX7_oddsOf 35 rfl) rfl ?_
              refine r_aald4 (j := p) C rfl rfl (by decide) rfl (by omega) (dx dX7_oddsOf 36 rfl) ?_
              refine r_iconst (v := nI 1) C (dx dX7_oddsOf 37 rfl) rfl ?_
              refine r_iald (j := 1) (x := vF v 5 p) C rfl rfl (by decide) rfl (by omega) (dx dX7_oddsOf 38 rfl) (hm.eo (by omega) (by omega)) ?_
              refine r_isub C (dx dX7_oddsOf 39 rfl) ?_
              refine r_i2l C (dx dX7_oddsOf 40 rfl) ?_
              refine r_goto (tgt := 85) C (dx dX7_oddsOf 41 rfl) (by decide) ?_
              refine r_lmul C (dx dX7_oddsOf 49 rfl) ?_
              refine r_lstore_n (ls' := [(0, vr 7 k), (1, vi s), (2, vl (x2 * (((nI 10) - (vF v 5 p)).toInt64))), (4, vi (nI p)), (5, vi (b2i x6))]) C (dx dX7_oddsOf 50 rfl) (by decide) [1, 2, 0, 3, 4] rfl ?_
              refine rn_iinc (a := p) (k := 1) (ls' := [(0, vr 7 k), (1, vi s), (2, vl (x2 * (((nI 10) - (vF v 5 p)).toInt64))), (4, vi (nI (p + 1))), (5, vi (b2i x6))]) C (dx dX7_oddsOf 51 rfl) rfl rfl (by decide) [1, 2, 3, 0, 4] rfl ?_
              refine r_goto (tgt := 5) C (dx dX7_oddsOf 52 rfl) (by decide) ?_
              refine r_weak C [0, 1, 2, 3] rfl ?_
              exact ihp (x2 * (((nI 10) - (vF v 5 p)).toInt64))
          ·
            have c7 : vF v 6 p = nI 1 := c7
            refine r_lload_n C (dx dX7_oddsOf 20 rfl) rfl ?_
            refine r_iload C (dx dX7_oddsOf 21 rfl) rfl ?_
            refine rb_eq (b := x6) (tgt := 45) C (dx dX7_oddsOf 22 rfl) (by decide) (fun c9 => ?_) (fun c9 => ?_)
            ·
              have c9 : x6 = false := c9
              refine r_ldc2 C n_X7_120 (dx dX7_oddsOf 25 rfl) ?_
              refine r_lmul C (dx dX7_oddsOf 26 rfl) ?_
              refine r_lstore_n (ls' := [(0, vr 7 k), (1, vi s), (2, vl (x2 * 10)), (4, vi (nI p)), (5, vi (b2i x6))]) C (dx dX7_oddsOf 27 rfl) (by decide) [1, 2, 0, 3, 4] rfl ?_
              refine r_goto (tgt := 87) C (dx dX7_oddsOf 28 rfl) (by decide) ?_
              refine rn_iinc (a := p) (k := 1) (ls' := [(0, vr 7 k), (1, vi s), (2, vl (x2 * 10)), (4, vi (nI (p + 1))), (5, vi (b2i x6))]) C (dx dX7_oddsOf 51 rfl) rfl rfl (by decide) [1, 2, 3, 0, 4] rfl ?_
              refine r_goto (tgt := 5) C (dx dX7_oddsOf 52 rfl) (by decide) ?_
              refine r_weak C [0, 1, 2, 3] rfl ?_
              exact ihp (x2 * 10)
            ·
              have c9 : x6 = true := c9
              refine r_lconst (v := 0) C (dx dX7_oddsOf 23 rfl) rfl ?_
              refine r_goto (tgt := 48) C (dx dX7_oddsOf 24 rfl) (by decide) ?_
              refine r_lmul C (dx dX7_oddsOf 26 rfl) ?_
              refine r_lstore_n (ls' := [(0, vr 7 k), (1, vi s), (2, vl (x2 * 0)), (4, vi (nI p)), (5, vi (b2i x6))]) C (dx dX7_oddsOf 27 rfl) (by decide) [1, 2, 0, 3, 4] rfl ?_
              refine r_goto (tgt := 87) C (dx dX7_oddsOf 28 rfl) (by decide) ?_
              refine rn_iinc (a := p) (k := 1) (ls' := [(0, vr 7 k), (1, vi s), (2, vl (x2 * 0)), (4, vi (nI (p + 1))), (5, vi (b2i x6))]) C (dx dX7_oddsOf 51 rfl) rfl rfl (by decide) [1, 2, 3, 0, 4] rfl ?_
              refine r_goto (tgt := 5) C (dx dX7_oddsOf 52 rfl) (by decide) ?_
              refine r_weak C [0, 1, 2, 3] rfl ?_
              exact ihp (x2 * 0))
set_option maxHeartbeats 4000000 in
theorem c_X7_held {l : Launch} {h : Hp} {k : Nat} {v : Vg} (hm : MilAt h k v) (b : Bool) : Ms l yX7_held cX7_held 4 (some .int) 1 [vr 7 k, vi (b2i b)] h (xK h) (fun r h' => PI r ∧ h' = h) := by
  refine Ms.of (by decide) (Nat.le_of_ble_eq_true rfl) (fun G C X F => ?_)
  have C : Cx G cX7_held 4 RX7 := C
  show Rr G 0 [(0, vr 7 k), (1, vi (b2i b))] [] h
  have bP := hm.bP
  have bM := hm.bM
  have bN := hm.bN
  refine r_iconst (v := nI 0) C (dx dX7_held 0 rfl) rfl ?_
  refine r_istore_n (ls' := [(0, vr 7 k), (1, vi (b2i b)), (2, vi (nI 0))]) C (dx dX7_held 1 rfl) (by decide) [1, 2, 0] rfl ?_
  refine r_iconst (v := nI 0) C (dx dX7_held 2 rfl) rfl ?_
  refine r_istore_n (ls' := [(0, vr 7 k), (1, vi (b2i b)), (2, vi (nI 0)), (3, vi (nI 0))]) C (dx dX7_held 3 rfl) (by decide) [1, 2, 3, 0] rfl ?_
  refine loopU (Φ := fun p => ∀ (x2 : Int32), Rr G 4 [(0, vr 7 k), (1, vi (b2i b)), (2, vi x2), (3, vi (nI p))] [] h) (N := vP v) ?_ ?_ 0 (by omega) (nI 0)
  ·
    intro  x2
    refine r_iload_n C (dx dX7_held 4 rfl) rfl ?_
    refine r_aload_n C (dx dX7_held 5 rfl) rfl ?_
    refine g_X7_64 (x := nI (vP v)) C (dx dX7_held 6 rfl) hm.eP ?_
    refine rn_ge (a := vP v) (b := vP v) (tgt := 49) C (by omega) (by omega) (dx dX7_held 7 rfl) (by decide) (fun c1 => ?_) (fun c1 => ?_)
    · first
      | (omega; done)
      | (
          have c1 : vP v ≤ vP v := c1
          refine r_iload_n C (dx dX7_held 29 rfl) rfl ?_
          exact F.1 _ _ _ _ .int rfl rfl (dx dX7_held 30 rfl) rfl ⟨⟨_, rfl⟩, rfl⟩)
    · first
      | (omega; done)
  ·
    intro p hp ihp x2
    refine r_iload_n C (dx dX7_held 4 rfl) rfl ?_
    refine r_aload_n C (dx dX7_held 5 rfl) rfl ?_
    refine g_X7_64 (x := nI (vP v)) C (dx dX7_held 6 rfl) hm.eP ?_
    refine rn_ge (a := p) (b := vP v) (tgt := 49) C (by omega) (by omega) (dx dX7_held 7 rfl) (by decide) (fun c4 => ?_) (fun c4 => ?_)
    · first
      | (omega; done)
      | (
          have c4 : vP v ≤ p := c4
          refine r_iload_n C (dx dX7_held 29 rfl) rfl ?_
          exact F.1 _ _ _ _ .int rfl rfl (dx dX7_held 30 rfl) rfl ⟨⟨_, rfl⟩, rfl⟩)
    · first
      | (omega; done)
      | (
          have c4 : p < vP v := c4
          refine r_iload_n C (dx dX7_held 8 rfl) rfl ?_
          refine r_iload_n C (dx dX7_held 9 rfl) rfl ?_
          refine rb_eq (b := b) (tgt := 26) C (dx dX7_held 10 rfl) (by decide) (fun c5 => ?_) (fun c5 => ?_)
          ·
            have c5 : b = false := c5
            refine r_aload_n C (dx dX7_held 16 rfl) rfl ?_
            refine g_X7_40 C (dx dX7_held 17 rfl) ?_
            refine r_iload_n C (dx dX7_held 18 rfl) rfl ?_
            refine r_iald (j := p) (x := vF v 0 p) C rfl rfl (by decide) rfl (by omega) (dx dX7_held 19 rfl) (hm.e0 (by omega)) ?_
            refine r_iconst (v := -1) C (dx dX7_held 20 rfl) rfl ?_
            refine r_icmp_eq (tgt := 40) C (dx dX7_held 21 rfl) (by decide) (fun c6 => ?_) (fun c6 => ?_)
            ·
              have c6 : vF v 0 p = -1 := c6
              refine r_iconst (v := nI 0) C (dx dX7_held 24 rfl) rfl ?_
              refine r_iadd C (dx dX7_held 25 rfl) ?_
              refine r_istore_n (ls' := [(0, vr 7 k), (1, vi (b2i b)), (2, vi (x2 + (nI 0))), (3, vi (nI p))]) C (dx dX7_held 26 rfl) (by decide) [1, 2, 0, 3] rfl ?_
              refine rn_iinc (a := p) (k := 1) (ls' := [(0, vr 7 k), (1, vi (b2i b)), (2, vi (x2 + (nI 0))), (3, vi (nI (p + 1)))]) C (dx dX7_held 27 rfl) rfl rfl (by decide) [1, 2, 3, 0] rfl ?_
              refine r_goto (tgt := 4) C (dx dX7_held 28 rfl) (by decide) ?_
              exact ihp (x2 + (nI 0))
            ·
              have c6 : ¬ vF v 0 p = -1 := c6
              refine r_iconst (v := nI 1) C (dx dX7_held 22 rfl) rfl ?_
              refine r_goto (tgt := 41) C (dx dX7_held 23 rfl) (by decide) ?_
              refine r_iadd C (dx dX7_held 25 rfl) ?_
              refine r_istore_n (ls' := [(0, vr 7 k), (1, vi (b2i b)), (2, vi (x2 + (nI 1))), (3, vi (nI p))]) C (dx dX7_held 26 rfl) (by decide) [1, 2, 0, 3] rfl ?_
              refine rn_iinc (a := p) (k := 1) (ls' := [(0, vr 7 k), (1, vi (b2i b)), (2, vi (x2 + (nI 1))), (3, vi (nI (p + 1)))]) C (dx dX7_held 27 rfl) rfl rfl (by decide) [1, 2, 3, 0] rfl ?_
              refine r_goto (tgt := 4) C (dx dX7_held 28 rfl) (by decide) ?_
              exact ihp (x2 + (nI 1))
          ·
            have c5 : b = true := c5
            refine r_aload_n C (dx dX7_held 11 rfl) rfl ?_
            refine g_X7_43 C (dx dX7_held 12 rfl) ?_
            refine r_iload_n C (dx dX7_held 13 rfl) rfl ?_
            refine r_iald (j := p) (x := vF v 1 p) C rfl rfl (by decide) rfl (by omega) (dx dX7_held 14 rfl) (hm.e1 (by omega)) ?_
            refine r_goto (tgt := 32) C (dx dX7_held 15 rfl) (by decide) ?_
            refine r_iconst (v := -1) C (dx dX7_held 20 rfl) rfl ?_
            refine r_icmp_eq (tgt := 40) C (dx dX7_held 21 rfl) (by decide) (fun c7 => ?_) (fun c7 => ?_)
            ·
              have c7 : vF v 1 p = -1 := c7
              refine r_iconst (v := nI 0) C (dx dX7_held 24 rfl) rfl ?_
              refine r_iadd C (dx dX7_held 25 rfl) ?_
              refine r_istore_n (ls' := [(0, vr 7 k), (1, vi (b2i b)), (2, vi (x2 + (nI 0))), (3, vi (nI p))]) C (dx dX7_held 26 rfl) (by decide) [1, 2, 0, 3] rfl ?_
              refine rn_iinc (a := p) (k := 1) (ls' := [(0, vr 7 k), (1, vi (b2i b)), (2, vi (x2 + (nI 0))), (3, vi (nI (p + 1)))]) C (dx dX7_held 27 rfl) rfl rfl (by decide) [1, 2, 3, 0] rfl ?_
              refine r_goto (tgt := 4) C (dx dX7_held 28 rfl) (by decide) ?_
              exact ihp (x2 + (nI 0))
            ·
              have c7 : ¬ vF v 1 p = -1 := c7
              refine r_iconst (v := nI 1) C (dx dX7_held 22 rfl) rfl ?_
              refine r_goto (tgt := 41) C (dx dX7_held 23 rfl) (by decide) ?_
              refine r_iadd C (dx dX7_held 25 rfl) ?_
              refine r_istore_n (ls' := [(0, vr 7 k), (1, vi (b2i b)), (2, vi (x2 + (nI 1))), (3, vi (nI p))]) C (dx dX7_held 26 rfl) (by decide) [1, 2, 0, 3] rfl ?_
              refine rn_iinc (a := p) (k := 1) (ls' := [(0, vr 7 k), (1, vi (b2i b)), (2, vi (x2 + (nI 1))), (3, vi (nI (p + 1)))]) C (dx dX7_held 27 rfl) rfl rfl (by decide) [1, 2, 3, 0] rfl ?_
              refine r_goto (tgt := 4) C (dx dX7_held 28 rfl) (by decide) ?_
              exact ihp (x2 + (nI 1)))
theorem c_mallS {l : Launch} {h : Hp} {k S : Nat} {v : Vg} (hm : MilAt h k v) (hS : S = 2 ^ vN v) : Mp l yX7_all cX7_all 1 (some .int) 1 [vr 7 k] h (vi (nI (S - 1))) := by subst hS; exact c_X7_all hm
set_option maxHeartbeats 4000000 in
theorem c_X7_sumOf {l : Launch} {h : Hp} {k : Nat} {v : Vg} (hm : MilAt h k v) {m n : Nat} (hj : m < vM v) (hn : n < vM v) : Ms l yX7_sumOf cX7_sumOf 7 (some .long) 5 [vr 7 k, vi (nI m), vi (nI n)] h (xK h) (fun r h' => PL r ∧ h' = h) := by
  refine Ms.of (by decide) (Nat.le_of_ble_eq_true rfl) (fun G C X F => ?_)
  have C : Cx G cX7_sumOf 7 RX7 := C
  show Rr G 0 [(0, vr 7 k), (1, vi (nI m)), (2, vi (nI n))] [] h
  have bP := hm.bP
  have bM := hm.bM
  have bN := hm.bN
  obtain ⟨S, hS⟩ : ∃ S, S = 2 ^ vN v := ⟨_, rfl⟩
  have p8 := pow8 bN
  rw [← hS] at p8
  refine r_lconst (v := 0) C (dx dX7_sumOf 0 rfl) rfl ?_
  refine r_lstore_n (ls' := [(0, vr 7 k), (1, vi (nI m)), (2, vi (nI n)), (3, vl 0)]) C (dx dX7_sumOf 1 rfl) (by decide) [1, 2, 3, 0] rfl ?_
  refine r_iconst (v := nI 0) C (dx dX7_sumOf 2 rfl) rfl ?_
  refine r_istore (ls' := [(0, vr 7 k), (1, vi (nI m)), (2, vi (nI n)), (3, vl 0), (5, vi (nI 0))]) C (dx dX7_sumOf 3 rfl) (by decide) [1, 2, 3, 4, 0] rfl ?_
  refine loopU (Φ := fun p => ∀ (x3 : Int64), Rr G 5 [(0, vr 7 k), (1, vi (nI m)), (2, vi (nI n)), (3, vl x3), (5, vi (nI p))] [] h) (N := S) ?_ ?_ 0 (by omega) 0
  ·
    intro  x3
    refine r_iload C (dx dX7_sumOf 4 rfl) rfl ?_
    refine r_aload_n C (dx dX7_sumOf 5 rfl) rfl ?_
    refine r_cvP (as := []) (st := [vi (nI S)]) (v := vi (nI (S - 1))) C X I_X7_all l_X7_253 (c_mallS hm hS) (by decide) (Nat.le_of_ble_eq_true rfl) List.prefix_rfl rfl rfl (Nat.le_of_ble_eq_true rfl) rfl (dx dX7_sumOf 6 rfl) ?_
    refine rn_gt (a := S) (b := S - 1) (tgt := 63) C (by omega) (by omega) (dx dX7_sumOf 7 rfl) (by decide) (fun c1 => ?_) (fun c1 => ?_)
    · first
      | (omega; done)
      | (
          have c1 : S - 1 < S := c1
          refine r_lload_n C (dx dX7_sumOf 34 rfl) rfl ?_
          exact F.2.1 _ _ _ _ rfl (dx dX7_sumOf 35 rfl) rfl ⟨⟨_, rfl⟩, rfl⟩)
    · first
      | (omega; done)
      | (
          have c1 : S ≤ S - 1 := c1
          refine r_iload_n C (dx dX7_sumOf 8 rfl) rfl ?_
          refine r_iload_n C (dx dX7_sumOf 9 rfl) rfl ?_
          refine rn_ne (a := m) (b := n) (tgt := 29) C (by omega) (by omega) (dx dX7_sumOf 10 rfl) (by decide) (fun c2 => ?_) (fun c2 => ?_)
          · first
            | (omega; done)
          · first
            | (omega; done))
  ·
    intro p hp ihp x3
    refine r_iload C (dx dX7_sumOf 4 rfl) rfl ?_
    refine r_aload_n C (dx dX7_sumOf 5 rfl) rfl ?_
    refine r_cvP (as := []) (st := [vi (nI p)]) (v := vi (nI (S - 1))) C X I_X7_all l_X7_253 (c_mallS hm hS) (by decide) (Nat.le_of_ble_eq_true rfl) List.prefix_rfl rfl rfl (Nat.le_of_ble_eq_true rfl) rfl (dx dX7_sumOf 6 rfl) ?_
    refine rn_gt (a := p) (b := S - 1) (tgt := 63) C (by omega) (by omega) (dx dX7_sumOf 7 rfl) (by decide) (fun c7 => ?_) (fun c7 => ?_)
    · first
      | (omega; done)
      | (
          have c7 : S - 1 < p := c7
          refine r_lload_n C (dx dX7_sumOf 34 rfl) rfl ?_
          exact F.2.1 _ _ _ _ rfl (dx dX7_sumOf 35 rfl) rfl ⟨⟨_, rfl⟩, rfl⟩)
    · first
      | (omega; done)
      | (
          have c7 : p ≤ S - 1 := c7
          refine r_iload_n C (dx dX7_sumOf 8 rfl) rfl ?_
          refine r_iload_n C (dx dX7_sumOf 9 rfl) rfl ?_
          refine rn_ne (a := m) (b := n) (tgt := 29) C (by omega) (by omega) (dx dX7_sumOf 10 rfl) (by decide) (fun c8 => ?_) (fun c8 => ?_)
          · first
            | (omega; done)
            | (
                have c8 : ¬ m = n := c8
                refine r_aload_n C (dx dX7_sumOf 16 rfl) rfl ?_
                refine r_iload_n C (dx dX7_sumOf 17 rfl) rfl ?_
                refine r_iload_n C (dx dX7_sumOf 18 rfl) rfl ?_
                refine r_iload C (dx dX7_sumOf 19 rfl) rfl ?_
                refine r_cvW (as := [vi (nI m), vi (nI n), vi (nI p)]) (st := []) C X I_X7_bothOf l_X7_256 (c_X7_bothOf hm (m := m) (n := n) (by omega) (by omega) _) (by decide) (Nat.le_of_ble_eq_true rfl) List.prefix_rfl rfl rfl (Nat.le_of_ble_eq_true rfl) rfl (dx dX7_sumOf 20 rfl) ?_
                rintro _ ⟨x9, rfl⟩
                refine r_istore (ls' := [(0, vr 7 k), (1, vi (nI m)), (2, vi (nI n)), (3, vl x3), (5, vi (nI p)), (6, vi (b2i x9))]) C (dx dX7_sumOf 21 rfl) (by decide) [1, 2, 3, 4, 5, 0] rfl ?_
                refine r_lload_n C (dx dX7_sumOf 22 rfl) rfl ?_
                refine r_iload C (dx dX7_sumOf 23 rfl) rfl ?_
                refine rb_eq (b := x9) (tgt := 54) C (dx dX7_sumOf 24 rfl) (by decide) (fun c10 => ?_) (fun c10 => ?_)
                ·
                  have c10 : x9 = false := c10
                  refine r_lconst (v := 0) C (dx dX7_sumOf 29 rfl) rfl ?_
                  refine r_ladd C (dx dX7_sumOf 30 rfl) ?_
                  refine r_lstore_n (ls' := [(0, vr 7 k), (1, vi (nI m)), (2, vi (nI n)), (3, vl (x3 + 0)), (5, vi (nI p)), (6, vi (b2i x9))]) C (dx dX7_sumOf 31 rfl) (by decide) [1, 2, 3, 0, 4, 5] rfl ?_
                  refine rn_iinc (a := p) (k := 1) (ls' := [(0, vr 7 k), (1, vi (nI m)), (2, vi (nI n)), (3, vl (x3 + 0)), (5, vi (nI (p + 1))), (6, vi (b2i x9))]) C (dx dX7_sumOf 32 rfl) rfl rfl (by decide) [1, 2, 3, 4, 0, 5] rfl ?_
                  refine r_goto (tgt := 5) C (dx dX7_sumOf 33 rfl) (by decide) ?_
                  refine r_weak C [0, 1, 2, 3, 4] rfl ?_
                  exact ihp (x3 + 0)
                ·
                  have c10 : x9 = true := c10
                  refine r_aload_n C (dx dX7_sumOf 25 rfl) rfl ?_
                  refine r_iload C (dx dX7_sumOf 26 rfl) rfl ?_
                  refine r_cvW (as := [vi (nI p)]) (st := [vl x3]) C X I_X7_oddsOf l_X7_260 (c_X7_oddsOf hm _) (by decide) (Nat.le_of_ble_eq_true rfl) List.prefix_rfl rfl rfl (Nat.le_of_ble_eq_true rfl) rfl (dx dX7_sumOf 27 rfl) ?_
                  rintro _ ⟨x11, rfl⟩
                  refine r_goto (tgt := 55) C (dx dX7_sumOf 28 rfl) (by decide) ?_
                  refine r_ladd C (dx dX7_sumOf 30 rfl) ?_
                  refine r_lstore_n (ls' := [(0, vr 7 k), (1, vi (nI m)), (2, vi (nI n)), (3, vl (x3 + x11)), (5, vi (nI p)), (6, vi (b2i x9))]) C (dx dX7_sumOf 31 rfl) (by decide) [1, 2, 3, 0, 4, 5] rfl ?_
                  refine rn_iinc (a := p) (k := 1) (ls' := [(0, vr 7 k), (1, vi (nI m)), (2, vi (nI n)), (3, vl (x3 + x11)), (5, vi (nI (p + 1))), (6, vi (b2i x9))]) C (dx dX7_sumOf 32 rfl) rfl rfl (by decide) [1, 2, 3, 4, 0, 5] rfl ?_
                  refine r_goto (tgt := 5) C (dx dX7_sumOf 33 rfl) (by decide) ?_
                  refine r_weak C [0, 1, 2, 3, 4] rfl ?_
                  exact ihp (x3 + x11))
          · first
            | (omega; done)
            | (
                have c8 : m = n := c8
                refine r_aload_n C (dx dX7_sumOf 11 rfl) rfl ?_
                refine r_iload_n C (dx dX7_sumOf 12 rfl) rfl ?_
                refine r_iload C (dx dX7_sumOf 13 rfl) rfl ?_
                refine r_cvW (as := [vi (nI m), vi (nI p)]) (st := []) C X I_X7_worksOf l_X7_250 (c_X7_worksOf hm (m := m) (by omega) _) (by decide) (Nat.le_of_ble_eq_true rfl) List.prefix_rfl rfl rfl (Nat.le_of_ble_eq_true rfl) rfl (dx dX7_sumOf 14 rfl) ?_
                rintro _ ⟨x12, rfl⟩
                refine r_goto (tgt := 37) C (dx dX7_sumOf 15 rfl) (by decide) ?_
                refine r_istore (ls' := [(0, vr 7 k), (1, vi (nI m)), (2, vi (nI n)), (3, vl x3), (5, vi (nI p)), (6, vi (b2i x12))]) C (dx dX7_sumOf 21 rfl) (by decide) [1, 2, 3, 4, 5, 0] rfl ?_
                refine r_lload_n C (dx dX7_sumOf 22 rfl) rfl ?_
                refine r_iload C (dx dX7_sumOf 23 rfl) rfl ?_
                refine rb_eq (b := x12) (tgt := 54) C (dx dX7_sumOf 24 rfl) (by decide) (fun c13 => ?_) (fun c13 => ?_)
                ·
                  have c13 : x12 = false := c13
                  refine r_lconst (v := 0) C (dx dX7_sumOf 29 rfl) rfl ?_
                  refine r_ladd C (dx dX7_sumOf 30 rfl) ?_
                  refine r_lstore_n (ls' := [(0, vr 7 k), (1, vi (nI m)), (2, vi (nI n)), (3, vl (x3 + 0)), (5, vi (nI p)), (6, vi (b2i x12))]) C (dx dX7_sumOf 31 rfl) (by decide) [1, 2, 3, 0, 4, 5] rfl ?_
                  refine rn_iinc (a := p) (k := 1) (ls' := [(0, vr 7 k), (1, vi (nI m)), (2, vi (nI n)), (3, vl (x3 + 0)), (5, vi (nI (p + 1))), (6, vi (b2i x12))]) C (dx dX7_sumOf 32 rfl) rfl rfl (by decide) [1, 2, 3, 4, 0, 5] rfl ?_
                  refine r_goto (tgt := 5) C (dx dX7_sumOf 33 rfl) (by decide) ?_
                  refine r_weak C [0, 1, 2, 3, 4] rfl ?_
                  exact ihp (x3 + 0)
                ·
                  have c13 : x12 = true := c13
                  refine r_aload_n C (dx dX7_sumOf 25 rfl) rfl ?_
                  refine r_iload C (dx dX7_sumOf 26 rfl) rfl ?_
                  refine r_cvW (as := [vi (nI p)]) (st := [vl x3]) C X I_X7_oddsOf l_X7_260 (c_X7_oddsOf hm _) (by decide) (Nat.le_of_ble_eq_true rfl) List.prefix_rfl rfl rfl (Nat.le_of_ble_eq_true rfl) rfl (dx dX7_sumOf 27 rfl) ?_
                  rintro _ ⟨x14, rfl⟩
                  refine r_goto (tgt := 55) C (dx dX7_sumOf 28 rfl) (by decide) ?_
                  refine r_ladd C (dx dX7_sumOf 30 rfl) ?_
                  refine r_lstore_n (ls' := [(0, vr 7 k), (1, vi (nI m)), (2, vi (nI n)), (3, vl (x3 + x14)), (5, vi (nI p)), (6, vi (b2i x12))]) C (dx dX7_sumOf 31 rfl) (by decide) [1, 2, 3, 0, 4, 5] rfl ?_
                  refine rn_iinc (a := p) (k := 1) (ls' := [(0, vr 7 k), (1, vi (nI m)), (2, vi (nI n)), (3, vl (x3 + x14)), (5, vi (nI (p + 1))), (6, vi (b2i x12))]) C (dx dX7_sumOf 32 rfl) rfl rfl (by decide) [1, 2, 3, 4, 0, 5] rfl ?_
                  refine r_goto (tgt := 5) C (dx dX7_sumOf 33 rfl) (by decide) ?_
                  refine r_weak C [0, 1, 2, 3, 4] rfl ?_
                  exact ihp (x3 + x14)))
set_option maxHeartbeats 4000000 in
theorem c_X7_day {l : Launch} {h : Hp} {k : Nat} {v : Vg} (hm : MilAt h k v)  : Ms l yX7_day cX7_day 8 (some .long) 3 [vr 7 k] h (xK h) (fun r h' => PL r ∧ h' = h) := by
  refine Ms.of (by decide) (Nat.le_of_ble_eq_true rfl) (fun G C X F => ?_)
  have C : Cx G cX7_day 8 RX7 := C
  show Rr G 0 [(0, vr 7 k)] [] h
  have bP := hm.bP
  have bM := hm.bM
  have bN := hm.bN
  obtain ⟨S, hS⟩ : ∃ S, S = 2 ^ vN v := ⟨_, rfl⟩
  have p8 := pow8 bN
  rw [← hS] at p8
  refine r_lconst (v := 0) C (dx dX7_day 0 rfl) rfl ?_
  refine r_lstore_n (ls' := [(0, vr 7 k), (1, vl 0)]) C (dx dX7_day 1 rfl) (by decide) [1, 0] rfl ?_
  refine r_iconst (v := nI 0) C (dx dX7_day 2 rfl) rfl ?_
  refine r_istore_n (ls' := [(0, vr 7 k), (1, vl 0), (3, vi (nI 0))]) C (dx dX7_day 3 rfl) (by decide) [1, 2, 0] rfl ?_
  refine loopU (Φ := fun p => ∀ (x1 : Int64), Rr G 4 [(0, vr 7 k), (1, vl x1), (3, vi (nI p))] [] h) (N := S) ?_ ?_ 0 (by omega) 0
  ·
    intro  x1
    refine r_iload_n C (dx dX7_day 4 rfl) rfl ?_
    refine r_aload_n C (dx dX7_day 5 rfl) rfl ?_
    refine r_cvP (as := []) (st := [vi (nI S)]) (v := vi (nI (S - 1))) C X I_X7_all l_X7_253 (c_mallS hm hS) (by decide) (Nat.le_of_ble_eq_true rfl) List.prefix_rfl rfl rfl (Nat.le_of_ble_eq_true rfl) rfl (dx dX7_day 6 rfl) ?_
    refine rn_gt (a := S) (b := S - 1) (tgt := 101) C (by omega) (by omega) (dx dX7_day 7 rfl) (by decide) (fun c1 => ?_) (fun c1 => ?_)
    · first
      | (omega; done)
      | (
          have c1 : S - 1 < S := c1
          refine r_lload_n C (dx dX7_day 57 rfl) rfl ?_
          exact F.2.1 _ _ _ _ rfl (dx dX7_day 58 rfl) rfl ⟨⟨_, rfl⟩, rfl⟩)
    · first
      | (omega; done)
      | (
          have c1 : S ≤ S - 1 := c1
          refine r_aload_n C (dx dX7_day 8 rfl) rfl ?_
          refine r_iload_n C (dx dX7_day 9 rfl) rfl ?_
          refine r_cvW (as := [vi (nI S)]) (st := []) C X I_X7_oddsOf l_X7_260 (c_X7_oddsOf hm _) (by decide) (Nat.le_of_ble_eq_true rfl) List.prefix_rfl rfl rfl (Nat.le_of_ble_eq_true rfl) rfl (dx dX7_day 10 rfl) ?_
          rintro _ ⟨x2, rfl⟩
          refine r_lstore (ls' := [(0, vr 7 k), (1, vl x1), (3, vi (nI S)), (4, vl x2)]) C (dx dX7_day 11 rfl) (by decide) [1, 2, 3, 0] rfl ?_
          refine r_lload C (dx dX7_day 12 rfl) rfl ?_
          refine r_lconst (v := 0) C (dx dX7_day 13 rfl) rfl ?_
          refine r_lcmp C (dx dX7_day 14 rfl) ?_
          refine r_if_ne (tgt := 30) C (dx dX7_day 15 rfl) (by decide) (fun c3 => ?_) (fun c3 => ?_)
          ·
            have c3 : ¬ (x2 = 0) := fun q => c3 ((lg_cmp_eq _ _).mpr q)
            refine r_aload_n C (dx dX7_day 18 rfl) rfl ?_
            refine r_iload_n C (dx dX7_day 19 rfl) rfl ?_
            refine r_cvW (as := [vi (nI S)]) (st := []) C X I_X7_hasOf l_X7_247 (c_X7_hasOf hm _) (by decide) (Nat.le_of_ble_eq_true rfl) List.prefix_rfl rfl rfl (Nat.le_of_ble_eq_true rfl) rfl (dx dX7_day 20 rfl) ?_
            rintro _ ⟨x4, rfl⟩
            refine r_istore (ls' := [(0, vr 7 k), (1, vl x1), (3, vi (nI S)), (4, vl x2), (6, vi x4)]) C (dx dX7_day 21 rfl) (by decide) [1, 2, 3, 4, 0] rfl ?_
            refine r_iconst (v := nI 0) C (dx dX7_day 22 rfl) rfl ?_
            refine r_istore (ls' := [(0, vr 7 k), (1, vl x1), (3, vi (nI S)), (4, vl x2), (6, vi x4), (7, vi (nI 0))]) C (dx dX7_day 23 rfl) (by decide) [1, 2, 3, 4, 5, 0] rfl ?_
            refine loopU (Φ := fun m9 => ∀ (x1 : Int64), Rr G 40 [(0, vr 7 k), (1, vl x1), (3, vi (nI S)), (4, vl x2), (6, vi x4), (7, vi (nI m9))] [] h) (N := vM v) ?_ ?_ 0 (by omega) x1
            ·
              intro  x1
              refine r_iload C (dx dX7_day 24 rfl) rfl ?_
              refine r_aload_n C (dx dX7_day 25 rfl) rfl ?_
              refine g_X7_71 (x := nI (vM v)) C (dx dX7_day 26 rfl) hm.eM ?_
              refine rn_ge (a := vM v) (b := vM v) (tgt := 95) C (by omega) (by omega) (dx dX7_day 27 rfl) (by decide) (fun c5 => ?_) (fun c5 => ?_)
              · first
                | (omega; done)
              · first
                | (omega; done)
            ·
              intro m9 hm9 ihm9 x1
              refine r_iload C (dx dX7_day 24 rfl) rfl ?_
              refine r_aload_n C (dx dX7_day 25 rfl) rfl ?_
              refine g_X7_71 (x := nI (vM v)) C (dx dX7_day 26 rfl) hm.eM ?_
              refine rn_ge (a := m9) (b := vM v) (tgt := 95) C (by omega) (by omega) (dx dX7_day 27 rfl) (by decide) (fun c7 => ?_) (fun c7 => ?_)
              · first
                | (omega; done)
              · first
                | (omega; done)
          ·
            have c3 : x2 = 0 := (lg_cmp_eq _ _).mp c3
            refine r_iconst (v := nI 0) C (dx dX7_day 16 rfl) rfl ?_
            refine r_goto (tgt := 35) C (dx dX7_day 17 rfl) (by decide) ?_
            refine r_istore (ls' := [(0, vr 7 k), (1, vl x1), (3, vi (nI S)), (4, vl x2), (6, vi (nI 0))]) C (dx dX7_day 21 rfl) (by decide) [1, 2, 3, 4, 0] rfl ?_
            refine r_iconst (v := nI 0) C (dx dX7_day 22 rfl) rfl ?_
            refine r_istore (ls' := [(0, vr 7 k), (1, vl x1), (3, vi (nI S)), (4, vl x2), (6, vi (nI 0)), (7, vi (nI 0))]) C (dx dX7_day 23 rfl) (by decide) [1, 2, 3, 4, 5, 0] rfl ?_
            refine loopU (Φ := fun m9 => ∀ (x1 : Int64), Rr G 40 [(0, vr 7 k), (1, vl x1), (3, vi (nI S)), (4, vl x2), (6, vi (nI 0)), (7, vi (nI m9))] [] h) (N := vM v) ?_ ?_ 0 (by omega) x1
            ·
              intro  x1
              refine r_iload C (dx dX7_day 24 rfl) rfl ?_
              refine r_aload_n C (dx dX7_day 25 rfl) rfl ?_
              refine g_X7_71 (x := nI (vM v)) C (dx dX7_day 26 rfl) hm.eM ?_
              refine rn_ge (a := vM v) (b := vM v) (tgt := 95) C (by omega) (by omega) (dx dX7_day 27 rfl) (by decide) (fun c9 => ?_) (fun c9 => ?_)
              · first
                | (omega; done)
              · first
                | (omega; done)
            ·
              intro m9 hm9 ihm9 x1
              refine r_iload C (dx dX7_day 24 rfl) rfl ?_
              refine r_aload_n C (dx dX7_day 25 rfl) rfl ?_
              refine g_X7_71 (x := nI (vM v)) C (dx dX7_day 26 rfl) hm.eM ?_
              refine rn_ge (a := m9) (b := vM v) (tgt := 95) C (by omega) (by omega) (dx dX7_day 27 rfl) (by decide) (fun c11 => ?_) (fun c11 => ?_)
              · first
                | (omega; done)
              · first
                | (omega; done))
  ·
    intro p hp ihp x1
    refine r_iload_n C (dx dX7_day 4 rfl) rfl ?_
    refine r_aload_n C (dx dX7_day 5 rfl) rfl ?_
    refine r_cvP (as := []) (st := [vi (nI p)]) (v := vi (nI (S - 1))) C X I_X7_all l_X7_253 (c_mallS hm hS) (by decide) (Nat.le_of_ble_eq_true rfl) List.prefix_rfl rfl rfl (Nat.le_of_ble_eq_true rfl) rfl (dx dX7_day 6 rfl) ?_
    refine rn_gt (a := p) (b := S - 1) (tgt := 101) C (by omega) (by omega) (dx dX7_day 7 rfl) (by decide) (fun c13 => ?_) (fun c13 => ?_)
    · first
      | (omega; done)
      | (
          have c13 : S - 1 < p := c13
          refine r_lload_n C (dx dX7_day 57 rfl) rfl ?_
          exact F.2.1 _ _ _ _ rfl (dx dX7_day 58 rfl) rfl ⟨⟨_, rfl⟩, rfl⟩)
    · first
      | (omega; done)
      | (
          have c13 : p ≤ S - 1 := c13
          refine r_aload_n C (dx dX7_day 8 rfl) rfl ?_
          refine r_iload_n C (dx dX7_day 9 rfl) rfl ?_
          refine r_cvW (as := [vi (nI p)]) (st := []) C X I_X7_oddsOf l_X7_260 (c_X7_oddsOf hm _) (by decide) (Nat.le_of_ble_eq_true rfl) List.prefix_rfl rfl rfl (Nat.le_of_ble_eq_true rfl) rfl (dx dX7_day 10 rfl) ?_
          rintro _ ⟨x14, rfl⟩
          refine r_lstore (ls' := [(0, vr 7 k), (1, vl x1), (3, vi (nI p)), (4, vl x14)]) C (dx dX7_day 11 rfl) (by decide) [1, 2, 3, 0] rfl ?_
          refine r_lload C (dx dX7_day 12 rfl) rfl ?_
          refine r_lconst (v := 0) C (dx dX7_day 13 rfl) rfl ?_
          refine r_lcmp C (dx dX7_day 14 rfl) ?_
          refine r_if_ne (tgt := 30) C (dx dX7_day 15 rfl) (by decide) (fun c15 => ?_) (fun c15 => ?_)
          ·
            have c15 : ¬ (x14 = 0) := fun q => c15 ((lg_cmp_eq _ _).mpr q)
            refine r_aload_n C (dx dX7_day 18 rfl) rfl ?_
            refine r_iload_n C (dx dX7_day 19 rfl) rfl ?_
            refine r_cvW (as := [vi (nI p)]) (st := []) C X I_X7_hasOf l_X7_247 (c_X7_hasOf hm _) (by decide) (Nat.le_of_ble_eq_true rfl) List.prefix_rfl rfl rfl (Nat.le_of_ble_eq_true rfl) rfl (dx dX7_day 20 rfl) ?_
            rintro _ ⟨x16, rfl⟩
            refine r_istore (ls' := [(0, vr 7 k), (1, vl x1), (3, vi (nI p)), (4, vl x14), (6, vi x16)]) C (dx dX7_day 21 rfl) (by decide) [1, 2, 3, 4, 0] rfl ?_
            refine r_iconst (v := nI 0) C (dx dX7_day 22 rfl) rfl ?_
            refine r_istore (ls' := [(0, vr 7 k), (1, vl x1), (3, vi (nI p)), (4, vl x14), (6, vi x16), (7, vi (nI 0))]) C (dx dX7_day 23 rfl) (by decide) [1, 2, 3, 4, 5, 0] rfl ?_
            refine loopU (Φ := fun m9 => ∀ (x1 : Int64), Rr G 40 [(0, vr 7 k), (1, vl x1), (3, vi (nI p)), (4, vl x14), (6, vi x16), (7, vi (nI m9))] [] h) (N := vM v) ?_ ?_ 0 (by omega) x1
            ·
              intro  x1
              refine r_iload C (dx dX7_day 24 rfl) rfl ?_
              refine r_aload_n C (dx dX7_day 25 rfl) rfl ?_
              refine g_X7_71 (x := nI (vM v)) C (dx dX7_day 26 rfl) hm.eM ?_
              refine rn_ge (a := vM v) (b := vM v) (tgt := 95) C (by omega) (by omega) (dx dX7_day 27 rfl) (by decide) (fun c17 => ?_) (fun c17 => ?_)
              · first
                | (omega; done)
                | (
                    have c17 : vM v ≤ vM v := c17
                    refine rn_iinc (a := p) (k := 1) (ls' := [(0, vr 7 k), (1, vl x1), (3, vi (nI (p + 1))), (4, vl x14), (6, vi x16), (7, vi (nI (vM v)))]) C (dx dX7_day 55 rfl) rfl rfl (by decide) [1, 2, 0, 3, 4, 5] rfl ?_
                    refine r_goto (tgt := 4) C (dx dX7_day 56 rfl) (by decide) ?_
                    refine r_weak C [0, 1, 2] rfl ?_
                    exact ihp x1)
              · first
                | (omega; done)
            ·
              intro m9 hm9 ihm9 x1
              refine r_iload C (dx dX7_day 24 rfl) rfl ?_
              refine r_aload_n C (dx dX7_day 25 rfl) rfl ?_
              refine g_X7_71 (x := nI (vM v)) C (dx dX7_day 26 rfl) hm.eM ?_
              refine rn_ge (a := m9) (b := vM v) (tgt := 95) C (by omega) (by omega) (dx dX7_day 27 rfl) (by decide) (fun c20 => ?_) (fun c20 => ?_)
              · first
                | (omega; done)
                | (
                    have c20 : vM v ≤ m9 := c20
                    refine rn_iinc (a := p) (k := 1) (ls' := [(0, vr 7 k), (1, vl x1), (3, vi (nI (p + 1))), (4, vl x14), (6, vi x16), (7, vi (nI m9))]) C (dx dX7_day 55 rfl) rfl rfl (by decide) [1, 2, 0, 3, 4, 5] rfl ?_
                    refine r_goto (tgt := 4) C (dx dX7_day 56 rfl) (by decide) ?_
                    refine r_weak C [0, 1, 2] rfl ?_
                    exact ihp x1)
              · first
                | (omega; done)
                | (
                    have c20 : m9 < vM v := c20
                    refine r_lload C (dx dX7_day 28 rfl) rfl ?_
                    refine r_lconst (v := 0) C (dx dX7_day 29 rfl) rfl ?_
                    refine r_lcmp C (dx dX7_day 30 rfl) ?_
                    refine r_if_le (tgt := 95) C (dx dX7_day 31 rfl) (by decide) (fun c21 => ?_) (fun c21 => ?_)
                    ·
                      have c21 : x14 ≤ 0 := (lg_cmp_le _ _).mp c21
                      refine rn_iinc (a := p) (k := 1) (ls' := [(0, vr 7 k), (1, vl x1), (3, vi (nI (p + 1))), (4, vl x14), (6, vi x16), (7, vi (nI m9))]) C (dx dX7_day 55 rfl) rfl rfl (by decide) [1, 2, 0, 3, 4, 5] rfl ?_
                      refine r_goto (tgt := 4) C (dx dX7_day 56 rfl) (by decide) ?_
                      refine r_weak C [0, 1, 2] rfl ?_
                      exact ihp x1
                    ·
                      have c21 : ¬ (x14 ≤ 0) := fun q => c21 ((lg_cmp_le _ _).mpr q)
                      refine r_lload_n C (dx dX7_day 32 rfl) rfl ?_
                      refine r_aload_n C (dx dX7_day 33 rfl) rfl ?_
                      refine g_X7_46 C (dx dX7_day 34 rfl) ?_
                      refine r_iload C (dx dX7_day 35 rfl) rfl ?_
                      refine r_iald (j := m9) (x := vF v 2 m9) C rfl rfl (by decide) rfl (by omega) (dx dX7_day 36 rfl) (hm.e2 (by omega)) ?_
                      refine r_iload C (dx dX7_day 37 rfl) rfl ?_
                      refine r_iconst (v := -1) C (dx dX7_day 38 rfl) rfl ?_
                      refine r_ixor C (dx dX7_day 39 rfl) ?_
                      refine r_iand C (dx dX7_day 40 rfl) ?_
                      refine r_if_ne (tgt := 86) C (dx dX7_day 41 rfl) (by decide) (fun c22 => ?_) (fun c22 => ?_)
                      ·
                        have c22 : ¬ (vF v 2 m9) &&& (x16 ^^^ (-1)) = 0 := c22
                        refine r_lconst (v := 0) C (dx dX7_day 50 rfl) rfl ?_
                        refine r_ladd C (dx dX7_day 51 rfl) ?_
                        refine r_lstore_n (ls' := [(0, vr 7 k), (1, vl (x1 + 0)), (3, vi (nI p)), (4, vl x14), (6, vi x16), (7, vi (nI m9))]) C (dx dX7_day 52 rfl) (by decide) [1, 0, 2, 3, 4, 5] rfl ?_
                        refine rn_iinc (a := m9) (k := 1) (ls' := [(0, vr 7 k), (1, vl (x1 + 0)), (3, vi (nI p)), (4, vl x14), (6, vi x16), (7, vi (nI (m9 + 1)))]) C (dx dX7_day 53 rfl) rfl rfl (by decide) [1, 2, 3, 4, 5, 0] rfl ?_
                        refine r_goto (tgt := 40) C (dx dX7_day 54 rfl) (by decide) ?_
                        exact ihm9 (x1 + 0)
                      ·
                        have c22 : (vF v 2 m9) &&& (x16 ^^^ (-1)) = 0 := c22
                        refine r_aload_n C (dx dX7_day 42 rfl) rfl ?_
                        refine g_X7_49 C (dx dX7_day 43 rfl) ?_
                        refine r_iload C (dx dX7_day 44 rfl) rfl ?_
                        refine r_iald (j := m9) (x := vF v 3 m9) C rfl rfl (by decide) rfl (by omega) (dx dX7_day 45 rfl) (hm.e3 (by omega)) ?_
                        refine r_i2l C (dx dX7_day 46 rfl) ?_
                        refine r_lload C (dx dX7_day 47 rfl) rfl ?_
                        refine r_lmul C (dx dX7_day 48 rfl) ?_
                        refine r_goto (tgt := 87) C (dx dX7_day 49 rfl) (by decide) ?_
                        refine r_ladd C (dx dX7_day 51 rfl) ?_
                        refine r_lstore_n (ls' := [(0, vr 7 k), (1, vl (x1 + (((vF v 3 m9).toInt64) * x14))), (3, vi (nI p)), (4, vl x14), (6, vi x16), (7, vi (nI m9))]) C (dx dX7_day 52 rfl) (by decide) [1, 0, 2, 3, 4, 5] rfl ?_
                        refine rn_iinc (a := m9) (k := 1) (ls' := [(0, vr 7 k), (1, vl (x1 + (((vF v 3 m9).toInt64) * x14))), (3, vi (nI p)), (4, vl x14), (6, vi x16), (7, vi (nI (m9 + 1)))]) C (dx dX7_day 53 rfl) rfl rfl (by decide) [1, 2, 3, 4, 5, 0] rfl ?_
                        refine r_goto (tgt := 40) C (dx dX7_day 54 rfl) (by decide) ?_
                        exact ihm9 (x1 + (((vF v 3 m9).toInt64) * x14)))
          ·
            have c15 : x14 = 0 := (lg_cmp_eq _ _).mp c15
            refine r_iconst (v := nI 0) C (dx dX7_day 16 rfl) rfl ?_
            refine r_goto (tgt := 35) C (dx dX7_day 17 rfl) (by decide) ?_
            refine r_istore (ls' := [(0, vr 7 k), (1, vl x1), (3, vi (nI p)), (4, vl x14), (6, vi (nI 0))]) C (dx dX7_day 21 rfl) (by decide) [1, 2, 3, 4, 0] rfl ?_
            refine r_iconst (v := nI 0) C (dx dX7_day 22 rfl) rfl ?_
            refine r_istore (ls' := [(0, vr 7 k), (1, vl x1), (3, vi (nI p)), (4, vl x14), (6, vi (nI 0)), (7, vi (nI 0))]) C (dx dX7_day 23 rfl) (by decide) [1, 2, 3, 4, 5, 0] rfl ?_
            refine loopU (Φ := fun m9 => ∀ (x1 : Int64), Rr G 40 [(0, vr 7 k), (1, vl x1), (3, vi (nI p)), (4, vl x14), (6, vi (nI 0)), (7, vi (nI m9))] [] h) (N := vM v) ?_ ?_ 0 (by omega) x1
            ·
              intro  x1
              refine r_iload C (dx dX7_day 24 rfl) rfl ?_
              refine r_aload_n C (dx dX7_day 25 rfl) rfl ?_
              refine g_X7_71 (x := nI (vM v)) C (dx dX7_day 26 rfl) hm.eM ?_
              refine rn_ge (a := vM v) (b := vM v) (tgt := 95) C (by omega) (by omega) (dx dX7_day 27 rfl) (by decide) (fun c23 => ?_) (fun c23 => ?_)
              · first
                | (omega; done)
                | (
                    have c23 : vM v ≤ vM v := c23
                    refine rn_iinc (a := p) (k := 1) (ls' := [(0, vr 7 k), (1, vl x1), (3, vi (nI (p + 1))), (4, vl x14), (6, vi (nI 0)), (7, vi (nI (vM v)))]) C (dx dX7_day 55 rfl) rfl rfl (by decide) [1, 2, 0, 3, 4, 5] rfl ?_
                    refine r_goto (tgt := 4) C (dx dX7_day 56 rfl) (by decide) ?_
                    refine r_weak C [0, 1, 2] rfl ?_
                    exact ihp x1)
              · first
                | (omega; done)
            ·
              intro m9 hm9 ihm9 x1
              refine r_iload C (dx dX7_day 24 rfl) rfl ?_
              refine r_aload_n C (dx dX7_day 25 rfl) rfl ?_
              refine g_X7_71 (x := nI (vM v)) C (dx dX7_day 26 rfl) hm.eM ?_
              refine rn_ge (a := m9) (b := vM v) (tgt := 95) C (by omega) (by omega) (dx dX7_day 27 rfl) (by decide) (fun c26 => ?_) (fun c26 => ?_)
              · first
                | (omega; done)
                | (
                    have c26 : vM v ≤ m9 := c26
                    refine rn_iinc (a := p) (k := 1) (ls' := [(0, vr 7 k), (1, vl x1), (3, vi (nI (p + 1))), (4, vl x14), (6, vi (nI 0)), (7, vi (nI m9))]) C (dx dX7_day 55 rfl) rfl rfl (by decide) [1, 2, 0, 3, 4, 5] rfl ?_
                    refine r_goto (tgt := 4) C (dx dX7_day 56 rfl) (by decide) ?_
                    refine r_weak C [0, 1, 2] rfl ?_
                    exact ihp x1)
              · first
                | (omega; done)
                | (
                    have c26 : m9 < vM v := c26
                    refine r_lload C (dx dX7_day 28 rfl) rfl ?_
                    refine r_lconst (v := 0) C (dx dX7_day 29 rfl) rfl ?_
                    refine r_lcmp C (dx dX7_day 30 rfl) ?_
                    refine r_if_le (tgt := 95) C (dx dX7_day 31 rfl) (by decide) (fun c27 => ?_) (fun c27 => ?_)
                    ·
                      have c27 : x14 ≤ 0 := (lg_cmp_le _ _).mp c27
                      refine rn_iinc (a := p) (k := 1) (ls' := [(0, vr 7 k), (1, vl x1), (3, vi (nI (p + 1))), (4, vl x14), (6, vi (nI 0)), (7, vi (nI m9))]) C (dx dX7_day 55 rfl) rfl rfl (by decide) [1, 2, 0, 3, 4, 5] rfl ?_
                      refine r_goto (tgt := 4) C (dx dX7_day 56 rfl) (by decide) ?_
                      refine r_weak C [0, 1, 2] rfl ?_
                      exact ihp x1
                    ·
                      have c27 : ¬ (x14 ≤ 0) := fun q => c27 ((lg_cmp_le _ _).mpr q)
                      refine r_lload_n C (dx dX7_day 32 rfl) rfl ?_
                      refine r_aload_n C (dx dX7_day 33 rfl) rfl ?_
                      refine g_X7_46 C (dx dX7_day 34 rfl) ?_
                      refine r_iload C (dx dX7_day 35 rfl) rfl ?_
                      refine r_iald (j := m9) (x := vF v 2 m9) C rfl rfl (by decide) rfl (by omega) (dx dX7_day 36 rfl) (hm.e2 (by omega)) ?_
                      refine r_iload C (dx dX7_day 37 rfl) rfl ?_
                      refine r_iconst (v := -1) C (dx dX7_day 38 rfl) rfl ?_
                      refine r_ixor C (dx dX7_day 39 rfl) ?_
                      refine r_iand C (dx dX7_day 40 rfl) ?_
                      refine r_if_ne (tgt := 86) C (dx dX7_day 41 rfl) (by decide) (fun c28 => ?_) (fun c28 => ?_)
                      ·
                        have c28 : ¬ (vF v 2 m9) &&& ((nI 0) ^^^ (-1)) = 0 := c28
                        refine r_lconst (v := 0) C (dx dX7_day 50 rfl) rfl ?_
                        refine r_ladd C (dx dX7_day 51 rfl) ?_
                        refine r_lstore_n (ls' := [(0, vr 7 k), (1, vl (x1 + 0)), (3, vi (nI p)), (4, vl x14), (6, vi (nI 0)), (7, vi (nI m9))]) C (dx dX7_day 52 rfl) (by decide) [1, 0, 2, 3, 4, 5] rfl ?_
                        refine rn_iinc (a := m9) (k := 1) (ls' := [(0, vr 7 k), (1, vl (x1 + 0)), (3, vi (nI p)), (4, vl x14), (6, vi (nI 0)), (7, vi (nI (m9 + 1)))]) C (dx dX7_day 53 rfl) rfl rfl (by decide) [1, 2, 3, 4, 5, 0] rfl ?_
                        refine r_goto (tgt := 40) C (dx dX7_day 54 rfl) (by decide) ?_
                        exact ihm9 (x1 + 0)
                      ·
                        have c28 : (vF v 2 m9) &&& ((nI 0) ^^^ (-1)) = 0 := c28
                        refine r_aload_n C (dx dX7_day 42 rfl) rfl ?_
                        refine g_X7_49 C (dx dX7_day 43 rfl) ?_
                        refine r_iload C (dx dX7_day 44 rfl) rfl ?_
                        refine r_iald (j := m9) (x := vF v 3 m9) C rfl rfl (by decide) rfl (by omega) (dx dX7_day 45 rfl) (hm.e3 (by omega)) ?_
                        refine r_i2l C (dx dX7_day 46 rfl) ?_
                        refine r_lload C (dx dX7_day 47 rfl) rfl ?_
                        refine r_lmul C (dx dX7_day 48 rfl) ?_
                        refine r_goto (tgt := 87) C (dx dX7_day 49 rfl) (by decide) ?_
                        refine r_ladd C (dx dX7_day 51 rfl) ?_
                        refine r_lstore_n (ls' := [(0, vr 7 k), (1, vl (x1 + (((vF v 3 m9).toInt64) * x14))), (3, vi (nI p)), (4, vl x14), (6, vi (nI 0)), (7, vi (nI m9))]) C (dx dX7_day 52 rfl) (by decide) [1, 0, 2, 3, 4, 5] rfl ?_
                        refine rn_iinc (a := m9) (k := 1) (ls' := [(0, vr 7 k), (1, vl (x1 + (((vF v 3 m9).toInt64) * x14))), (3, vi (nI p)), (4, vl x14), (6, vi (nI 0)), (7, vi (nI (m9 + 1)))]) C (dx dX7_day 53 rfl) rfl rfl (by decide) [1, 2, 3, 4, 5, 0] rfl ?_
                        refine r_goto (tgt := 40) C (dx dX7_day 54 rfl) (by decide) ?_
                        exact ihm9 (x1 + (((vF v 3 m9).toInt64) * x14))))
set_option maxHeartbeats 4000000 in
theorem c_X7_anyWorks {l : Launch} {h : Hp} {k : Nat} {v : Vg} (hm : MilAt h k v) (x y : Int32) : Ms l yX7_anyWorks cX7_anyWorks 4 (some .boolean) 3 [vr 7 k, vi x, vi y] h (xK h) (fun r h' => PB r ∧ h' = h) := by
  refine Ms.of (by decide) (Nat.le_of_ble_eq_true rfl) (fun G C X F => ?_)
  have C : Cx G cX7_anyWorks 4 RX7 := C
  show Rr G 0 [(0, vr 7 k), (1, vi x), (2, vi y)] [] h
  have bP := hm.bP
  have bM := hm.bM
  have bN := hm.bN
  refine r_iconst (v := nI 0) C (dx dX7_anyWorks 0 rfl) rfl ?_
  refine r_istore_n (ls' := [(0, vr 7 k), (1, vi x), (2, vi y), (3, vi (nI 0))]) C (dx dX7_anyWorks 1 rfl) (by decide) [1, 2, 3, 0] rfl ?_
  refine loopU (Φ := fun p => Rr G 2 [(0, vr 7 k), (1, vi x), (2, vi y), (3, vi (nI p))] [] h) (N := vM v) ?_ ?_ 0 (by omega) 
  ·
    refine r_iload_n C (dx dX7_anyWorks 2 rfl) rfl ?_
    refine r_aload_n C (dx dX7_anyWorks 3 rfl) rfl ?_
    refine g_X7_71 (x := nI (vM v)) C (dx dX7_anyWorks 4 rfl) hm.eM ?_
    refine rn_ge (a := vM v) (b := vM v) (tgt := 37) C (by omega) (by omega) (dx dX7_anyWorks 5 rfl) (by decide) (fun c1 => ?_) (fun c1 => ?_)
    · first
      | (omega; done)
      | (
          have c1 : vM v ≤ vM v := c1
          refine r_iconst (v := nI 0) C (dx dX7_anyWorks 23 rfl) rfl ?_
          exact F.1 _ _ _ _ .boolean rfl rfl (dx dX7_anyWorks 24 rfl) rfl ⟨⟨false, rfl⟩, rfl⟩)
    · first
      | (omega; done)
  ·
    intro p hp ihp
    refine r_iload_n C (dx dX7_anyWorks 2 rfl) rfl ?_
    refine r_aload_n C (dx dX7_anyWorks 3 rfl) rfl ?_
    refine g_X7_71 (x := nI (vM v)) C (dx dX7_anyWorks 4 rfl) hm.eM ?_
    refine rn_ge (a := p) (b := vM v) (tgt := 37) C (by omega) (by omega) (dx dX7_anyWorks 5 rfl) (by decide) (fun c4 => ?_) (fun c4 => ?_)
    · first
      | (omega; done)
      | (
          have c4 : vM v ≤ p := c4
          refine r_iconst (v := nI 0) C (dx dX7_anyWorks 23 rfl) rfl ?_
          exact F.1 _ _ _ _ .boolean rfl rfl (dx dX7_anyWorks 24 rfl) rfl ⟨⟨false, rfl⟩, rfl⟩)
    · first
      | (omega; done)
      | (
          have c4 : p < vM v := c4
          refine r_aload_n C (dx dX7_anyWorks 6 rfl) rfl ?_
          refine g_X7_46 C (dx dX7_anyWorks 7 rfl) ?_
          refine r_iload_n C (dx dX7_anyWorks 8 rfl) rfl ?_
          refine r_iald (j := p) (x := vF v 2 p) C rfl rfl (by decide) rfl (by omega) (dx dX7_anyWorks 9 rfl) (hm.e2 (by omega)) ?_
          refine r_aload_n C (dx dX7_anyWorks 10 rfl) rfl ?_
          refine r_iload_n C (dx dX7_anyWorks 11 rfl) rfl ?_
          refine r_cvW (as := [vi x]) (st := [vi (vF v 2 p)]) C X I_X7_hasOf l_X7_247 (c_X7_hasOf hm _) (by decide) (Nat.le_of_ble_eq_true rfl) List.prefix_rfl rfl rfl (Nat.le_of_ble_eq_true rfl) rfl (dx dX7_anyWorks 12 rfl) ?_
          rintro _ ⟨x5, rfl⟩
          refine r_iconst (v := -1) C (dx dX7_anyWorks 13 rfl) rfl ?_
          refine r_ixor C (dx dX7_anyWorks 14 rfl) ?_
          refine r_iload_n C (dx dX7_anyWorks 15 rfl) rfl ?_
          refine r_ior C (dx dX7_anyWorks 16 rfl) ?_
          refine r_iand C (dx dX7_anyWorks 17 rfl) ?_
          refine r_if_ne (tgt := 31) C (dx dX7_anyWorks 18 rfl) (by decide) (fun c6 => ?_) (fun c6 => ?_)
          ·
            have c6 : ¬ (vF v 2 p) &&& ((x5 ^^^ (-1)) ||| y) = 0 := c6
            refine rn_iinc (a := p) (k := 1) (ls' := [(0, vr 7 k), (1, vi x), (2, vi y), (3, vi (nI (p + 1)))]) C (dx dX7_anyWorks 21 rfl) rfl rfl (by decide) [1, 2, 3, 0] rfl ?_
            refine r_goto (tgt := 2) C (dx dX7_anyWorks 22 rfl) (by decide) ?_
            exact ihp 
          ·
            have c6 : (vF v 2 p) &&& ((x5 ^^^ (-1)) ||| y) = 0 := c6
            refine r_iconst (v := nI 1) C (dx dX7_anyWorks 19 rfl) rfl ?_
            exact F.1 _ _ _ _ .boolean rfl rfl (dx dX7_anyWorks 20 rfl) rfl ⟨⟨true, rfl⟩, rfl⟩)
set_option maxHeartbeats 4000000 in
theorem c_X7_worstOf {l : Launch} {h : Hp} {k : Nat} {v : Vg} (hm : MilAt h k v) {m : Nat} (hj : m < vM v) : Ms l yX7_worstOf cX7_worstOf 5 (some .int) 4 [vr 7 k, vi (nI m)] h (xK h) (fun r h' => (∃ x, r = some (vi x)) ∧ h' = h) := by
  refine Ms.of (by decide) (Nat.le_of_ble_eq_true rfl) (fun G C X F => ?_)
  have C : Cx G cX7_worstOf 5 RX7 := C
  show Rr G 0 [(0, vr 7 k), (1, vi (nI m))] [] h
  have bP := hm.bP
  have bM := hm.bM
  have bN := hm.bN
  obtain ⟨S, hS⟩ : ∃ S, S = 2 ^ vN v := ⟨_, rfl⟩
  have p8 := pow8 bN
  rw [← hS] at p8
  refine r_aload_n C (dx dX7_worstOf 0 rfl) rfl ?_
  refine r_cvP (as := []) (st := []) (v := vi (nI (S - 1))) C X I_X7_all l_X7_253 (c_mallS hm hS) (by decide) (Nat.le_of_ble_eq_true rfl) List.prefix_rfl rfl rfl (Nat.le_of_ble_eq_true rfl) rfl (dx dX7_worstOf 1 rfl) ?_
  refine r_aload_n C (dx dX7_worstOf 2 rfl) rfl ?_
  refine r_cvW (as := []) (st := [vi (nI (S - 1))]) C X I_X7_crossOnes l_X7_322 (c_X7_crossOnes hm) (by decide) (Nat.le_of_ble_eq_true rfl) List.prefix_rfl rfl rfl (Nat.le_of_ble_eq_true rfl) rfl (dx dX7_worstOf 3 rfl) ?_
  rintro _ ⟨x1, rfl⟩
  refine r_iconst (v := -1) C (dx dX7_worstOf 4 rfl) rfl ?_
  refine r_ixor C (dx dX7_worstOf 5 rfl) ?_
  refine r_iand C (dx dX7_worstOf 6 rfl) ?_
  refine r_istore_n (ls' := [(0, vr 7 k), (1, vi (nI m)), (2, vi ((nI (S - 1)) &&& (x1 ^^^ (-1))))]) C (dx dX7_worstOf 7 rfl) (by decide) [1, 2, 0] rfl ?_
  refine r_bipush (v := nI 9) C (dx dX7_worstOf 8 rfl) rfl ?_
  refine r_istore_n (ls' := [(0, vr 7 k), (1, vi (nI m)), (2, vi ((nI (S - 1)) &&& (x1 ^^^ (-1)))), (3, vi (nI 9))]) C (dx dX7_worstOf 9 rfl) (by decide) [1, 2, 3, 0] rfl ?_
  refine r_iconst (v := nI 0) C (dx dX7_worstOf 10 rfl) rfl ?_
  refine r_istore (ls' := [(0, vr 7 k), (1, vi (nI m)), (2, vi ((nI (S - 1)) &&& (x1 ^^^ (-1)))), (3, vi (nI 9)), (4, vi (nI 0))]) C (dx dX7_worstOf 11 rfl) (by decide) [1, 2, 3, 4, 0] rfl ?_
  refine loopU (Φ := fun p => ∀ (x3 : Int32), Rr G 18 [(0, vr 7 k), (1, vi (nI m)), (2, vi ((nI (S - 1)) &&& (x1 ^^^ (-1)))), (3, vi x3), (4, vi (nI p))] [] h) (N := S) ?_ ?_ 0 (by omega) (nI 9)
  ·
    intro  x3
    refine r_iload C (dx dX7_worstOf 12 rfl) rfl ?_
    refine r_aload_n C (dx dX7_worstOf 13 rfl) rfl ?_
    refine r_cvP (as := []) (st := [vi (nI S)]) (v := vi (nI (S - 1))) C X I_X7_all l_X7_253 (c_mallS hm hS) (by decide) (Nat.le_of_ble_eq_true rfl) List.prefix_rfl rfl rfl (Nat.le_of_ble_eq_true rfl) rfl (dx dX7_worstOf 14 rfl) ?_
    refine rn_gt (a := S) (b := S - 1) (tgt := 75) C (by omega) (by omega) (dx dX7_worstOf 15 rfl) (by decide) (fun c2 => ?_) (fun c2 => ?_)
    · first
      | (omega; done)
      | (
          have c2 : S - 1 < S := c2
          refine r_iload_n C (dx dX7_worstOf 42 rfl) rfl ?_
          exact F.1 _ _ _ _ .int rfl rfl (dx dX7_worstOf 43 rfl) rfl ⟨⟨_, rfl⟩, rfl⟩)
    · first
      | (omega; done)
  ·
    intro p hp ihp x3
    refine r_iload C (dx dX7_worstOf 12 rfl) rfl ?_
    refine r_aload_n C (dx dX7_worstOf 13 rfl) rfl ?_
    refine r_cvP (as := []) (st := [vi (nI p)]) (v := vi (nI (S - 1))) C X I_X7_all l_X7_253 (c_mallS hm hS) (by decide) (Nat.le_of_ble_eq_true rfl) List.prefix_rfl rfl rfl (Nat.le_of_ble_eq_true rfl) rfl (dx dX7_worstOf 14 rfl) ?_
    refine rn_gt (a := p) (b := S - 1) (tgt := 75) C (by omega) (by omega) (dx dX7_worstOf 15 rfl) (by decide) (fun c4 => ?_) (fun c4 => ?_)
    · first
      | (omega; done)
      | (
          have c4 : S - 1 < p := c4
          refine r_iload_n C (dx dX7_worstOf 42 rfl) rfl ?_
          exact F.1 _ _ _ _ .int rfl rfl (dx dX7_worstOf 43 rfl) rfl ⟨⟨_, rfl⟩, rfl⟩)
    · first
      | (omega; done)
      | (
          have c4 : p ≤ S - 1 := c4
          refine r_iload C (dx dX7_worstOf 16 rfl) rfl ?_
          refine r_iload_n C (dx dX7_worstOf 17 rfl) rfl ?_
          refine r_iconst (v := -1) C (dx dX7_worstOf 18 rfl) rfl ?_
          refine r_ixor C (dx dX7_worstOf 19 rfl) ?_
          refine r_iand C (dx dX7_worstOf 20 rfl) ?_
          refine r_if_ne (tgt := 69) C (dx dX7_worstOf 21 rfl) (by decide) (fun c5 => ?_) (fun c5 => ?_)
          ·
            have c5 : ¬ (nI p) &&& (((nI (S - 1)) &&& (x1 ^^^ (-1))) ^^^ (-1)) = 0 := c5
            refine rn_iinc (a := p) (k := 1) (ls' := [(0, vr 7 k), (1, vi (nI m)), (2, vi ((nI (S - 1)) &&& (x1 ^^^ (-1)))), (3, vi x3), (4, vi (nI (p + 1)))]) C (dx dX7_worstOf 40 rfl) rfl rfl (by decide) [1, 2, 3, 4, 0] rfl ?_
            refine r_goto (tgt := 18) C (dx dX7_worstOf 41 rfl) (by decide) ?_
            exact ihp x3
          ·
            have c5 : (nI p) &&& (((nI (S - 1)) &&& (x1 ^^^ (-1))) ^^^ (-1)) = 0 := c5
            refine r_aload_n C (dx dX7_worstOf 22 rfl) rfl ?_
            refine r_iload_n C (dx dX7_worstOf 23 rfl) rfl ?_
            refine r_iload_n C (dx dX7_worstOf 24 rfl) rfl ?_
            refine r_iload C (dx dX7_worstOf 25 rfl) rfl ?_
            refine r_iconst (v := -1) C (dx dX7_worstOf 26 rfl) rfl ?_
            refine r_ixor C (dx dX7_worstOf 27 rfl) ?_
            refine r_iand C (dx dX7_worstOf 28 rfl) ?_
            refine r_cvW (as := [vi (nI m), vi (((nI (S - 1)) &&& (x1 ^^^ (-1))) &&& ((nI p) ^^^ (-1)))]) (st := []) C X I_X7_worksOf l_X7_250 (c_X7_worksOf hm (m := m) (by omega) _) (by decide) (Nat.le_of_ble_eq_true rfl) List.prefix_rfl rfl rfl (Nat.le_of_ble_eq_true rfl) rfl (dx dX7_worstOf 29 rfl) ?_
            rintro _ ⟨x6, rfl⟩
            refine rb_ne (b := x6) (tgt := 69) C (dx dX7_worstOf 30 rfl) (by decide) (fun c7 => ?_) (fun c7 => ?_)
            ·
              have c7 : x6 = true := c7
              refine rn_iinc (a := p) (k := 1) (ls' := [(0, vr 7 k), (1, vi (nI m)), (2, vi ((nI (S - 1)) &&& (x1 ^^^ (-1)))), (3, vi x3), (4, vi (nI (p + 1)))]) C (dx dX7_worstOf 40 rfl) rfl rfl (by decide) [1, 2, 3, 4, 0] rfl ?_
              refine r_goto (tgt := 18) C (dx dX7_worstOf 41 rfl) (by decide) ?_
              exact ihp x3
            ·
              have c7 : x6 = false := c7
              refine r_iload C (dx dX7_worstOf 31 rfl) rfl ?_
              refine r_csW (as := [vi (nI p)]) (st := []) C X I_X7_bits l_X7_268 (c_X7_bits _) (by decide) (Nat.le_of_ble_eq_true rfl) List.prefix_rfl (Nat.le_of_ble_eq_true rfl) rfl (dx dX7_worstOf 32 rfl) ?_
              rintro _ ⟨x8, hx8, rfl⟩
              refine r_iload_n C (dx dX7_worstOf 33 rfl) rfl ?_
              refine r_icmp_ge (tgt := 67) C (dx dX7_worstOf 34 rfl) (by decide) (fun c9 => ?_) (fun c9 => ?_)
              ·
                have c9 : x3 ≤ nI x8 := c9
                refine r_iload_n C (dx dX7_worstOf 38 rfl) rfl ?_
                refine r_istore_n (ls' := [(0, vr 7 k), (1, vi (nI m)), (2, vi ((nI (S - 1)) &&& (x1 ^^^ (-1)))), (3, vi x3), (4, vi (nI p))]) C (dx dX7_worstOf 39 rfl) (by decide) [1, 2, 3, 0, 4] rfl ?_
                refine rn_iinc (a := p) (k := 1) (ls' := [(0, vr 7 k), (1, vi (nI m)), (2, vi ((nI (S - 1)) &&& (x1 ^^^ (-1)))), (3, vi x3), (4, vi (nI (p + 1)))]) C (dx dX7_worstOf 40 rfl) rfl rfl (by decide) [1, 2, 3, 4, 0] rfl ?_
                refine r_goto (tgt := 18) C (dx dX7_worstOf 41 rfl) (by decide) ?_
                exact ihp x3
              ·
                have c9 : ¬ x3 ≤ nI x8 := c9
                refine r_iload C (dx dX7_worstOf 35 rfl) rfl ?_
                refine r_csW (as := [vi (nI p)]) (st := []) C X I_X7_bits l_X7_268 (c_X7_bits _) (by decide) (Nat.le_of_ble_eq_true rfl) List.prefix_rfl (Nat.le_of_ble_eq_true rfl) rfl (dx dX7_worstOf 36 rfl) ?_
                rintro _ ⟨x10, hx10, rfl⟩
                refine r_goto (tgt := 68) C (dx dX7_worstOf 37 rfl) (by decide) ?_
                refine r_istore_n (ls' := [(0, vr 7 k), (1, vi (nI m)), (2, vi ((nI (S - 1)) &&& (x1 ^^^ (-1)))), (3, vi (nI x10)), (4, vi (nI p))]) C (dx dX7_worstOf 39 rfl) (by decide) [1, 2, 3, 0, 4] rfl ?_
                refine rn_iinc (a := p) (k := 1) (ls' := [(0, vr 7 k), (1, vi (nI m)), (2, vi ((nI (S - 1)) &&& (x1 ^^^ (-1)))), (3, vi (nI x10)), (4, vi (nI (p + 1)))]) C (dx dX7_worstOf 40 rfl) rfl rfl (by decide) [1, 2, 3, 4, 0] rfl ?_
                refine r_goto (tgt := 18) C (dx dX7_worstOf 41 rfl) (by decide) ?_
                exact ihp (nI x10))
theorem sub12 {a b : Nat} (ha : a ≤ 12) (hb : b ≤ 12) : ¬ nI 12 < nI a - nI b := fun q => by
  rw [Int32.lt_iff_toInt_lt, pk_sub_toInt (by omega) (by omega), nI_toInt (by omega)] at q
  omega
theorem le12 {a : Nat} (ha : a ≤ 12) : ¬ nI 12 < nI a := fun q => by
  have := (nI_ltI (by omega) (by omega)).mp q; omega
set_option maxHeartbeats 4000000 in
theorem c_ord_lo {l : Launch} {h : Hp} {x : Int32} (hx : x < nI 2) : Ms l yX7_orders cX7_orders 3 (some .int) 1 [vi x] h (xK h) (fun r h' => PI r ∧ h' = h) := by
  refine Ms.of (by decide) (Nat.le_of_ble_eq_true rfl) (fun G C X F => ?_)
  have C : Cx G cX7_orders 3 RX7 := C
  show Rr G 0 [(0, vi x)] [] h
  refine r_iconst (v := nI 1) C (dx dX7_orders 0 rfl) rfl ?_
  refine r_istore_n (ls' := [(0, vi x), (1, vi (nI 1))]) C (dx dX7_orders 1 rfl) (by decide) [1, 0] rfl ?_
  refine r_iconst (v := nI 2) C (dx dX7_orders 2 rfl) rfl ?_
  refine r_istore_n (ls' := [(0, vi x), (1, vi (nI 1)), (2, vi (nI 2))]) C (dx dX7_orders 3 rfl) (by decide) [1, 2, 0] rfl ?_
  refine r_iload_n C (dx dX7_orders 4 rfl) rfl ?_
  refine r_iload_n C (dx dX7_orders 5 rfl) rfl ?_
  refine r_icmp_gt (tgt := 19) C (dx dX7_orders 6 rfl) (by decide) (fun c1 => ?_) (fun c1 => ?_)
  ·
    have c1 : x < nI 2 := c1
    refine r_iload_n C (dx dX7_orders 13 rfl) rfl ?_
    exact F.1 _ _ _ _ .int rfl rfl (dx dX7_orders 14 rfl) rfl ⟨⟨_, rfl⟩, rfl⟩
  · exact absurd (Int32.lt_of_lt_of_le hx (Int32.not_lt.mp c1)) (fun z => Int32.lt_irrefl z)
set_option maxHeartbeats 4000000 in
theorem c_ord_hi {l : Launch} {h : Hp} {n : Nat} (h2 : 2 ≤ n) (hn : n ≤ 12) : Ms l yX7_orders cX7_orders 3 (some .int) 1 [vi (nI n)] h (xK h) (fun r h' => PI r ∧ h' = h) := by
  refine Ms.of (by decide) (Nat.le_of_ble_eq_true rfl) (fun G C X F => ?_)
  have C : Cx G cX7_orders 3 RX7 := C
  show Rr G 0 [(0, vi (nI n))] [] h
  refine r_iconst (v := nI 1) C (dx dX7_orders 0 rfl) rfl ?_
  refine r_istore_n (ls' := [(0, vi (nI n)), (1, vi (nI 1))]) C (dx dX7_orders 1 rfl) (by decide) [1, 0] rfl ?_
  refine r_iconst (v := nI 2) C (dx dX7_orders 2 rfl) rfl ?_
  refine r_istore_n (ls' := [(0, vi (nI n)), (1, vi (nI 1)), (2, vi (nI 2))]) C (dx dX7_orders 3 rfl) (by decide) [1, 2, 0] rfl ?_
  refine loopU (Φ := fun p => ∀ (x1 : Int32), Rr G 4 [(0, vi (nI n)), (1, vi x1), (2, vi (nI p))] [] h) (N := (n + 1)) ?_ ?_ 2 (by omega) (nI 1)
  ·
    intro  x1
    refine r_iload_n C (dx dX7_orders 4 rfl) rfl ?_
    refine r_iload_n C (dx dX7_orders 5 rfl) rfl ?_
    refine rn_gt (a := (n + 1)) (b := n) (tgt := 19) C (by omega) (by omega) (dx dX7_orders 6 rfl) (by decide) (fun c1 => ?_) (fun c1 => ?_)
    · first
      | (omega; done)
      | (
          have c1 : n < (n + 1) := c1
          refine r_iload_n C (dx dX7_orders 13 rfl) rfl ?_
          exact F.1 _ _ _ _ .int rfl rfl (dx dX7_orders 14 rfl) rfl ⟨⟨_, rfl⟩, rfl⟩)
    · first
      | (omega; done)
  ·
    intro p hp ihp x1
    refine r_iload_n C (dx dX7_orders 4 rfl) rfl ?_
    refine r_iload_n C (dx dX7_orders 5 rfl) rfl ?_
    refine rn_gt (a := p) (b := n) (tgt := 19) C (by omega) (by omega) (dx dX7_orders 6 rfl) (by decide) (fun c2 => ?_) (fun c2 => ?_)
    · first
      | (omega; done)
      | (
          have c2 : n < p := c2
          refine r_iload_n C (dx dX7_orders 13 rfl) rfl ?_
          exact F.1 _ _ _ _ .int rfl rfl (dx dX7_orders 14 rfl) rfl ⟨⟨_, rfl⟩, rfl⟩)
    · first
      | (omega; done)
      | (
          have c2 : p ≤ n := c2
          refine r_iload_n C (dx dX7_orders 7 rfl) rfl ?_
          refine r_iload_n C (dx dX7_orders 8 rfl) rfl ?_
          refine r_imul C (dx dX7_orders 9 rfl) ?_
          refine r_istore_n (ls' := [(0, vi (nI n)), (1, vi (x1 * (nI p))), (2, vi (nI p))]) C (dx dX7_orders 10 rfl) (by decide) [1, 0, 2] rfl ?_
          refine rn_iinc (a := p) (k := 1) (ls' := [(0, vi (nI n)), (1, vi (x1 * (nI p))), (2, vi (nI (p + 1)))]) C (dx dX7_orders 11 rfl) rfl rfl (by decide) [1, 2, 0] rfl ?_
          refine r_goto (tgt := 4) C (dx dX7_orders 12 rfl) (by decide) ?_
          exact ihp (x1 * (nI p)))
theorem c_X7_orders {l : Launch} {h : Hp} {x : Int32} (hx : ¬ nI 12 < x) : Ms l yX7_orders cX7_orders 3 (some .int) 1 [vi x] h (xK h) (fun r h' => PI r ∧ h' = h) := by
  by_cases h2 : x < nI 2
  · exact c_ord_lo h2
  · obtain ⟨j, h3, h4, rfl⟩ := btw (by omega) (by omega) h2 hx
    exact c_ord_hi h3 h4
set_option maxHeartbeats 4000000 in
theorem c_X7_powerOf {l : Launch} {h : Hp} {k : Nat} {v : Vg} (hm : MilAt h k v) {m o : Nat} (hj : m < vM v) (ho : o < vN v) : Ms l yX7_powerOf cX7_powerOf 5 (some .int) 4 [vr 7 k, vi (nI m), vi (nI o)] h (xK h) (fun r h' => PI r ∧ h' = h) := by
  refine Ms.of (by decide) (Nat.le_of_ble_eq_true rfl) (fun G C X F => ?_)
  have C : Cx G cX7_powerOf 5 RX7 := C
  show Rr G 0 [(0, vr 7 k), (1, vi (nI m)), (2, vi (nI o))] [] h
  have bP := hm.bP
  have bM := hm.bM
  have bN := hm.bN
  obtain ⟨S, hS⟩ : ∃ S, S = 2 ^ vN v := ⟨_, rfl⟩
  have p8 := pow8 bN
  rw [← hS] at p8
  refine r_iconst (v := nI 0) C (dx dX7_powerOf 0 rfl) rfl ?_
  refine r_istore_n (ls' := [(0, vr 7 k), (1, vi (nI m)), (2, vi (nI o)), (3, vi (nI 0))]) C (dx dX7_powerOf 1 rfl) (by decide) [1, 2, 3, 0] rfl ?_
  refine r_iconst (v := nI 0) C (dx dX7_powerOf 2 rfl) rfl ?_
  refine r_istore (ls' := [(0, vr 7 k), (1, vi (nI m)), (2, vi (nI o)), (3, vi (nI 0)), (4, vi (nI 0))]) C (dx dX7_powerOf 3 rfl) (by decide) [1, 2, 3, 4, 0] rfl ?_
  refine loopU (Φ := fun p => ∀ (x3 : Int32), Rr G 5 [(0, vr 7 k), (1, vi (nI m)), (2, vi (nI o)), (3, vi x3), (4, vi (nI p))] [] h) (N := S) ?_ ?_ 0 (by omega) (nI 0)
  ·
    intro  x3
    refine r_iload C (dx dX7_powerOf 4 rfl) rfl ?_
    refine r_aload_n C (dx dX7_powerOf 5 rfl) rfl ?_
    refine r_cvP (as := []) (st := [vi (nI S)]) (v := vi (nI (S - 1))) C X I_X7_all l_X7_253 (c_mallS hm hS) (by decide) (Nat.le_of_ble_eq_true rfl) List.prefix_rfl rfl rfl (Nat.le_of_ble_eq_true rfl) rfl (dx dX7_powerOf 6 rfl) ?_
    refine rn_gt (a := S) (b := S - 1) (tgt := 80) C (by omega) (by omega) (dx dX7_powerOf 7 rfl) (by decide) (fun c1 => ?_) (fun c1 => ?_)
    · first
      | (omega; done)
      | (
          have c1 : S - 1 < S := c1
          refine r_iload_n C (dx dX7_powerOf 43 rfl) rfl ?_
          exact F.1 _ _ _ _ .int rfl rfl (dx dX7_powerOf 44 rfl) rfl ⟨⟨_, rfl⟩, rfl⟩)
    · first
      | (omega; done)
  ·
    intro p hp ihp x3
    refine r_iload C (dx dX7_powerOf 4 rfl) rfl ?_
    refine r_aload_n C (dx dX7_powerOf 5 rfl) rfl ?_
    refine r_cvP (as := []) (st := [vi (nI p)]) (v := vi (nI (S - 1))) C X I_X7_all l_X7_253 (c_mallS hm hS) (by decide) (Nat.le_of_ble_eq_true rfl) List.prefix_rfl rfl rfl (Nat.le_of_ble_eq_true rfl) rfl (dx dX7_powerOf 6 rfl) ?_
    refine rn_gt (a := p) (b := S - 1) (tgt := 80) C (by omega) (by omega) (dx dX7_powerOf 7 rfl) (by decide) (fun c4 => ?_) (fun c4 => ?_)
    · first
      | (omega; done)
      | (
          have c4 : S - 1 < p := c4
          refine r_iload_n C (dx dX7_powerOf 43 rfl) rfl ?_
          exact F.1 _ _ _ _ .int rfl rfl (dx dX7_powerOf 44 rfl) rfl ⟨⟨_, rfl⟩, rfl⟩)
    · first
      | (omega; done)
      | (
          have c4 : p ≤ S - 1 := c4
          refine r_iload C (dx dX7_powerOf 8 rfl) rfl ?_
          refine r_iload_n C (dx dX7_powerOf 9 rfl) rfl ?_
          refine r_csW (as := [vi (nI p), vi (nI o)]) (st := []) C X I_X7_isIn l_X7_244 (c_X7_isIn _ _) (by decide) (Nat.le_of_ble_eq_true rfl) List.prefix_rfl (Nat.le_of_ble_eq_true rfl) rfl (dx dX7_powerOf 10 rfl) ?_
          rintro _ ⟨x5, rfl⟩
          refine rb_ne (b := x5) (tgt := 74) C (dx dX7_powerOf 11 rfl) (by decide) (fun c6 => ?_) (fun c6 => ?_)
          ·
            have c6 : x5 = true := c6
            refine rn_iinc (a := p) (k := 1) (ls' := [(0, vr 7 k), (1, vi (nI m)), (2, vi (nI o)), (3, vi x3), (4, vi (nI (p + 1)))]) C (dx dX7_powerOf 41 rfl) rfl rfl (by decide) [1, 2, 3, 4, 0] rfl ?_
            refine r_goto (tgt := 5) C (dx dX7_powerOf 42 rfl) (by decide) ?_
            exact ihp x3
          ·
            have c6 : x5 = false := c6
            refine r_aload_n C (dx dX7_powerOf 12 rfl) rfl ?_
            refine r_iload_n C (dx dX7_powerOf 13 rfl) rfl ?_
            refine r_iload C (dx dX7_powerOf 14 rfl) rfl ?_
            refine r_cvW (as := [vi (nI m), vi (nI p)]) (st := []) C X I_X7_worksOf l_X7_250 (c_X7_worksOf hm (m := m) (by omega) _) (by decide) (Nat.le_of_ble_eq_true rfl) List.prefix_rfl rfl rfl (Nat.le_of_ble_eq_true rfl) rfl (dx dX7_powerOf 15 rfl) ?_
            rintro _ ⟨x7, rfl⟩
            refine rb_ne (b := x7) (tgt := 74) C (dx dX7_powerOf 16 rfl) (by decide) (fun c8 => ?_) (fun c8 => ?_)
            ·
              have c8 : x7 = true := c8
              refine rn_iinc (a := p) (k := 1) (ls' := [(0, vr 7 k), (1, vi (nI m)), (2, vi (nI o)), (3, vi x3), (4, vi (nI (p + 1)))]) C (dx dX7_powerOf 41 rfl) rfl rfl (by decide) [1, 2, 3, 4, 0] rfl ?_
              refine r_goto (tgt := 5) C (dx dX7_powerOf 42 rfl) (by decide) ?_
              exact ihp x3
            ·
              have c8 : x7 = false := c8
              refine r_aload_n C (dx dX7_powerOf 17 rfl) rfl ?_
              refine r_iload_n C (dx dX7_powerOf 18 rfl) rfl ?_
              refine r_iload C (dx dX7_powerOf 19 rfl) rfl ?_
              refine r_iconst (v := nI 1) C (dx dX7_powerOf 20 rfl) rfl ?_
              refine r_iload_n C (dx dX7_powerOf 21 rfl) rfl ?_
              refine r_ishl C (dx dX7_powerOf 22 rfl) ?_
              refine r_ior C (dx dX7_powerOf 23 rfl) ?_
              refine r_cvW (as := [vi (nI m), vi ((nI p) ||| ((nI 1) <<< ((nI o) &&& 31)))]) (st := []) C X I_X7_worksOf l_X7_250 (c_X7_worksOf hm (m := m) (by omega) _) (by decide) (Nat.le_of_ble_eq_true rfl) List.prefix_rfl rfl rfl (Nat.le_of_ble_eq_true rfl) rfl (dx dX7_powerOf 24 rfl) ?_
              rintro _ ⟨x9, rfl⟩
              refine rb_eq (b := x9) (tgt := 74) C (dx dX7_powerOf 25 rfl) (by decide) (fun c10 => ?_) (fun c10 => ?_)
              ·
                have c10 : x9 = false := c10
                refine rn_iinc (a := p) (k := 1) (ls' := [(0, vr 7 k), (1, vi (nI m)), (2, vi (nI o)), (3, vi x3), (4, vi (nI (p + 1)))]) C (dx dX7_powerOf 41 rfl) rfl rfl (by decide) [1, 2, 3, 4, 0] rfl ?_
                refine r_goto (tgt := 5) C (dx dX7_powerOf 42 rfl) (by decide) ?_
                exact ihp x3
              ·
                have c10 : x9 = true := c10
                refine r_iload_n C (dx dX7_powerOf 26 rfl) rfl ?_
                refine r_iload C (dx dX7_powerOf 27 rfl) rfl ?_
                refine r_csW (as := [vi (nI p)]) (st := [vi x3]) C X I_X7_bits l_X7_268 (c_X7_bits _) (by decide) (Nat.le_of_ble_eq_true rfl) List.prefix_rfl (Nat.le_of_ble_eq_true rfl) rfl (dx dX7_powerOf 28 rfl) ?_
                rintro _ ⟨x11, hx11, rfl⟩
                refine r_csW (as := [vi (nI x11)]) (st := [vi x3]) C X I_X7_orders l_X7_271 (c_X7_orders (le12 (by omega))) (by decide) (Nat.le_of_ble_eq_true rfl) List.prefix_rfl (Nat.le_of_ble_eq_true rfl) rfl (dx dX7_powerOf 29 rfl) ?_
                rintro _ ⟨x12, rfl⟩
                refine r_aload_n C (dx dX7_powerOf 30 rfl) rfl ?_
                refine g_X7_74 (x := nI (vN v)) C (dx dX7_powerOf 31 rfl) hm.eN ?_
                refine r_iconst (v := nI 1) C (dx dX7_powerOf 32 rfl) rfl ?_
                refine rn_isub (a := vN v) (b := 1) C (by omega) (dx dX7_powerOf 33 rfl) ?_
                refine r_iload C (dx dX7_powerOf 34 rfl) rfl ?_
                refine r_csW (as := [vi (nI p)]) (st := [vi (nI (vN v - 1)), vi x12, vi x3]) C X I_X7_bits l_X7_268 (c_X7_bits _) (by decide) (Nat.le_of_ble_eq_true rfl) List.prefix_rfl (Nat.le_of_ble_eq_true rfl) rfl (dx dX7_powerOf 35 rfl) ?_
                rintro _ ⟨x13, hx13, rfl⟩
                refine r_isub C (dx dX7_powerOf 36 rfl) ?_
                refine r_csW (as := [vi ((nI (vN v - 1)) - (nI x13))]) (st := [vi x12, vi x3]) C X I_X7_orders l_X7_271 (c_X7_orders (sub12 (by omega) (by omega))) (by decide) (Nat.le_of_ble_eq_true rfl) List.prefix_rfl (Nat.le_of_ble_eq_true rfl) rfl (dx dX7_powerOf 37 rfl) ?_
                rintro _ ⟨x14, rfl⟩
                refine r_imul C (dx dX7_powerOf 38 rfl) ?_
                refine r_iadd C (dx dX7_powerOf 39 rfl) ?_
                refine r_istore_n (ls' := [(0, vr 7 k), (1, vi (nI m)), (2, vi (nI o)), (3, vi (x3 + (x12 * x14))), (4, vi (nI p))]) C (dx dX7_powerOf 40 rfl) (by decide) [1, 2, 3, 0, 4] rfl ?_
                refine rn_iinc (a := p) (k := 1) (ls' := [(0, vr 7 k), (1, vi (nI m)), (2, vi (nI o)), (3, vi (x3 + (x12 * x14))), (4, vi (nI (p + 1)))]) C (dx dX7_powerOf 41 rfl) rfl rfl (by decide) [1, 2, 3, 4, 0] rfl ?_
                refine r_goto (tgt := 5) C (dx dX7_powerOf 42 rfl) (by decide) ?_
                exact ihp (x3 + (x12 * x14)))
end
section
/-! PART 25: the reference: what writes in its village -/
/-- the cells of the village (and of the refusals); what stays when only these are written -/
def VC (k b : Nat) : Prop := b = k ∨ (k + 17 ≤ b ∧ b < k + 32)
def Kp (k : Nat) (h h' : Hp) : Prop := xI h' k 8 = xI h k 8 ∧ xN h' k = xN h k ∧ Fs (VC k) h h'
theorem Kp.rf {k : Nat} {h : Hp} : Kp k h h := ⟨rfl, rfl, Fs.rf⟩
theorem Kp.tr {k : Nat} {h h1 h2 : Hp} (a : Kp k h h1) (b : Kp k h1 h2) : Kp k h h2 := ⟨b.1.trans a.1, b.2.1.trans a.2.1, a.2.2.tr b.2.2⟩
theorem Kp.fr {k lo hi : Nat} {h h1 : Hp} (f : Fr lo hi h h1) (h1' : k + 17 ≤ lo) (h2 : hi ≤ k + 32) : Kp k h h1 :=
  ⟨by rw [(f k (by omega)).1], (f k (by omega)).2.2, f.fs.mono (fun b q => Or.inr ⟨by omega, by omega⟩)⟩
theorem Kp.f {k j : Nat} {h : Hp} {x : Int32} (hj : j ≠ 8) : Kp k h (sI h k j x) :=
  ⟨by rw [sI_at, if_neg (Ne.symm hj)], rfl, fun b hb => oth_sI b (fun q => hb (Or.inl q))⟩
theorem Kp.fL {k j : Nat} {h : Hp} {x : Int64} : Kp k h (sL h k j x) :=
  ⟨rfl, rfl, fun b hb => oth_sL b (fun q => hb (Or.inl q))⟩
theorem Kp.c {k b j : Nat} {h : Hp} {x : Int32} (h1 : k + 17 ≤ b) (h2 : b < k + 32) : Kp k h (sI h b j x) := Kp.fr (Fr.sI (lo := b) (hi := b + 1) (by omega) (by omega)) (by omega) (by omega)
theorem MilAt.fL {k j : Nat} {h : Hp} {x : Int64} {v : Vg} (a : MilAt h k v) : MilAt (sL h k j x) k v := a
/-- the same numbers of parts, machines, people -/
def Sz (v u : Vg) : Prop := vP u = vP v ∧ vM u = vM v ∧ vN u = vN v
theorem Sz.rf {v : Vg} : Sz v v := ⟨rfl, rfl, rfl⟩
theorem Sz.tr {v u w : Vg} (a : Sz v u) (b : Sz u w) : Sz v w := ⟨b.1.trans a.1, b.2.1.trans a.2.1, b.2.2.trans a.2.2⟩
set_option maxHeartbeats 4000000 in
theorem c_X7_refuse {l : Launch} {h : Hp} {k : Nat} {v : Vg} (hm : MilAt h k v) {x : Int32} {j : Nat} (e : -x = nI j) (hj : j < 8) : Ms l yX7_refuse cX7_refuse 2 (some .int) 1 [vr 7 k, vi x] h (xK h) (fun r h' => r = some (vi x) ∧ (∃ v', MilAt h' k v' ∧ Sz v v') ∧ Kp k h h') := by
  refine Ms.of (by decide) (Nat.le_of_ble_eq_true rfl) (fun G C X F => ?_)
  have C : Cx G cX7_refuse 2 RX7 := C
  show Rr G 0 [(0, vr 7 k), (1, vi x)] [] h
  have bP := hm.bP
  have bM := hm.bM
  have bN := hm.bN
  refine r_aload_n C (dx dX7_refuse 0 rfl) rfl ?_
  refine g_X7_37 C (dx dX7_refuse 1 rfl) ?_
  refine r_iload_n C (dx dX7_refuse 2 rfl) rfl ?_
  refine r_ineg C (dx dX7_refuse 3 rfl) ?_
  refine r_dup2 C (dx dX7_refuse 4 rfl) ?_
  refine r_iald (j := (-x).toNatClampNeg) (x := xI h (k + 17) ((-x).toNatClampNeg)) C rfl rfl (by decide) (by rw [e, clN (by omega)]) (by rw [e, clN (by omega)]; exact hj) (dx dX7_refuse 5 rfl) rfl ?_
  refine r_iconst (v := nI 1) C (dx dX7_refuse 6 rfl) rfl ?_
  refine r_iadd C (dx dX7_refuse 7 rfl) ?_
  refine r_iast (j := (-x).toNatClampNeg) C rfl rfl (by decide) (by rw [e, clN (by omega)]) (by rw [e, clN (by omega)]; exact hj) (dx dX7_refuse 8 rfl) ?_
  obtain ⟨vh1, mh1, zh1⟩ : ∃ v9, MilAt (sI h (k + 17) ((-x).toNatClampNeg) ((xI h (k + 17) ((-x).toNatClampNeg)) + (nI 1))) k v9 ∧ Sz v v9 := ⟨v, hm.fr (Fr.sI (lo := k + 17) (hi := k + 18) (by omega) (by omega)) (by omega), ⟨rfl, rfl, rfl⟩⟩
  have ph1 : Kp k h (sI h (k + 17) ((-x).toNatClampNeg) ((xI h (k + 17) ((-x).toNatClampNeg)) + (nI 1))) := Kp.c (by omega) (by omega)
  have kh1 : xK (sI h (k + 17) ((-x).toNatClampNeg) ((xI h (k + 17) ((-x).toNatClampNeg)) + (nI 1))) = xK h := rfl
  generalize sI h (k + 17) ((-x).toNatClampNeg) ((xI h (k + 17) ((-x).toNatClampNeg)) + (nI 1)) = h1 at mh1 ph1 kh1 ⊢
  obtain ⟨ah1, bh1, ch1⟩ := zh1
  refine r_iload_n C (dx dX7_refuse 9 rfl) rfl ?_
  exact F.1 _ _ _ _ .int rfl rfl (dx dX7_refuse 10 rfl) kh1 ⟨rfl, ⟨_, mh1, ⟨by omega, by omega, by omega⟩⟩, ph1⟩
end
section
/-! PART 26: the reference: questions -/
theorem pmod {a b : Nat} (ha : a < 2 ^ 31) (hb : b < 2 ^ 31) (h0 : 0 < b) : nI a - nI a / nI b * nI b = nI (a % b) := by
  have e : nI a / nI b = nI (a / b) := by
    apply Int32.toInt_inj.mp
    have h1 : a / b ≤ a := Nat.div_le_self a b
    rw [Int32.toInt_div, nI_toInt ha, nI_toInt hb, nI_toInt (by omega)]
    rw [show (a : Int).tdiv (b : Int) = ((a / b : Nat) : Int) from (Int.ofNat_tdiv a b).symm ▸ rfl]
    generalize a / b = q at h1 ⊢
    exact Int.bmod_eq_of_le (by omega) (by omega)
  rw [e, pk_mul, pk_sub (Nat.div_mul_le_self a b)]
  congr 1
  have := Nat.div_add_mod a b
  rw [Nat.mul_comm] at this
  omega
theorem btw_ex {x : Int32} {a b : Nat} (ha : a < 2 ^ 30) (hb : b < 2 ^ 30) (h : btwB x a b = true) : ∃ j, a ≤ j ∧ j ≤ b ∧ x = nI j := by
  unfold btwB at h
  simp only [Bool.and_eq_true, decide_eq_true_eq] at h
  exact btw ha hb h.1 h.2
theorem Sz.sS {v : Vg} {x : Int32} : Sz v (vsS v x) := ⟨rfl, rfl, rfl⟩
theorem mi {x : Int32} {n : Nat} (hn : n < 2 ^ 31) (a : x = -1 ∨ ∃ a, a < n ∧ x = nI a) (h : ¬ x = -1) : x = nI x.toNatClampNeg ∧ x.toNatClampNeg < n := by
  rcases a with a | ⟨q, h1, h2⟩
  · exact absurd a h
  · subst h2; rw [clN (by omega)]; exact ⟨rfl, h1⟩
end
