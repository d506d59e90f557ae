/-! PART 21: the class: what its cells hold; its small methods -/
theorem Fr.fs {lo hi : Nat} {h h1 : Hp} (f : Fr lo hi h h1) : Fs (fun b => lo ≤ b ∧ b < hi) h h1 := Fs.of f (fun b h1 h2 => ⟨h1, h2⟩)
theorem Fs.to {A : Nat → Prop} {lo hi : Nat} {h h1 : Hp} (a : Fs A h h1) (q : ∀ b, A b → lo ≤ b ∧ b < hi) : Fr lo hi h h1 := fun b hb => a b (fun z => by have := q b z; omega)
def un (P : Nat → Prop) (lo hi : Nat) : Prop := ∀ b, lo ≤ b → b < hi → ¬ P b
theorem VilAt.ag {h h1 : Hp} {k : Nat} {v : Vg} {P : Nat → Prop} (a : VilAt h k v) (f : Fs P h h1) (q : un P k (k + 9)) : VilAt h1 k v := by
  have e : ∀ j, j < 9 → xI h1 (k + j) = xI h (k + j) := fun j hj => (f _ (q _ (by omega) (by omega))).1
  unfold VilAt at *
  rw [show xI h1 k = xI h k from e 0 (by omega), e 1 (by omega), e 2 (by omega), e 3 (by omega), e 4 (by omega), e 5 (by omega), e 6 (by omega), e 7 (by omega), e 8 (by omega)]
  exact a
theorem SInv.ag {h h1 : Hp} {k : Nat} {P : Nat → Prop} (a : SInv h k) (f : Fs P h h1) (q : un P (k + 5) (k + 13)) : SInv h1 k := ⟨fun q1 h1' m hm => by
  rw [(f _ (q _ (by omega) (by omega))).1]; exact a.1 q1 h1' m hm, fun i h2 h3 => by
  rw [(f _ (q _ (by omega) (by omega))).2.1]; exact a.2 i h2 h3⟩
theorem TapAt.ag {h h1 : Hp} {k z : Nat} {B : Nat → Int32} {P : Nat → Prop} (a : TapAt h k B z) (f : Fs P h h1) (q : un P k (k + 2)) : TapAt h1 k B z :=
  ⟨fun i hi => by rw [(f _ (q _ (by omega) (by omega))).1]; exact a.1 i hi, by rw [(f _ (q _ (by omega) (by omega))).1]; exact a.2.1, a.2.2⟩
theorem ShAt.ag {h h1 : Hp} {k : Nat} {g : Sg} {P : Nat → Prop} (a : ShAt h k g) (f : Fs P h h1) (q : un P (k + 1) (k + 13)) : ShAt h1 k g :=
  ⟨fun s hs => by rw [(f _ (q _ (by omega) (by omega))).1]; exact a.1 s hs, fun s hs => by rw [(f _ (q _ (by omega) (by omega))).1]; exact a.2.1 s hs, fun s hs => by rw [(f _ (q _ (by omega) (by omega))).1]; exact a.2.2.1 s hs, fun s hs i hi => by rw [(f _ (q _ (by omega) (by omega))).2.1]; exact a.2.2.2 s hs i hi⟩
theorem nI_ex (x : Int32) : ∃ j, x = nI j := ⟨x.toBitVec.toNat, by
  apply Int32.toBitVec_inj.mp
  show x.toBitVec = BitVec.ofNat 32 x.toBitVec.toNat
  rw [BitVec.ofNat_toNat, BitVec.setWidth_eq]⟩
theorem tk_ex {h : Hp} {k z : Nat} {B : Nat → Int32} (a : TapAt h k B z) : ∃ t s e, TkAt h k B z t s e := by
  obtain ⟨t, ht⟩ := nI_ex (xI h k 2)
  obtain ⟨s, hs⟩ := nI_ex (xI h k 3)
  obtain ⟨e, he⟩ := nI_ex (xI h k 4)
  exact ⟨t, s, e, a, ht, hs, he⟩
/-- the class: the village that is, that is tried, that is kept; orders; the search; the tape; the shelves; whether one is kept -/
def Ow (h : Hp) (v u w : Vg) (g : Sg) (B : Nat → Int32) (z : Nat) (κ : Int32) : Prop :=
  VilAt h 1 v ∧ VilAt h 10 u ∧ VilAt h 19 w ∧ (∀ i, i < 8 → xI h 31 i = nI (fct i)) ∧ SInv h 34 ∧ TapAt h 47 B z ∧ ShAt h 49 g ∧ xI h 0 3 = κ
section OW
variable {h h1 : Hp} {v u w v' u' w' : Vg} {g g' : Sg} {B B' : Nat → Int32} {z z' : Nat} {κ κ' : Int32} {P : Nat → Prop}
theorem Ow.pv (o : Ow h v u w g B z κ) : VilAt h 1 v := o.1
theorem Ow.pu (o : Ow h v u w g B z κ) : VilAt h 10 u := o.2.1
theorem Ow.pw (o : Ow h v u w g B z κ) : VilAt h 19 w := o.2.2.1
theorem Ow.po (o : Ow h v u w g B z κ) : ∀ i, i < 8 → xI h (28 + 3) i = nI (fct i) := o.2.2.2.1
theorem Ow.ps (o : Ow h v u w g B z κ) : SInv h 34 := o.2.2.2.2.1
theorem Ow.pt (o : Ow h v u w g B z κ) : TapAt h 47 B z := o.2.2.2.2.2.1
theorem Ow.pg (o : Ow h v u w g B z κ) : ShAt h 49 g := o.2.2.2.2.2.2.1
theorem Ow.pk (o : Ow h v u w g B z κ) : xI h 0 3 = κ := o.2.2.2.2.2.2.2
theorem Ow.mv (o : Ow h v u w g B z κ) (f : Fs P h h1) (c1 : VilAt h1 1 v' ∨ v' = v ∧ un P 1 10) (c2 : VilAt h1 10 u' ∨ u' = u ∧ un P 10 19) (c3 : VilAt h1 19 w' ∨ w' = w ∧ un P 19 28) (c4 : un P 31 32) (c5 : SInv h1 34 ∨ un P 34 47)
    (c6 : TapAt h1 47 B' z' ∨ (B' = B ∧ z' = z) ∧ un P 47 49) (c7 : ShAt h1 49 g' ∨ g' = g ∧ un P 49 62) (c8 : xI h1 0 3 = κ' ∨ κ' = κ ∧ ¬ P 0) : Ow h1 v' u' w' g' B' z' κ' := by
  refine ⟨?_, ?_, ?_, ?_, ?_, ?_, ?_, ?_⟩
  · rcases c1 with c | ⟨rfl, c⟩
    · exact c
    · exact o.pv.ag f c
  · rcases c2 with c | ⟨rfl, c⟩
    · exact c
    · exact o.pu.ag f c
  · rcases c3 with c | ⟨rfl, c⟩
    · exact c
    · exact o.pw.ag f c
  · intro i hi; rw [(f _ (c4 _ (by omega) (by omega))).1]; exact o.po i hi
  · rcases c5 with c | c
    · exact c
    · exact o.ps.ag f (fun b h1 h2 => c b (by omega) (by omega))
  · rcases c6 with c | ⟨⟨rfl, rfl⟩, c⟩
    · exact c
    · exact o.pt.ag f c
  · rcases c7 with c | ⟨rfl, c⟩
    · exact c
    · exact o.pg.ag f (fun b h1 h2 => c b (by omega) (by omega))
  · rcases c8 with c | ⟨rfl, c⟩
    · exact c
    · rw [(f _ c).1]; exact o.pk
theorem Ow.now (o : Ow h v u w g B z κ) (a : VilAt h1 1 v') (f : Fr 1 10 h h1) : Ow h1 v' u w g B z κ :=
  o.mv f.fs (Or.inl a) (Or.inr ⟨rfl, fun b _ _ q => by omega⟩) (Or.inr ⟨rfl, fun b _ _ q => by omega⟩) (fun b _ _ q => by omega) (Or.inr (fun b _ _ q => by omega)) (Or.inr ⟨⟨rfl, rfl⟩, fun b _ _ q => by omega⟩) (Or.inr ⟨rfl, fun b _ _ q => by omega⟩) (Or.inr ⟨rfl, fun q => by omega⟩)
theorem Ow.tri (o : Ow h v u w g B z κ) (a : VilAt h1 10 u') (f : Fr 10 19 h h1) : Ow h1 v u' w g B z κ :=
  o.mv f.fs (Or.inr ⟨rfl, fun b _ _ q => by omega⟩) (Or.inl a) (Or.inr ⟨rfl, fun b _ _ q => by omega⟩) (fun b _ _ q => by omega) (Or.inr (fun b _ _ q => by omega)) (Or.inr ⟨⟨rfl, rfl⟩, fun b _ _ q => by omega⟩) (Or.inr ⟨rfl, fun b _ _ q => by omega⟩) (Or.inr ⟨rfl, fun q => by omega⟩)
theorem Ow.kep (o : Ow h v u w g B z κ) (a : VilAt h1 19 w') (f : Fr 19 28 h h1) : Ow h1 v u w' g B z κ :=
  o.mv f.fs (Or.inr ⟨rfl, fun b _ _ q => by omega⟩) (Or.inr ⟨rfl, fun b _ _ q => by omega⟩) (Or.inl a) (fun b _ _ q => by omega) (Or.inr (fun b _ _ q => by omega)) (Or.inr ⟨⟨rfl, rfl⟩, fun b _ _ q => by omega⟩) (Or.inr ⟨rfl, fun b _ _ q => by omega⟩) (Or.inr ⟨rfl, fun q => by omega⟩)
theorem Ow.tm (o : Ow h v u w g B z κ) (f : Fr 29 31 h h1) : Ow h1 v u w g B z κ :=
  o.mv f.fs (Or.inr ⟨rfl, fun b _ _ q => by omega⟩) (Or.inr ⟨rfl, fun b _ _ q => by omega⟩) (Or.inr ⟨rfl, fun b _ _ q => by omega⟩) (fun b _ _ q => by omega) (Or.inr (fun b _ _ q => by omega)) (Or.inr ⟨⟨rfl, rfl⟩, fun b _ _ q => by omega⟩) (Or.inr ⟨rfl, fun b _ _ q => by omega⟩) (Or.inr ⟨rfl, fun q => by omega⟩)
theorem Ow.ref (o : Ow h v u w g B z κ) (f : Fr 62 63 h h1) : Ow h1 v u w g B z κ :=
  o.mv f.fs (Or.inr ⟨rfl, fun b _ _ q => by omega⟩) (Or.inr ⟨rfl, fun b _ _ q => by omega⟩) (Or.inr ⟨rfl, fun b _ _ q => by omega⟩) (fun b _ _ q => by omega) (Or.inr (fun b _ _ q => by omega)) (Or.inr ⟨⟨rfl, rfl⟩, fun b _ _ q => by omega⟩) (Or.inr ⟨rfl, fun b _ _ q => by omega⟩) (Or.inr ⟨rfl, fun q => by omega⟩)
theorem Ow.sea (o : Ow h v u w g B z κ) (a : SInv h1 34) (f : Fr 34 47 h h1) : Ow h1 v u w g B z κ :=
  o.mv f.fs (Or.inr ⟨rfl, fun b _ _ q => by omega⟩) (Or.inr ⟨rfl, fun b _ _ q => by omega⟩) (Or.inr ⟨rfl, fun b _ _ q => by omega⟩) (fun b _ _ q => by omega) (Or.inl a) (Or.inr ⟨⟨rfl, rfl⟩, fun b _ _ q => by omega⟩) (Or.inr ⟨rfl, fun b _ _ q => by omega⟩) (Or.inr ⟨rfl, fun q => by omega⟩)
theorem Ow.tap (o : Ow h v u w g B z κ) (a : TapAt h1 47 B' z') (f : Fr 47 49 h h1) : Ow h1 v u w g B' z' κ :=
  o.mv f.fs (Or.inr ⟨rfl, fun b _ _ q => by omega⟩) (Or.inr ⟨rfl, fun b _ _ q => by omega⟩) (Or.inr ⟨rfl, fun b _ _ q => by omega⟩) (fun b _ _ q => by omega) (Or.inr (fun b _ _ q => by omega)) (Or.inl a) (Or.inr ⟨rfl, fun b _ _ q => by omega⟩) (Or.inr ⟨rfl, fun q => by omega⟩)
theorem Ow.she (o : Ow h v u w g B z κ) (a : ShAt h1 49 g') (f : Fr 50 62 h h1) : Ow h1 v u w g' B z κ :=
  o.mv f.fs (Or.inr ⟨rfl, fun b _ _ q => by omega⟩) (Or.inr ⟨rfl, fun b _ _ q => by omega⟩) (Or.inr ⟨rfl, fun b _ _ q => by omega⟩) (fun b _ _ q => by omega) (Or.inr (fun b _ _ q => by omega)) (Or.inr ⟨⟨rfl, rfl⟩, fun b _ _ q => by omega⟩) (Or.inl a) (Or.inr ⟨rfl, fun q => by omega⟩)
theorem Ow.self (o : Ow h v u w g B z κ) (a : xI h1 0 3 = κ') (f : Fr 0 1 h h1) : Ow h1 v u w g B z κ' :=
  o.mv f.fs (Or.inr ⟨rfl, fun b _ _ q => by omega⟩) (Or.inr ⟨rfl, fun b _ _ q => by omega⟩) (Or.inr ⟨rfl, fun b _ _ q => by omega⟩) (fun b _ _ q => by omega) (Or.inr (fun b _ _ q => by omega)) (Or.inr ⟨⟨rfl, rfl⟩, fun b _ _ q => by omega⟩) (Or.inr ⟨rfl, fun b _ _ q => by omega⟩) (Or.inl a)
theorem Ow.rul (o : Ow h v u w g B z κ) (a : VilAt h1 10 u') (f : Fs (RA 32 10) h h1) : Ow h1 v u' w g B z κ :=
  o.mv f (Or.inr ⟨rfl, fun b _ _ q => by unfold RA at q; omega⟩) (Or.inl a) (Or.inr ⟨rfl, fun b _ _ q => by unfold RA at q; omega⟩) (fun b _ _ q => by unfold RA at q; omega) (Or.inr (fun b _ _ q => by unfold RA at q; omega)) (Or.inr ⟨⟨rfl, rfl⟩, fun b _ _ q => by unfold RA at q; omega⟩) (Or.inr ⟨rfl, fun b _ _ q => by unfold RA at q; omega⟩) (Or.inr ⟨rfl, fun q => by unfold RA at q; omega⟩)
theorem Ow.rul1 (o : Ow h v u w g B z κ) (a : VilAt h1 1 v') (f : Fs (RA 32 1) h h1) : Ow h1 v' u w g B z κ :=
  o.mv f (Or.inl a) (Or.inr ⟨rfl, fun b _ _ q => by unfold RA at q; omega⟩) (Or.inr ⟨rfl, fun b _ _ q => by unfold RA at q; omega⟩) (fun b _ _ q => by unfold RA at q; omega) (Or.inr (fun b _ _ q => by unfold RA at q; omega)) (Or.inr ⟨⟨rfl, rfl⟩, fun b _ _ q => by unfold RA at q; omega⟩) (Or.inr ⟨rfl, fun b _ _ q => by unfold RA at q; omega⟩) (Or.inr ⟨rfl, fun q => by unfold RA at q; omega⟩)
theorem Ow.rea (o : Ow h v u w g B z κ) (a : VilAt h1 10 u') (b : TapAt h1 47 B' z') (f : Fs (RT 47 10) h h1) : Ow h1 v u' w g B' z' κ :=
  o.mv f (Or.inr ⟨rfl, fun b _ _ q => by unfold RT at q; omega⟩) (Or.inl a) (Or.inr ⟨rfl, fun b _ _ q => by unfold RT at q; omega⟩) (fun b _ _ q => by unfold RT at q; omega) (Or.inr (fun b _ _ q => by unfold RT at q; omega)) (Or.inl b) (Or.inr ⟨rfl, fun b _ _ q => by unfold RT at q; omega⟩) (Or.inr ⟨rfl, fun q => by unfold RT at q; omega⟩)
end OW
theorem RA.lo {b : Nat} (q : RA 32 10 b) : 0 ≤ b ∧ b < 63 := by unfold RA at q; omega
theorem RA.lo1 {b : Nat} (q : RA 32 1 b) : 0 ≤ b ∧ b < 63 := by unfold RA at q; omega
theorem RT.lo {b : Nat} (q : RT 47 10 b) : 0 ≤ b ∧ b < 63 := by unfold RT at q; omega
/-- what shelves may hold -/
def GOk (g : Sg) : Prop := SzOk g ∧ ∀ s, s < 8 → gT g s = -1 ∨ (∃ t, t < 5 ∧ gT g s = nI t) ∨ (∃ κ b, 1 ≤ κ ∧ κ ≤ 5 ∧ b < 100 ∧ gT g s = nI (10 + κ) ∧ gY g s = nI b)
theorem hold_nI {g : Sg} {x : Int32} (h : holdB g x = true) : ∃ s, s < 8 ∧ x = nI s ∧ ¬ gT g s < nI 10 := by
  have q := hold_in h
  obtain ⟨e, l⟩ := inR_at (by omega) q
  refine ⟨_, l, e, ?_⟩
  unfold holdB tOn at h
  rw [if_pos q] at h
  exact of_decide_eq_true h
theorem GOk.hold {g : Sg} {x : Int32} (a : GOk g) (h : holdB g x = true) : ∃ κ b, 1 ≤ κ ∧ κ ≤ 5 ∧ b < 100 ∧ kdV g x = nI κ ∧ byV g x = nI b := by
  obtain ⟨s, hs, rfl, hn⟩ := hold_nI h
  have c : (nI s).toNatClampNeg = s := nI_clamp (by omega)
  rcases a.2 s hs with q | ⟨t, ht, q⟩ | ⟨κ, b, h1, h2, h3, q, q2⟩
  · rw [q] at hn; exact absurd (by decide) hn
  · rw [q] at hn; exact absurd ((nI_ltI (by omega) (by omega)).mpr (by omega)) hn
  · refine ⟨κ, b, h1, h2, h3, ?_, ?_⟩
    · unfold kdV; rw [if_pos h, c, q, show 10 + κ = κ + 10 by omega, ← nI_add]; simp
    · unfold byV; rw [if_pos h, c, q2]
theorem inR_ex {x : Int32} {n : Nat} (hn : n < 2 ^ 31) (h : inR x n = true) : ∃ j, j < n ∧ x = nI j := ⟨_, (inR_at hn h).2, (inR_at hn h).1⟩
theorem inR_gt {x : Int32} {n : Nat} (hn : n < 2 ^ 30) (h : nI n < x) : inR x (n + 1) = false := by
  rw [Int32.lt_iff_toInt_lt, nI_toInt (by omega)] at h
  simp only [inR, decide_eq_false_iff_not]; omega
theorem inR_mid {x : Int32} {n : Nat} (hn : n < 2 ^ 30) (h0 : ¬ x < 0) (h : ¬ nI n < x) : inR x (n + 1) = true := by
  rw [Int32.lt_iff_toInt_lt] at h0
  rw [Int32.lt_iff_toInt_lt, nI_toInt (by omega)] at h
  have : (0 : Int32).toInt = 0 := by decide
  simp only [inR, decide_eq_true_eq]; omega
theorem sw_c (n : Nat) (x : Int32) : (∃ j : Nat, j < n ∧ x = nI j) ∨ (x.toInt < 0 ∨ ((n : Int) - 1 < x.toInt)) := by
  by_cases h : x.toInt < 0 ∨ ((n : Int) - 1 < x.toInt)
  · exact Or.inr h
  · have h0 : ¬ x < 0 := by
      rw [Int32.lt_iff_toInt_lt]; have : (0 : Int32).toInt = 0 := by decide
      omega
    obtain ⟨j, hj, rfl⟩ := nI_of h0
    rw [nI_toInt hj] at h
    exact Or.inl ⟨j, by omega, rfl⟩
theorem bc_hi {x : Int32} {n : Nat} (hn : n ≤ 4096) (a : x = -1 ∨ ∃ a, a < n ∧ x = nI a) (h : ¬ x = -1) : ∃ a, a < 4096 ∧ x = nI a := by
  rcases a with a | ⟨q, h1, h2⟩
  · exact absurd a h
  · exact ⟨q, by omega, h2⟩
theorem pcn_12 {a : Nat} (h : a < 4096) : pcn a ≤ 12 := (bc_at h).2.2.2.2.2.2
theorem pcn_h {x : Int32} (q : ∃ a, a < 4096 ∧ x = nI a) : pcn x.toNatClampNeg ≤ 12 := by
  obtain ⟨a, ha, rfl⟩ := q
  rw [nI_clamp (by omega)]; exact pcn_12 ha
theorem c_bcE {l : Launch} {h : Hp} {x : Int32} (q : ∃ a, a < 4096 ∧ x = nI a) : Mp l yJ6_bitCount_0f7a4 cJ6_bitCount_0f7a4 1 (some .int) 1 [vi x] h (vi (nI (pcn x.toNatClampNeg))) := by
  obtain ⟨a, ha, rfl⟩ := q
  rw [nI_clamp (by omega)]
  exact c_J6_bitCount_0f7a4 ha
set_option maxHeartbeats 4000000 in
theorem c_X6_refuse {l : Launch} {h : Hp} (x : Int32) : Ms l yX6_refuse cX6_refuse 3 (some .int) 1 [vr 6 0, vi x] h (xK h) (fun r h' => r = some (vi x) ∧ Fr 62 63 h h') := by
  refine Ms.of (by decide) (Nat.le_of_ble_eq_true rfl) (fun G C X F => ?_)
  have C : Cx G cX6_refuse 3 RX6 := C
  show Rr G 0 [(0, vr 6 0), (1, vi x)] [] h
  refine r_bipush (v := -2) C (dx dX6_refuse 0 rfl) rfl ?_
  refine r_iload_n C (dx dX6_refuse 1 rfl) rfl ?_
  refine r_isub C (dx dX6_refuse 2 rfl) ?_
  refine r_istore_n (ls' := [(0, vr 6 0), (1, vi x), (2, vi ((-2) - x))]) C (dx dX6_refuse 3 rfl) (by decide) [1, 2, 0] rfl ?_
  refine r_iload_n C (dx dX6_refuse 4 rfl) rfl ?_
  refine r_if_lt (tgt := 28) C (dx dX6_refuse 5 rfl) (by decide) (fun c1 => ?_) (fun c1 => ?_)
  ·
    have c1 : (-2) - x < 0 := c1
    refine r_iload_n C (dx dX6_refuse 19 rfl) rfl ?_
    exact F.1 _ _ _ _ _ rfl rfl (dx dX6_refuse 20 rfl) rfl ⟨congrArg (fun x => some (vi x)) rfl, Fr.rf⟩
  ·
    have c1 : ¬ (-2) - x < 0 := c1
    refine r_iload_n C (dx dX6_refuse 6 rfl) rfl ?_
    refine r_aload_n C (dx dX6_refuse 7 rfl) rfl ?_
    refine g_X6_61 C (dx dX6_refuse 8 rfl) ?_
    refine r_alen0 (v := nI 5) C rfl rfl rfl (dx dX6_refuse 9 rfl) ?_
    refine r_icmp_ge (tgt := 28) C (dx dX6_refuse 10 rfl) (by decide) (fun c2 => ?_) (fun c2 => ?_)
    ·
      have c2 : nI 5 ≤ (-2) - x := c2
      refine r_iload_n C (dx dX6_refuse 19 rfl) rfl ?_
      exact F.1 _ _ _ _ _ rfl rfl (dx dX6_refuse 20 rfl) rfl ⟨congrArg (fun x => some (vi x)) rfl, Fr.rf⟩
    ·
      have c2 : ¬ nI 5 ≤ (-2) - x := c2
      refine r_aload_n C (dx dX6_refuse 11 rfl) rfl ?_
      refine g_X6_61 C (dx dX6_refuse 12 rfl) ?_
      refine r_iload_n C (dx dX6_refuse 13 rfl) rfl ?_
      refine r_dup2 C (dx dX6_refuse 14 rfl) ?_
      refine r_iald (j := (-2 - x).toNatClampNeg) (x := xI h 62 ((-2 - x).toNatClampNeg)) C rfl rfl (by decide) (inR_at (by omega) (inR_ok (n := 5) (by omega) c1 c2)).1 (Nat.lt_of_lt_of_le (inR_at (by omega) (inR_ok (n := 5) (by omega) c1 c2)).2 (by omega)) (dx dX6_refuse 15 rfl) rfl ?_
      refine r_iconst (v := nI 1) C (dx dX6_refuse 16 rfl) rfl ?_
      refine r_iadd C (dx dX6_refuse 17 rfl) ?_
      refine r_iast (j := (-2 - x).toNatClampNeg) C rfl rfl (by decide) (inR_at (by omega) (inR_ok (n := 5) (by omega) c1 c2)).1 (Nat.lt_of_lt_of_le (inR_at (by omega) (inR_ok (n := 5) (by omega) c1 c2)).2 (by omega)) (dx dX6_refuse 18 rfl) ?_
      refine r_iload_n C (dx dX6_refuse 19 rfl) rfl ?_
      exact F.1 _ _ _ _ _ rfl rfl (dx dX6_refuse 20 rfl) rfl ⟨congrArg (fun x => some (vi x)) rfl, Fr.sI (by omega) (by omega)⟩
def undV (x y : Int32) : Bool := decide (x = y) || (decide (y = 0) || (if y = nI 1 then decide (x = nI 5) else (decide (y = nI 2) && (decide (x = nI 3) || decide (x = nI 4)))))
def rfV (g : Sg) (x : Int32) : Int32 := if holdB g x = true then -3 else if bareB g x = true then -4 else nI 0
def hfV (g : Sg) (x : Int32) : Int32 := if rowB g x = true then -3 else if bareB g x = true then -4 else nI 0
def tfV (g : Sg) (s n : Int32) : Int32 := if inR s 8 = true ∧ inR n 21 = true then (if rfV g s = 0 then (if n ≤ szV g s then nI 0 else -2) else rfV g s) else -2
def tdP (v : Vg) (g : Sg) (s d : Int32) : Int32 := hasP v ((elV g s d).toInt32 &&& full (vN v) &&& (crs v ^^^ -1))
def bigB (v : Vg) : Bool := decide (4 < vN v) || decide (6 < vP v)
theorem tf_ok {g : Sg} {s n : Int32} (h : tfV g s n = 0) : ∃ j, j < 21 ∧ n = nI j := by
  unfold tfV at h
  split at h
  · next c => exact inR_ex (by omega) c.2
  · exact absurd h (by decide)
theorem c_kdN {l : Launch} {h : Hp} {k j : Nat} {g : Sg} {x : Int32} (hs : ShAt h k g) (e : kdV g x = nI j) : Mp l yX2_kindOn cX2_kindOn 2 (some .int) 4 [vr 2 k, vi x] h (vi (nI j)) := by
  rw [← e]; exact c_X2_kindOn hs x
theorem c_byN {l : Launch} {h : Hp} {k j : Nat} {g : Sg} {x : Int32} (hs : ShAt h k g) (e : byV g x = nI j) : Mp l yX2_byOn cX2_byOn 2 (some .int) 4 [vr 2 k, vi x] h (vi (nI j)) := by
  rw [← e]; exact c_X2_byOn hs x
theorem btw {x : Int32} {a b : Nat} (ha : a < 2 ^ 30) (hb : b < 2 ^ 30) (h0 : ¬ x < nI a) (h1 : ¬ nI b < x) : ∃ j, a ≤ j ∧ j ≤ b ∧ x = nI j := by
  have h2 : ¬ x < 0 := fun q => h0 (by
    rw [Int32.lt_iff_toInt_lt] at q ⊢
    rw [nI_toInt (by omega)]
    have : (0 : Int32).toInt = 0 := by decide
    omega)
  obtain ⟨j, hj, rfl⟩ := nI_of h2
  refine ⟨j, ?_, ?_, rfl⟩
  · exact Nat.le_of_not_lt fun q => h0 ((nI_ltI hj (by omega)).mpr q)
  · exact Nat.le_of_not_lt fun q => h1 ((nI_ltI (by omega) hj).mpr q)
theorem btw0 {x : Int32} {b : Nat} (hb : b < 2 ^ 30) (h0 : ¬ x < 0) (h1 : ¬ nI b < x) : ∃ j, j ≤ b ∧ x = nI j := by
  obtain ⟨j, _, h2, h3⟩ := btw (a := 0) (by omega) hb h0 h1
  exact ⟨j, h2, h3⟩
theorem add_m1 {x : Int32} : x + (-1) = x - nI 1 := by rw [Int32.sub_eq_add_neg]; rfl
theorem loopDn {Φ : Nat → Prop} (h0 : Φ 0) (hs : ∀ j, Φ j → Φ (j + 1)) : ∀ j, Φ j
  | 0 => h0
  | j + 1 => hs j (loopDn h0 hs j)
theorem fit_nb (b : Bool) : fits .boolean (.int (vp_nar .boolean (b2i b))) = true := by cases b <;> rfl
set_option maxHeartbeats 4000000 in
theorem c_X6_isUnder {l : Launch} {h : Hp} (x y : Int32) : Mp l yX6_isUnder cX6_isUnder 2 (some .boolean) 1 [vi x, vi y] h (vi (b2i (undV x y))) := by
  refine Ms.of (by decide) (Nat.le_of_ble_eq_true rfl) (fun G C X F => ?_)
  have C : Cx G cX6_isUnder 2 RX6 := C
  show Rr G 0 [(0, vi x), (1, vi y)] [] h
  refine r_iload_n C (dx dX6_isUnder 0 rfl) rfl ?_
  refine r_iload_n C (dx dX6_isUnder 1 rfl) rfl ?_
  refine r_icmp_eq (tgt := 9) C (dx dX6_isUnder 2 rfl) (by decide) (fun c1 => ?_) (fun c1 => ?_)
  ·
    have c1 : x = y := c1
    refine r_iconst (v := nI 1) C (dx dX6_isUnder 5 rfl) rfl ?_
    exact F.1 _ _ _ _ _ rfl rfl (dx dX6_isUnder 6 rfl) rfl ⟨congrArg (fun x => some (vi x)) (show nI 1 = b2i _ by rw [show (undV x y) = true by simp_all [undV]]; rfl), rfl⟩
  ·
    have c1 : ¬ x = y := c1
    refine r_iload_n C (dx dX6_isUnder 3 rfl) rfl ?_
    refine r_if_ne (tgt := 11) C (dx dX6_isUnder 4 rfl) (by decide) (fun c2 => ?_) (fun c2 => ?_)
    ·
      have c2 : ¬ y = 0 := c2
      refine r_iload_n C (dx dX6_isUnder 7 rfl) rfl ?_
      refine r_iconst (v := nI 1) C (dx dX6_isUnder 8 rfl) rfl ?_
      refine r_icmp_ne (tgt := 27) C (dx dX6_isUnder 9 rfl) (by decide) (fun c3 => ?_) (fun c3 => ?_)
      ·
        have c3 : ¬ y = nI 1 := c3
        refine r_iload_n C (dx dX6_isUnder 17 rfl) rfl ?_
        refine r_iconst (v := nI 2) C (dx dX6_isUnder 18 rfl) rfl ?_
        refine r_icmp_ne (tgt := 46) C (dx dX6_isUnder 19 rfl) (by decide) (fun c4 => ?_) (fun c4 => ?_)
        ·
          have c4 : ¬ y = nI 2 := c4
          refine r_iconst (v := nI 0) C (dx dX6_isUnder 28 rfl) rfl ?_
          exact F.1 _ _ _ _ _ rfl rfl (dx dX6_isUnder 29 rfl) rfl ⟨congrArg (fun x => some (vi x)) (show nI 0 = b2i _ by rw [show (undV x y) = false by simp_all [undV]]; rfl), rfl⟩
        ·
          have c4 : y = nI 2 := c4
          refine r_iload_n C (dx dX6_isUnder 20 rfl) rfl ?_
          refine r_iconst (v := nI 3) C (dx dX6_isUnder 21 rfl) rfl ?_
          refine r_icmp_eq (tgt := 42) C (dx dX6_isUnder 22 rfl) (by decide) (fun c5 => ?_) (fun c5 => ?_)
          ·
            have c5 : x = nI 3 := c5
            refine r_iconst (v := nI 1) C (dx dX6_isUnder 26 rfl) rfl ?_
            refine r_goto (tgt := 47) C (dx dX6_isUnder 27 rfl) (by decide) ?_
            exact F.1 _ _ _ _ _ rfl rfl (dx dX6_isUnder 29 rfl) rfl ⟨congrArg (fun x => some (vi x)) (show nI 1 = b2i _ by rw [show (undV x y) = true by simp_all [undV]]; rfl), rfl⟩
          ·
            have c5 : ¬ x = nI 3 := c5
            refine r_iload_n C (dx dX6_isUnder 23 rfl) rfl ?_
            refine r_iconst (v := nI 4) C (dx dX6_isUnder 24 rfl) rfl ?_
            refine r_icmp_ne (tgt := 46) C (dx dX6_isUnder 25 rfl) (by decide) (fun c6 => ?_) (fun c6 => ?_)
            ·
              have c6 : ¬ x = nI 4 := c6
              refine r_iconst (v := nI 0) C (dx dX6_isUnder 28 rfl) rfl ?_
              exact F.1 _ _ _ _ _ rfl rfl (dx dX6_isUnder 29 rfl) rfl ⟨congrArg (fun x => some (vi x)) (show nI 0 = b2i _ by rw [show (undV x y) = false by simp_all [undV]]; rfl), rfl⟩
            ·
              have c6 : x = nI 4 := c6
              refine r_iconst (v := nI 1) C (dx dX6_isUnder 26 rfl) rfl ?_
              refine r_goto (tgt := 47) C (dx dX6_isUnder 27 rfl) (by decide) ?_
              exact F.1 _ _ _ _ _ rfl rfl (dx dX6_isUnder 29 rfl) rfl ⟨congrArg (fun x => some (vi x)) (show nI 1 = b2i _ by rw [show (undV x y) = true by simp_all [undV]]; rfl), rfl⟩
      ·
        have c3 : y = nI 1 := c3
        refine r_iload_n C (dx dX6_isUnder 10 rfl) rfl ?_
        refine r_iconst (v := nI 5) C (dx dX6_isUnder 11 rfl) rfl ?_
        refine r_icmp_ne (tgt := 25) C (dx dX6_isUnder 12 rfl) (by decide) (fun c7 => ?_) (fun c7 => ?_)
        ·
          have c7 : ¬ x = nI 5 := c7
          refine r_iconst (v := nI 0) C (dx dX6_isUnder 15 rfl) rfl ?_
          exact F.1 _ _ _ _ _ rfl rfl (dx dX6_isUnder 16 rfl) rfl ⟨congrArg (fun x => some (vi x)) (show nI 0 = b2i _ by rw [show (undV x y) = false by simp_all [undV]]; rfl), rfl⟩
        ·
          have c7 : x = nI 5 := c7
          refine r_iconst (v := nI 1) C (dx dX6_isUnder 13 rfl) rfl ?_
          refine r_goto (tgt := 26) C (dx dX6_isUnder 14 rfl) (by decide) ?_
          exact F.1 _ _ _ _ _ rfl rfl (dx dX6_isUnder 16 rfl) rfl ⟨congrArg (fun x => some (vi x)) (show nI 1 = b2i _ by rw [show (undV x y) = true by simp_all [undV]]; rfl), rfl⟩
    ·
      have c2 : y = 0 := c2
      refine r_iconst (v := nI 1) C (dx dX6_isUnder 5 rfl) rfl ?_
      exact F.1 _ _ _ _ _ rfl rfl (dx dX6_isUnder 6 rfl) rfl ⟨congrArg (fun x => some (vi x)) (show nI 1 = b2i _ by rw [show (undV x y) = true by simp_all [undV]]; rfl), rfl⟩
set_option maxHeartbeats 4000000 in
theorem c_X6_toldFault {l : Launch} {h : Hp} {v u w : Vg} {g : Sg} {B : Nat → Int32} {z : Nat} {κ : Int32} (o : Ow h v u w g B z κ) (hg : GOk g) (s n : Int32) : Mp l yX6_toldFault cX6_toldFault 4 (some .int) 15 [vr 6 0, vi s, vi n] h (vi (tfV g s n)) := by
  refine Ms.of (by decide) (Nat.le_of_ble_eq_true rfl) (fun G C X F => ?_)
  have C : Cx G cX6_toldFault 4 RX6 := C
  show Rr G 0 [(0, vr 6 0), (1, vi s), (2, vi n)] [] h
  have bP := o.pv.bP
  have bM := o.pv.bM
  have bN := o.pv.bN
  have bz := o.pt.2.2
  refine r_aload_n C (dx dX6_toldFault 0 rfl) rfl ?_
  refine g_X6_57 C (dx dX6_toldFault 1 rfl) ?_
  refine r_iload_n C (dx dX6_toldFault 2 rfl) rfl ?_
  refine r_cvP (as := [vi s]) (st := []) (v := vi (b2i (inR s 8))) C X I_X2_isShelf l_X6_72 (c_X2_isShelf _) (by decide) (Nat.le_of_ble_eq_true rfl) List.prefix_rfl rfl rfl (Nat.le_of_ble_eq_true rfl) rfl (dx dX6_toldFault 3 rfl) ?_
  refine rb_eq (b := inR s 8) (tgt := 21) C (dx dX6_toldFault 4 rfl) (by decide) (fun c1 => ?_) (fun c1 => ?_)
  ·
    have c1 : (inR s 8) = false := c1
    refine r_bipush (v := -2) C (dx dX6_toldFault 10 rfl) rfl ?_
    exact F.1 _ _ _ _ _ rfl rfl (dx dX6_toldFault 11 rfl) rfl ⟨congrArg (fun x => some (vi x)) (show -2 = tfV g s n by simp [tfV, c1]), rfl⟩
  ·
    have c1 : (inR s 8) = true := c1
    refine r_iload_n C (dx dX6_toldFault 5 rfl) rfl ?_
    refine r_if_lt (tgt := 21) C (dx dX6_toldFault 6 rfl) (by decide) (fun c2 => ?_) (fun c2 => ?_)
    ·
      have c2 : n < 0 := c2
      refine r_bipush (v := -2) C (dx dX6_toldFault 10 rfl) rfl ?_
      exact F.1 _ _ _ _ _ rfl rfl (dx dX6_toldFault 11 rfl) rfl ⟨congrArg (fun x => some (vi x)) (show -2 = tfV g s n by simp [tfV, c1, (fun n9 => inR_neg (n := n9) c2 : ∀ n9, inR n n9 = false), c2]), rfl⟩
    ·
      have c2 : ¬ n < 0 := c2
      refine r_iload_n C (dx dX6_toldFault 7 rfl) rfl ?_
      refine r_bipush (v := nI 20) C (dx dX6_toldFault 8 rfl) rfl ?_
      refine r_icmp_le (tgt := 24) C (dx dX6_toldFault 9 rfl) (by decide) (fun c3 => ?_) (fun c3 => ?_)
      ·
        have c3 : n ≤ nI 20 := c3
        refine r_aload_n C (dx dX6_toldFault 12 rfl) rfl ?_
        refine g_X6_57 C (dx dX6_toldFault 13 rfl) ?_
        refine r_iload_n C (dx dX6_toldFault 14 rfl) rfl ?_
        refine r_cvP (as := [vi s]) (st := []) (v := vi (rfV g s)) C X I_X2_rowFault l_X6_84 (c_X2_rowFault o.pg _) (by decide) (Nat.le_of_ble_eq_true rfl) List.prefix_rfl rfl rfl (Nat.le_of_ble_eq_true rfl) rfl (dx dX6_toldFault 15 rfl) ?_
        refine r_istore_n (ls' := [(0, vr 6 0), (1, vi s), (2, vi n), (3, vi (rfV g s))]) C (dx dX6_toldFault 16 rfl) (by decide) [1, 2, 3, 0] rfl ?_
        refine r_iload_n C (dx dX6_toldFault 17 rfl) rfl ?_
        refine r_if_eq (tgt := 39) C (dx dX6_toldFault 18 rfl) (by decide) (fun c4 => ?_) (fun c4 => ?_)
        ·
          have c4 : rfV g s = 0 := c4
          refine r_aload_n C (dx dX6_toldFault 21 rfl) rfl ?_
          refine g_X6_57 C (dx dX6_toldFault 22 rfl) ?_
          refine r_iload_n C (dx dX6_toldFault 23 rfl) rfl ?_
          refine r_cvP (as := [vi s]) (st := []) (v := vi (szV g s)) C X I_X2_sizeOf l_X6_87 (c_X2_sizeOf o.pg _) (by decide) (Nat.le_of_ble_eq_true rfl) List.prefix_rfl rfl rfl (Nat.le_of_ble_eq_true rfl) rfl (dx dX6_toldFault 24 rfl) ?_
          refine r_iload_n C (dx dX6_toldFault 25 rfl) rfl ?_
          refine r_icmp_ge (tgt := 56) C (dx dX6_toldFault 26 rfl) (by decide) (fun c5 => ?_) (fun c5 => ?_)
          ·
            have c5 : n ≤ szV g s := c5
            refine r_iconst (v := nI 0) C (dx dX6_toldFault 29 rfl) rfl ?_
            exact F.1 _ _ _ _ _ rfl rfl (dx dX6_toldFault 30 rfl) rfl ⟨congrArg (fun x => some (vi x)) (show nI 0 = tfV g s n by simp [tfV, c1, c2, c3, (Int32.not_lt.mpr c3), c4, c5, inR_mid (n := 20) (by omega) c2 (Int32.not_lt.mpr c3)]), rfl⟩
          ·
            have c5 : ¬ n ≤ szV g s := c5
            refine r_bipush (v := -2) C (dx dX6_toldFault 27 rfl) rfl ?_
            refine r_goto (tgt := 57) C (dx dX6_toldFault 28 rfl) (by decide) ?_
            exact F.1 _ _ _ _ _ rfl rfl (dx dX6_toldFault 30 rfl) rfl ⟨congrArg (fun x => some (vi x)) (show -2 = tfV g s n by simp [tfV, c1, c2, c3, (Int32.not_lt.mpr c3), c4, c5, inR_mid (n := 20) (by omega) c2 (Int32.not_lt.mpr c3)]), rfl⟩
        ·
          have c4 : ¬ rfV g s = 0 := c4
          refine r_iload_n C (dx dX6_toldFault 19 rfl) rfl ?_
          exact F.1 _ _ _ _ _ rfl rfl (dx dX6_toldFault 20 rfl) rfl ⟨congrArg (fun x => some (vi x)) (show rfV g s = tfV g s n by simp [tfV, c1, c2, c3, (Int32.not_lt.mpr c3), c4, inR_mid (n := 20) (by omega) c2 (Int32.not_lt.mpr c3)]), rfl⟩
      ·
        have c3 : ¬ n ≤ nI 20 := c3
        refine r_bipush (v := -2) C (dx dX6_toldFault 10 rfl) rfl ?_
        exact F.1 _ _ _ _ _ rfl rfl (dx dX6_toldFault 11 rfl) rfl ⟨congrArg (fun x => some (vi x)) (show -2 = tfV g s n by simp [tfV, c1, c2, c3, (inR_gt (n := 20) (by omega) (Int32.not_le.mp c3) : inR n 21 = false), (Int32.not_le.mp c3)]), rfl⟩
set_option maxHeartbeats 4000000 in
theorem c_X6_partsOnToldDay {l : Launch} {h : Hp} {v u w : Vg} {g : Sg} {B : Nat → Int32} {z : Nat} {κ : Int32} (o : Ow h v u w g B z κ) (hg : GOk g) (s n : Int32) : Mp l yX6_partsOnToldDay cX6_partsOnToldDay 4 (some .int) 15 [vr 6 0, vi s, vi n] h (vi (tdP v g s n)) := by
  refine Ms.of (by decide) (Nat.le_of_ble_eq_true rfl) (fun G C X F => ?_)
  have C : Cx G cX6_partsOnToldDay 4 RX6 := C
  show Rr G 0 [(0, vr 6 0), (1, vi s), (2, vi n)] [] h
  have bP := o.pv.bP
  have bM := o.pv.bM
  have bN := o.pv.bN
  have bz := o.pt.2.2
  refine r_aload_n C (dx dX6_partsOnToldDay 0 rfl) rfl ?_
  refine g_X6_57 C (dx dX6_partsOnToldDay 1 rfl) ?_
  refine r_iload_n C (dx dX6_partsOnToldDay 2 rfl) rfl ?_
  refine r_iload_n C (dx dX6_partsOnToldDay 3 rfl) rfl ?_
  refine r_cvP (as := [vi s, vi n]) (st := []) (v := vl (elV g s n)) C X I_X2_elementAt l_X6_107 (c_X2_elementAt o.pg hg.1 _ _) (by decide) (Nat.le_of_ble_eq_true rfl) List.prefix_rfl rfl rfl (Nat.le_of_ble_eq_true rfl) rfl (dx dX6_partsOnToldDay 4 rfl) ?_
  refine r_l2i C (dx dX6_partsOnToldDay 5 rfl) ?_
  refine r_istore_n (ls' := [(0, vr 6 0), (1, vi s), (2, vi n), (3, vi ((elV g s n).toInt32))]) C (dx dX6_partsOnToldDay 6 rfl) (by decide) [1, 2, 3, 0] rfl ?_
  refine r_aload_n C (dx dX6_partsOnToldDay 7 rfl) rfl ?_
  refine g_X6_10 C (dx dX6_partsOnToldDay 8 rfl) ?_
  refine r_iload_n C (dx dX6_partsOnToldDay 9 rfl) rfl ?_
  refine r_aload_n C (dx dX6_partsOnToldDay 10 rfl) rfl ?_
  refine g_X6_10 C (dx dX6_partsOnToldDay 11 rfl) ?_
  refine r_cvP (as := []) (st := [vi ((elV g s n).toInt32), vr 5 1]) (v := vi (full (vN v))) C X I_X5_allPeople l_X6_282 (c_X5_allPeople o.pv) (by decide) (Nat.le_of_ble_eq_true rfl) List.prefix_rfl rfl rfl (Nat.le_of_ble_eq_true rfl) rfl (dx dX6_partsOnToldDay 12 rfl) ?_
  refine r_iand C (dx dX6_partsOnToldDay 13 rfl) ?_
  refine r_aload_n C (dx dX6_partsOnToldDay 14 rfl) rfl ?_
  refine g_X6_10 C (dx dX6_partsOnToldDay 15 rfl) ?_
  refine r_cvP (as := []) (st := [vi (((elV g s n).toInt32) &&& (full (vN v))), vr 5 1]) (v := vi (crs v)) C X I_X5_crossPeople l_X6_337 (c_X5_crossPeople o.pv) (by decide) (Nat.le_of_ble_eq_true rfl) List.prefix_rfl rfl rfl (Nat.le_of_ble_eq_true rfl) rfl (dx dX6_partsOnToldDay 16 rfl) ?_
  refine r_iconst (v := -1) C (dx dX6_partsOnToldDay 17 rfl) rfl ?_
  refine r_ixor C (dx dX6_partsOnToldDay 18 rfl) ?_
  refine r_iand C (dx dX6_partsOnToldDay 19 rfl) ?_
  refine r_cvP (as := [vi ((((elV g s n).toInt32) &&& (full (vN v))) &&& ((crs v) ^^^ (-1)))]) (st := []) (v := vi (hasP v ((((elV g s n).toInt32) &&& (full (vN v))) &&& ((crs v) ^^^ (-1))))) C X I_X5_partsWith l_X6_223 (c_X5_partsWith o.pv _) (by decide) (Nat.le_of_ble_eq_true rfl) List.prefix_rfl rfl rfl (Nat.le_of_ble_eq_true rfl) rfl (dx dX6_partsOnToldDay 20 rfl) ?_
  exact F.1 _ _ _ _ _ rfl rfl (dx dX6_partsOnToldDay 21 rfl) rfl ⟨congrArg (fun x => some (vi x)) (show hasP v ((((elV g s n).toInt32) &&& (full (vN v))) &&& ((crs v) ^^^ (-1))) = tdP v g s n by rfl), rfl⟩
set_option maxHeartbeats 4000000 in
theorem c_X6_isTooBigForBest {l : Launch} {h : Hp} {v u w : Vg} {g : Sg} {B : Nat → Int32} {z : Nat} {κ : Int32} (o : Ow h v u w g B z κ) (hg : GOk g)  : Mp l yX6_isTooBigForBest cX6_isTooBigForBest 1 (some .boolean) 15 [vr 6 0] h (vi (b2i (bigB v))) := by
  refine Ms.of (by decide) (Nat.le_of_ble_eq_true rfl) (fun G C X F => ?_)
  have C : Cx G cX6_isTooBigForBest 1 RX6 := C
  show Rr G 0 [(0, vr 6 0)] [] h
  have bP := o.pv.bP
  have bM := o.pv.bM
  have bN := o.pv.bN
  have bz := o.pt.2.2
  refine r_aload_n C (dx dX6_isTooBigForBest 0 rfl) rfl ?_
  refine g_X6_10 C (dx dX6_isTooBigForBest 1 rfl) ?_
  refine g_X6_154 (x := nI (vN v)) C (dx dX6_isTooBigForBest 2 rfl) o.pv.eN ?_
  refine r_iconst (v := nI 4) C (dx dX6_isTooBigForBest 3 rfl) rfl ?_
  refine rn_gt (a := vN v) (b := 4) (tgt := 23) C (by omega) (by omega) (dx dX6_isTooBigForBest 4 rfl) (by decide) (fun c1 => ?_) (fun c1 => ?_)
  · first
    | (omega; done)
    | (
        have c1 : 4 < vN v := c1
        refine r_iconst (v := nI 1) C (dx dX6_isTooBigForBest 10 rfl) rfl ?_
        refine r_goto (tgt := 28) C (dx dX6_isTooBigForBest 11 rfl) (by decide) ?_
        exact F.1 _ _ _ _ _ rfl rfl (dx dX6_isTooBigForBest 13 rfl) rfl ⟨congrArg (fun x => some (vi x)) (show nI 1 = b2i _ by rw [show (bigB v) = true by (simp [bigB]; omega)]; rfl), rfl⟩)
  · first
    | (omega; done)
    | (
        have c1 : vN v ≤ 4 := c1
        refine r_aload_n C (dx dX6_isTooBigForBest 5 rfl) rfl ?_
        refine g_X6_10 C (dx dX6_isTooBigForBest 6 rfl) ?_
        refine g_X6_138 (x := nI (vP v)) C (dx dX6_isTooBigForBest 7 rfl) o.pv.eP ?_
        refine r_bipush (v := nI 6) C (dx dX6_isTooBigForBest 8 rfl) rfl ?_
        refine rn_le (a := vP v) (b := 6) (tgt := 27) C (by omega) (by omega) (dx dX6_isTooBigForBest 9 rfl) (by decide) (fun c2 => ?_) (fun c2 => ?_)
        · first
          | (omega; done)
          | (
              have c2 : vP v ≤ 6 := c2
              refine r_iconst (v := nI 0) C (dx dX6_isTooBigForBest 12 rfl) rfl ?_
              exact F.1 _ _ _ _ _ rfl rfl (dx dX6_isTooBigForBest 13 rfl) rfl ⟨congrArg (fun x => some (vi x)) (show nI 0 = b2i _ by rw [show (bigB v) = false by (simp [bigB]; omega)]; rfl), rfl⟩)
        · first
          | (omega; done)
          | (
              have c2 : 6 < vP v := c2
              refine r_iconst (v := nI 1) C (dx dX6_isTooBigForBest 10 rfl) rfl ?_
              refine r_goto (tgt := 28) C (dx dX6_isTooBigForBest 11 rfl) (by decide) ?_
              exact F.1 _ _ _ _ _ rfl rfl (dx dX6_isTooBigForBest 13 rfl) rfl ⟨congrArg (fun x => some (vi x)) (show nI 1 = b2i _ by rw [show (bigB v) = true by (simp [bigB]; omega)]; rfl), rfl⟩))
