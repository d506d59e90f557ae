/-! PART 35: the reference: the models behind it -/
def mdK : List Nat := [7, 22, 22, 22, 33, 31, 31, 31, 31, 31, 31, 31, 31, 31, 22, 22, 30, 22, 20, 20, 21, 21, 34, 27, 27, 27, 27, 27, 27, 27, 27, 20]
def mk1 (b : Bool) : List Nat := if b then mdK else []
/-- the kinds of cells, where there are models behind -/
def AL (P : List Nat) (κ τ : Bool) : List Nat := P ++ (mdK ++ (mk1 κ ++ mk1 τ))
theorem AL_len {P : List Nat} {κ τ : Bool} : (AL P κ τ).length = P.length + 32 + (if κ then 32 else 0) + (if τ then 32 else 0) := by
  unfold AL
  rw [List.length_append, List.length_append, List.length_append]
  cases κ <;> cases τ <;> rfl
theorem AL_τ {P : List Nat} {κ : Bool} : AL P κ true = AL P κ false ++ mdK := by
  unfold AL; cases κ <;> simp [mk1]
theorem AL_κ {P : List Nat} {τ : Bool} : AL P true τ = AL P false τ ++ mdK := by
  unfold AL; cases τ <;> simp [mk1]
theorem AL_pre {P : List Nat} {κ τ κ' τ' : Bool} (h1 : κ = true → κ' = true) (h2 : τ = true → τ' = true) : AL P κ τ <+: AL P κ' τ' := by
  cases κ <;> cases κ' <;> cases τ <;> cases τ' <;> first
    | exact List.prefix_rfl
    | exact absurd (h1 rfl) (by decide)
    | exact absurd (h2 rfl) (by decide)
    | (rw [AL_κ]; exact List.prefix_append _ _)
    | (rw [AL_τ]; exact List.prefix_append _ _)
    | (rw [AL_τ, AL_κ, List.append_assoc]; exact List.prefix_append _ _)
theorem blk_tab : ∀ κ τ : Bool, ∀ j : Fin 3, j.1 * 32 + 32 ≤ (mdK ++ (mk1 κ ++ mk1 τ)).length → ∀ i : Fin 32, (mdK ++ (mk1 κ ++ mk1 τ))[j.1 * 32 + i.1]? = mdK[i.1]? := by decide +kernel
theorem mdK_arr : ∀ i : Fin 32, 1 ≤ i.1 → ∀ kb, mdK[i.1]? = some kb → fkL[kb]? = none := by
  intro i hi kb hk
  have t : ∀ i : Fin 32, 1 ≤ i.1 → (mdK[i.1]?).bind (fun kb => fkL[kb]?) = none := by decide +kernel
  have := t i hi
  rw [hk] at this
  exact this
theorem blk {P : List Nat} {k b i : Nat} {κ τ : Bool} (hP : P.length = k) (hb : b = k ∨ b = k + 32 ∨ b = k + 64) (hl : b + 32 ≤ (AL P κ τ).length) (hi : i < 32) : (AL P κ τ)[b + i]? = mdK[i]? := by
  unfold AL at hl ⊢
  rw [List.length_append, hP] at hl
  have key : ∀ j, j < 3 → b = k + j * 32 → (P ++ (mdK ++ (mk1 κ ++ mk1 τ)))[b + i]? = mdK[i]? := fun j hj e => by
    rw [List.getElem?_append_right (by omega), show b + i - P.length = j * 32 + i by omega]
    exact blk_tab κ τ ⟨j, hj⟩ (by show j * 32 + 32 ≤ _; omega) ⟨i, hi⟩
  rcases hb with e | e | e
  · exact key 0 (by omega) (by omega)
  · exact key 1 (by omega) (by omega)
  · exact key 2 (by omega) (by omega)
theorem NOk.bk {P : List Nat} {k b : Nat} {κ τ : Bool} {h h1 : Hp} (q : NOk h) (hP : P.length = k) (hK : xK h = AL P κ τ) (hb : b = k ∨ b = k + 32 ∨ b = k + 64) (hl : b + 32 ≤ (AL P κ τ).length) (f : Fr b (b + 32) h h1) (e : xN h1 b = xN h b) (kk : xK h1 = xK h) : NOk h1 := fun a k' L j t o k2 ha hL hj ht => by
  rw [kk] at ha ⊢
  by_cases z : b ≤ a ∧ a < b + 32
  · by_cases z2 : a = b
    · subst z2; rw [e]; exact q a k' L j t o k2 ha hL hj ht
    · have g := blk hP hb hl (i := a - b) (by omega)
      rw [show b + (a - b) = a by omega, ← hK, ha] at g
      have := mdK_arr ⟨a - b, by omega⟩ (by show 1 ≤ a - b; omega) k' g.symm
      rw [hL] at this; cases this
  · rw [(f a (by omega)).2.2]; exact q a k' L j t o k2 ha hL hj ht
/-- a model behind, if there is one -/
def Sub (h : Hp) (k x : Nat) : Prop := x = 0 ∨ ∃ b w, x = b + 1 ∧ (b = k + 32 ∨ b = k + 64) ∧ b + 32 ≤ (xK h).length ∧ MilAt h b w
/-- the reference, with what is behind it -/
def Md (h : Hp) (P : List Nat) (k : Nat) (v : Vg) (g : Sg) (z : Nat) (κ τ : Bool) : Prop :=
  MilAt h k v ∧ MshAt h k g ∧ xI h k 8 = nI z ∧ z ≤ 250 ∧ NOk h ∧ P.length = k ∧ k ≤ 700 ∧ xK h = AL P κ τ ∧ (xN h k 21 = 0 ↔ κ = false) ∧ (xN h k 22 = 0 ↔ τ = false) ∧ Sub h k (xN h k 21) ∧ Sub h k (xN h k 22) ∧ (xN h k 21 = xN h k 22 → xN h k 21 = 0)
theorem Fr.vc {k : Nat} {h h1 : Hp} (f : Kp k h h1) : Fr k (k + 32) h h1 := fun b hb => f.2.2 b (fun q => by unfold VC at q; omega)
theorem Lo.fr {k lo hi : Nat} {h h1 : Hp} (f : Fr lo hi h h1) (q : k ≤ lo) : Lo k h h1 := fun b hb => f b (by omega)
section MDD
variable {h h1 : Hp} {P : List Nat} {k b z : Nat} {v v' w : Vg} {g g' : Sg} {κ τ : Bool}
theorem Md.len (M : Md h P k v g z κ τ) : (xK h).length = k + 32 + (if κ then 32 else 0) + (if τ then 32 else 0) := by
  obtain ⟨m, ms, e8, bz, nok, hP, hk, al, fk, ft, sk, st, ap⟩ := M
  rw [al, AL_len, hP]
theorem Md.k7 (M : Md h P k v g z κ τ) (hb : b = k ∨ b = k + 32 ∨ b = k + 64) (hl : b + 32 ≤ (xK h).length) : (xK h)[b]? = some 7 := by
  obtain ⟨m, ms, e8, bz, nok, hP, hk, al, fk, ft, sk, st, ap⟩ := M
  rw [al] at hl ⊢
  exact blk hP hb hl (i := 0) (by omega)
/-- only this model's own cells written -/
theorem Md.gen {z' : Nat} (M : Md h P k v g z κ τ) (m' : MilAt h1 k v') (ms' : MshAt h1 k g') (e8' : xI h1 k 8 = nI z') (bz' : z' ≤ 250) (e : xN h1 k = xN h k) (f : Fr k (k + 32) h h1) (kk : xK h1 = xK h) : Md h1 P k v' g' z' κ τ := by
  obtain ⟨m, ms, e8, bz, nok, hP, hk, al, fk, ft, sk, st, ap⟩ := M
  have sub : ∀ x, Sub h k x → Sub h1 k x := fun x q => by
    rcases q with q | ⟨b, w, q1, q2, q3, q4⟩
    · exact Or.inl q
    · exact Or.inr ⟨b, w, q1, q2, by rw [kk]; exact q3, q4.fr f (by omega)⟩
  refine ⟨m', ms', e8', bz', nok.bk hP al (Or.inl rfl) (by rw [AL_len, hP]; omega) f e kk, hP, hk, kk.trans al, by rw [e]; exact fk, by rw [e]; exact ft, by rw [e]; exact sub _ sk, by rw [e]; exact sub _ st, by rw [e]; exact ap⟩
theorem Md.kp (M : Md h P k v g z κ τ) (m' : MilAt h1 k v') (f : Kp k h h1) (kk : xK h1 = xK h) : Md h1 P k v' g z κ τ :=
  M.gen m' (M.2.1.kp f) (f.1.trans M.2.2.1) M.2.2.2.1 f.2.1 (Fr.vc f) kk
/-- another model's village written -/
theorem Md.tk (M : Md h P k v g z κ τ) (hb : b = k + 32 ∨ b = k + 64) (hl : b + 32 ≤ (xK h).length) (m' : MilAt h1 b w) (f : Kp b h h1) (kk : xK h1 = xK h) : Md h1 P k v g z κ τ := by
  obtain ⟨m, ms, e8, bz, nok, hP, hk, al, fk, ft, sk, st, ap⟩ := M
  have F := Fr.vc f
  have ek : xI h1 k = xI h k := (F k (by omega)).1
  have en : xN h1 k = xN h k := (F k (by omega)).2.2
  have sub : ∀ x, Sub h k x → Sub h1 k x := fun x q => by
    rcases q with q | ⟨b2, w2, q1, q2, q3, q4⟩
    · exact Or.inl q
    · by_cases e : b2 = b
      · subst e; exact Or.inr ⟨b2, w, q1, q2, by rw [kk]; exact q3, m'⟩
      · exact Or.inr ⟨b2, w2, q1, q2, by rw [kk]; exact q3, q4.fr F (by omega)⟩
  exact ⟨m.fr F (by omega), ms.fr F (by omega), by rw [ek]; exact e8, bz, nok.bk hP al (by omega) (by rw [← al]; exact hl) F f.2.1 kk, hP, hk, kk.trans al, by rw [en]; exact fk, by rw [en]; exact ft, by rw [en]; exact sub _ sk, by rw [en]; exact sub _ st, by rw [en]; exact ap⟩
end MDD
theorem getK0 {al M : List Nat} {a : Nat} (hlen : al.length = a) (i : Nat) : (al ++ M)[a + i]? = M[i]? := by
  rw [← hlen, List.getElem?_append_right (Nat.le_add_right _ _), Nat.add_sub_cancel_left]

theorem mil_sN9 {h : Hp} {k b j x : Nat} {v : Vg} (a : MilAt h k v) : MilAt (sN h b j x) k v := ⟨a.eP, a.eM, a.eN, a.eS, fun i hi => a.e0 hi, fun i hi => a.e1 hi, fun i hi => a.e2 hi, fun i hi => a.e3 hi, fun o ho c hc => a.eo ho hc, a.bP, a.bM, a.bN⟩
set_option maxHeartbeats 1000000 in
theorem Md.nwτ {h h3 : Hp} {P : List Nat} {k z a : Nat} {v : Vg} {g : Sg} {κ : Bool} (M : Md h P k v g z κ false) (ha : (xK h).length = a) (lo3 : Lo a h h3) (no3 : NOk h3) (K3 : xK h3 = xK h ++ mdK) (m3 : MilAt h3 a v00) : Md (sN h3 k 22 (a + 1)) P k v g z κ true ∧ xN (sN h3 k 22 (a + 1)) k 22 = a + 1 ∧ Lo k h (sN h3 k 22 (a + 1)) := by
  have hla := M.len
  obtain ⟨m, ms, e8, bz, nok, hP, hk, al, fk, ft, sk, st, ap⟩ := M
  have ab : (a = k + 32 ∨ a = k + 64) := by rw [ha] at hla; revert hla; cases κ <;> simp <;> omega
  have ka : k + 32 ≤ a := by omega
  have len3 : (xK h3).length = a + 32 := by rw [K3, List.length_append, ha]; rfl
  have en : ∀ j, j ≠ 22 → xN (sN h3 k 22 (a + 1)) k j = xN h k j := fun j hj => by rw [sN_ne hj, (lo3 k (by omega)).2.2]
  have en9 : xN (sN h3 k 22 (a + 1)) k 22 = a + 1 := sN_at
  have ml : ∀ b2 w2, b2 + 32 ≤ a → MilAt h b2 w2 → MilAt (sN h3 k 22 (a + 1)) b2 w2 := fun b2 w2 hb q => mil_sN9 (q.ag lo3.fs (show ¬ a ≤ b2 by omega) (unl (by omega)))
  have sub : ∀ x, Sub h k x → Sub (sN h3 k 22 (a + 1)) k x := fun x q => by
    rcases q with q | ⟨b2, w2, q1, q2, q3, q4⟩
    · exact Or.inl q
    · rw [ha] at q3; exact Or.inr ⟨b2, w2, q1, q2, Nat.le_trans q3 (by rw [show xK (sN h3 k 22 (a + 1)) = xK h3 from rfl, len3]; exact Nat.le_add_right _ _), ml b2 w2 q3 q4⟩
  have mi4 : MilAt (sN h3 k 22 (a + 1)) k v := ml k v ka m
  have ms4 : MshAt (sN h3 k 22 (a + 1)) k g := (ms.ag lo3.fs (unl (by omega))).ag (P := fun b => b = k) (fun b hb => oth_sN b hb) (una (by omega))
  have e84 : xI (sN h3 k 22 (a + 1)) k 8 = nI z := by rw [show xI (sN h3 k 22 (a + 1)) = xI h3 from rfl, (lo3 k (by omega)).1]; exact e8
  have no4 : NOk (sN h3 k 22 (a + 1)) := no3.sN (by rw [len3]; omega)
  have l4 : a + 32 ≤ (xK (sN h3 k 22 (a + 1))).length := by rw [show xK (sN h3 k 22 (a + 1)) = xK h3 from rfl, len3]; exact Nat.le_refl _
  have s4 : Sub (sN h3 k 22 (a + 1)) k (xN (sN h3 k 22 (a + 1)) k 22) := Or.inr ⟨a, v00, en9, ab, l4, mil_sN9 m3⟩
  have s5 : Sub (sN h3 k 22 (a + 1)) k (xN (sN h3 k 22 (a + 1)) k 21) := by rw [en 21 (by decide)]; exact sub _ sk
  have fl4 : (xN (sN h3 k 22 (a + 1)) k 22 = 0 ↔ true = false) := ⟨fun q => absurd (en9.symm.trans q) (by omega), fun q => by cases q⟩
  have fl5 : (xN (sN h3 k 22 (a + 1)) k 21 = 0 ↔ κ = false) := by rw [en 21 (by decide)]; exact fk
  have ne4 : xN h k 21 ≠ a + 1 := fun q => by
    rcases sk with q0 | ⟨b2, w2, q1, q2, q3, q4⟩
    · omega
    · omega
  have ap4 : xN (sN h3 k 22 (a + 1)) k 21 = xN (sN h3 k 22 (a + 1)) k 22 → xN (sN h3 k 22 (a + 1)) k 21 = 0 := fun q => by rw [en 21 (by decide), en9] at q; exact absurd q ne4
  have al4 : xK (sN h3 k 22 (a + 1)) = AL P κ true := by show xK h3 = _; rw [K3, AL_τ, al]
  have f4 : Lo k h (sN h3 k 22 (a + 1)) := (lo3.mono (by omega)).tr (Lo.sN (Nat.le_refl _))
  exact ⟨⟨mi4, ms4, e84, bz, no4, hP, hk, al4, fl5, fl4, s5, s4, ap4⟩, en9, f4⟩
set_option maxHeartbeats 1000000 in
theorem Md.nwκ {h h3 : Hp} {P : List Nat} {k z a : Nat} {v : Vg} {g : Sg} {τ : Bool} (M : Md h P k v g z false τ) (ha : (xK h).length = a) (lo3 : Lo a h h3) (no3 : NOk h3) (K3 : xK h3 = xK h ++ mdK) (m3 : MilAt h3 a v00) : Md (sN h3 k 21 (a + 1)) P k v g z true τ ∧ xN (sN h3 k 21 (a + 1)) k 21 = a + 1 ∧ Lo k h (sN h3 k 21 (a + 1)) := by
  have hla := M.len
  obtain ⟨m, ms, e8, bz, nok, hP, hk, al, fk, ft, sk, st, ap⟩ := M
  have ab : (a = k + 32 ∨ a = k + 64) := by rw [ha] at hla; revert hla; cases τ <;> simp <;> omega
  have ka : k + 32 ≤ a := by omega
  have len3 : (xK h3).length = a + 32 := by rw [K3, List.length_append, ha]; rfl
  have en : ∀ j, j ≠ 21 → xN (sN h3 k 21 (a + 1)) k j = xN h k j := fun j hj => by rw [sN_ne hj, (lo3 k (by omega)).2.2]
  have en9 : xN (sN h3 k 21 (a + 1)) k 21 = a + 1 := sN_at
  have ml : ∀ b2 w2, b2 + 32 ≤ a → MilAt h b2 w2 → MilAt (sN h3 k 21 (a + 1)) b2 w2 := fun b2 w2 hb q => mil_sN9 (q.ag lo3.fs (show ¬ a ≤ b2 by omega) (unl (by omega)))
  have sub : ∀ x, Sub h k x → Sub (sN h3 k 21 (a + 1)) k x := fun x q => by
    rcases q with q | ⟨b2, w2, q1, q2, q3, q4⟩
    · exact Or.inl q
    · rw [ha] at q3; exact Or.inr ⟨b2, w2, q1, q2, Nat.le_trans q3 (by rw [show xK (sN h3 k 21 (a + 1)) = xK h3 from rfl, len3]; exact Nat.le_add_right _ _), ml b2 w2 q3 q4⟩
  have mi4 : MilAt (sN h3 k 21 (a + 1)) k v := ml k v ka m
  have ms4 : MshAt (sN h3 k 21 (a + 1)) k g := (ms.ag lo3.fs (unl (by omega))).ag (P := fun b => b = k) (fun b hb => oth_sN b hb) (una (by omega))
  have e84 : xI (sN h3 k 21 (a + 1)) k 8 = nI z := by rw [show xI (sN h3 k 21 (a + 1)) = xI h3 from rfl, (lo3 k (by omega)).1]; exact e8
  have no4 : NOk (sN h3 k 21 (a + 1)) := no3.sN (by rw [len3]; omega)
  have l4 : a + 32 ≤ (xK (sN h3 k 21 (a + 1))).length := by rw [show xK (sN h3 k 21 (a + 1)) = xK h3 from rfl, len3]; exact Nat.le_refl _
  have s4 : Sub (sN h3 k 21 (a + 1)) k (xN (sN h3 k 21 (a + 1)) k 21) := Or.inr ⟨a, v00, en9, ab, l4, mil_sN9 m3⟩
  have s5 : Sub (sN h3 k 21 (a + 1)) k (xN (sN h3 k 21 (a + 1)) k 22) := by rw [en 22 (by decide)]; exact sub _ st
  have fl4 : (xN (sN h3 k 21 (a + 1)) k 21 = 0 ↔ true = false) := ⟨fun q => absurd (en9.symm.trans q) (by omega), fun q => by cases q⟩
  have fl5 : (xN (sN h3 k 21 (a + 1)) k 22 = 0 ↔ τ = false) := by rw [en 22 (by decide)]; exact ft
  have ne4 : xN h k 22 ≠ a + 1 := fun q => by
    rcases st with q0 | ⟨b2, w2, q1, q2, q3, q4⟩
    · omega
    · omega
  have ap4 : xN (sN h3 k 21 (a + 1)) k 21 = xN (sN h3 k 21 (a + 1)) k 22 → xN (sN h3 k 21 (a + 1)) k 21 = 0 := fun q => by rw [en 22 (by decide), en9] at q; exact absurd q.symm ne4
  have al4 : xK (sN h3 k 21 (a + 1)) = AL P true τ := by show xK h3 = _; rw [K3, AL_κ, al]
  have f4 : Lo k h (sN h3 k 21 (a + 1)) := (lo3.mono (by omega)).tr (Lo.sN (Nat.le_refl _))
  exact ⟨⟨mi4, ms4, e84, bz, no4, hP, hk, al4, fl4, fl5, s4, s5, ap4⟩, en9, f4⟩
