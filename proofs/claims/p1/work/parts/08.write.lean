/-! PART 08: what a store makes of a village; frames -/
def vset (v : Vg) (c i : Nat) (x : Int32) : Vg := (vP v, vM v, vN v, fun c' i' => if c' = c then (if i' = i then x else vF v c' i') else vF v c' i', vS v)
def vcp (u : Vg) (c : Nat) (v : Vg) : Vg := (vP u, vM u, vN u, fun c' i' => if c' = c then vF v c' i' else vF u c' i', vS u)
def vsP (v : Vg) (n : Nat) : Vg := (n, vM v, vN v, vF v, vS v)
def vsM (v : Vg) (n : Nat) : Vg := (vP v, n, vN v, vF v, vS v)
def vsN (v : Vg) (n : Nat) : Vg := (vP v, vM v, n, vF v, vS v)
def vsS (v : Vg) (x : Int32) : Vg := (vP v, vM v, vN v, vF v, x)
theorem sI_ne {h : Hp} {a j b i : Nat} {x : Int32} (hb : b ≠ a) : xI (sI h a j x) b i = xI h b i := by simp [sI, xI, hb]
theorem sI_at {h : Hp} {a j i : Nat} {x : Int32} : xI (sI h a j x) a i = if i = j then x else xI h a i := by simp [sI, xI, upd]
theorem cpI_ne {h : Hp} {a0 a sp dp n b i : Nat} (hb : b ≠ a) : xI (cpI h a0 a sp dp n) b i = xI h b i := by simp [cpI, xI, hb]
theorem cpI_at {h : Hp} {a0 a n i : Nat} (hi : i < n) : xI (cpI h a0 a 0 0 n) a i = xI h a0 i := by simp [cpI, xI, va_cpy, hi]
theorem sL_ne {h : Hp} {a j b i : Nat} {x : Int64} (hb : b ≠ a) : xL (sL h a j x) b i = xL h b i := by simp [sL, xL, hb]
theorem sL_at {h : Hp} {a j i : Nat} {x : Int64} : xL (sL h a j x) a i = if i = j then x else xL h a i := by simp [sL, xL, vp_updL]
/-- nothing outside lo .. hi - 1 has changed -/
def Fr (lo hi : Nat) (h h' : Hp) : Prop := ∀ b, (b < lo ∨ hi ≤ b) → xI h' b = xI h b ∧ xL h' b = xL h b ∧ xN h' b = xN h b
theorem Fr.rf {lo hi : Nat} {h : Hp} : Fr lo hi h h := fun _ _ => ⟨rfl, rfl, rfl⟩
theorem Fr.tr {lo hi : Nat} {h h1 h2 : Hp} (a : Fr lo hi h h1) (b : Fr lo hi h1 h2) : Fr lo hi h h2 := fun q hq => ⟨(b q hq).1.trans (a q hq).1, (b q hq).2.1.trans (a q hq).2.1, (b q hq).2.2.trans (a q hq).2.2⟩
theorem Fr.mono {lo hi lo' hi' : Nat} {h h1 : Hp} (a : Fr lo hi h h1) (h1' : lo' ≤ lo) (h2' : hi ≤ hi') : Fr lo' hi' h h1 := fun q hq => a q (by omega)
theorem Fr.sI {lo hi a j : Nat} {h : Hp} {x : Int32} (h1 : lo ≤ a) (h2 : a < hi) : Fr lo hi h (sI h a j x) := fun b hb => oth_sI b (by omega)
theorem Fr.sL {lo hi a j : Nat} {h : Hp} {x : Int64} (h1 : lo ≤ a) (h2 : a < hi) : Fr lo hi h (sL h a j x) := fun b hb => oth_sL b (by omega)
theorem Fr.cpI {lo hi a0 a sp dp n : Nat} {h : Hp} (h1 : lo ≤ a) (h2 : a < hi) : Fr lo hi h (cpI h a0 a sp dp n) := fun b hb => oth_cpI b (by omega)
theorem Fr.I {lo hi : Nat} {h h1 : Hp} (a : Fr lo hi h h1) {b : Nat} (hb : b < lo ∨ hi ≤ b) (i : Nat) : xI h1 b i = xI h b i := by rw [(a b hb).1]
theorem Fr.L {lo hi : Nat} {h h1 : Hp} (a : Fr lo hi h h1) {b : Nat} (hb : b < lo ∨ hi ≤ b) (i : Nat) : xL h1 b i = xL h b i := by rw [(a b hb).2.1]
theorem Fr.N {lo hi : Nat} {h h1 : Hp} (a : Fr lo hi h h1) {b : Nat} (hb : b < lo ∨ hi ≤ b) (i : Nat) : xN h1 b i = xN h b i := by rw [(a b hb).2.2]
theorem VilAt.fr {lo hi k : Nat} {h h1 : Hp} {v : Vg} (a : VilAt h k v) (f : Fr lo hi h h1) (hk : k + 9 ≤ lo ∨ hi ≤ k) : VilAt h1 k v := by
  refine ⟨(f.I (by omega) _).trans a.eP, (f.I (by omega) _).trans a.eM, (f.I (by omega) _).trans a.eN, (f.I (by omega) _).trans a.eS, fun i hi => (f.I (by omega) _).trans (a.e0 hi), fun i hi => (f.I (by omega) _).trans (a.e1 hi), fun i hi => (f.I (by omega) _).trans (a.e2 hi), fun i hi => (f.I (by omega) _).trans (a.e3 hi), fun i hi => (f.I (by omega) _).trans (a.e4 hi), fun i hi => (f.I (by omega) _).trans (a.e5 hi), fun i hi => (f.I (by omega) _).trans (a.e6 hi), fun i hi => (f.I (by omega) _).trans (a.e7 hi), a.bP, a.bM, a.bN, fun i hi => a.bC hi⟩
theorem VilAt.s0 {h : Hp} {k i : Nat} {v : Vg} {x : Int32} (a : VilAt h k v) : VilAt (sI h (k + 1) i x) k (vset v 0 i x) := by
  refine ⟨by rw [sI_ne (by omega)]; exact a.eP, by rw [sI_ne (by omega)]; exact a.eM, by rw [sI_ne (by omega)]; exact a.eN, by rw [sI_ne (by omega)]; exact a.eS, fun q hq => by rw [sI_at, a.e0 hq]; rfl, fun q hq => by rw [sI_ne (by omega), a.e1 hq]; rfl, fun q hq => by rw [sI_ne (by omega), a.e2 hq]; rfl, fun q hq => by rw [sI_ne (by omega), a.e3 hq]; rfl, fun q hq => by rw [sI_ne (by omega), a.e4 hq]; rfl, fun q hq => by rw [sI_ne (by omega), a.e5 hq]; rfl, fun q hq => by rw [sI_ne (by omega), a.e6 hq]; rfl, fun q hq => by rw [sI_ne (by omega), a.e7 hq]; rfl, a.bP, a.bM, a.bN, fun q hq => a.bC hq⟩
theorem VilAt.c0 {h : Hp} {k k2 : Nat} {u v : Vg} (a : VilAt h k u) (b : VilAt h k2 v) : VilAt (cpI h (k2 + 1) (k + 1) 0 0 12) k (vcp u 0 v) := by
  refine ⟨by rw [cpI_ne (by omega)]; exact a.eP, by rw [cpI_ne (by omega)]; exact a.eM, by rw [cpI_ne (by omega)]; exact a.eN, by rw [cpI_ne (by omega)]; exact a.eS, fun q hq => by rw [cpI_at hq, b.e0 hq]; rfl, fun q hq => by rw [cpI_ne (by omega), a.e1 hq]; rfl, fun q hq => by rw [cpI_ne (by omega), a.e2 hq]; rfl, fun q hq => by rw [cpI_ne (by omega), a.e3 hq]; rfl, fun q hq => by rw [cpI_ne (by omega), a.e4 hq]; rfl, fun q hq => by rw [cpI_ne (by omega), a.e5 hq]; rfl, fun q hq => by rw [cpI_ne (by omega), a.e6 hq]; rfl, fun q hq => by rw [cpI_ne (by omega), a.e7 hq]; rfl, a.bP, a.bM, a.bN, fun q hq => a.bC hq⟩
theorem VilAt.s1 {h : Hp} {k i : Nat} {v : Vg} {x : Int32} (a : VilAt h k v) : VilAt (sI h (k + 2) i x) k (vset v 1 i x) := by
  refine ⟨by rw [sI_ne (by omega)]; exact a.eP, by rw [sI_ne (by omega)]; exact a.eM, by rw [sI_ne (by omega)]; exact a.eN, by rw [sI_ne (by omega)]; exact a.eS, fun q hq => by rw [sI_ne (by omega), a.e0 hq]; rfl, fun q hq => by rw [sI_at, a.e1 hq]; rfl, fun q hq => by rw [sI_ne (by omega), a.e2 hq]; rfl, fun q hq => by rw [sI_ne (by omega), a.e3 hq]; rfl, fun q hq => by rw [sI_ne (by omega), a.e4 hq]; rfl, fun q hq => by rw [sI_ne (by omega), a.e5 hq]; rfl, fun q hq => by rw [sI_ne (by omega), a.e6 hq]; rfl, fun q hq => by rw [sI_ne (by omega), a.e7 hq]; rfl, a.bP, a.bM, a.bN, fun q hq => a.bC hq⟩
theorem VilAt.c1 {h : Hp} {k k2 : Nat} {u v : Vg} (a : VilAt h k u) (b : VilAt h k2 v) : VilAt (cpI h (k2 + 2) (k + 2) 0 0 12) k (vcp u 1 v) := by
  refine ⟨by rw [cpI_ne (by omega)]; exact a.eP, by rw [cpI_ne (by omega)]; exact a.eM, by rw [cpI_ne (by omega)]; exact a.eN, by rw [cpI_ne (by omega)]; exact a.eS, fun q hq => by rw [cpI_ne (by omega), a.e0 hq]; rfl, fun q hq => by rw [cpI_at hq, b.e1 hq]; rfl, fun q hq => by rw [cpI_ne (by omega), a.e2 hq]; rfl, fun q hq => by rw [cpI_ne (by omega), a.e3 hq]; rfl, fun q hq => by rw [cpI_ne (by omega), a.e4 hq]; rfl, fun q hq => by rw [cpI_ne (by omega), a.e5 hq]; rfl, fun q hq => by rw [cpI_ne (by omega), a.e6 hq]; rfl, fun q hq => by rw [cpI_ne (by omega), a.e7 hq]; rfl, a.bP, a.bM, a.bN, fun q hq => a.bC hq⟩
theorem VilAt.s2 {h : Hp} {k i : Nat} {v : Vg} {x : Int32} (a : VilAt h k v) : VilAt (sI h (k + 3) i x) k (vset v 2 i x) := by
  refine ⟨by rw [sI_ne (by omega)]; exact a.eP, by rw [sI_ne (by omega)]; exact a.eM, by rw [sI_ne (by omega)]; exact a.eN, by rw [sI_ne (by omega)]; exact a.eS, fun q hq => by rw [sI_ne (by omega), a.e0 hq]; rfl, fun q hq => by rw [sI_ne (by omega), a.e1 hq]; rfl, fun q hq => by rw [sI_at, a.e2 hq]; rfl, fun q hq => by rw [sI_ne (by omega), a.e3 hq]; rfl, fun q hq => by rw [sI_ne (by omega), a.e4 hq]; rfl, fun q hq => by rw [sI_ne (by omega), a.e5 hq]; rfl, fun q hq => by rw [sI_ne (by omega), a.e6 hq]; rfl, fun q hq => by rw [sI_ne (by omega), a.e7 hq]; rfl, a.bP, a.bM, a.bN, fun q hq => a.bC hq⟩
theorem VilAt.c2 {h : Hp} {k k2 : Nat} {u v : Vg} (a : VilAt h k u) (b : VilAt h k2 v) : VilAt (cpI h (k2 + 3) (k + 3) 0 0 6) k (vcp u 2 v) := by
  refine ⟨by rw [cpI_ne (by omega)]; exact a.eP, by rw [cpI_ne (by omega)]; exact a.eM, by rw [cpI_ne (by omega)]; exact a.eN, by rw [cpI_ne (by omega)]; exact a.eS, fun q hq => by rw [cpI_ne (by omega), a.e0 hq]; rfl, fun q hq => by rw [cpI_ne (by omega), a.e1 hq]; rfl, fun q hq => by rw [cpI_at hq, b.e2 hq]; rfl, fun q hq => by rw [cpI_ne (by omega), a.e3 hq]; rfl, fun q hq => by rw [cpI_ne (by omega), a.e4 hq]; rfl, fun q hq => by rw [cpI_ne (by omega), a.e5 hq]; rfl, fun q hq => by rw [cpI_ne (by omega), a.e6 hq]; rfl, fun q hq => by rw [cpI_ne (by omega), a.e7 hq]; rfl, a.bP, a.bM, a.bN, fun q hq => a.bC hq⟩
theorem VilAt.s3 {h : Hp} {k i : Nat} {v : Vg} {x : Int32} (a : VilAt h k v) : VilAt (sI h (k + 4) i x) k (vset v 3 i x) := by
  refine ⟨by rw [sI_ne (by omega)]; exact a.eP, by rw [sI_ne (by omega)]; exact a.eM, by rw [sI_ne (by omega)]; exact a.eN, by rw [sI_ne (by omega)]; exact a.eS, fun q hq => by rw [sI_ne (by omega), a.e0 hq]; rfl, fun q hq => by rw [sI_ne (by omega), a.e1 hq]; rfl, fun q hq => by rw [sI_ne (by omega), a.e2 hq]; rfl, fun q hq => by rw [sI_at, a.e3 hq]; rfl, fun q hq => by rw [sI_ne (by omega), a.e4 hq]; rfl, fun q hq => by rw [sI_ne (by omega), a.e5 hq]; rfl, fun q hq => by rw [sI_ne (by omega), a.e6 hq]; rfl, fun q hq => by rw [sI_ne (by omega), a.e7 hq]; rfl, a.bP, a.bM, a.bN, fun q hq => a.bC hq⟩
theorem VilAt.c3 {h : Hp} {k k2 : Nat} {u v : Vg} (a : VilAt h k u) (b : VilAt h k2 v) : VilAt (cpI h (k2 + 4) (k + 4) 0 0 6) k (vcp u 3 v) := by
  refine ⟨by rw [cpI_ne (by omega)]; exact a.eP, by rw [cpI_ne (by omega)]; exact a.eM, by rw [cpI_ne (by omega)]; exact a.eN, by rw [cpI_ne (by omega)]; exact a.eS, fun q hq => by rw [cpI_ne (by omega), a.e0 hq]; rfl, fun q hq => by rw [cpI_ne (by omega), a.e1 hq]; rfl, fun q hq => by rw [cpI_ne (by omega), a.e2 hq]; rfl, fun q hq => by rw [cpI_at hq, b.e3 hq]; rfl, fun q hq => by rw [cpI_ne (by omega), a.e4 hq]; rfl, fun q hq => by rw [cpI_ne (by omega), a.e5 hq]; rfl, fun q hq => by rw [cpI_ne (by omega), a.e6 hq]; rfl, fun q hq => by rw [cpI_ne (by omega), a.e7 hq]; rfl, a.bP, a.bM, a.bN, fun q hq => a.bC hq⟩
theorem VilAt.s4 {h : Hp} {k i : Nat} {v : Vg} {x : Int32} (a : VilAt h k v) : VilAt (sI h (k + 5) i x) k (vset v 4 i x) := by
  refine ⟨by rw [sI_ne (by omega)]; exact a.eP, by rw [sI_ne (by omega)]; exact a.eM, by rw [sI_ne (by omega)]; exact a.eN, by rw [sI_ne (by omega)]; exact a.eS, fun q hq => by rw [sI_ne (by omega), a.e0 hq]; rfl, fun q hq => by rw [sI_ne (by omega), a.e1 hq]; rfl, fun q hq => by rw [sI_ne (by omega), a.e2 hq]; rfl, fun q hq => by rw [sI_ne (by omega), a.e3 hq]; rfl, fun q hq => by rw [sI_at, a.e4 hq]; rfl, fun q hq => by rw [sI_ne (by omega), a.e5 hq]; rfl, fun q hq => by rw [sI_ne (by omega), a.e6 hq]; rfl, fun q hq => by rw [sI_ne (by omega), a.e7 hq]; rfl, a.bP, a.bM, a.bN, fun q hq => a.bC hq⟩
theorem VilAt.c4 {h : Hp} {k k2 : Nat} {u v : Vg} (a : VilAt h k u) (b : VilAt h k2 v) : VilAt (cpI h (k2 + 5) (k + 5) 0 0 8) k (vcp u 4 v) := by
  refine ⟨by rw [cpI_ne (by omega)]; exact a.eP, by rw [cpI_ne (by omega)]; exact a.eM, by rw [cpI_ne (by omega)]; exact a.eN, by rw [cpI_ne (by omega)]; exact a.eS, fun q hq => by rw [cpI_ne (by omega), a.e0 hq]; rfl, fun q hq => by rw [cpI_ne (by omega), a.e1 hq]; rfl, fun q hq => by rw [cpI_ne (by omega), a.e2 hq]; rfl, fun q hq => by rw [cpI_ne (by omega), a.e3 hq]; rfl, fun q hq => by rw [cpI_at hq, b.e4 hq]; rfl, fun q hq => by rw [cpI_ne (by omega), a.e5 hq]; rfl, fun q hq => by rw [cpI_ne (by omega), a.e6 hq]; rfl, fun q hq => by rw [cpI_ne (by omega), a.e7 hq]; rfl, a.bP, a.bM, a.bN, fun q hq => a.bC hq⟩
theorem VilAt.s5 {h : Hp} {k i : Nat} {v : Vg} {x : Int32} (a : VilAt h k v) : VilAt (sI h (k + 6) i x) k (vset v 5 i x) := by
  refine ⟨by rw [sI_ne (by omega)]; exact a.eP, by rw [sI_ne (by omega)]; exact a.eM, by rw [sI_ne (by omega)]; exact a.eN, by rw [sI_ne (by omega)]; exact a.eS, fun q hq => by rw [sI_ne (by omega), a.e0 hq]; rfl, fun q hq => by rw [sI_ne (by omega), a.e1 hq]; rfl, fun q hq => by rw [sI_ne (by omega), a.e2 hq]; rfl, fun q hq => by rw [sI_ne (by omega), a.e3 hq]; rfl, fun q hq => by rw [sI_ne (by omega), a.e4 hq]; rfl, fun q hq => by rw [sI_at, a.e5 hq]; rfl, fun q hq => by rw [sI_ne (by omega), a.e6 hq]; rfl, fun q hq => by rw [sI_ne (by omega), a.e7 hq]; rfl, a.bP, a.bM, a.bN, fun q hq => a.bC hq⟩
theorem VilAt.c5 {h : Hp} {k k2 : Nat} {u v : Vg} (a : VilAt h k u) (b : VilAt h k2 v) : VilAt (cpI h (k2 + 6) (k + 6) 0 0 8) k (vcp u 5 v) := by
  refine ⟨by rw [cpI_ne (by omega)]; exact a.eP, by rw [cpI_ne (by omega)]; exact a.eM, by rw [cpI_ne (by omega)]; exact a.eN, by rw [cpI_ne (by omega)]; exact a.eS, fun q hq => by rw [cpI_ne (by omega), a.e0 hq]; rfl, fun q hq => by rw [cpI_ne (by omega), a.e1 hq]; rfl, fun q hq => by rw [cpI_ne (by omega), a.e2 hq]; rfl, fun q hq => by rw [cpI_ne (by omega), a.e3 hq]; rfl, fun q hq => by rw [cpI_ne (by omega), a.e4 hq]; rfl, fun q hq => by rw [cpI_at hq, b.e5 hq]; rfl, fun q hq => by rw [cpI_ne (by omega), a.e6 hq]; rfl, fun q hq => by rw [cpI_ne (by omega), a.e7 hq]; rfl, a.bP, a.bM, a.bN, fun q hq => a.bC hq⟩
theorem VilAt.s6 {h : Hp} {k i : Nat} {v : Vg} {x : Int32} (a : VilAt h k v) (hx : fits .boolean (.int x) = true) : VilAt (sI h (k + 7) i x) k (vset v 6 i x) := by
  refine ⟨by rw [sI_ne (by omega)]; exact a.eP, by rw [sI_ne (by omega)]; exact a.eM, by rw [sI_ne (by omega)]; exact a.eN, by rw [sI_ne (by omega)]; exact a.eS, fun q hq => by rw [sI_ne (by omega), a.e0 hq]; rfl, fun q hq => by rw [sI_ne (by omega), a.e1 hq]; rfl, fun q hq => by rw [sI_ne (by omega), a.e2 hq]; rfl, fun q hq => by rw [sI_ne (by omega), a.e3 hq]; rfl, fun q hq => by rw [sI_ne (by omega), a.e4 hq]; rfl, fun q hq => by rw [sI_ne (by omega), a.e5 hq]; rfl, fun q hq => by rw [sI_at, a.e6 hq]; rfl, fun q hq => by rw [sI_ne (by omega), a.e7 hq]; rfl, a.bP, a.bM, a.bN, fun q hq => by show fits .boolean (.int (if q = i then x else vF v 6 q)) = true; split; exact hx; exact a.bC hq⟩
theorem VilAt.c6 {h : Hp} {k k2 : Nat} {u v : Vg} (a : VilAt h k u) (b : VilAt h k2 v) : VilAt (cpI h (k2 + 7) (k + 7) 0 0 8) k (vcp u 6 v) := by
  refine ⟨by rw [cpI_ne (by omega)]; exact a.eP, by rw [cpI_ne (by omega)]; exact a.eM, by rw [cpI_ne (by omega)]; exact a.eN, by rw [cpI_ne (by omega)]; exact a.eS, fun q hq => by rw [cpI_ne (by omega), a.e0 hq]; rfl, fun q hq => by rw [cpI_ne (by omega), a.e1 hq]; rfl, fun q hq => by rw [cpI_ne (by omega), a.e2 hq]; rfl, fun q hq => by rw [cpI_ne (by omega), a.e3 hq]; rfl, fun q hq => by rw [cpI_ne (by omega), a.e4 hq]; rfl, fun q hq => by rw [cpI_ne (by omega), a.e5 hq]; rfl, fun q hq => by rw [cpI_at hq, b.e6 hq]; rfl, fun q hq => by rw [cpI_ne (by omega), a.e7 hq]; rfl, a.bP, a.bM, a.bN, fun q hq => b.bC hq⟩
theorem VilAt.s7 {h : Hp} {k i : Nat} {v : Vg} {x : Int32} (a : VilAt h k v) : VilAt (sI h (k + 8) i x) k (vset v 7 i x) := by
  refine ⟨by rw [sI_ne (by omega)]; exact a.eP, by rw [sI_ne (by omega)]; exact a.eM, by rw [sI_ne (by omega)]; exact a.eN, by rw [sI_ne (by omega)]; exact a.eS, fun q hq => by rw [sI_ne (by omega), a.e0 hq]; rfl, fun q hq => by rw [sI_ne (by omega), a.e1 hq]; rfl, fun q hq => by rw [sI_ne (by omega), a.e2 hq]; rfl, fun q hq => by rw [sI_ne (by omega), a.e3 hq]; rfl, fun q hq => by rw [sI_ne (by omega), a.e4 hq]; rfl, fun q hq => by rw [sI_ne (by omega), a.e5 hq]; rfl, fun q hq => by rw [sI_ne (by omega), a.e6 hq]; rfl, fun q hq => by rw [sI_at, a.e7 hq]; rfl, a.bP, a.bM, a.bN, fun q hq => a.bC hq⟩
theorem VilAt.c7 {h : Hp} {k k2 : Nat} {u v : Vg} (a : VilAt h k u) (b : VilAt h k2 v) : VilAt (cpI h (k2 + 8) (k + 8) 0 0 8) k (vcp u 7 v) := by
  refine ⟨by rw [cpI_ne (by omega)]; exact a.eP, by rw [cpI_ne (by omega)]; exact a.eM, by rw [cpI_ne (by omega)]; exact a.eN, by rw [cpI_ne (by omega)]; exact a.eS, fun q hq => by rw [cpI_ne (by omega), a.e0 hq]; rfl, fun q hq => by rw [cpI_ne (by omega), a.e1 hq]; rfl, fun q hq => by rw [cpI_ne (by omega), a.e2 hq]; rfl, fun q hq => by rw [cpI_ne (by omega), a.e3 hq]; rfl, fun q hq => by rw [cpI_ne (by omega), a.e4 hq]; rfl, fun q hq => by rw [cpI_ne (by omega), a.e5 hq]; rfl, fun q hq => by rw [cpI_ne (by omega), a.e6 hq]; rfl, fun q hq => by rw [cpI_at hq, b.e7 hq]; rfl, a.bP, a.bM, a.bN, fun q hq => a.bC hq⟩
theorem VilAt.sP {h : Hp} {k n : Nat} {v : Vg} (a : VilAt h k v) (hn : n ≤ 12) : VilAt (sI h k 0 (nI n)) k (vsP v n) := by
  exact ⟨by rw [sI_at, if_pos rfl]; rfl, by rw [sI_at, if_neg (by decide)]; exact a.eM, by rw [sI_at, if_neg (by decide)]; exact a.eN, by rw [sI_at, if_neg (by decide)]; exact a.eS, fun q hq => by rw [sI_ne (by omega), a.e0 hq]; rfl, fun q hq => by rw [sI_ne (by omega), a.e1 hq]; rfl, fun q hq => by rw [sI_ne (by omega), a.e2 hq]; rfl, fun q hq => by rw [sI_ne (by omega), a.e3 hq]; rfl, fun q hq => by rw [sI_ne (by omega), a.e4 hq]; rfl, fun q hq => by rw [sI_ne (by omega), a.e5 hq]; rfl, fun q hq => by rw [sI_ne (by omega), a.e6 hq]; rfl, fun q hq => by rw [sI_ne (by omega), a.e7 hq]; rfl, hn, a.bM, a.bN, fun q hq => a.bC hq⟩
theorem VilAt.sM {h : Hp} {k n : Nat} {v : Vg} (a : VilAt h k v) (hn : n ≤ 6) : VilAt (sI h k 3 (nI n)) k (vsM v n) := by
  exact ⟨by rw [sI_at, if_neg (by decide)]; exact a.eP, by rw [sI_at, if_pos rfl]; rfl, by rw [sI_at, if_neg (by decide)]; exact a.eN, by rw [sI_at, if_neg (by decide)]; exact a.eS, fun q hq => by rw [sI_ne (by omega), a.e0 hq]; rfl, fun q hq => by rw [sI_ne (by omega), a.e1 hq]; rfl, fun q hq => by rw [sI_ne (by omega), a.e2 hq]; rfl, fun q hq => by rw [sI_ne (by omega), a.e3 hq]; rfl, fun q hq => by rw [sI_ne (by omega), a.e4 hq]; rfl, fun q hq => by rw [sI_ne (by omega), a.e5 hq]; rfl, fun q hq => by rw [sI_ne (by omega), a.e6 hq]; rfl, fun q hq => by rw [sI_ne (by omega), a.e7 hq]; rfl, a.bP, hn, a.bN, fun q hq => a.bC hq⟩
theorem VilAt.sN {h : Hp} {k n : Nat} {v : Vg} (a : VilAt h k v) (hn : n ≤ 8) : VilAt (sI h k 6 (nI n)) k (vsN v n) := by
  exact ⟨by rw [sI_at, if_neg (by decide)]; exact a.eP, by rw [sI_at, if_neg (by decide)]; exact a.eM, by rw [sI_at, if_pos rfl]; rfl, by rw [sI_at, if_neg (by decide)]; exact a.eS, fun q hq => by rw [sI_ne (by omega), a.e0 hq]; rfl, fun q hq => by rw [sI_ne (by omega), a.e1 hq]; rfl, fun q hq => by rw [sI_ne (by omega), a.e2 hq]; rfl, fun q hq => by rw [sI_ne (by omega), a.e3 hq]; rfl, fun q hq => by rw [sI_ne (by omega), a.e4 hq]; rfl, fun q hq => by rw [sI_ne (by omega), a.e5 hq]; rfl, fun q hq => by rw [sI_ne (by omega), a.e6 hq]; rfl, fun q hq => by rw [sI_ne (by omega), a.e7 hq]; rfl, a.bP, a.bM, hn, fun q hq => a.bC hq⟩
theorem VilAt.sS {h : Hp} {k : Nat} {v : Vg} {x : Int32} (a : VilAt h k v) : VilAt (sI h k 11 x) k (vsS v x) := by
  exact ⟨by rw [sI_at, if_neg (by decide)]; exact a.eP, by rw [sI_at, if_neg (by decide)]; exact a.eM, by rw [sI_at, if_neg (by decide)]; exact a.eN, by rw [sI_at, if_pos rfl]; rfl, fun q hq => by rw [sI_ne (by omega), a.e0 hq]; rfl, fun q hq => by rw [sI_ne (by omega), a.e1 hq]; rfl, fun q hq => by rw [sI_ne (by omega), a.e2 hq]; rfl, fun q hq => by rw [sI_ne (by omega), a.e3 hq]; rfl, fun q hq => by rw [sI_ne (by omega), a.e4 hq]; rfl, fun q hq => by rw [sI_ne (by omega), a.e5 hq]; rfl, fun q hq => by rw [sI_ne (by omega), a.e6 hq]; rfl, fun q hq => by rw [sI_ne (by omega), a.e7 hq]; rfl, a.bP, a.bM, a.bN, fun q hq => a.bC hq⟩
theorem pfx_eq {a b : List Nat} (h : a = b) : a <+: b := h ▸ List.prefix_rfl
/-- contracts of methods that write in one village -/
abbrev Mw (l : Launch) (y : MethodName) (cc : ByteArray) (nL : Nat) (ret : Option FieldType) (d : Nat) (as : List V) (h : Hp) (r0 : Option V) (k : Nat) (v' : Vg) : Prop := Ms l y cc nL ret d as h (xK h) (fun r h' => r = r0 ∧ VilAt h' k v' ∧ Fr k (k + 9) h h')
def addPartV (v : Vg) : Vg := vsP (vset (vset v 0 (vP v) (-1)) 1 (vP v) (-1)) (vP v + 1)
def addMacV (v : Vg) (x w : Int32) : Vg := vsM (vset (vset v 2 (vM v) x) 3 (vM v) w) (vM v + 1)
def addOneV (v : Vg) (x w : Int32) : Vg := vsN (vset (vset (vset (vset v 4 (vN v) x) 5 (vN v) w) 6 (vN v) 0) 7 (vN v) 0) (vN v + 1)
theorem VilAt.to {h : Hp} {k : Nat} {u v : Vg} (a : VilAt h k u) (h1 : vP u = vP v) (h2 : vM u = vM v) (h3 : vN u = vN v) (h4 : ∀ c i, c < 8 → vF u c i = vF v c i) (h5 : vS u = vS v) : VilAt h k v := by
  refine ⟨by rw [← h1]; exact a.eP, by rw [← h2]; exact a.eM, by rw [← h3]; exact a.eN, by rw [← h5]; exact a.eS, fun i hi => by rw [← h4 _ _ (by decide)]; exact a.e0 hi, fun i hi => by rw [← h4 _ _ (by decide)]; exact a.e1 hi, fun i hi => by rw [← h4 _ _ (by decide)]; exact a.e2 hi, fun i hi => by rw [← h4 _ _ (by decide)]; exact a.e3 hi, fun i hi => by rw [← h4 _ _ (by decide)]; exact a.e4 hi, fun i hi => by rw [← h4 _ _ (by decide)]; exact a.e5 hi, fun i hi => by rw [← h4 _ _ (by decide)]; exact a.e6 hi, fun i hi => by rw [← h4 _ _ (by decide)]; exact a.e7 hi, by rw [← h1]; exact a.bP, by rw [← h2]; exact a.bM, by rw [← h3]; exact a.bN, fun i hi => by rw [← h4 _ _ (by decide)]; exact a.bC hi⟩
theorem c8 {P : Nat → Prop} (h0 : P 0) (h1 : P 1) (h2 : P 2) (h3 : P 3) (h4 : P 4) (h5 : P 5) (h6 : P 6) (h7 : P 7) : ∀ c, c < 8 → P c := fun c hc => by
  match c, hc with
  | 0, _ => exact h0
  | 1, _ => exact h1
  | 2, _ => exact h2
  | 3, _ => exact h3
  | 4, _ => exact h4
  | 5, _ => exact h5
  | 6, _ => exact h6
  | 7, _ => exact h7
  | n + 8, h => omega
theorem vg_ext {a b : Vg} (h1 : vP a = vP b) (h2 : vM a = vM b) (h3 : vN a = vN b) (h4 : ∀ c i, vF a c i = vF b c i) (h5 : vS a = vS b) : a = b := by
  obtain ⟨a1, a2, a3, a4, a5⟩ := a
  obtain ⟨b1, b2, b3, b4, b5⟩ := b
  obtain rfl := h1
  obtain rfl := h2
  obtain rfl := h3
  obtain rfl := h5
  rw [show a4 = b4 from funext fun c => funext fun i => h4 c i]
/-- all pieces of one become another's, among the first n parts -/
def handV (v : Vg) (a b : Int32) (n : Nat) : Vg := (vP v, vM v, vN v, fun c i => if c < 2 ∧ i < n ∧ vF v c i = a then b else vF v c i, vS v)
theorem handV_s (v : Vg) (a b : Int32) (n : Nat) : handV v a b (n + 1) = (fun w : Vg => if vF w 1 n = a then vset w 1 n b else w) (if vF (handV v a b n) 0 n = a then vset (handV v a b n) 0 n b else handV v a b n) := by
  have k0 : ∀ c, vF (handV v a b n) c n = vF v c n := fun c => by simp [handV, vF]
  have e (c i : Nat) : vF (handV v a b (n + 1)) c i = if c < 2 ∧ i = n ∧ vF v c i = a then b else vF (handV v a b n) c i := by
    simp only [handV, vF]
    by_cases hi : i = n
    · subst hi; simp
    · have : (i < n + 1) = (i < n) := by simp; omega
      simp [hi, this]
  have k1 : vF (vset (handV v a b n) 0 n b) 1 n = vF v 1 n := k0 1
  by_cases h0 : vF v 0 n = a
  · rw [if_pos ((k0 0).trans h0)]
    by_cases h1 : vF v 1 n = a
    · show _ = if vF (vset (handV v a b n) 0 n b) 1 n = a then _ else _
      rw [if_pos (k1.trans h1)]
      refine vg_ext rfl rfl rfl (fun c i => ?_) rfl
      rw [e]
      rcases c with _ | _ | c <;> by_cases hi : i = n <;> simp_all [vset, vF] <;> (intros; omega)
    · show _ = if vF (vset (handV v a b n) 0 n b) 1 n = a then _ else _
      rw [if_neg (fun q => h1 (k1.symm.trans q))]
      refine vg_ext rfl rfl rfl (fun c i => ?_) rfl
      rw [e]
      rcases c with _ | _ | c <;> by_cases hi : i = n <;> simp_all [vset, vF] <;> (intros; omega)
  · rw [if_neg (fun q => h0 ((k0 0).symm.trans q))]
    by_cases h1 : vF v 1 n = a
    · show _ = if vF (handV v a b n) 1 n = a then _ else _
      rw [if_pos ((k0 1).trans h1)]
      refine vg_ext rfl rfl rfl (fun c i => ?_) rfl
      rw [e]
      rcases c with _ | _ | c <;> by_cases hi : i = n <;> simp_all [vset, vF] <;> (intros; omega)
    · show _ = if vF (handV v a b n) 1 n = a then _ else _
      rw [if_neg (fun q => h1 ((k0 1).symm.trans q))]
      refine vg_ext rfl rfl rfl (fun c i => ?_) rfl
      rw [e]
      rcases c with _ | _ | c <;> by_cases hi : i = n <;> simp_all [vset, vF] <;> (intros; omega)
def lcg (s : Int32) : Int32 := s * 1103515245 + nI 12345
def drw (s : Int32) : Int32 := (lcg s).toUInt32 >>> ((nI 16).toUInt32 &&& Int32.toUInt32 31) |>.toInt32 |> fun x => x - x / nI 10 * nI 10
/-- who owns a part of some needs -/
def ownS (v : Vg) (nd : Int32) : Nat → Int32
  | 0 => nI 0
  | n + 1 => if ¬ nd &&& (nI 1 <<< (nI n &&& 31)) = 0 ∧ ¬ vF v 0 n = -1 then ownS v nd n ||| (nI 1 <<< (vF v 0 n &&& 31)) else ownS v nd n
theorem ownS_c {u v : Vg} (nd : Int32) (h : ∀ i, vF u 0 i = vF v 0 i) : ∀ n, ownS u nd n = ownS v nd n
  | 0 => rfl
  | n + 1 => by simp only [ownS, h, ownS_c nd h n]
/-- one share more for the owners among the first n -/
def shrV (v : Vg) (nd : Int32) (n : Nat) : Vg := (vP v, vM v, vN v, fun c i => if c = 7 ∧ i < n ∧ ¬ ownS v nd (vP v) &&& (nI 1 <<< (nI i &&& 31)) = 0 then vF v 7 i + nI 1 else vF v c i, vS v)
theorem shrV_s (v : Vg) (nd : Int32) (n : Nat) : shrV v nd (n + 1) = if ¬ ownS v nd (vP v) &&& (nI 1 <<< (nI n &&& 31)) = 0 then vset (shrV v nd n) 7 n (vF (shrV v nd n) 7 n + nI 1) else shrV v nd n := by
  have e0 : vF (shrV v nd n) 7 n = vF v 7 n := by simp [shrV, vF]
  rw [e0]
  by_cases h : ownS v nd (vP v) &&& (nI 1 <<< (nI n &&& 31)) = 0
  · rw [if_neg (fun q => q h)]
    refine vg_ext rfl rfl rfl (fun c i => ?_) rfl
    by_cases hi : i = n
    · subst hi; simp [shrV, vF, h]
    · have : (i < n + 1) = (i < n) := by simp; omega
      simp only [shrV, vF, this]
  · rw [if_pos h]
    refine vg_ext rfl rfl rfl (fun c i => ?_) rfl
    by_cases hi : i = n
    · subst hi
      by_cases hc : c = 7 <;> simp [shrV, vF, vset, h, hc]
    · have : (i < n + 1) = (i < n) := by simp; omega
      simp only [shrV, vF, this, vset, hi, if_false, ite_self]
theorem shrV_c (v : Vg) (nd : Int32) (n : Nat) {c : Nat} (hc : c ≠ 7) (i : Nat) : vF (shrV v nd n) c i = vF v c i := by simp [shrV, vF, hc]
/-- who comes, and the seed behind -/
def cmS (v : Vg) : Nat → Int32 × Int32
  | 0 => (nI 0, vS v)
  | n + 1 => if vF v 6 n = 0 then (if drw (cmS v n).2 < vF v 5 n then (cmS v n).1 else (cmS v n).1 ||| (nI 1 <<< (nI n &&& 31)), lcg (cmS v n).2) else cmS v n
/-- the village behind the sharing of the first n machines -/
def goF (v : Vg) (ps : Int32) : Nat → Nat → Nat → Int32
  | 0 => vF v
  | n + 1 => if needW v ps n then vF (shrV (vP v, vM v, vN v, goF v ps n, vS v) (vF v 2 n) (vN v)) else goF v ps n
def goV (v : Vg) (ps : Int32) (s : Int32) (n : Nat) : Vg := (vP v, vM v, vN v, goF v ps n, s)
theorem goV_s (v : Vg) (ps s : Int32) (n : Nat) : goV v ps s (n + 1) = if needW v ps n then shrV (goV v ps s n) (vF v 2 n) (vN v) else goV v ps s n := by
  by_cases h : needW v ps n = true
  · rw [if_pos h]
    refine vg_ext rfl rfl rfl (fun c i => ?_) rfl
    have e : ownS (vP v, vM v, vN v, goF v ps n, vS v) (vF v 2 n) (vP v) = ownS (goV v ps s n) (vF v 2 n) (vP v) := ownS_c (u := (vP v, vM v, vN v, goF v ps n, vS v)) (v := goV v ps s n) _ (fun _ => rfl) _
    show (goF v ps (n + 1)) c i = _
    rw [goF, if_pos h]
    show (if c = 7 ∧ i < vN v ∧ ¬ ownS (vP v, vM v, vN v, goF v ps n, vS v) (vF v 2 n) (vP v) &&& (nI 1 <<< (nI i &&& 31)) = 0 then _ else _) = _
    rw [e]; rfl
  · rw [if_neg h]
    refine vg_ext rfl rfl rfl (fun c i => ?_) rfl
    show (goF v ps (n + 1)) c i = _
    rw [goF, if_neg h]; rfl
theorem goV_c (v : Vg) (ps s : Int32) {c : Nat} (hc : c ≠ 7) (i : Nat) : ∀ n, vF (goV v ps s n) c i = vF v c i
  | 0 => rfl
  | n + 1 => by
    rw [goV_s]
    split
    · rw [shrV_c _ _ _ hc]; exact goV_c v ps s hc i n
    · exact goV_c v ps s hc i n
theorem needW_c {u v : Vg} (h : ∀ i, vF u 2 i = vF v 2 i) (ps : Int32) (m : Nat) : needW u ps m = needW v ps m := by simp only [needW, h]
theorem sumIf_c {p q : Nat → Bool} {f g : Nat → Int32} (h1 : ∀ i, p i = q i) (h2 : ∀ i, f i = g i) : ∀ n, sumIf p f n = sumIf q g n
  | 0 => rfl
  | n + 1 => by simp only [sumIf, h1, h2, sumIf_c h1 h2 n]
theorem worthS_c {u v : Vg} (h : vM u = vM v) (h2 : ∀ i, vF u 2 i = vF v 2 i) (h3 : ∀ i, vF u 3 i = vF v 3 i) (ps : Int32) : worthS u ps = worthS v ps := by
  unfold worthS; rw [h]; exact sumIf_c (needW_c h2 ps) h3 _
/-- who there is has, on that day -/
def dayP (v : Vg) : Int32 := hasP v (cmS v (vN v)).1
def dayV (v : Vg) : Vg := goV v (dayP v) (cmS v (vN v)).2 (vM v)


