/-! PART 02: the abstract heap, and the rows of the machine told over it -/
/-- int slots, long slots, numbers of cells (+ 1; 0: null) in fields that may be null, the kinds of the cells in the order of their making -/
abbrev Hp : Type := (Nat → Nat → Int32) × (Nat → Nat → Int64) × (Nat → Nat → Nat) × List Nat
abbrev xI (h : Hp) : Nat → Nat → Int32 := h.1
abbrev xL (h : Hp) : Nat → Nat → Int64 := h.2.1
abbrev xN (h : Hp) : Nat → Nat → Nat := h.2.2.1
abbrev xK (h : Hp) : List Nat := h.2.2.2
/-- values: int, long, cell of a kind, cell of a kind or null, text -/
abbrev V : Type := Int32 ⊕ Int64 ⊕ (Nat × Nat) ⊕ (Nat × Nat) ⊕ Nat
abbrev vi (x : Int32) : V := .inl x
abbrev vl (x : Int64) : V := .inr (.inl x)
abbrev vr (k a : Nat) : V := .inr (.inr (.inl (k, a)))
abbrev vn (k a : Nat) : V := .inr (.inr (.inr (.inl (k, a))))
abbrev vt (a : Nat) : V := .inr (.inr (.inr (.inr a)))
def rep (f : Nat → Nat) : V → Value
  | .inl x => .int x
  | .inr (.inl x) => .long x
  | .inr (.inr (.inl q)) => .ref (f q.2)
  | .inr (.inr (.inr (.inl q))) => if q.2 = 0 then .null else .ref (f (q.2 - 1))
  | .inr (.inr (.inr (.inr a))) => .ref (f a)
/-- of a field: its sort (0 int, 1 long, 2 a cell that lies so much behind, of a kind; 3 a cell of a kind or null) -/
def fval (f : Nat → Nat) (h : Hp) (a j : Nat) (d : Fd3) : Value :=
  match d.1 with
  | 0 => .int (xI h a j)
  | 1 => .long (xL h a j)
  | 2 => .ref (f (a + d.2.1))
  | _ => if xN h a j = 0 then .null else .ref (f (xN h a j - 1))
def fvals (f : Nat → Nat) (h : Hp) (a : Nat) : Nat → List Fd3 → List Value
  | _, [] => []
  | j, d :: t => fval f h a j d :: fvals f h a (j + 1) t
theorem fvals_get (f : Nat → Nat) (h : Hp) (a : Nat) : ∀ (L : List Fd3) (j0 j : Nat), (fvals f h a j0 L)[j]? = (L[j]?).map (fval f h a (j0 + j))
  | [], j0, j => by simp [fvals]
  | d :: t, j0, 0 => by simp [fvals]
  | d :: t, j0, j + 1 => by
    simp only [fvals, List.getElem?_cons_succ]
    rw [fvals_get f h a t (j0 + 1) j, show j0 + 1 + j = j0 + (j + 1) by omega]
theorem fvals_len (f : Nat → Nat) (h : Hp) (a : Nat) : ∀ (L : List Fd3) (j0 : Nat), (fvals f h a j0 L).length = L.length
  | [], j0 => rfl
  | d :: t, j0 => by simp [fvals, fvals_len f h a t (j0 + 1)]
/-- the word lists' array classes: int, long, byte, boolean, rows of ints, rows of longs -/
def tysD (dA : Nat → ClassId) : List (ClassId × FieldType) := [(dA 0, .int), (dA 1, .long), (dA 2, .byte), (dA 3, .boolean), (dA 4, .array .int), (dA 5, .array .long)]
def entA (dA : Nat → ClassId) (f : Nat → Nat) (h : Hp) (a : Nat) (q : Fd3) : va_E :=
  match q.1 with
  | 0 => .inl (dA 0, q.2.1, .inl (xI h a))
  | 1 => .inl (dA 1, q.2.1, .inr (.inl (xL h a)))
  | 2 => .inl (dA 2, q.2.1, .inl (xI h a))
  | 3 => .inl (dA 3, q.2.1, .inl (xI h a))
  | 4 => .inl (dA 4, q.2.1, .inr (.inr (.inr (.inr (fun i => some (f (a + 1 + i)))))))
  | _ => .inl (dA 5, q.2.1, .inr (.inr (.inr (.inr (fun i => some (f (a + 1 + i)))))))
def ent (dA : Nat → ClassId) (f : Nat → Nat) (h : Hp) (k a : Nat) : va_E :=
  match fkL[k]? with
  | some L => .inr (k, fvals f h a 0 L)
  | none => entA dA f h a (akL.getD (k - 20) (0, 0, 0))
def wd (dA : Nat → ClassId) (f : Nat → Nat) (h : Hp) : va_W := (List.range (xK h).length).map fun a => (f a, ent dA f h ((xK h).getD a 0) a)
theorem wd_len (dA : Nat → ClassId) (f : Nat → Nat) (h : Hp) : (wd dA f h).length = (xK h).length := by simp [wd]
theorem wd_get (dA : Nat → ClassId) (f : Nat → Nat) (h : Hp) {a k : Nat} (ha : (xK h)[a]? = some k) : (wd dA f h)[a]? = some (f a, ent dA f h k a) := by
  have hl := (List.getElem?_eq_some_iff.mp ha).1
  unfold wd
  rw [List.getElem?_map, List.getElem?_range hl]
  simp [List.getD_eq_getElem?_getD, ha]
theorem wd_inv (dA : Nat → ClassId) (f : Nat → Nat) (h : Hp) {a : Nat} {q : Nat × va_E} (hq : (wd dA f h)[a]? = some q) : ∃ k, (xK h)[a]? = some k ∧ q = (f a, ent dA f h k a) := by
  have hl : a < (xK h).length := by
    have := (List.getElem?_eq_some_iff.mp hq).1
    rwa [wd_len] at this
  obtain ⟨k, hk⟩ : ∃ k, (xK h)[a]? = some k := ⟨_, List.getElem?_eq_getElem hl⟩
  exact ⟨k, hk, Option.some.inj (hq.symm.trans (wd_get dA f h hk))⟩
theorem fval_agree {f : Nat → Nat} {h h' : Hp} {a : Nat} (e1 : xI h' a = xI h a) (e2 : xL h' a = xL h a) (e3 : xN h' a = xN h a) (j : Nat) (d : Fd3) : fval f h' a j d = fval f h a j d := by
  unfold fval
  rw [e1, e2, e3]
theorem fvals_agree {f : Nat → Nat} {h h' : Hp} {a : Nat} (e1 : xI h' a = xI h a) (e2 : xL h' a = xL h a) (e3 : xN h' a = xN h a) : ∀ (L : List Fd3) (j : Nat), fvals f h' a j L = fvals f h a j L
  | [], _ => rfl
  | d :: t, j => by simp only [fvals, fval_agree e1 e2 e3, fvals_agree e1 e2 e3 t]
theorem ent_agree {dA : Nat → ClassId} {f : Nat → Nat} {h h' : Hp} {a : Nat} (e1 : xI h' a = xI h a) (e2 : xL h' a = xL h a) (e3 : xN h' a = xN h a) (k : Nat) : ent dA f h' k a = ent dA f h k a := by
  unfold ent entA
  rw [e1, e2]
  simp only [fvals_agree e1 e2 e3]
theorem wd_set {dA : Nat → ClassId} {f : Nat → Nat} {h h' : Hp} {a k : Nat} (ha : (xK h)[a]? = some k) (hal : xK h' = xK h) (o : ∀ b, b ≠ a → xI h' b = xI h b ∧ xL h' b = xL h b ∧ xN h' b = xN h b) {e : va_E} (he : ent dA f h' k a = e) :
    (wd dA f h).set a (f a, e) = wd dA f h' := by
  have hl := (List.getElem?_eq_some_iff.mp ha).1
  apply List.ext_getElem?
  intro i
  by_cases hi : i = a
  · subst hi
    rw [List.getElem?_set_self (by rw [wd_len]; exact hl), wd_get dA f h' (by rw [hal]; exact ha), he]
  · rw [List.getElem?_set_ne (Ne.symm hi)]
    by_cases hil : i < (xK h).length
    · obtain ⟨k2, hk2⟩ : ∃ k, (xK h)[i]? = some k := ⟨_, List.getElem?_eq_getElem hil⟩
      rw [wd_get dA f h hk2, wd_get dA f h' (by rw [hal]; exact hk2), ent_agree (o i hi).1 (o i hi).2.1 (o i hi).2.2]
    · rw [List.getElem?_eq_none (by rw [wd_len]; omega), List.getElem?_eq_none (by rw [wd_len, hal]; omega)]
/-- what a heap is behind a store -/
def sI (h : Hp) (a j : Nat) (x : Int32) : Hp := (fun b => if b = a then upd (xI h a) j x else xI h b, h.2)
def sL (h : Hp) (a j : Nat) (x : Int64) : Hp := (h.1, fun b => if b = a then vp_updL (xL h a) j x else xL h b, h.2.2)
def sN (h : Hp) (a j : Nat) (x : Nat) : Hp := (h.1, h.2.1, fun b => if b = a then (fun i => if i = j then x else xN h a i) else xN h b, h.2.2.2)
/-- the kinds fit: what a field or a row of rows is to lead to stands there -/
def okK (al : List Nat) (a k : Nat) : Prop := (∀ (L : List Fd3), fkL[k]? = some L → ∀ (j : Nat) (o k' : Nat), L[j]? = some (2, o, k') → al[a + o]? = some k') ∧
  (fkL[k]? = none → ∀ (t n k' : Nat), akL[k - 20]? = some (t, n, k') → 4 ≤ t → ∀ i, i < n → al[a + 1 + i]? = some k')
def GoodAl (al : List Nat) : Prop := ∀ a k, al[a]? = some k → okK al a k
/-- a value is of what it says -/
def wv (al : List Nat) : V → Prop
  | .inr (.inr (.inl q)) => al[q.2]? = some q.1
  | .inr (.inr (.inr (.inl q))) => q.2 = 0 ∨ al[q.2 - 1]? = some q.1
  | .inr (.inr (.inr (.inr a))) => 1000 ≤ a
  | _ => True
def wl (al : List Nat) (ls : List (Nat × V)) : Prop := ∀ q ∈ ls, wv al q.2
def ws9 (al : List Nat) (st : List V) : Prop := ∀ q ∈ st, wv al q
def lrep (f : Nat → Nat) (ls : List (Nat × V)) : List (Nat × Value) := ls.map fun q => (q.1, rep f q.2)
/-- slots of the cells -/
def slk (k : Nat) : Nat := match fkL[k]? with
  | some L => L.length
  | none => (akL.getD (k - 20) (0, 0, 0)).2.1
def slo : List Nat → Nat
  | [] => 0
  | k :: t => slk k + slo t
theorem slo_app : ∀ (a b : List Nat), slo (a ++ b) = slo a + slo b
  | [], b => by simp [slo]
  | k :: t, b => by simp [slo, slo_app t b, Nat.add_assoc]
/-! texts and the JDK's statics -/
def txt : List String := ["part", "by", "second", "machine", "need", "and", "one", "away", "cross", "gives"]
def txL : List Nat := [4, 2, 6, 7, 4, 3, 3, 4, 5, 5]
def txB : List (List Int32) := [[112, 97, 114, 116], [98, 121], [115, 101, 99, 111, 110, 100], [109, 97, 99, 104, 105, 110, 101], [110, 101, 101, 100], [97, 110, 100], [111, 110, 101], [97, 119, 97, 121], [99, 114, 111, 115, 115], [103, 105, 118, 101, 115]]
def txR : List (String × Nat × Nat) := [("OnlyWhatFits$Tape", 35, 0), ("OnlyWhatFits$Tape", 65, 1), ("OnlyWhatFits$Tape", 82, 2), ("OnlyWhatFits$Tape", 44, 3), ("OnlyWhatFits$Tape", 89, 4), ("OnlyWhatFits$Tape", 94, 5), ("OnlyWhatFits$Tape", 49, 6), ("OnlyWhatFits$Tape", 99, 7), ("OnlyWhatFits$Tape", 104, 8), ("OnlyWhatFits$Tape", 54, 9), ("OnlyWhatFitsModel", 214, 0), ("OnlyWhatFitsModel", 197, 1), ("OnlyWhatFitsModel", 203, 2), ("OnlyWhatFitsModel", 204, 3), ("OnlyWhatFitsModel", 210, 4), ("OnlyWhatFitsModel", 212, 5), ("OnlyWhatFitsModel", 221, 6), ("OnlyWhatFitsModel", 222, 7), ("OnlyWhatFitsModel", 224, 8), ("OnlyWhatFitsModel", 226, 9)]
def lnR : List (String × Nat × MethodName) := [("OnlyWhatFits", 9, yX5_init), ("OnlyWhatFits", 35, yX0_init), ("OnlyWhatFits", 42, yX1_init), ("OnlyWhatFits", 49, yX3_init)]
/-- what the tables say that isn't a word: rows of rows, and the constructors of nest mates -/
def SX (U : State) : Prop := (Cond.arrayOver (.array .int)).before #[] U = true ∧ (Cond.arrayOver (.array .long)).before #[] U = true ∧ ∀ (i : Nat) (q : String × Nat × MethodName), lnR[i]? = some q → va_Nw (.methodLinkNest q.1 q.2.1 q.2.2 "OnlyWhatFits") U
theorem SX.warm {s U : State} (hW : s.WarmedH U.vm) (h : SX s) : SX U := ⟨over_moved hW.alike h.1, over_moved hW.alike h.2.1, fun i q hq => va_Nw.warmM hW (h.2.2 i q hq)⟩
theorem SX.same {u U : State} (hv : U.vm = u.vm) (h : SX u) : SX U :=
  have hal : u.vm.Alike U.vm := by rw [hv]; exact Vm.Alike.refl _
  ⟨over_moved hal h.1, over_moved hal h.2.1, fun i q hq => va_tabs rfl hv.symm (h.2.2 i q hq)⟩
def SF (f : Nat → Nat) (A : Nat → Prop) (U : State) (H : Heap) : Prop :=
  vk_S 10 txL txB (fun i => f (1000 + i)) (fun i => f (2000 + i)) A U H ∧ va_Z "java/lang/String" "COMPACT_STRINGS" "Z" (.int 1) A U H ∧
  (va_Z "jdk/internal/util/Preconditions" "SIOOBE_FORMATTER" "Ljava/util/function/BiFunction;" .null A U H ∨ va_Z "jdk/internal/util/Preconditions" "SIOOBE_FORMATTER" "Ljava/util/function/BiFunction;" (.ref (f 3000)) A U H) ∧
  (∀ (k : Nat) (q : String × Nat × Nat), txR[k]? = some q → vk_R q.1 q.2.1 (txt.getD q.2.2 "") (f (1000 + q.2.2)) U) ∧ SX U
theorem SF.to {f f0 : Nat → Nat} {A B : Nat → Prop} {s U : State} {H : Heap} (h : SF f0 A s s.heap) (hq : ∀ a : Nat, a < s.heap.size → ¬ A a → H[a]? = s.heap[a]?) (hW : s.WarmedH U.vm) (hAB : ∀ q, B q → A q) (hf : ∀ a, 1000 ≤ a → f a = f0 a) : SF f B U H := by
  have e1 : (fun i => f (1000 + i)) = (fun i => f0 (1000 + i)) := funext fun i => hf _ (by omega)
  have e2 : (fun i => f (2000 + i)) = (fun i => f0 (2000 + i)) := funext fun i => hf _ (by omega)
  obtain ⟨h1, h2, h3, h4, h5⟩ := h
  refine ⟨?_, ?_, ?_, fun k q hk => ?_, h5.warm hW⟩
  · rw [e1, e2]; exact ((h1.kept hq).narrow hAB).moved hW.alike
  · exact ((h2.kept hq).narrow hAB).moved hW.alike
  · rw [hf 3000 (by omega)]
    exact h3.imp (fun h3 => ((h3.kept hq).narrow hAB).moved hW.alike) (fun h3 => ((h3.kept hq).narrow hAB).moved hW.alike)
  · rw [hf _ (by omega)]; exact (h4 k q hk).warm hW
theorem SF.same {f : Nat → Nat} {A : Nat → Prop} {u U : State} {H : Heap} (hv : U.vm = u.vm) (h : SF f A u H) : SF f A U H := by
  have hal : u.vm.Alike U.vm := by rw [hv]; exact Vm.Alike.refl _
  obtain ⟨h1, h2, h3, h4, h5⟩ := h
  exact ⟨h1.moved hal, h2.moved hal, h3.imp (fun h => h.moved hal) (fun h => h.moved hal), fun k q hk => (h4 k q hk).same hv, h5.same hv⟩
/-- all that stays the same in a method's body -/
abbrev Gt : Type := Program × Launch × Env × Room × State × MethodId × Array Value × List Frame × Method × Code × va_G × (Nat → ClassId) × (Nat → Prop) × (Nat → Nat) × List Nat × (State → Prop) × Nat
def Rr (G : Gt) (pc : Nat) (ls : List (Nat × V)) (st : List V) (h : Hp) : Prop := match G with
  | (p, l, e, R, s, m, args, below, meth, c, D, dA, A, f0, al0, Q, nL) =>
    ∀ (f : Nat → Nat) (H : Heap) (locs : List Loc) (LS : Array Slot), (∀ a, a < al0.length ∨ 1000 ≤ a → f a = f0 a) → al0 <+: xK h → GoodAl (xK h) → va_P D vwCl (wd dA f h) H → va_D A (wd dA f h) → va_S A s.heap H locs → lv_has LS nL (lrep f ls) → wl (xK h) ls → ws9 (xK h) st →
      W p l e R s m args below meth c H locs ((xK h).length - al0.length) (slo (xK h) - slo al0) Q (F0 m pc LS (st.map (rep f)))
/-- what stands at a method's entry -/
def Cx (G : Gt) (cc : ByteArray) (nL : Nat) (own : String) : Prop := match G with
  | (p, l, e, R, s, m, args, below, meth, c, D, dA, A, f0, al0, Q, nL') =>
    nL' = nL ∧ p.tables.exec = Jvm.exec ∧ c.code = cc ∧ c.maxLocals = nL ∧ s.vm.findClass own = some m.cls ∧ (∀ w ∈ lw_g, w.before args s = true) ∧ meth.locks = false ∧ va_K D vwCl (tysD dA) s ∧ (∀ q : Nat, s.heap.size ≤ q → A q) ∧ SF f0 A s s.heap
section ROWS
variable {G : Gt} {cc : ByteArray} {nL pc : Nat} {own : String} {ls : List (Nat × V)} {st : List V} {h : Hp}
/-- a row of the kit's that changes neither heap nor locals -/
theorem r_of {pc2 : Nat} {ls2 : List (Nat × V)} {st2 : List V} (C : Cx G cc nL own)
    (k : ∀ (f : Nat → Nat) (H : Heap) (locs : List Loc) (LS : Array Slot) (cells slots : Nat), match G with
      | (p, l, e, R, s, m, args, below, meth, c, D, dA, A, f0, al0, Q, nL) => GoodAl (xK h) → va_P D vwCl (wd dA f h) H → va_D A (wd dA f h) → va_S A s.heap H locs → lv_has LS nL (lrep f ls) → wl (xK h) ls → ws9 (xK h) st → p.tables.exec = Jvm.exec → c.code = cc → s.vm.findClass own = some m.cls → (∀ w ∈ lw_g, w.before args s = true) → va_K D vwCl (tysD dA) s →
        lv_has LS nL (lrep f ls2) ∧ wl (xK h) ls2 ∧ ws9 (xK h) st2 ∧ (W p l e R s m args below meth c H locs cells slots Q (F0 m pc2 LS (st2.map (rep f))) → W p l e R s m args below meth c H locs cells slots Q (F0 m pc LS (st.map (rep f)))))
    (kk : Rr G pc2 ls2 st2 h) : Rr G pc ls st h := by
  obtain ⟨p, l, e, R, s, m, args, below, meth, c, D, dA, A, f0, al0, Q, nL'⟩ := G
  obtain ⟨rfl, hx, hb, hml, hown, hts, hlk, hK, hAz, hSF⟩ := C
  intro f H locs LS h1 h2 h3 hP hD hS hl hw1 hw2
  obtain ⟨k1, k2, k3, k4⟩ := k f H locs LS _ _ h3 hP hD hS hl hw1 hw2 hx hb hown hts hK
  exact k4 (kk f H locs LS h1 h2 h3 hP hD hS k1 k2 k3)
/-- .. of operands alone -/
theorem r_op {pc2 : Nat} {st2 : List V} (C : Cx G cc nL own) (hw : ∀ al, ws9 al st → ws9 al st2)
    (k : ∀ {p : Program} {l : Launch} {e : Env} {R : Room} {s : State} {m : MethodId} {args : Array Value} {below : List Frame} {meth : Method} {c : Code} {H : Heap} {locs : List Loc} {cells slots : Nat} {Q : State → Prop} {LS : Array Slot} (f : Nat → Nat), p.tables.exec = Jvm.exec → c.code = cc →
      W p l e R s m args below meth c H locs cells slots Q (F0 m pc2 LS (st2.map (rep f))) → W p l e R s m args below meth c H locs cells slots Q (F0 m pc LS (st.map (rep f))))
    (kk : Rr G pc2 ls st2 h) : Rr G pc ls st h := by
  refine r_of (ls2 := ls) C ?_ kk
  intro f H locs LS cells slots
  obtain ⟨p, l, e, R, s, m, args, below, meth, c, D, dA, A, f0, al0, Q, nL'⟩ := G
  intro _ _ _ _ hl hw1 hw2 hx hb _ _ _
  exact ⟨hl, hw1, hw _ hw2, k f hx hb⟩
theorem w_1 {al : List Nat} {x : Int32} {st : List V} (h : ws9 al st) : ws9 al (vi x :: st) := fun q hq => by
  rcases List.mem_cons.mp hq with rfl | hq
  · trivial
  · exact h q hq
theorem w_L {al : List Nat} {x : Int64} {st : List V} (h : ws9 al st) : ws9 al (vl x :: st) := fun q hq => by
  rcases List.mem_cons.mp hq with rfl | hq
  · trivial
  · exact h q hq
theorem w_c {al : List Nat} {v : V} {st : List V} (hv : wv al v) (h : ws9 al st) : ws9 al (v :: st) := fun q hq => by
  rcases List.mem_cons.mp hq with rfl | hq
  · exact hv
  · exact h q hq
theorem w_t {al : List Nat} {v : V} {st : List V} (h : ws9 al (v :: st)) : ws9 al st := fun q hq => h q (List.mem_cons_of_mem _ hq)
theorem w_h {al : List Nat} {v : V} {st : List V} (h : ws9 al (v :: st)) : wv al v := h v List.mem_cons_self
theorem r_iadd (C : Cx G cc nL own) {x y : Int32} (d : decode cc pc = .ok (.iadd, 1)) (kk : Rr G (pc + 1) ls (vi (x + y) :: st) h) : Rr G pc ls (vi y :: vi x :: st) h :=
  r_op C (fun al hw => w_1 (w_t (w_t hw))) (fun f hx hb k => lv_iadd hx hb d k) kk
theorem r_isub (C : Cx G cc nL own) {x y : Int32} (d : decode cc pc = .ok (.isub, 1)) (kk : Rr G (pc + 1) ls (vi (x - y) :: st) h) : Rr G pc ls (vi y :: vi x :: st) h :=
  r_op C (fun al hw => w_1 (w_t (w_t hw))) (fun f hx hb k => lv_isub hx hb d k) kk
theorem r_imul (C : Cx G cc nL own) {x y : Int32} (d : decode cc pc = .ok (.imul, 1)) (kk : Rr G (pc + 1) ls (vi (x * y) :: st) h) : Rr G pc ls (vi y :: vi x :: st) h :=
  r_op C (fun al hw => w_1 (w_t (w_t hw))) (fun f hx hb k => lv_imul hx hb d k) kk
theorem r_iand (C : Cx G cc nL own) {x y : Int32} (d : decode cc pc = .ok (.iand, 1)) (kk : Rr G (pc + 1) ls (vi (x &&& y) :: st) h) : Rr G pc ls (vi y :: vi x :: st) h :=
  r_op C (fun al hw => w_1 (w_t (w_t hw))) (fun f hx hb k => lv_iand hx hb d k) kk
theorem r_ior (C : Cx G cc nL own) {x y : Int32} (d : decode cc pc = .ok (.ior, 1)) (kk : Rr G (pc + 1) ls (vi (x ||| y) :: st) h) : Rr G pc ls (vi y :: vi x :: st) h :=
  r_op C (fun al hw => w_1 (w_t (w_t hw))) (fun f hx hb k => lv_ior hx hb d k) kk
theorem r_ixor (C : Cx G cc nL own) {x y : Int32} (d : decode cc pc = .ok (.ixor, 1)) (kk : Rr G (pc + 1) ls (vi (x ^^^ y) :: st) h) : Rr G pc ls (vi y :: vi x :: st) h :=
  r_op C (fun al hw => w_1 (w_t (w_t hw))) (fun f hx hb k => lv_ixor hx hb d k) kk
theorem r_ishl (C : Cx G cc nL own) {x y : Int32} (d : decode cc pc = .ok (.ishl, 1)) (kk : Rr G (pc + 1) ls (vi (x <<< (y &&& 31)) :: st) h) : Rr G pc ls (vi y :: vi x :: st) h :=
  r_op C (fun al hw => w_1 (w_t (w_t hw))) (fun f hx hb k => lv_ishl hx hb d k) kk
theorem r_ishr (C : Cx G cc nL own) {x y : Int32} (d : decode cc pc = .ok (.ishr, 1)) (kk : Rr G (pc + 1) ls (vi (x >>> (y &&& 31)) :: st) h) : Rr G pc ls (vi y :: vi x :: st) h :=
  r_op C (fun al hw => w_1 (w_t (w_t hw))) (fun f hx hb k => lv_ishr hx hb d k) kk
theorem r_irem (C : Cx G cc nL own) {x y : Int32} (d : decode cc pc = .ok (.irem, 1)) (hne : ¬ y = 0) (kk : Rr G (pc + 1) ls (vi (x - x / y * y) :: st) h) : Rr G pc ls (vi y :: vi x :: st) h :=
  r_op C (fun al hw => w_1 (w_t (w_t hw))) (fun f hx hb k => lv_irem hx hb d hne k) kk
theorem r_ineg (C : Cx G cc nL own) {x : Int32} (d : decode cc pc = .ok (.ineg, 1)) (kk : Rr G (pc + 1) ls (vi (-x) :: st) h) : Rr G pc ls (vi x :: st) h :=
  r_op C (fun al hw => w_1 (w_t hw)) (fun f hx hb k => lv_ineg hx hb d k) kk
theorem r_ladd (C : Cx G cc nL own) {x y : Int64} (d : decode cc pc = .ok (.ladd, 1)) (kk : Rr G (pc + 1) ls (vl (x + y) :: st) h) : Rr G pc ls (vl y :: vl x :: st) h :=
  r_op C (fun al hw => w_L (w_t (w_t hw))) (fun f hx hb k => lv_ladd hx hb d k) kk
theorem r_lsub (C : Cx G cc nL own) {x y : Int64} (d : decode cc pc = .ok (.lsub, 1)) (kk : Rr G (pc + 1) ls (vl (x - y) :: st) h) : Rr G pc ls (vl y :: vl x :: st) h :=
  r_op C (fun al hw => w_L (w_t (w_t hw))) (fun f hx hb k => lv_lsub hx hb d k) kk
theorem r_lmul (C : Cx G cc nL own) {x y : Int64} (d : decode cc pc = .ok (.lmul, 1)) (kk : Rr G (pc + 1) ls (vl (x * y) :: st) h) : Rr G pc ls (vl y :: vl x :: st) h :=
  r_op C (fun al hw => w_L (w_t (w_t hw))) (fun f hx hb k => lv_lmul hx hb d k) kk
theorem r_land (C : Cx G cc nL own) {x y : Int64} (d : decode cc pc = .ok (.land, 1)) (kk : Rr G (pc + 1) ls (vl (x &&& y) :: st) h) : Rr G pc ls (vl y :: vl x :: st) h :=
  r_op C (fun al hw => w_L (w_t (w_t hw))) (fun f hx hb k => lv_land hx hb d k) kk
theorem r_lor (C : Cx G cc nL own) {x y : Int64} (d : decode cc pc = .ok (.lor, 1)) (kk : Rr G (pc + 1) ls (vl (x ||| y) :: st) h) : Rr G pc ls (vl y :: vl x :: st) h :=
  r_op C (fun al hw => w_L (w_t (w_t hw))) (fun f hx hb k => lv_lor hx hb d k) kk
theorem r_i2l (C : Cx G cc nL own) {x : Int32} (d : decode cc pc = .ok (.i2l, 1)) (kk : Rr G (pc + 1) ls (vl x.toInt64 :: st) h) : Rr G pc ls (vi x :: st) h :=
  r_op C (fun al hw => w_L (w_t hw)) (fun f hx hb k => lv_i2l hx hb d rfl k) kk
theorem r_l2i (C : Cx G cc nL own) {x : Int64} (d : decode cc pc = .ok (.l2i, 1)) (kk : Rr G (pc + 1) ls (vi x.toInt32 :: st) h) : Rr G pc ls (vl x :: st) h :=
  r_op C (fun al hw => w_1 (w_t hw)) (fun f hx hb k => lv_l2i hx hb d rfl k) kk
theorem r_i2b (C : Cx G cc nL own) {x : Int32} (d : decode cc pc = .ok (.i2b, 1)) (kk : Rr G (pc + 1) ls (vi x.toInt8.toInt32 :: st) h) : Rr G pc ls (vi x :: st) h :=
  r_op C (fun al hw => w_1 (w_t hw)) (fun f hx hb k => lv_i2b hx hb d rfl k) kk
theorem r_i2s (C : Cx G cc nL own) {x : Int32} (d : decode cc pc = .ok (.i2s, 1)) (kk : Rr G (pc + 1) ls (vi x.toInt16.toInt32 :: st) h) : Rr G pc ls (vi x :: st) h :=
  r_op C (fun al hw => w_1 (w_t hw)) (fun f hx hb k => lv_i2s hx hb d rfl k) kk
theorem r_iushr (C : Cx G cc nL own) {x y : Int32} (d : decode cc pc = .ok (.iushr, 1)) (kk : Rr G (pc + 1) ls (vi ((x.toUInt32 >>> (y.toUInt32 &&& Int32.toUInt32 31)).toInt32) :: st) h) : Rr G pc ls (vi y :: vi x :: st) h :=
  r_op C (fun al hw => w_1 (w_t (w_t hw))) (fun f hx hb k => lv_iushr hx hb d rfl k) kk
theorem r_lshl (C : Cx G cc nL own) {x : Int64} {y : Int32} (d : decode cc pc = .ok (.lshl, 1)) (kk : Rr G (pc + 1) ls (vl (x <<< (y.toInt64 &&& 63)) :: st) h) : Rr G pc ls (vi y :: vl x :: st) h :=
  r_op C (fun al hw => w_L (w_t (w_t hw))) (fun f hx hb k => lv_lshl hx hb d rfl k) kk
theorem r_lcmp (C : Cx G cc nL own) {x y : Int64} (d : decode cc pc = .ok (.lcmp, 1)) (kk : Rr G (pc + 1) ls (vi (lg_cmp x y) :: st) h) : Rr G pc ls (vl y :: vl x :: st) h :=
  r_op C (fun al hw => w_1 (w_t (w_t hw))) (fun f hx hb k => W.lcmp hx hb d k) kk
theorem r_iconst (C : Cx G cc nL own) {n : Int} {v : Int32} (d : decode cc pc = .ok (.iconst n, 1)) (hv : Int32.ofInt n = v) (kk : Rr G (pc + 1) ls (vi v :: st) h) : Rr G pc ls (st) h :=
  r_op C (fun al hw => w_1 hw) (fun f hx hb k => lv_iconst hx hb d hv k) kk
theorem r_bipush (C : Cx G cc nL own) {n : Int} {v : Int32} (d : decode cc pc = .ok (.bipush n, 2)) (hv : (Int8.ofInt n).toInt32 = v) (kk : Rr G (pc + 2) ls (vi v :: st) h) : Rr G pc ls (st) h :=
  r_op C (fun al hw => w_1 hw) (fun f hx hb k => lv_bipush hx hb d hv k) kk
theorem r_sipush (C : Cx G cc nL own) {n : Int} {v : Int32} (d : decode cc pc = .ok (.sipush n, 3)) (hv : (Int16.ofInt n).toInt32 = v) (kk : Rr G (pc + 3) ls (vi v :: st) h) : Rr G pc ls (st) h :=
  r_op C (fun al hw => w_1 hw) (fun f hx hb k => lv_sipush hx hb d hv k) kk
theorem r_lconst (C : Cx G cc nL own) {n : Fin 2} {v : Int64} (d : decode cc pc = .ok (.lconst n, 1)) (hv : Int64.ofNat (n : Nat) = v) (kk : Rr G (pc + 1) ls (vl v :: st) h) : Rr G pc ls (st) h :=
  r_op C (fun al hw => w_L hw) (fun f hx hb k => lv_lconst hx hb d hv k) kk
theorem r_dupR (C : Cx G cc nL own) {q a : Nat} (d : decode cc pc = .ok (.dup, 1)) (kk : Rr G (pc + 1) ls (vr q a :: vr q a :: st) h) : Rr G pc ls (vr q a :: st) h :=
  r_op C (fun al hw => w_c (w_h hw) hw) (fun f hx hb k => lv_dup hx hb d rfl k) kk
theorem r_popI (C : Cx G cc nL own) {x : Int32} (d : decode cc pc = .ok (.pop, 1)) (kk : Rr G (pc + 1) ls (st) h) : Rr G pc ls (vi x :: st) h :=
  r_op C (fun al hw => w_t hw) (fun f hx hb k => lv_pop hx hb d rfl k) kk
theorem r_dup2 (C : Cx G cc nL own) {x : Int32} {q a : Nat} (d : decode cc pc = .ok (.dup2, 1)) (kk : Rr G (pc + 1) ls (vi x :: vr q a :: vi x :: vr q a :: st) h) : Rr G pc ls (vi x :: vr q a :: st) h :=
  r_op C (fun al hw => w_1 (w_c (w_h (w_t hw)) hw)) (fun f hx hb k => lv_dup2_11 hx hb d rfl rfl k) kk
theorem r_dup_x1 (C : Cx G cc nL own) {x : Int32} {q a : Nat} (d : decode cc pc = .ok (.dup_x1, 1)) (kk : Rr G (pc + 1) ls (vi x :: vr q a :: vi x :: st) h) : Rr G pc ls (vi x :: vr q a :: st) h :=
  r_op C (fun al hw => w_1 (w_c (w_h (w_t hw)) (w_1 (w_t (w_t hw))))) (fun f hx hb k => lv_dup_x1 hx hb d rfl rfl k) kk
/-- a branch -/
theorem r_br {P : Prop} {pc1 pc2 : Nat} {st2 : List V} (C : Cx G cc nL own) (hw : ∀ al, ws9 al st → ws9 al st2)
    (k : ∀ {p : Program} {l : Launch} {e : Env} {R : Room} {s : State} {m : MethodId} {args : Array Value} {below : List Frame} {meth : Method} {c : Code} {H : Heap} {locs : List Loc} {cells slots : Nat} {Q : State → Prop} {LS : Array Slot} (f : Nat → Nat), p.tables.exec = Jvm.exec → c.code = cc →
      (P → W p l e R s m args below meth c H locs cells slots Q (F0 m pc1 LS (st2.map (rep f)))) → (¬ P → W p l e R s m args below meth c H locs cells slots Q (F0 m pc2 LS (st2.map (rep f)))) → W p l e R s m args below meth c H locs cells slots Q (F0 m pc LS (st.map (rep f))))
    (k1 : P → Rr G pc1 ls st2 h) (k2 : ¬ P → Rr G pc2 ls st2 h) : Rr G pc ls st h := by
  by_cases hp : P
  · refine r_op C hw (fun f hx hb k3 => ?_) (k1 hp)
    exact k f hx hb (fun _ => k3) (fun hn => absurd hp hn)
  · refine r_op C hw (fun f hx hb k3 => ?_) (k2 hp)
    exact k f hx hb (fun q => absurd q hp) (fun _ => k3)
theorem r_if_eq (C : Cx G cc nL own) {x : Int32} {off : Int} {tgt : Nat} (d : decode cc pc = .ok (.ifCond .eq off, 3)) (ht : (pc : Int) + off = (tgt : Int)) (k1 : (x = 0) → Rr G tgt ls st h) (k2 : ¬ (x = 0) → Rr G (pc + 3) ls st h) : Rr G pc ls (vi x :: st) h :=
  r_br C (fun al hw => w_t hw) (fun f hx hb q1 q2 => lv_if_eq hx hb d ht q1 q2) k1 k2
theorem r_icmp_eq (C : Cx G cc nL own) {x y : Int32} {off : Int} {tgt : Nat} (d : decode cc pc = .ok (.if_icmp .eq off, 3)) (ht : (pc : Int) + off = (tgt : Int)) (k1 : (x = y) → Rr G tgt ls st h) (k2 : ¬ (x = y) → Rr G (pc + 3) ls st h) : Rr G pc ls (vi y :: vi x :: st) h :=
  r_br C (fun al hw => w_t (w_t hw)) (fun f hx hb q1 q2 => lv_icmp_eq hx hb d ht q1 q2) k1 k2
theorem r_if_ne (C : Cx G cc nL own) {x : Int32} {off : Int} {tgt : Nat} (d : decode cc pc = .ok (.ifCond .ne off, 3)) (ht : (pc : Int) + off = (tgt : Int)) (k1 : ¬ x = 0 → Rr G tgt ls st h) (k2 : x = 0 → Rr G (pc + 3) ls st h) : Rr G pc ls (vi x :: st) h :=
  r_br C (fun al hw => w_t hw) (fun f hx hb q1 q2 => lv_if_ne hx hb d ht q2 q1) k2 k1
theorem r_icmp_ne (C : Cx G cc nL own) {x y : Int32} {off : Int} {tgt : Nat} (d : decode cc pc = .ok (.if_icmp .ne off, 3)) (ht : (pc : Int) + off = (tgt : Int)) (k1 : ¬ x = y → Rr G tgt ls st h) (k2 : x = y → Rr G (pc + 3) ls st h) : Rr G pc ls (vi y :: vi x :: st) h :=
  r_br C (fun al hw => w_t (w_t hw)) (fun f hx hb q1 q2 => lv_icmp_ne hx hb d ht q2 q1) k2 k1
theorem r_if_lt (C : Cx G cc nL own) {x : Int32} {off : Int} {tgt : Nat} (d : decode cc pc = .ok (.ifCond .lt off, 3)) (ht : (pc : Int) + off = (tgt : Int)) (k1 : (x < 0) → Rr G tgt ls st h) (k2 : ¬ (x < 0) → Rr G (pc + 3) ls st h) : Rr G pc ls (vi x :: st) h :=
  r_br C (fun al hw => w_t hw) (fun f hx hb q1 q2 => lv_if_lt hx hb d ht q1 q2) k1 k2
theorem r_icmp_lt (C : Cx G cc nL own) {x y : Int32} {off : Int} {tgt : Nat} (d : decode cc pc = .ok (.if_icmp .lt off, 3)) (ht : (pc : Int) + off = (tgt : Int)) (k1 : (x < y) → Rr G tgt ls st h) (k2 : ¬ (x < y) → Rr G (pc + 3) ls st h) : Rr G pc ls (vi y :: vi x :: st) h :=
  r_br C (fun al hw => w_t (w_t hw)) (fun f hx hb q1 q2 => lv_icmp_lt hx hb d ht q1 q2) k1 k2
theorem r_if_ge (C : Cx G cc nL own) {x : Int32} {off : Int} {tgt : Nat} (d : decode cc pc = .ok (.ifCond .ge off, 3)) (ht : (pc : Int) + off = (tgt : Int)) (k1 : (0 ≤ x) → Rr G tgt ls st h) (k2 : ¬ (0 ≤ x) → Rr G (pc + 3) ls st h) : Rr G pc ls (vi x :: st) h :=
  r_br C (fun al hw => w_t hw) (fun f hx hb q1 q2 => lv_if_ge hx hb d ht q1 q2) k1 k2
theorem r_icmp_ge (C : Cx G cc nL own) {x y : Int32} {off : Int} {tgt : Nat} (d : decode cc pc = .ok (.if_icmp .ge off, 3)) (ht : (pc : Int) + off = (tgt : Int)) (k1 : (y ≤ x) → Rr G tgt ls st h) (k2 : ¬ (y ≤ x) → Rr G (pc + 3) ls st h) : Rr G pc ls (vi y :: vi x :: st) h :=
  r_br C (fun al hw => w_t (w_t hw)) (fun f hx hb q1 q2 => lv_icmp_ge hx hb d ht q1 q2) k1 k2
theorem r_if_gt (C : Cx G cc nL own) {x : Int32} {off : Int} {tgt : Nat} (d : decode cc pc = .ok (.ifCond .gt off, 3)) (ht : (pc : Int) + off = (tgt : Int)) (k1 : (0 < x) → Rr G tgt ls st h) (k2 : ¬ (0 < x) → Rr G (pc + 3) ls st h) : Rr G pc ls (vi x :: st) h :=
  r_br C (fun al hw => w_t hw) (fun f hx hb q1 q2 => lv_if_gt hx hb d ht q1 q2) k1 k2
theorem r_icmp_gt (C : Cx G cc nL own) {x y : Int32} {off : Int} {tgt : Nat} (d : decode cc pc = .ok (.if_icmp .gt off, 3)) (ht : (pc : Int) + off = (tgt : Int)) (k1 : (y < x) → Rr G tgt ls st h) (k2 : ¬ (y < x) → Rr G (pc + 3) ls st h) : Rr G pc ls (vi y :: vi x :: st) h :=
  r_br C (fun al hw => w_t (w_t hw)) (fun f hx hb q1 q2 => lv_icmp_gt hx hb d ht q1 q2) k1 k2
theorem r_if_le (C : Cx G cc nL own) {x : Int32} {off : Int} {tgt : Nat} (d : decode cc pc = .ok (.ifCond .le off, 3)) (ht : (pc : Int) + off = (tgt : Int)) (k1 : (x ≤ 0) → Rr G tgt ls st h) (k2 : ¬ (x ≤ 0) → Rr G (pc + 3) ls st h) : Rr G pc ls (vi x :: st) h :=
  r_br C (fun al hw => w_t hw) (fun f hx hb q1 q2 => lv_if_le hx hb d ht q1 q2) k1 k2
theorem r_icmp_le (C : Cx G cc nL own) {x y : Int32} {off : Int} {tgt : Nat} (d : decode cc pc = .ok (.if_icmp .le off, 3)) (ht : (pc : Int) + off = (tgt : Int)) (k1 : (x ≤ y) → Rr G tgt ls st h) (k2 : ¬ (x ≤ y) → Rr G (pc + 3) ls st h) : Rr G pc ls (vi y :: vi x :: st) h :=
  r_br C (fun al hw => w_t (w_t hw)) (fun f hx hb q1 q2 => lv_icmp_le hx hb d ht q1 q2) k1 k2
theorem r_goto (C : Cx G cc nL own) {off : Int} {tgt : Nat} (d : decode cc pc = .ok (.goto off, 3)) (ht : (pc : Int) + off = (tgt : Int)) (kk : Rr G tgt ls st h) : Rr G pc ls st h :=
  r_op C (fun al hw => hw) (fun f hx hb k => lv_goto hx hb d ht k) kk
/-! locals -/
def lkv (i : Nat) : List (Nat × V) → Option V
  | [] => none
  | (j, v) :: t => if Nat.beq j i then some v else lkv i t
theorem lkv_mem {i : Nat} {v : V} : ∀ {ls : List (Nat × V)}, lkv i ls = some v → (i, v) ∈ ls
  | (j, w) :: t, h => by
    unfold lkv at h
    by_cases hj : Nat.beq j i = true
    · rw [if_pos hj] at h
      rw [Nat.beq_eq] at hj
      subst hj
      cases h
      exact List.mem_cons_self
    · rw [if_neg hj] at h
      exact List.mem_cons_of_mem _ (lkv_mem h)
theorem lkv_slot {i nL : Nat} {v : V} {ls : List (Nat × V)} {LS : Array Slot} {f : Nat → Nat} (hl : lv_has LS nL (lrep f ls)) (h : lkv i ls = some v) : LS[i]? = some (.val (rep f v)) :=
  hl.2.2 (i, rep f v) (List.mem_map.mpr ⟨(i, v), lkv_mem h, rfl⟩)
def cat2 : V → Bool
  | .inr (.inl _) => true
  | _ => false
def lpick (l : List (Nat × V)) (ks : List Nat) : List (Nat × V) := ks.filterMap (fun k => l[k]?)
theorem lpick_mem {l : List (Nat × V)} {ks : List Nat} {q : Nat × V} (h : q ∈ lpick l ks) : q ∈ l := by
  obtain ⟨k, -, hk⟩ := List.mem_filterMap.mp h
  exact List.mem_of_getElem? hk
/-- locals behind a store: of an int or a cell; of a long -/
def stv (i : Nat) (v : V) (ls : List (Nat × V)) : List (Nat × V) := (i, v) :: ls.filter (fun q => !(Nat.beq q.1 i) && !(Nat.beq (q.1 + 1) i && cat2 q.2))
def stw (i : Nat) (v : V) (ls : List (Nat × V)) : List (Nat × V) := (i, v) :: ls.filter (fun q => !(Nat.beq q.1 i) && (!(Nat.beq q.1 (i + 1)) && !(Nat.beq (q.1 + 1) i && cat2 q.2)))
theorem beq_nat (a b : Nat) : (a == b) = Nat.beq a b := by
  rw [Bool.eq_iff_iff, Nat.beq_eq, beq_iff_eq]
theorem cat_rep (f : Nat → Nat) (v : V) : ((rep f v).category == 2) = cat2 v := by
  rcases v with x | x | q | q | a
  · rfl
  · rfl
  · rfl
  · show ((if q.2 = 0 then Value.null else Value.ref (f (q.2 - 1))).category == 2) = false
    split <;> rfl
  · rfl
theorem stv_rep (f : Nat → Nat) (i : Nat) (v : V) (ls : List (Nat × V)) : (i, rep f v) :: (lrep f ls).filter (fun q => !(q.1 == i) && !(q.1 + 1 == i && q.2.category == 2)) = lrep f (stv i v ls) := by
  unfold lrep stv
  rw [List.map_cons, List.filter_map]
  congr 2
  apply List.filter_congr
  intro q _
  show (!(q.1 == i) && !(q.1 + 1 == i && (rep f q.2).category == 2)) = _
  rw [cat_rep, beq_nat, beq_nat]
theorem stw_rep (f : Nat → Nat) (i : Nat) (v : V) (ls : List (Nat × V)) : (i, rep f v) :: (lrep f ls).filter (fun q => !(q.1 == i) && (!(q.1 == i + 1) && !(q.1 + 1 == i && q.2.category == 2))) = lrep f (stw i v ls) := by
  unfold lrep stw
  rw [List.map_cons, List.filter_map]
  congr 2
  apply List.filter_congr
  intro q _
  show (!(q.1 == i) && (!(q.1 == i + 1) && !(q.1 + 1 == i && (rep f q.2).category == 2))) = _
  rw [cat_rep, beq_nat, beq_nat, beq_nat]
theorem wl_stv {al : List Nat} {i : Nat} {v : V} {ls : List (Nat × V)} (hv : wv al v) (h : wl al ls) : wl al (stv i v ls) := fun q hq => by
  rcases List.mem_cons.mp hq with rfl | hq
  · exact hv
  · exact h q (List.mem_filter.mp hq).1
theorem wl_stw {al : List Nat} {i : Nat} {v : V} {ls : List (Nat × V)} (hv : wv al v) (h : wl al ls) : wl al (stw i v ls) := fun q hq => by
  rcases List.mem_cons.mp hq with rfl | hq
  · exact hv
  · exact h q (List.mem_filter.mp hq).1
theorem lv_less {LS : Array Slot} {nL : Nat} {f : Nat → Nat} {l l' : List (Nat × V)} (h : lv_has LS nL (lrep f l)) (hs : ∀ q ∈ l', q ∈ l) : lv_has LS nL (lrep f l') :=
  ⟨h.1, h.2.1, fun q hq => by
    obtain ⟨q0, h0, rfl⟩ := List.mem_map.mp hq
    exact h.2.2 _ (List.mem_map.mpr ⟨q0, hs q0 h0, rfl⟩)⟩
theorem r_weak {ls' : List (Nat × V)} (C : Cx G cc nL own) (ks : List Nat) (hk : lpick ls ks = ls') (kk : Rr G pc ls' st h) : Rr G pc ls st h := by
  subst hk
  refine r_of (st2 := st) C ?_ kk
  intro f H locs LS cells slots
  obtain ⟨p, l, e, R, s, m, args, below, meth, c, D, dA, A, f0, al0, Q, nL'⟩ := G
  intro _ _ _ _ hl hw1 hw2 hx hb _ _ _
  exact ⟨lv_less hl (fun q hq => lpick_mem hq), fun q hq => hw1 q (lpick_mem hq), hw2, fun k => k⟩
/-- a load -/
theorem r_ld {v : V} {i dl : Nat} (C : Cx G cc nL own) (hv : lkv i ls = some v)
    (k : ∀ {p : Program} {l : Launch} {e : Env} {R : Room} {s : State} {m : MethodId} {args : Array Value} {below : List Frame} {meth : Method} {c : Code} {H : Heap} {locs : List Loc} {cells slots : Nat} {Q : State → Prop} {LS : Array Slot} {rest : List Value} (f : Nat → Nat), p.tables.exec = Jvm.exec → c.code = cc → LS[i]? = some (.val (rep f v)) →
      W p l e R s m args below meth c H locs cells slots Q (F0 m (pc + dl) LS (rep f v :: rest)) → W p l e R s m args below meth c H locs cells slots Q (F0 m pc LS rest))
    (kk : Rr G (pc + dl) ls (v :: st) h) : Rr G pc ls st h := by
  refine r_of (ls2 := ls) C ?_ kk
  intro f H locs LS cells slots
  obtain ⟨p, l, e, R, s, m, args, below, meth, c, D, dA, A, f0, al0, Q, nL'⟩ := G
  intro _ _ _ _ hl hw1 hw2 hx hb _ _ _
  exact ⟨hl, hw1, w_c (hw1 _ (lkv_mem hv)) hw2, k f hx hb (lkv_slot hl hv)⟩
theorem r_iload_n (C : Cx G cc nL own) {k : Fin 4} {x : Int32} (d : decode cc pc = .ok (.iload_n k, 1)) (hl : lkv k ls = some (vi x)) (kk : Rr G (pc + 1) ls (vi x :: st) h) : Rr G pc ls st h :=
  r_ld C hl (fun f hx hb q k => lv_iload_n hx hb d rfl q k) kk
theorem r_iload (C : Cx G cc nL own) {i : Nat} {x : Int32} (d : decode cc pc = .ok (.iload i, 2)) (hl : lkv i ls = some (vi x)) (kk : Rr G (pc + 2) ls (vi x :: st) h) : Rr G pc ls st h :=
  r_ld C hl (fun f hx hb q k => lv_iload hx hb d q k) kk
theorem r_lload_n (C : Cx G cc nL own) {k : Fin 4} {x : Int64} (d : decode cc pc = .ok (.lload_n k, 1)) (hl : lkv k ls = some (vl x)) (kk : Rr G (pc + 1) ls (vl x :: st) h) : Rr G pc ls st h :=
  r_ld C hl (fun f hx hb q k => lv_lload_n hx hb d rfl q k) kk
theorem r_lload (C : Cx G cc nL own) {i : Nat} {x : Int64} (d : decode cc pc = .ok (.lload i, 2)) (hl : lkv i ls = some (vl x)) (kk : Rr G (pc + 2) ls (vl x :: st) h) : Rr G pc ls st h :=
  r_ld C hl (fun f hx hb q k => lv_lload hx hb d q k) kk
theorem r_aload_n (C : Cx G cc nL own) {k : Fin 4} {q a : Nat} (d : decode cc pc = .ok (.aload_n k, 1)) (hl : lkv k ls = some (vr q a)) (kk : Rr G (pc + 1) ls (vr q a :: st) h) : Rr G pc ls st h :=
  r_ld C hl (fun f hx hb q k => lv_aload_n hx hb d rfl q k) kk
theorem r_aload (C : Cx G cc nL own) {i q a : Nat} (d : decode cc pc = .ok (.aload i, 2)) (hl : lkv i ls = some (vr q a)) (kk : Rr G (pc + 2) ls (vr q a :: st) h) : Rr G pc ls st h :=
  r_ld C hl (fun f hx hb q k => lv_aload hx hb d q k) kk
theorem r_aload_nT (C : Cx G cc nL own) {k : Fin 4} {a : Nat} (d : decode cc pc = .ok (.aload_n k, 1)) (hl : lkv k ls = some (vt a)) (kk : Rr G (pc + 1) ls (vt a :: st) h) : Rr G pc ls st h :=
  r_ld C hl (fun f hx hb q k => lv_aload_n hx hb d rfl q k) kk
/-- a store -/
theorem r_sto {v : V} {dl : Nat} {ls1 ls' : List (Nat × V)} (C : Cx G cc nL own) (ks : List Nat) (hk : lpick ls1 ks = ls') (hw1 : ∀ al, wv al v → wl al ls → wl al ls1)
    (k : ∀ {p : Program} {l : Launch} {e : Env} {R : Room} {s : State} {m : MethodId} {args : Array Value} {below : List Frame} {meth : Method} {c : Code} {H : Heap} {locs : List Loc} {cells slots : Nat} {Q : State → Prop} {LS : Array Slot} {rest : List Value} (f : Nat → Nat), p.tables.exec = Jvm.exec → c.code = cc → lv_has LS nL (lrep f ls) →
      (∀ LS' : Array Slot, lv_has LS' nL (lrep f ls1) → W p l e R s m args below meth c H locs cells slots Q (F0 m (pc + dl) LS' rest)) → W p l e R s m args below meth c H locs cells slots Q (F0 m pc LS (rep f v :: rest)))
    (kk : Rr G (pc + dl) ls' st h) : Rr G pc ls (v :: st) h := by
  subst hk
  obtain ⟨p, l, e, R, s, m, args, below, meth, c, D, dA, A, f0, al0, Q, nL'⟩ := G
  obtain ⟨rfl, hx, hb, hml, hown, hts, hlk, hK, hAz, hSF⟩ := C
  intro f H locs LS h1 h2 h3 hP hD hS hl w1 w2
  refine k f hx hb hl fun LS' hl' => ?_
  have w3 := hw1 _ (w_h w2) w1
  exact kk f H locs LS' h1 h2 h3 hP hD hS (lv_less hl' (fun q hq => lpick_mem hq)) (fun q hq => w3 q (lpick_mem hq)) (w_t w2)
theorem r_istore_n (C : Cx G cc nL own) {k : Fin 4} {x : Int32} {ls' : List (Nat × V)} (d : decode cc pc = .ok (.istore_n k, 1)) (hn : (k : Nat) < nL) (ks : List Nat) (hk : lpick (stv k (vi x) ls) ks = ls') (kk : Rr G (pc + 1) ls' st h) : Rr G pc ls (vi x :: st) h :=
  r_sto C ks hk (fun al hv hw => wl_stv hv hw) (fun f hx hb hl q => lv_istore_n hx hb d rfl hl hn (stv_rep f k (vi x) ls) q) kk
theorem r_istore (C : Cx G cc nL own) {i : Nat} {x : Int32} {ls' : List (Nat × V)} (d : decode cc pc = .ok (.istore i, 2)) (hn : i < nL) (ks : List Nat) (hk : lpick (stv i (vi x) ls) ks = ls') (kk : Rr G (pc + 2) ls' st h) : Rr G pc ls (vi x :: st) h :=
  r_sto C ks hk (fun al hv hw => wl_stv hv hw) (fun f hx hb hl q => lv_istore hx hb d hl hn (stv_rep f i (vi x) ls) q) kk
theorem r_lstore_n (C : Cx G cc nL own) {k : Fin 4} {x : Int64} {ls' : List (Nat × V)} (d : decode cc pc = .ok (.lstore_n k, 1)) (hn : (k : Nat) + 1 < nL) (ks : List Nat) (hk : lpick (stw k (vl x) ls) ks = ls') (kk : Rr G (pc + 1) ls' st h) : Rr G pc ls (vl x :: st) h :=
  r_sto C ks hk (fun al hv hw => wl_stw hv hw) (fun f hx hb hl q => lv_lstore_n hx hb d rfl hl hn (stw_rep f k (vl x) ls) q) kk
theorem r_lstore (C : Cx G cc nL own) {i : Nat} {x : Int64} {ls' : List (Nat × V)} (d : decode cc pc = .ok (.lstore i, 2)) (hn : i + 1 < nL) (ks : List Nat) (hk : lpick (stw i (vl x) ls) ks = ls') (kk : Rr G (pc + 2) ls' st h) : Rr G pc ls (vl x :: st) h :=
  r_sto C ks hk (fun al hv hw => wl_stw hv hw) (fun f hx hb hl q => lv_lstore hx hb d hl hn (stw_rep f i (vl x) ls) q) kk
theorem r_astore_n (C : Cx G cc nL own) {k : Fin 4} {q a : Nat} {ls' : List (Nat × V)} (d : decode cc pc = .ok (.astore_n k, 1)) (hn : (k : Nat) < nL) (ks : List Nat) (hk : lpick (stv k (vr q a) ls) ks = ls') (kk : Rr G (pc + 1) ls' st h) : Rr G pc ls (vr q a :: st) h :=
  r_sto C ks hk (fun al hv hw => wl_stv hv hw) (fun f hx hb hl z => lv_astore_n hx hb d rfl hl hn (stv_rep f k (vr q a) ls) z) kk
theorem r_astore (C : Cx G cc nL own) {i : Nat} {q a : Nat} {ls' : List (Nat × V)} (d : decode cc pc = .ok (.astore i, 2)) (hn : i < nL) (ks : List Nat) (hk : lpick (stv i (vr q a) ls) ks = ls') (kk : Rr G (pc + 2) ls' st h) : Rr G pc ls (vr q a :: st) h :=
  r_sto C ks hk (fun al hv hw => wl_stv hv hw) (fun f hx hb hl z => lv_astore hx hb d hl hn (stv_rep f i (vr q a) ls) z) kk
theorem r_iinc (C : Cx G cc nL own) {i : Nat} {n : Int} {x v : Int32} {ls' : List (Nat × V)} (d : decode cc pc = .ok (.iinc i n, 3)) (hl : lkv i ls = some (vi x)) (hv : x + Int32.ofInt n = v) (hn : i < nL) (ks : List Nat) (hk : lpick (stv i (vi v) ls) ks = ls') (kk : Rr G (pc + 3) ls' st h) : Rr G pc ls st h := by
  subst hk
  obtain ⟨p, l, e, R, s, m, args, below, meth, c, D, dA, A, f0, al0, Q, nL'⟩ := G
  obtain ⟨rfl, hx, hb, hml, hown, hts, hlk, hK, hAz, hSF⟩ := C
  intro f H locs LS h1 h2 h3 hP hD hS hL w1 w2
  obtain ⟨k0, hk0⟩ := List.getElem?_of_mem (show (i, Value.int x) ∈ lrep f ls from List.mem_map.mpr ⟨(i, vi x), lkv_mem hl, rfl⟩)
  refine lv_iinc hx hb d hL hk0 hv hn (stv_rep f i (vi v) ls) (fun LS' hl' => ?_)
  have w3 : wl (xK h) (stv i (vi v) ls) := wl_stv trivial w1
  exact kk f H locs LS' h1 h2 h3 hP hD hS (lv_less hl' (fun q hq => lpick_mem hq)) (fun q hq => w3 q (lpick_mem hq)) w2
/-! cells -/
theorem ent_obj {dA : Nat → ClassId} {f : Nat → Nat} {h : Hp} {k a : Nat} {L : List Fd3} (hL : fkL[k]? = some L) : ent dA f h k a = .inr (k, fvals f h a 0 L) := by
  unfold ent; rw [hL]
theorem ent_arr {dA : Nat → ClassId} {f : Nat → Nat} {h : Hp} {k a : Nat} {q : Fd3} (hL : fkL[k]? = none) (hq : akL[k - 20]? = some q) : ent dA f h k a = entA dA f h a q := by
  unfold ent; rw [hL]; simp [List.getD_eq_getElem?_getD, hq]
theorem fvals_at {f : Nat → Nat} {h : Hp} {a j : Nat} {L : List Fd3} {d : Fd3} (hj : L[j]? = some d) : (fvals f h a 0 L)[j]? = some (fval f h a j d) := by
  rw [fvals_get, hj, Nat.zero_add]; rfl
theorem r_getI (C : Cx G cc nL own) {k a j o k' N index : Nat} {C0 : String} {T : u_T} {L : List Fd3} {x : Int32} (hc : vwCl[k]? = some (C0, T, N)) (hL : fkL[k]? = some L) (hj : L[j]? = some (0, o, k')) (hjN : j < N) (hlk : Cond.fieldLink own index (T j).1 (T j).2.1 (T j).2.2.1 ∈ lw_g)
    (d : decode cc pc = .ok (.getfield index, 3)) (hx : xI h a j = x) (kk : Rr G (pc + 3) ls (vi x :: st) h) : Rr G pc ls (vr k a :: st) h := by
  subst hx
  refine r_of (ls2 := ls) C ?_ kk
  intro f H locs LS cells slots
  obtain ⟨p, l, e, R, s, m, args, below, meth, c, D, dA, A, f0, al0, Q, nL'⟩ := G
  intro _ hP _ _ hl hw1 hw2 hx hb hown hts hK
  refine ⟨hl, hw1, w_1 (w_t hw2), fun kk => ?_⟩
  exact va_get hx hb hts (cl_in hc) hown hK hP a ((wd_get dA f h (w_h hw2)).trans (by rw [ent_obj hL])) hc j hjN (hts _ hlk) (fun _ h9 => h9) (fvals_at hj) d kk
theorem r_getL (C : Cx G cc nL own) {k a j o k' N index : Nat} {C0 : String} {T : u_T} {L : List Fd3} {x : Int64} (hc : vwCl[k]? = some (C0, T, N)) (hL : fkL[k]? = some L) (hj : L[j]? = some (1, o, k')) (hjN : j < N) (hlk : Cond.fieldLink own index (T j).1 (T j).2.1 (T j).2.2.1 ∈ lw_g)
    (d : decode cc pc = .ok (.getfield index, 3)) (hx : xL h a j = x) (kk : Rr G (pc + 3) ls (vl x :: st) h) : Rr G pc ls (vr k a :: st) h := by
  subst hx
  refine r_of (ls2 := ls) C ?_ kk
  intro f H locs LS cells slots
  obtain ⟨p, l, e, R, s, m, args, below, meth, c, D, dA, A, f0, al0, Q, nL'⟩ := G
  intro _ hP _ _ hl hw1 hw2 hx hb hown hts hK
  refine ⟨hl, hw1, w_L (w_t hw2), fun kk => ?_⟩
  exact va_get hx hb hts (cl_in hc) hown hK hP a ((wd_get dA f h (w_h hw2)).trans (by rw [ent_obj hL])) hc j hjN (hts _ hlk) (fun _ h9 => h9) (fvals_at hj) d kk
theorem r_getP (C : Cx G cc nL own) {k a j o k' N index : Nat} {C0 : String} {T : u_T} {L : List Fd3} (hc : vwCl[k]? = some (C0, T, N)) (hL : fkL[k]? = some L) (hj : L[j]? = some (2, o, k')) (hjN : j < N) (hlk : Cond.fieldLink own index (T j).1 (T j).2.1 (T j).2.2.1 ∈ lw_g)
    (d : decode cc pc = .ok (.getfield index, 3)) (kk : Rr G (pc + 3) ls (vr k' (a + o) :: st) h) : Rr G pc ls (vr k a :: st) h := by
  refine r_of (ls2 := ls) C ?_ kk
  intro f H locs LS cells slots
  obtain ⟨p, l, e, R, s, m, args, below, meth, c, D, dA, A, f0, al0, Q, nL'⟩ := G
  intro hG hP _ _ hl hw1 hw2 hx hb hown hts hK
  refine ⟨hl, hw1, w_c ((hG a k (w_h hw2)).1 L hL j o k' hj) (w_t hw2), fun kk => ?_⟩
  exact va_get hx hb hts (cl_in hc) hown hK hP a ((wd_get dA f h (w_h hw2)).trans (by rw [ent_obj hL])) hc j hjN (hts _ hlk) (fun _ h9 => h9) (fvals_at hj) d kk
/-- what a heap must know for a cell or null in a field -/
theorem r_getN (C : Cx G cc nL own) {k a j o k' N index : Nat} {C0 : String} {T : u_T} {L : List Fd3} {x : Nat} (hc : vwCl[k]? = some (C0, T, N)) (hL : fkL[k]? = some L) (hj : L[j]? = some (3, o, k')) (hjN : j < N) (hlk : Cond.fieldLink own index (T j).1 (T j).2.1 (T j).2.2.1 ∈ lw_g)
    (d : decode cc pc = .ok (.getfield index, 3)) (hx : xN h a j = x) (hv : x = 0 ∨ (xK h)[x - 1]? = some k') (kk : Rr G (pc + 3) ls (vn k' x :: st) h) : Rr G pc ls (vr k a :: st) h := by
  subst hx
  refine r_of (ls2 := ls) C ?_ kk
  intro f H locs LS cells slots
  obtain ⟨p, l, e, R, s, m, args, below, meth, c, D, dA, A, f0, al0, Q, nL'⟩ := G
  intro hG hP _ _ hl hw1 hw2 hx hb hown hts hK
  refine ⟨hl, hw1, w_c hv (w_t hw2), fun kk => ?_⟩
  exact va_get hx hb hts (cl_in hc) hown hK hP a ((wd_get dA f h (w_h hw2)).trans (by rw [ent_obj hL])) hc j hjN (hts _ hlk) (fun _ h9 => h9) (fvals_at hj) d kk
/-- a cell or null that is a cell -/
theorem r_some (C : Cx G cc nL own) {k a : Nat} (kk : Rr G pc ls (vr k a :: st) h) : Rr G pc ls (vn k (a + 1) :: st) h := by
  refine r_of (ls2 := ls) C ?_ kk
  intro f H locs LS cells slots
  obtain ⟨p, l, e, R, s, m, args, below, meth, c, D, dA, A, f0, al0, Q, nL'⟩ := G
  intro hG hP _ _ hl hw1 hw2 hx hb hown hts hK
  have h1 : wv (xK h) (vr k a) := by
    rcases w_h hw2 with h0 | h0
    · exact absurd h0 (by simp)
    · simpa [wv] using h0
  exact ⟨hl, hw1, w_c h1 (w_t hw2), fun kk => by simpa [rep] using kk⟩
theorem fvals_sI {f : Nat → Nat} {h : Hp} {a j o k' : Nat} {x : Int32} {L : List Fd3} (hj : L[j]? = some (0, o, k')) : fvals f (sI h a j x) a 0 L = (fvals f h a 0 L).set j (.int x) := by
  apply List.ext_getElem?
  intro i
  by_cases hi : i = j
  · subst hi
    have hl : i < (fvals f h a 0 L).length := by rw [fvals_len]; exact (List.getElem?_eq_some_iff.mp hj).1
    rw [List.getElem?_set_self hl, fvals_at hj]
    simp [fval, sI, xI, upd]
  · rw [List.getElem?_set_ne (Ne.symm hi), fvals_get, fvals_get]
    congr 1
    funext d
    simp [fval, sI, xI, xL, xN, upd, hi]
theorem fvals_sL {f : Nat → Nat} {h : Hp} {a j o k' : Nat} {x : Int64} {L : List Fd3} (hj : L[j]? = some (1, o, k')) : fvals f (sL h a j x) a 0 L = (fvals f h a 0 L).set j (.long x) := by
  apply List.ext_getElem?
  intro i
  by_cases hi : i = j
  · subst hi
    have hl : i < (fvals f h a 0 L).length := by rw [fvals_len]; exact (List.getElem?_eq_some_iff.mp hj).1
    rw [List.getElem?_set_self hl, fvals_at hj]
    simp [fval, sL, xL, vp_updL]
  · rw [List.getElem?_set_ne (Ne.symm hi), fvals_get, fvals_get]
    congr 1
    funext d
    simp [fval, sL, xI, xL, xN, vp_updL, hi]
/-- a row that writes one cell -/
theorem r_put {st2 : List V} {pc2 a k : Nat} {h2 : Hp} (C : Cx G cc nL own) (hal : xK h2 = xK h) (ho : ∀ b, b ≠ a → xI h2 b = xI h b ∧ xL h2 b = xL h b ∧ xN h2 b = xN h b) (hw : ∀ al, ws9 al st → ws9 al st2) (hk : ∀ al, ws9 al st → al[a]? = some k)
    (kit : ∀ (f : Nat → Nat) (H : Heap) (locs : List Loc) (LS : Array Slot) (cells slots : Nat), match G with
      | (p, l, e, R, s, m, args, below, meth, c, D, dA, A, f0, al0, Q, nL) => va_P D vwCl (wd dA f h) H → va_D A (wd dA f h) → va_S A s.heap H locs → p.tables.exec = Jvm.exec → c.code = cc → s.vm.findClass own = some m.cls → (∀ w ∈ lw_g, w.before args s = true) → va_K D vwCl (tysD dA) s → (wd dA f h)[a]? = some (f a, ent dA f h k a) →
        (∀ (H1 : Heap) (locs1 : List Loc), va_P D vwCl ((wd dA f h).set a (f a, ent dA f h2 k a)) H1 → va_D A ((wd dA f h).set a (f a, ent dA f h2 k a)) → va_S A s.heap H1 locs1 → W p l e R s m args below meth c H1 locs1 cells slots Q (F0 m pc2 LS (st2.map (rep f)))) → W p l e R s m args below meth c H locs cells slots Q (F0 m pc LS (st.map (rep f))))
    (kk : Rr G pc2 ls st2 h2) : Rr G pc ls st h := by
  obtain ⟨p, l, e, R, s, m, args, below, meth, c, D, dA, A, f0, al0, Q, nL'⟩ := G
  obtain ⟨rfl, hx, hb, hml, hown, hts, hlk, hK, hAz, hSF⟩ := C
  intro f H locs LS h1 h2a h3 hP hD hS hl w1 w2
  have hka := hk _ w2
  refine kit f H locs LS _ _ hP hD hS hx hb hown hts hK (wd_get dA f h hka) (fun H1 locs1 hP1 hD1 hS1 => ?_)
  rw [wd_set hka hal ho rfl] at hP1 hD1
  have := kk f H1 locs1 LS h1 (by rw [hal]; exact h2a) (by rw [hal]; exact h3) hP1 hD1 hS1 hl (by rw [hal]; exact w1) (by rw [hal]; exact hw _ w2)
  rw [hal] at this
  exact this
theorem oth_sI {h : Hp} {a j : Nat} {x : Int32} : ∀ b, b ≠ a → xI (sI h a j x) b = xI h b ∧ xL (sI h a j x) b = xL h b ∧ xN (sI h a j x) b = xN h b := fun b hb => ⟨by simp [sI, xI, hb], rfl, rfl⟩
theorem oth_sL {h : Hp} {a j : Nat} {x : Int64} : ∀ b, b ≠ a → xI (sL h a j x) b = xI h b ∧ xL (sL h a j x) b = xL h b ∧ xN (sL h a j x) b = xN h b := fun b hb => ⟨rfl, by simp [sL, xL, hb], rfl⟩
theorem r_putI (C : Cx G cc nL own) {k a j o k' N index : Nat} {C0 : String} {T : u_T} {L : List Fd3} {x : Int32} (hc : vwCl[k]? = some (C0, T, N)) (hL : fkL[k]? = some L) (hj : L[j]? = some (0, o, k')) (hjN : j < N) (hlk : Cond.fieldLink own index (T j).1 (T j).2.1 (T j).2.2.1 ∈ lw_g)
    (hfin : (T j).2.2.2 = false) (hn : narrow (clTy k j) (.int x) = .int x) (hfit : fits (clTy k j) (.int x) = true)
    (d : decode cc pc = .ok (.putfield index, 3)) (kk : Rr G (pc + 3) ls st (sI h a j x)) : Rr G pc ls (vi x :: vr k a :: st) h := by
  refine r_put (h2 := sI h a j x) (a := a) (k := k) (st2 := st) C rfl oth_sI (fun al hw => w_t (w_t hw)) (fun al hw => w_h (w_t hw)) ?_ kk
  intro f H locs LS cells slots
  obtain ⟨p, l, e, R, s, m, args, below, meth, c, D, dA, A, f0, al0, Q, nL'⟩ := G
  intro hP hD hS hx hb hown hts hK hg kk
  rw [ent_obj hL] at hg
  have hl9 : j < (fvals f h a 0 L).length := by rw [fvals_len]; exact (List.getElem?_eq_some_iff.mp hj).1
  refine va_put hx hb hts (cl_in hc) (clTy k) (cl_ty hc) (cl_nm hc) hown hK hP hD hS a hg hc j hjN (hts _ hlk) (fun _ h9 => h9) hfin (cl_ty hc j hjN) hn hfit hl9 d (fun H1 locs1 a1 a2 a3 => kk H1 locs1 ?_ ?_ a3)
  · rw [ent_obj hL, fvals_sI hj]; exact a1
  · rw [ent_obj hL, fvals_sI hj]; exact a2
theorem r_putL (C : Cx G cc nL own) {k a j o k' N index : Nat} {C0 : String} {T : u_T} {L : List Fd3} {x : Int64} (hc : vwCl[k]? = some (C0, T, N)) (hL : fkL[k]? = some L) (hj : L[j]? = some (1, o, k')) (hjN : j < N) (hlk : Cond.fieldLink own index (T j).1 (T j).2.1 (T j).2.2.1 ∈ lw_g)
    (hfin : (T j).2.2.2 = false) (hn : narrow (clTy k j) (.long x) = .long x) (hfit : fits (clTy k j) (.long x) = true)
    (d : decode cc pc = .ok (.putfield index, 3)) (kk : Rr G (pc + 3) ls st (sL h a j x)) : Rr G pc ls (vl x :: vr k a :: st) h := by
  refine r_put (h2 := sL h a j x) (a := a) (k := k) (st2 := st) C rfl oth_sL (fun al hw => w_t (w_t hw)) (fun al hw => w_h (w_t hw)) ?_ kk
  intro f H locs LS cells slots
  obtain ⟨p, l, e, R, s, m, args, below, meth, c, D, dA, A, f0, al0, Q, nL'⟩ := G
  intro hP hD hS hx hb hown hts hK hg kk
  rw [ent_obj hL] at hg
  have hl9 : j < (fvals f h a 0 L).length := by rw [fvals_len]; exact (List.getElem?_eq_some_iff.mp hj).1
  refine va_put hx hb hts (cl_in hc) (clTy k) (cl_ty hc) (cl_nm hc) hown hK hP hD hS a hg hc j hjN (hts _ hlk) (fun _ h9 => h9) hfin (cl_ty hc j hjN) hn hfit hl9 d (fun H1 locs1 a1 a2 a3 => kk H1 locs1 ?_ ?_ a3)
  · rw [ent_obj hL, fvals_sL hj]; exact a1
  · rw [ent_obj hL, fvals_sL hj]; exact a2
theorem r_iald (C : Cx G cc nL own) {k a n o j : Nat} {i : Int32} {x : Int32} (hL : fkL[k]? = none) (hq : akL[k - 20]? = some (0, n, o)) (hn : n < 2 ^ 31) (hi : i = nI j) (hj : j < n) (d : decode cc pc = .ok (.iaload, 1)) (hx : xI h a j = x) (kk : Rr G (pc + 1) ls (vi x :: st) h) : Rr G pc ls (vi i :: vr k a :: st) h := by
  subst hx; subst hi
  refine r_of (ls2 := ls) C ?_ kk
  intro f H locs LS cells slots
  obtain ⟨p, l, e, R, s, m, args, below, meth, c, D, dA, A, f0, al0, Q, nL'⟩ := G
  intro _ hP _ _ hl hw1 hw2 hx hb hown hts hK
  refine ⟨hl, hw1, w_1 (w_t (w_t hw2)), fun kk => ?_⟩
  refine va_iald hx hb hK hP a 0 ((wd_get dA f h (w_h (w_t hw2))).trans (by rw [ent_arr hL hq]; rfl)) rfl (vp_in_nI hj hn) d ?_
  rw [nI_clamp (Nat.lt_trans hj hn)]
  exact kk
theorem r_lald (C : Cx G cc nL own) {k a n o j : Nat} {i : Int32} {x : Int64} (hL : fkL[k]? = none) (hq : akL[k - 20]? = some (1, n, o)) (hn : n < 2 ^ 31) (hi : i = nI j) (hj : j < n) (d : decode cc pc = .ok (.laload, 1)) (hx : xL h a j = x) (kk : Rr G (pc + 1) ls (vl x :: st) h) : Rr G pc ls (vi i :: vr k a :: st) h := by
  subst hx; subst hi
  refine r_of (ls2 := ls) C ?_ kk
  intro f H locs LS cells slots
  obtain ⟨p, l, e, R, s, m, args, below, meth, c, D, dA, A, f0, al0, Q, nL'⟩ := G
  intro _ hP _ _ hl hw1 hw2 hx hb hown hts hK
  refine ⟨hl, hw1, w_L (w_t (w_t hw2)), fun kk => ?_⟩
  refine va_lald hx hb hK hP a 1 ((wd_get dA f h (w_h (w_t hw2))).trans (by rw [ent_arr hL hq]; rfl)) rfl (vp_in_nI hj hn) d ?_
  rw [nI_clamp (Nat.lt_trans hj hn)]
  exact kk
theorem r_bald (C : Cx G cc nL own) {k a n o j : Nat} {i : Int32} {x : Int32} (hL : fkL[k]? = none) (hq : akL[k - 20]? = some (2, n, o)) (hn : n < 2 ^ 31) (hi : i = nI j) (hj : j < n) (d : decode cc pc = .ok (.baload, 1)) (hx : xI h a j = x) (kk : Rr G (pc + 1) ls (vi x :: st) h) : Rr G pc ls (vi i :: vr k a :: st) h := by
  subst hx; subst hi
  refine r_of (ls2 := ls) C ?_ kk
  intro f H locs LS cells slots
  obtain ⟨p, l, e, R, s, m, args, below, meth, c, D, dA, A, f0, al0, Q, nL'⟩ := G
  intro _ hP _ _ hl hw1 hw2 hx hb hown hts hK
  refine ⟨hl, hw1, w_1 (w_t (w_t hw2)), fun kk => ?_⟩
  refine va_bald hx hb hK hP a 2 ((wd_get dA f h (w_h (w_t hw2))).trans (by rw [ent_arr hL hq]; rfl)) rfl (vp_in_nI hj hn) d ?_
  rw [nI_clamp (Nat.lt_trans hj hn)]
  exact kk
theorem r_zald (C : Cx G cc nL own) {k a n o j : Nat} {i : Int32} {x : Int32} (hL : fkL[k]? = none) (hq : akL[k - 20]? = some (3, n, o)) (hn : n < 2 ^ 31) (hi : i = nI j) (hj : j < n) (d : decode cc pc = .ok (.baload, 1)) (hx : xI h a j = x) (kk : Rr G (pc + 1) ls (vi x :: st) h) : Rr G pc ls (vi i :: vr k a :: st) h := by
  subst hx; subst hi
  refine r_of (ls2 := ls) C ?_ kk
  intro f H locs LS cells slots
  obtain ⟨p, l, e, R, s, m, args, below, meth, c, D, dA, A, f0, al0, Q, nL'⟩ := G
  intro _ hP _ _ hl hw1 hw2 hx hb hown hts hK
  refine ⟨hl, hw1, w_1 (w_t (w_t hw2)), fun kk => ?_⟩
  refine va_zald hx hb hK hP a 3 ((wd_get dA f h (w_h (w_t hw2))).trans (by rw [ent_arr hL hq]; rfl)) rfl (vp_in_nI hj hn) d ?_
  rw [nI_clamp (Nat.lt_trans hj hn)]
  exact kk
theorem r_iast (C : Cx G cc nL own) {k a n o j : Nat} {i : Int32} {x : Int32} (hL : fkL[k]? = none) (hq : akL[k - 20]? = some (0, n, o)) (hn : n < 2 ^ 31) (hi : i = nI j) (hj : j < n) (d : decode cc pc = .ok (.iastore, 1)) (kk : Rr G (pc + 1) ls st (sI h a j x)) : Rr G pc ls (vi x :: vi i :: vr k a :: st) h := by
  subst hi
  refine r_put (h2 := sI h a j x) (a := a) (k := k) (st2 := st) C rfl oth_sI (fun al hw => w_t (w_t (w_t hw))) (fun al hw => w_h (w_t (w_t hw))) ?_ kk
  intro f H locs LS cells slots
  obtain ⟨p, l, e, R, s, m, args, below, meth, c, D, dA, A, f0, al0, Q, nL'⟩ := G
  intro hP hD hS hx hb hown hts hK hg kk
  have e1 : ent dA f (sI h a j x) k a = (.inl (dA 0, n, .inl (upd (xI h a) j x))) := by rw [ent_arr hL hq]; simp [entA, sI, xI]
  rw [ent_arr hL hq] at hg
  refine va_iast hx hb hK hP hD hS a 0 hg rfl (vp_in_nI hj hn) d (fun H1 locs1 a1 a2 a3 => kk H1 locs1 ?_ ?_ a3)
  · rw [e1]; rw [nI_clamp (Nat.lt_trans hj hn)] at a1; exact a1
  · rw [e1]; rw [nI_clamp (Nat.lt_trans hj hn)] at a2; exact a2
theorem r_last (C : Cx G cc nL own) {k a n o j : Nat} {i : Int32} {x : Int64} (hL : fkL[k]? = none) (hq : akL[k - 20]? = some (1, n, o)) (hn : n < 2 ^ 31) (hi : i = nI j) (hj : j < n) (d : decode cc pc = .ok (.lastore, 1)) (kk : Rr G (pc + 1) ls st (sL h a j x)) : Rr G pc ls (vl x :: vi i :: vr k a :: st) h := by
  subst hi
  refine r_put (h2 := sL h a j x) (a := a) (k := k) (st2 := st) C rfl oth_sL (fun al hw => w_t (w_t (w_t hw))) (fun al hw => w_h (w_t (w_t hw))) ?_ kk
  intro f H locs LS cells slots
  obtain ⟨p, l, e, R, s, m, args, below, meth, c, D, dA, A, f0, al0, Q, nL'⟩ := G
  intro hP hD hS hx hb hown hts hK hg kk
  have e1 : ent dA f (sL h a j x) k a = (.inl (dA 1, n, .inr (.inl (vp_updL (xL h a) j x)))) := by rw [ent_arr hL hq]; simp [entA, sL, xL]
  rw [ent_arr hL hq] at hg
  refine va_last hx hb hK hP hD hS a 1 hg rfl (vp_in_nI hj hn) d (fun H1 locs1 a1 a2 a3 => kk H1 locs1 ?_ ?_ a3)
  · rw [e1]; rw [nI_clamp (Nat.lt_trans hj hn)] at a1; exact a1
  · rw [e1]; rw [nI_clamp (Nat.lt_trans hj hn)] at a2; exact a2
theorem r_bast (C : Cx G cc nL own) {k a n o j : Nat} {i : Int32} {x : Int32} (hL : fkL[k]? = none) (hq : akL[k - 20]? = some (2, n, o)) (hn : n < 2 ^ 31) (hi : i = nI j) (hj : j < n) (d : decode cc pc = .ok (.bastore, 1)) (kk : Rr G (pc + 1) ls st (sI h a j (vp_nar .byte x))) : Rr G pc ls (vi x :: vi i :: vr k a :: st) h := by
  subst hi
  refine r_put (h2 := sI h a j (vp_nar .byte x)) (a := a) (k := k) (st2 := st) C rfl oth_sI (fun al hw => w_t (w_t (w_t hw))) (fun al hw => w_h (w_t (w_t hw))) ?_ kk
  intro f H locs LS cells slots
  obtain ⟨p, l, e, R, s, m, args, below, meth, c, D, dA, A, f0, al0, Q, nL'⟩ := G
  intro hP hD hS hx hb hown hts hK hg kk
  have e1 : ent dA f (sI h a j (vp_nar .byte x)) k a = (.inl (dA 2, n, .inl (upd (xI h a) j (vp_nar .byte x)))) := by rw [ent_arr hL hq]; simp [entA, sI, xI]
  rw [ent_arr hL hq] at hg
  refine va_bast hx hb hK hP hD hS a 2 hg rfl (vp_in_nI hj hn) d (fun H1 locs1 a1 a2 a3 => kk H1 locs1 ?_ ?_ a3)
  · rw [e1]; rw [nI_clamp (Nat.lt_trans hj hn)] at a1; exact a1
  · rw [e1]; rw [nI_clamp (Nat.lt_trans hj hn)] at a2; exact a2
theorem r_zast (C : Cx G cc nL own) {k a n o j : Nat} {i : Int32} {x : Int32} (hL : fkL[k]? = none) (hq : akL[k - 20]? = some (3, n, o)) (hn : n < 2 ^ 31) (hi : i = nI j) (hj : j < n) (d : decode cc pc = .ok (.bastore, 1)) (kk : Rr G (pc + 1) ls st (sI h a j (vp_nar .boolean x))) : Rr G pc ls (vi x :: vi i :: vr k a :: st) h := by
  subst hi
  refine r_put (h2 := sI h a j (vp_nar .boolean x)) (a := a) (k := k) (st2 := st) C rfl oth_sI (fun al hw => w_t (w_t (w_t hw))) (fun al hw => w_h (w_t (w_t hw))) ?_ kk
  intro f H locs LS cells slots
  obtain ⟨p, l, e, R, s, m, args, below, meth, c, D, dA, A, f0, al0, Q, nL'⟩ := G
  intro hP hD hS hx hb hown hts hK hg kk
  have e1 : ent dA f (sI h a j (vp_nar .boolean x)) k a = (.inl (dA 3, n, .inl (upd (xI h a) j (vp_nar .boolean x)))) := by rw [ent_arr hL hq]; simp [entA, sI, xI]
  rw [ent_arr hL hq] at hg
  refine va_zast hx hb hK hP hD hS a 3 hg rfl (vp_in_nI hj hn) d (fun H1 locs1 a1 a2 a3 => kk H1 locs1 ?_ ?_ a3)
  · rw [e1]; rw [nI_clamp (Nat.lt_trans hj hn)] at a1; exact a1
  · rw [e1]; rw [nI_clamp (Nat.lt_trans hj hn)] at a2; exact a2
theorem r_aald4 (C : Cx G cc nL own) {k a n o j : Nat} {i : Int32} (hL : fkL[k]? = none) (hq : akL[k - 20]? = some (4, n, o)) (hn : n < 2 ^ 31) (hi : i = nI j) (hj : j < n) (d : decode cc pc = .ok (.aaload, 1)) (kk : Rr G (pc + 1) ls (vr o (a + 1 + j) :: st) h) : Rr G pc ls (vi i :: vr k a :: st) h := by
  subst hi
  refine r_of (ls2 := ls) C ?_ kk
  intro f H locs LS cells slots
  obtain ⟨p, l, e, R, s, m, args, below, meth, c, D, dA, A, f0, al0, Q, nL'⟩ := G
  intro hG hP _ _ hl hw1 hw2 hx hb hown hts hK
  refine ⟨hl, hw1, w_c ((hG a k (w_h (w_t hw2))).2 hL 4 n o hq (by omega) j hj) (w_t (w_t hw2)), fun kk => ?_⟩
  have hat := (wd_get dA f h (w_h (w_t hw2))).trans (show _ = some (f a, (.inl (dA 4, n, .inr (.inr (.inr (.inr (fun i => some (f (a + 1 + i))))))) : va_E)) by rw [ent_arr hL hq]; rfl)
  have hin : vp_in (nI j) n := vp_in_nI hj hn
  have hc : (nI j).toNatClampNeg = j := nI_clamp (Nat.lt_trans hj hn)
  exact W.aald (v := .ref (f (a + 1 + j))) (ty := .array .int) hx hb (hP a _ hat) ((hK.2 4 _ rfl).1 n (fun j => va_rf (some (f (a + 1 + j))))) rfl (fun q => by cases q) (by show ¬ (_ < 0 ∨ (arrV _ _ _).slots.size ≤ _); rw [arrV_size]; exact hin) (by show (arrV _ _ _).slots[_]? = _; rw [hc, arrV_read _ _ hj]; rfl) rfl rfl d kk
theorem r_aald5 (C : Cx G cc nL own) {k a n o j : Nat} {i : Int32} (hL : fkL[k]? = none) (hq : akL[k - 20]? = some (5, n, o)) (hn : n < 2 ^ 31) (hi : i = nI j) (hj : j < n) (d : decode cc pc = .ok (.aaload, 1)) (kk : Rr G (pc + 1) ls (vr o (a + 1 + j) :: st) h) : Rr G pc ls (vi i :: vr k a :: st) h := by
  subst hi
  refine r_of (ls2 := ls) C ?_ kk
  intro f H locs LS cells slots
  obtain ⟨p, l, e, R, s, m, args, below, meth, c, D, dA, A, f0, al0, Q, nL'⟩ := G
  intro hG hP _ _ hl hw1 hw2 hx hb hown hts hK
  refine ⟨hl, hw1, w_c ((hG a k (w_h (w_t hw2))).2 hL 5 n o hq (by omega) j hj) (w_t (w_t hw2)), fun kk => ?_⟩
  have hat := (wd_get dA f h (w_h (w_t hw2))).trans (show _ = some (f a, (.inl (dA 5, n, .inr (.inr (.inr (.inr (fun i => some (f (a + 1 + i))))))) : va_E)) by rw [ent_arr hL hq]; rfl)
  have hin : vp_in (nI j) n := vp_in_nI hj hn
  have hc : (nI j).toNatClampNeg = j := nI_clamp (Nat.lt_trans hj hn)
  exact W.aald (v := .ref (f (a + 1 + j))) (ty := .array .long) hx hb (hP a _ hat) ((hK.2 5 _ rfl).1 n (fun j => va_rf (some (f (a + 1 + j))))) rfl (fun q => by cases q) (by show ¬ (_ < 0 ∨ (arrV _ _ _).slots.size ≤ _); rw [arrV_size]; exact hin) (by show (arrV _ _ _).slots[_]? = _; rw [hc, arrV_read _ _ hj]; rfl) rfl rfl d kk
theorem r_alen0 (C : Cx G cc nL own) {k a n o : Nat} {v : Int32} (hL : fkL[k]? = none) (hq : akL[k - 20]? = some (0, n, o)) (hv : Int32.ofNat n = v) (d : decode cc pc = .ok (.arraylength, 1)) (kk : Rr G (pc + 1) ls (vi v :: st) h) : Rr G pc ls (vr k a :: st) h := by
  refine r_of (ls2 := ls) C ?_ kk
  intro f H locs LS cells slots
  obtain ⟨p, l, e, R, s, m, args, below, meth, c, D, dA, A, f0, al0, Q, nL'⟩ := G
  intro hG hP _ _ hl hw1 hw2 hx hb hown hts hK
  refine ⟨hl, hw1, w_1 (w_t hw2), fun kk => ?_⟩
  exact va_alen hx hb hK hP a 0 (x := (n, .inl (xI h a))) ((wd_get dA f h (w_h hw2)).trans (by rw [ent_arr hL hq]; rfl)) rfl hv d kk
theorem r_alen1 (C : Cx G cc nL own) {k a n o : Nat} {v : Int32} (hL : fkL[k]? = none) (hq : akL[k - 20]? = some (1, n, o)) (hv : Int32.ofNat n = v) (d : decode cc pc = .ok (.arraylength, 1)) (kk : Rr G (pc + 1) ls (vi v :: st) h) : Rr G pc ls (vr k a :: st) h := by
  refine r_of (ls2 := ls) C ?_ kk
  intro f H locs LS cells slots
  obtain ⟨p, l, e, R, s, m, args, below, meth, c, D, dA, A, f0, al0, Q, nL'⟩ := G
  intro hG hP _ _ hl hw1 hw2 hx hb hown hts hK
  refine ⟨hl, hw1, w_1 (w_t hw2), fun kk => ?_⟩
  exact va_alen hx hb hK hP a 1 (x := (n, .inr (.inl (xL h a)))) ((wd_get dA f h (w_h hw2)).trans (by rw [ent_arr hL hq]; rfl)) rfl hv d kk
end ROWS
/-! methods -/
def rmD (d mc ms : Nat) : Room := { frames := d, cells := mc, slots := ms, locals := d * 40 }
def vargs : Nat → List V → List (Nat × V)
  | _, [] => []
  | i, v :: t => (i, v) :: vargs (if cat2 v then i + 2 else i + 1) t
theorem cat_rep2 (f : Nat → Nat) (v : V) : (rep f v).category = if cat2 v then 2 else 1 := by
  rcases v with x | x | q | q | a
  · rfl
  · rfl
  · rfl
  · show (if q.2 = 0 then Value.null else Value.ref (f (q.2 - 1))).category = 1
    split <;> rfl
  · rfl
theorem vargs_rep (f : Nat → Nat) : ∀ (as : List V) (i : Nat), lrep f (vargs i as) = lv_args i (as.map (rep f))
  | [], i => rfl
  | v :: t, i => by
    have e : (if (rep f v).category = 2 then i + 2 else i + 1) = (if cat2 v then i + 2 else i + 1) := by
      rw [cat_rep2]; cases cat2 v <;> simp
    show (i, rep f v) :: lrep f (vargs _ t) = (i, rep f v) :: lv_args _ (t.map (rep f))
    rw [e, vargs_rep f t]
def catS : List V → Nat
  | [] => 0
  | v :: t => (if cat2 v then 2 else 1) + catS t
theorem catS_rep (f : Nat → Nat) : ∀ (as : List V), ((as.map (rep f)).map fun v => v.category).sum = catS as
  | [] => rfl
  | v :: t => by simp [catS, ← catS_rep f t, cat_rep2]
theorem sl_len (f : Nat → Nat) : ∀ (as : List V), (lg_sl (as.map (rep f))).length = catS as
  | [] => rfl
  | v :: t => by
    have ih := sl_len f t
    unfold lg_sl at ih ⊢
    rw [List.map_cons, List.flatMap_cons, List.length_append, ih, catS]
    congr 1
    rw [cat_rep2]
    cases cat2 v <;> rfl
def PcM (D : va_G) (dA : Nat → ClassId) (f : Nat → Nat) (sz : Nat) (as : List V) (h : Hp) : Array Value → State → Prop :=
  va_Pc (as.map (rep f)) (fun U => U.heap.size = sz ∧ va_P D vwCl (wd dA f h) U.heap ∧ va_K D vwCl (tysD dA) U ∧ va_D (fun _ => True) (wd dA f h) ∧ GoodAl (xK h) ∧ ws9 (xK h) as ∧ SF f (va_A (wd dA f h) sz) U U.heap)
def QcM (D : va_G) (dA : Nat → ClassId) (f : Nat → Nat) (sz : Nat) (h : Hp) (al1 : List Nat) (post : Option V → Hp → Prop) : Array Value → State → Outcome → State → Prop :=
  fun _ st o t => (∃ (r : Option V) (h' : Hp) (f' : Nat → Nat), o = .returned (r.map (rep f')) ∧ post r h' ∧ xK h' = al1 ∧ xK h <+: al1 ∧ GoodAl al1 ∧ (∀ a, a < (xK h).length ∨ 1000 ≤ a → f' a = f a) ∧ va_P D vwCl (wd dA f' h') t.heap ∧ va_K D vwCl (tysD dA) t ∧ va_D (va_A (wd dA f h) sz) (wd dA f' h') ∧ (∀ v, r = some v → wv al1 v)) ∧ va_F (va_A (wd dA f h) sz) st t
/-- a method's contract: at these arguments and this heap it returns, and what holds then -/
def Ms (l : Launch) (y : MethodName) (cc : ByteArray) (nL : Nat) (ret : Option FieldType) (d : Nat) (as : List V) (h : Hp) (al1 : List Nat) (post : Option V → Hp → Prop) : Prop :=
  ∀ (D : va_G) (dA : Nat → ClassId) (f : Nat → Nat) (sz : Nat), Met l y (.code y cc nL ret :: lw_g) (rmD d (al1.length - (xK h).length) (slo al1 - slo (xK h))) (PcM D dA f sz as h) (QcM D dA f sz h al1 post) (al1.length - (xK h).length) (slo al1 - slo (xK h)) (va_A (wd dA f h) sz)
/-- the ends of a method -/
def FinI (G : Gt) (cc : ByteArray) (ret : Option FieldType) (al1 : List Nat) (post : Option V → Hp → Prop) : Prop :=
  ∀ (pc : Nat) (ls : List (Nat × V)) (v : Int32) (h' : Hp) (ty : FieldType), ret = some ty → narrow ty (.int v) = .int v → decode cc pc = .ok (.ireturn, 1) → xK h' = al1 → post (some (vi v)) h' → Rr G pc ls [vi v] h'
def FinL (G : Gt) (cc : ByteArray) (ret : Option FieldType) (al1 : List Nat) (post : Option V → Hp → Prop) : Prop :=
  ∀ (pc : Nat) (ls : List (Nat × V)) (v : Int64) (h' : Hp), ret = some .long → decode cc pc = .ok (.lreturn, 1) → xK h' = al1 → post (some (vl v)) h' → Rr G pc ls [vl v] h'
def FinV (G : Gt) (cc : ByteArray) (ret : Option FieldType) (al1 : List Nat) (post : Option V → Hp → Prop) : Prop :=
  ∀ (pc : Nat) (ls : List (Nat × V)) (h' : Hp), ret = none → decode cc pc = .ok (.return_, 1) → xK h' = al1 → post none h' → Rr G pc ls [] h'
def FinA (G : Gt) (cc : ByteArray) (ret : Option FieldType) (al1 : List Nat) (post : Option V → Hp → Prop) : Prop :=
  ∀ (pc : Nat) (ls : List (Nat × V)) (k a : Nat) (h' : Hp) (nm : String), ret = some (.object nm) → decode cc pc = .ok (.areturn, 1) → xK h' = al1 → post (some (vr k a)) h' → Rr G pc ls [vr k a] h'
def Fins (G : Gt) (cc : ByteArray) (ret : Option FieldType) (al1 : List Nat) (post : Option V → Hp → Prop) : Prop :=
  FinI G cc ret al1 post ∧ FinL G cc ret al1 post ∧ FinV G cc ret al1 post ∧ FinA G cc ret al1 post
/-- room for calls: d levels, and cells up to these kinds -/
def Rmx (l : Launch) (G : Gt) (d : Nat) (alX : List Nat) : Prop := match G with
  | (p, l', e, R, s, m, args, below, meth, c, D, dA, A, f0, al0, Q, nL) => l' = l ∧ d ≤ R.frames ∧ d * 40 ≤ R.locals ∧ alX.length - al0.length ≤ R.cells ∧ slo alX - slo al0 ≤ R.slots
set_option maxHeartbeats 4000000 in
theorem Ms.of {l : Launch} {y : MethodName} {cc : ByteArray} {nL : Nat} {ret : Option FieldType} {d : Nat} {as : List V} {h : Hp} {al1 : List Nat} {post : Option V → Hp → Prop} (hy : plainName y.cls = true) (hn : catS as ≤ nL)
    (body : ∀ G, Cx G cc nL y.cls → Rmx l G d al1 → Fins G cc ret al1 post → Rr G 0 (vargs 0 as) [] h) : Ms l y cc nL ret d as h al1 post := by
  intro D dA f sz
  refine Met.ofW (cc := cc) (maxL := nL) (ret := ret) hy rfl ?_
  intro p e s m args below meth c s₁ B hml hv
  obtain ⟨rfl, hsz, hP, hK, hD0, hG, hw, hSF⟩ := hv
  subst hsz
  have hts := atoms_spec (ws := .code y cc nL ret :: lw_g) B.pre
  have hown : s.vm.findClass y.cls = some m.cls := findClass_of_methodNamed B.named
  have hlocks := B.notSynchronized
  have hl := lv_entry (as.map (rep f)) (n := nL) (by rw [sl_len]; exact hn)
  rw [lg_entry_eq]
  generalize (lg_sl (as.map (rep f)) ++ List.replicate (nL - (lg_sl (as.map (rep f))).length) Slot.unset).toArray = LS at hl ⊢
  have C : Cx (p, l, e, rmD d (al1.length - (xK h).length) (slo al1 - slo (xK h)), s, m, (as.map (rep f)).toArray, below, meth, c, D, dA, va_A (wd dA f h) s.heap.size, f, xK h, MQ below (QcM D dA f s.heap.size h al1 post) (as.map (rep f)).toArray s (al1.length - (xK h).length) (slo al1 - slo (xK h)) (va_A (wd dA f h) s.heap.size), nL) cc nL y.cls :=
    ⟨rfl, B.exec, B.bytes, hml, hown, fun w hw => hts w (List.mem_cons_of_mem _ hw), hlocks, hK, fun q hq => Or.inr hq, hSF⟩
  suffices K : W p l e (rmD d (al1.length - (xK h).length) (slo al1 - slo (xK h))) s m (as.map (rep f)).toArray below meth c s.heap [] ((xK h).length - (xK h).length) (slo (xK h) - slo (xK h)) (MQ below (QcM D dA f s.heap.size h al1 post) (as.map (rep f)).toArray s (al1.length - (xK h).length) (slo al1 - slo (xK h)) (va_A (wd dA f h) s.heap.size)) (F0 m 0 LS []) by
    rw [Nat.sub_self, Nat.sub_self] at K
    exact K
  refine body _ C ⟨rfl, Nat.le_refl _, Nat.le_refl _, Nat.le_refl _, Nat.le_refl _⟩ ⟨?_, ?_, ?_, ?_⟩ f s.heap [] LS (fun _ _ => rfl) List.prefix_rfl hG hP (hD0.self) va_S.rf (by rw [vargs_rep]; exact hl) ?_ (fun q hq => by cases hq)
  · intro pc ls v h' ty hr hnw hdg hal hp f1 H locs LS h1 h2 h3 hP hD hS hl w1 w2
    subst hal
    exact W.zret B.exec B.bytes (B.returns.trans hr) hnw (fun t ht hW => ⟨⟨some (vi v), h', f1, rfl, hp, rfl, h2, h3, h1, by rw [ht]; exact hP, va_K.moved hW.alike hK, hD, fun v hv => by cases hv; trivial⟩, hS.F ht⟩) hS.2.2 hdg
  · intro pc ls v h' hr hdg hal hp f1 H locs LS h1 h2 h3 hP hD hS hl w1 w2
    subst hal
    exact W.lret B.exec B.bytes (B.returns.trans hr) (fun t ht hW => ⟨⟨some (vl v), h', f1, rfl, hp, rfl, h2, h3, h1, by rw [ht]; exact hP, va_K.moved hW.alike hK, hD, fun v hv => by cases hv; trivial⟩, hS.F ht⟩) hS.2.2 hdg
  · intro pc ls h' hr hdg hal hp f1 H locs LS h1 h2 h3 hP hD hS hl w1 w2
    subst hal
    exact W.vret B.exec B.bytes (B.returns.trans hr) (fun t ht hW => ⟨⟨none, h', f1, rfl, hp, rfl, h2, h3, h1, by rw [ht]; exact hP, va_K.moved hW.alike hK, hD, fun v hv => by cases hv⟩, hS.F ht⟩) hS.2.2 hdg
  · intro pc ls k a h' nm hr hdg hal hp f1 H locs LS h1 h2 h3 hP hD hS hl w1 w2
    subst hal
    exact W.aret B.exec B.bytes (B.returns.trans hr) (Or.inl ⟨_, rfl⟩) (Or.inr ⟨_, rfl⟩) (fun t ht hW => ⟨⟨some (vr k a), h', f1, rfl, hp, rfl, h2, h3, h1, by rw [ht]; exact hP, va_K.moved hW.alike hK, hD, fun v hv => by cases hv; exact w_h w2⟩, hS.F ht⟩) hS.2.2 hdg
  · have aux : ∀ (as : List V) (i : Nat), ws9 (xK h) as → wl (xK h) (vargs i as) := by
      intro as
      induction as with
      | nil => intro i _ q hq; cases hq
      | cons v t ih =>
        intro i hw q hq
        rcases List.mem_cons.mp hq with rfl | hq
        · exact hw v List.mem_cons_self
        · exact ih _ (w_t hw) q hq
    exact aux as 0 hw
theorem gI9 {ws : List Cond} (h : ∀ w ∈ ws, w ∈ lw_g) : GoodIn lw_g ws := fun w hw => ⟨h w hw, (lw_g_good w (h w hw)).2⟩
theorem blindM {D : va_G} {dA : Nat → ClassId} {f : Nat → Nat} {sz : Nat} {as : List V} {h : Hp} : FrameBlind (PcM D dA f sz as h) := fun a U g mk q => by
  obtain ⟨q0, q1, q2, q3, q4, q5, q6, q7⟩ := q
  exact ⟨q0, q1, q2, va_K.moved (u := U) (U := U.calling g mk a) (Vm.Alike.refl U.vm) q3, q4, q5, q6, SF.same (u := U) (U := U.calling g mk a) rfl q7⟩
theorem pfx_len {a b : List Nat} (h : a <+: b) : a.length ≤ b.length := h.length_le
theorem pfx_slo {a b : List Nat} (h : a <+: b) : slo a ≤ slo b := by
  obtain ⟨t, rfl⟩ := h
  rw [slo_app]; omega
section CALLS
variable {p : Program} {l : Launch} {e : Env} {R : Room} {s : State} {m : MethodId} {args : Array Value} {below : List Frame} {meth : Method} {c : Code} {H : Heap} {locs : List Loc} {cells slots : Nat} {Q : State → Prop}
/-- behind a call -/
theorem call_core {pc mc ms : Nat} {LS : Array Slot} {stk rest : List Value} {D : va_G} {dA : Nat → ClassId} {f : Nat → Nat} {h : Hp} {al1 : List Nat} {post : Option V → Hp → Prop} {A : Nat → Prop} {a : Array Value}
    (hr : va_Run p l e R s m args below meth c H locs cells slots mc ms (F0 m pc LS stk) rest (QcM D dA f H.size h al1 post a) (va_A (wd dA f h) H.size)) (hK : va_K D vwCl (tysD dA) s) (hD : va_D A (wd dA f h)) (hS : va_S A s.heap H locs) (hAz : ∀ q : Nat, s.heap.size ≤ q → A q)
    (kk : ∀ (r : Option V) (h' : Hp) (f' : Nat → Nat) (H1 : Heap) (locs1 : List Loc), post r h' → xK h' = al1 → xK h <+: al1 → GoodAl al1 → (∀ q, q < (xK h).length ∨ 1000 ≤ q → f' q = f q) → va_P D vwCl (wd dA f' h') H1 → va_D A (wd dA f' h') → (∀ v, r = some v → wv al1 v) → va_S A s.heap H1 locs1 →
      W p l e R s m args below meth c H1 locs1 (cells + mc) (slots + ms) Q (F0 m (pc + 3) LS ((r.map (rep f')).toList ++ rest))) : W p l e R s m args below meth c H locs cells slots Q (F0 m pc LS stk) := by
  intro T hT X
  obtain ⟨v, st₀, t, T', L, h0, X', hL, e1, e2, ⟨⟨r, h', f', hv, hp, g1, g2, g3, g4, g5, g6, g7, g8⟩, hz, hk⟩, st⟩ := hr T hT X
  cases hv
  rw [h0] at hz hk
  have hf : ∀ q, va_A (wd dA f h) H.size q → A q := by
    rintro q (⟨k, e9, h9⟩ | h9)
    · exact hD.2 k _ h9
    · exact hAz q (Nat.le_trans hS.1 h9)
  obtain ⟨t2, a1, b1⟩ := kk r h' f' T'.heap (locs ++ L) hp g1 g2 g3 g4 (by rw [e1]; exact g5) (g7.weaken (fun _ q _ hq => hf _ hq)) g8
    ⟨Nat.le_trans hS.1 (by rw [e1]; exact hz), fun q h1 h2 => by rw [e1, hk q (Nat.lt_of_lt_of_le h1 hS.1) (fun z => h2 (hf q z))]; exact hS.2.1 q h1 h2, fun q hq => by
      rcases List.mem_append.mp hq with h | h
      · exact hS.2.2 q h
      · exact hf _ (hL q h)⟩ T' rfl X'
  exact ⟨t2, st t2 a1, b1⟩
theorem room_ok {d d' nL' : Nat} {mc ms : Nat} (h1 : d' + 1 ≤ d) (h2 : nL' ≤ 21) (hf : d ≤ R.frames) (hl : d * 40 ≤ R.locals) : (rmD d' mc ms).frames + 1 ≤ R.frames ∧ 8 + (nL' + 11) + (rmD d' mc ms).locals ≤ R.locals := by
  have e1 : (rmD d' mc ms).frames = d' := rfl
  have e2 : (rmD d' mc ms).locals = d' * 40 := rfl
  rw [e1, e2]
  refine ⟨by omega, ?_⟩
  have : (d' + 1) * 40 ≤ d * 40 := Nat.mul_le_mul_right 40 h1
  omega
end CALLS
section MCALL
variable {l : Launch} {d d' nL' index : Nat} {alX al1 : List Nat} {y : MethodName} {cc' : ByteArray} {ret : Option FieldType} {as : List V} {post : Option V → Hp → Prop} {G : Gt} {cc : ByteArray} {nL pc : Nat} {own : String} {ls : List (Nat × V)} {st : List V} {h : Hp}
theorem rest_ok {f : Nat → Nat} {st : List V} (hc : catS st ≤ 8) {m : MethodId} {pc : Nat} {LS : Array Slot} {stk : List Value} : 2 * (F0 m pc LS stk).monitorRoom + ((st.map (rep f)).map fun v => v.category).sum ≤ 8 := by
  rw [catS_rep]
  show 2 * 0 + _ ≤ 8
  omega
theorem pc_ok {s : State} {D : va_G} {dA : Nat → ClassId} {f : Nat → Nat} {H : Heap} {as : List V} {h : Hp} {A : Nat → Prop} (hP : va_P D vwCl (wd dA f h) H) (hK : va_K D vwCl (tysD dA) s) (hD : va_D A (wd dA f h)) (hG : GoodAl (xK h)) (hw : ws9 (xK h) as) {f0 : Nat → Nat} {locs : List Loc} (hAz : ∀ q : Nat, s.heap.size ≤ q → A q) (hS : va_S A s.heap H locs) (hSF : SF f0 A s s.heap) (hf : ∀ a, 1000 ≤ a → f a = f0 a) : ∀ U : State, U.heap = H → s.WarmedH U.vm → PcM D dA f H.size as h (as.map (rep f)).toArray U :=
  fun U hU hW => ⟨rfl, by rw [hU], by rw [hU]; exact hP, va_K.moved hW.alike hK, hD.weaken (fun _ _ _ _ => trivial), hG, hw, by
    rw [hU]
    refine hSF.to hS.2.1 hW ?_ hf
    rintro q (⟨k, e9, h9⟩ | h9)
    · exact hD.2 k _ h9
    · exact hAz q (Nat.le_trans hS.1 h9)⟩
/-- the three calls at once: what differs is how the machine comes to the callee -/
theorem r_callC {stk : List V} (C : Cx G cc nL own) (X : Rmx l G d alX) (hM : Ms l y cc' nL' ret d' as h al1 post) (hd' : d' + 1 ≤ d) (hn : nL' ≤ 21) (hpre : xK h <+: al1) (hal : al1 <+: alX) (q5 : Cond.code y cc' nL' ret ∈ lw_g) (hwk : ∀ al, ws9 al stk → ws9 al as ∧ ws9 al st)
    (run : ∀ (f : Nat → Nat) (H : Heap) (locs : List Loc) (LS : Array Slot) (cells slots mc ms sz : Nat), match G with
      | (p, l', e, R, s, m, args, below, meth, c, D, dA, A, f0, al0, Q, nL) => lv_has LS nL (lrep f ls) → p.tables.exec = Jvm.exec → c.code = cc → c.maxLocals = nL → s.vm.findClass own = some m.cls → (∀ w ∈ lw_g, w.before args s = true) → va_K D vwCl (tysD dA) s → va_P D vwCl (wd dA f h) H → ws9 (xK h) stk →
        (rmD d' mc ms).frames + 1 ≤ R.frames ∧ 8 + (nL' + 11) + (rmD d' mc ms).locals ≤ R.locals → GoodIn lw_g (Cond.code y cc' nL' ret :: lw_g) →
        Met l y (.code y cc' nL' ret :: lw_g) (rmD d' mc ms) (PcM D dA f sz as h) (QcM D dA f sz h al1 post) mc ms (va_A (wd dA f h) sz) → (∀ U : State, U.heap = H → s.WarmedH U.vm → PcM D dA f sz as h (as.map (rep f)).toArray U) → cells + mc ≤ R.cells ∧ slots + ms ≤ R.slots →
        ∃ a, va_Run p l e R s m args below meth c H locs cells slots mc ms (F0 m pc LS (stk.map (rep f))) (st.map (rep f)) (QcM D dA f sz h al1 post a) (va_A (wd dA f h) sz))
    (kk : ∀ (r : Option V) (h' : Hp), post r h' → xK h' = al1 → Rr G (pc + 3) ls (r.toList ++ st) h') : Rr G pc ls stk h := by
  obtain ⟨p, l', e, R, s, m, args, below, meth, c, D, dA, A, f0, al0, Q, nL'⟩ := G
  obtain ⟨rfl, hx, hb, hml, hown, hts, hlk, hK, hAz, hSF⟩ := C
  obtain ⟨rfl, X1, X2, X3, X4⟩ := X
  intro f H locs LS h1 h2 h3 hP hD hS hl w1 w2
  obtain ⟨wa, wst⟩ := hwk _ w2
  have hlen := pfx_len hal
  have hslo := pfx_slo hal
  have l1 := pfx_len h2
  have l2 := pfx_slo h2
  have l3 := pfx_len hpre
  have l4 := pfx_slo hpre
  obtain ⟨a, hr⟩ := run f H locs LS ((xK h).length - al0.length) (slo (xK h) - slo al0) (al1.length - (xK h).length) (slo al1 - slo (xK h)) H.size hl hx hb hml hown hts hK hP w2 (room_ok hd' hn X1 X2)
    (gI9 (fun w hw => by rcases List.mem_cons.mp hw with rfl | hw; exact q5; exact hw)) (hM D dA f H.size) (pc_ok hP hK hD h3 wa hAz hS hSF (fun a ha => h1 a (Or.inr ha))) ⟨by omega, by omega⟩
  refine call_core hr hK hD hS hAz (fun r h' f' H1 locs1 hp g1 g2 g3 g4 g5 g6 g7 g8 => ?_)
  have hf : ∀ v : V, wv (xK h) v → rep f' v = rep f v := by
    intro v hv
    rcases v with x | x | q | q | a
    · rfl
    · rfl
    · show Value.ref (f' q.2) = Value.ref (f q.2)
      rw [g4 q.2 (Or.inl (List.getElem?_eq_some_iff.mp hv).1)]
    · show (if q.2 = 0 then Value.null else Value.ref (f' (q.2 - 1))) = (if q.2 = 0 then Value.null else Value.ref (f (q.2 - 1)))
      rcases hv with hv | hv
      · rw [if_pos hv, if_pos hv]
      · rw [g4 (q.2 - 1) (Or.inl (List.getElem?_eq_some_iff.mp hv).1)]
    · show Value.ref (f' a) = Value.ref (f a)
      rw [g4 a (Or.inr hv)]
  have hm : ∀ v : V, wv (xK h) v → wv al1 v := by
    intro v hv
    obtain ⟨t, rfl⟩ := g2
    rcases v with x | x | q | q | a
    · trivial
    · trivial
    · show (xK h ++ t)[q.2]? = some q.1
      rw [List.getElem?_append_left (List.getElem?_eq_some_iff.mp hv).1]; exact hv
    · rcases hv with hv | hv
      · exact Or.inl hv
      · refine Or.inr ?_
        rw [List.getElem?_append_left (List.getElem?_eq_some_iff.mp hv).1]; exact hv
    · exact hv
  have hst : st.map (rep f) = st.map (rep f') := List.map_congr_left (fun v hv => (hf v (wst v hv)).symm)
  have hls : lrep f ls = lrep f' ls := List.map_congr_left (fun q hq => by rw [hf q.2 (w1 q hq)])
  have k2 := kk r h' hp g1 f' H1 locs1 LS (fun a ha => by
      rcases ha with ha | ha
      · rw [g4 a (Or.inl (Nat.lt_of_lt_of_le ha l1)), h1 a (Or.inl ha)]
      · rw [g4 a (Or.inr ha), h1 a (Or.inr ha)]) (by rw [g1]; exact h2.trans g2) (by rw [g1]; exact g3) g5 g6 g8 (by rw [← hls]; exact hl) (fun q hq => by rw [g1]; exact hm _ (w1 q hq)) (fun v hv => by
      rw [g1]
      rcases List.mem_append.mp hv with hv | hv
      · exact g7 v (by simpa using hv)
      · exact hm _ (wst v hv))
  have e1 : (xK h').length - al0.length = (xK h).length - al0.length + (al1.length - (xK h).length) := by rw [g1]; omega
  have e2 : slo (xK h') - slo al0 = slo (xK h) - slo al0 + (slo al1 - slo (xK h)) := by rw [g1]; omega
  rw [e1, e2] at k2
  rw [hst]
  have e3 : (r.map (rep f')).toList ++ st.map (rep f') = (r.toList ++ st).map (rep f') := by
    cases r <;> simp
  rw [e3]
  exact k2
theorem w_app {al : List Nat} {a b : List V} (h : ws9 al (a ++ b)) : ws9 al a ∧ ws9 al b := ⟨fun q hq => h q (List.mem_append_left _ hq), fun q hq => h q (List.mem_append_right _ hq)⟩
theorem w_rev {al : List Nat} {a : List V} (h : ws9 al a.reverse) : ws9 al a := fun q hq => h q (List.mem_reverse.mpr hq)
/-- the receiver is there -/
theorem recvM {s : State} {H : Heap} {D : va_G} {dA : Nat → ClassId} {f : Nat → Nat} {h : Hp} {k a N : Nat} {C0 : String} {T : u_T} {L : List Fd3} (hc : vwCl[k]? = some (C0, T, N)) (hL : fkL[k]? = some L) (hK : va_K D vwCl (tysD dA) s) (hP : va_P D vwCl (wd dA f h) H) (ha : (xK h)[a]? = some k) : ∃ cell : Cell, H[f a]? = some cell ∧ cell.vm.isStatics = false ∧ s.vm.findClass C0 = some cell.cls :=
  va_recv hK hP hc ((wd_get dA f h ha).trans (by rw [ent_obj hL]))
abbrev NotMH (y : MethodName) : Prop := y.cls ≠ "java/lang/invoke/MethodHandle" ∧ y.cls ≠ "java/lang/invoke/VarHandle"
abbrev Par (y : MethodName) (n : Nat) : Prop := (parseMethodDescriptor y.desc).map (fun d => d.parameters.length) = some n
theorem r_callV {k a N : Nat} {T : u_T} {L : List Fd3} (C : Cx G cc nL own) (X : Rmx l G d alX) (hM : Ms l y cc' nL' ret d' (vr k a :: as) h al1 post) (hd' : d' + 1 ≤ d) (hn : nL' ≤ 21) (hpre : xK h <+: al1) (hal : al1 <+: alX) (hc : vwCl[k]? = some (y.cls, T, N)) (hL : fkL[k]? = some L) (hcat : catS st ≤ 8)
    (q1 : Cond.methodLink own index y ∈ lw_g) (q2 : Cond.instanceMethod y ∈ lw_g) (q3 : Cond.selects y.cls y y ∈ lw_g) (q4 : Cond.initialized y.cls ∈ lw_g) (q5 : Cond.code y cc' nL' ret ∈ lw_g) (hy : NotMH y) (hpar : Par y as.length) (dd : decode cc pc = .ok (.invokevirtual index, 3))
    (kk : ∀ (r : Option V) (h' : Hp), post r h' → xK h' = al1 → Rr G (pc + 3) ls (r.toList ++ st) h') : Rr G pc ls (as.reverse ++ vr k a :: st) h := by
  refine r_callC (as := vr k a :: as) C X hM hd' hn hpre hal q5 (fun al hw => ⟨w_c (w_h (w_app hw).2) (w_rev (w_app hw).1), w_t (w_app hw).2⟩) ?_ kk
  intro f H locs LS cells slots mc ms sz
  obtain ⟨p, l', e, R, s, m, args, below, meth, c, D, dA, A, f0, al0, Q, nL'⟩ := G
  intro hl hx hb hml hown hts hK hP hw hR hG hM2 hPc hf
  exact ⟨_, va_runV (As := as.map (rep f)) ⟨hx, hb, hml, hown, hts⟩ hM2 ⟨callB_of as.length hts hG rfl rfl rfl (hts _ q4) (hts _ q1) ⟨hy.1, hy.2, hpar⟩ hR, hts _ q2, hts _ q3⟩ ⟨blindM, recvM hc hL hK hP (w_h (w_app hw).2), hPc⟩ rfl (by simp) hl.1 (by simp [rep]) (rest_ok hcat) dd hf⟩
theorem r_callS (C : Cx G cc nL own) (X : Rmx l G d alX) (hM : Ms l y cc' nL' ret d' as h al1 post) (hd' : d' + 1 ≤ d) (hn : nL' ≤ 21) (hpre : xK h <+: al1) (hal : al1 <+: alX) (hcat : catS st ≤ 8)
    (q1 : Cond.methodLink own index y ∈ lw_g) (q2 : Cond.static y ∈ lw_g) (q4 : Cond.initialized y.cls ∈ lw_g) (q5 : Cond.code y cc' nL' ret ∈ lw_g) (hy : NotMH y) (hpar : Par y as.length) (dd : decode cc pc = .ok (.invokestatic index, 3))
    (kk : ∀ (r : Option V) (h' : Hp), post r h' → xK h' = al1 → Rr G (pc + 3) ls (r.toList ++ st) h') : Rr G pc ls (as.reverse ++ st) h := by
  refine r_callC (as := as) C X hM hd' hn hpre hal q5 (fun al hw => ⟨w_rev (w_app hw).1, (w_app hw).2⟩) ?_ kk
  intro f H locs LS cells slots mc ms sz
  obtain ⟨p, l', e, R, s, m, args, below, meth, c, D, dA, A, f0, al0, Q, nL'⟩ := G
  intro hl hx hb hml hown hts hK hP hw hR hG hM2 hPc hf
  exact ⟨_, va_runS (As := as.map (rep f)) ⟨hx, hb, hml, hown, hts⟩ hM2 ⟨callB_of as.length hts hG rfl rfl rfl (hts _ q4) (hts _ q1) ⟨hy.1, hy.2, hpar⟩ hR, hts _ q2⟩ ⟨blindM, hPc⟩ rfl (by simp) hl.1 (by simp) (rest_ok hcat) dd hf⟩
end MCALL
section MORE
variable {G : Gt} {cc : ByteArray} {nL pc : Nat} {own : String} {ls : List (Nat × V)} {st : List V} {h : Hp} {l : Launch} {d : Nat} {alX : List Nat}
/-- a row that needs the tables -/
theorem r_tab {pc2 : Nat} {st2 : List V} (C : Cx G cc nL own) (hw : ∀ al, ws9 al st → ws9 al st2)
    (k : ∀ {p : Program} {l : Launch} {e : Env} {R : Room} {s : State} {m : MethodId} {args : Array Value} {below : List Frame} {meth : Method} {c : Code} {H : Heap} {locs : List Loc} {cells slots : Nat} {Q : State → Prop} {LS : Array Slot} (f : Nat → Nat), p.tables.exec = Jvm.exec → c.code = cc → s.vm.findClass own = some m.cls → (∀ w ∈ lw_g, w.before args s = true) →
      W p l e R s m args below meth c H locs cells slots Q (F0 m pc2 LS (st2.map (rep f))) → W p l e R s m args below meth c H locs cells slots Q (F0 m pc LS (st.map (rep f))))
    (kk : Rr G pc2 ls st2 h) : Rr G pc ls st h := by
  refine r_of (ls2 := ls) C ?_ kk
  intro f H locs LS cells slots
  obtain ⟨p, l, e, R, s, m, args, below, meth, c, D, dA, A, f0, al0, Q, nL'⟩ := G
  intro _ _ _ _ hl hw1 hw2 hx hb ho ht _
  exact ⟨hl, hw1, hw _ hw2, k f hx hb ho ht⟩
theorem r_ldc (C : Cx G cc nL own) {index : Nat} {v : Int32} (q : Cond.constant own index v ∈ lw_g) (dd : decode cc pc = .ok (.ldc index, 2)) (kk : Rr G (pc + 2) ls (vi v :: st) h) : Rr G pc ls st h :=
  r_tab C (fun al hw => w_1 hw) (fun f hx hb ho ht k => lv_ldc hx hb ho (ht _ q) dd k) kk
theorem r_ldcw (C : Cx G cc nL own) {index : Nat} {v : Int32} (q : Cond.constant own index v ∈ lw_g) (dd : decode cc pc = .ok (.ldc_w index, 3)) (kk : Rr G (pc + 3) ls (vi v :: st) h) : Rr G pc ls st h :=
  r_tab C (fun al hw => w_1 hw) (fun f hx hb ho ht k => lv_ldcw hx hb ho (ht _ q) dd k) kk
theorem r_ldc2 (C : Cx G cc nL own) {index : Nat} {v : Int64} (q : Cond.constantLong own index v ∈ lw_g) (dd : decode cc pc = .ok (.ldc2_w index, 3)) (kk : Rr G (pc + 3) ls (vl v :: st) h) : Rr G pc ls st h :=
  r_tab C (fun al hw => w_L hw) (fun f hx hb ho ht k => lv_ldc2 hx hb ho (ht _ q) dd k) kk
/-- a text -/
theorem r_ldcS (C : Cx G cc nL own) {index i : Nat} (k : Nat) (hk : txR[k]? = some (own, index, i)) (dd : decode cc pc = .ok (.ldc index, 2)) (kk : Rr G (pc + 2) ls (vt (1000 + i) :: st) h) : Rr G pc ls st h := by
  obtain ⟨p, l, e, R, s, m, args, below, meth, c, D, dA, A, f0, al0, Q, nL'⟩ := G
  obtain ⟨rfl, hx, hb, hml, hown, hts, hlk, hK, hAz, hSF⟩ := C
  intro f H locs LS h1 h2 h3 hP hD hS hl w1 w2
  have hR := hSF.2.2.2.1 k _ hk
  refine va_ldcS hx hb hown hR dd ?_
  have e1 : f0 (1000 + i) = f (1000 + i) := (h1 _ (Or.inr (by omega))).symm
  show W p l e R s m args below meth c H locs _ _ Q (F0 m (pc + 2) LS (.ref (f0 (1000 + i)) :: st.map (rep f)))
  rw [e1]
  exact kk f H locs LS h1 h2 h3 hP hD hS hl w1 (w_c (show 1000 ≤ 1000 + i by omega) w2)
theorem r_tabOut (C : Cx G cc nL own) {dflt lo hi : Int} {offs : Array Int} {len : Nat} {x : Int32} {tgt : Nat} (dd : decode cc pc = .ok (.tableswitch dflt lo hi offs, len)) (hh : x.toInt < lo ∨ hi < x.toInt) (ht : (pc : Int) + dflt = (tgt : Int)) (kk : Rr G tgt ls st h) : Rr G pc ls (vi x :: st) h :=
  r_op C (fun al hw => w_t hw) (fun f hx hb k => lv_tableOut hx hb dd hh ht k) kk
theorem r_tabIn (C : Cx G cc nL own) {dflt lo hi : Int} {offs : Array Int} {len : Nat} {x : Int32} {off : Int} {tgt : Nat} (dd : decode cc pc = .ok (.tableswitch dflt lo hi offs, len)) (h1 : ¬ x.toInt < lo) (h2 : ¬ hi < x.toInt) (ho : offs[(x.toInt - lo).toNat]? = some off) (ht : (pc : Int) + off = (tgt : Int)) (kk : Rr G tgt ls st h) : Rr G pc ls (vi x :: st) h :=
  r_op C (fun al hw => w_t hw) (fun f hx hb k => lv_tableIn hx hb dd h1 h2 ho ht k) kk
theorem r_lookup (C : Cx G cc nL own) {dflt : Int} {ps : Array (Int × Int)} {len : Nat} {x : Int32} {off : Int} {tgt : Nat} (dd : decode cc pc = .ok (.lookupswitch dflt ps, len)) (hp : (ps.toList.zip (ps.toList.drop 1)).all (fun (a, next) => a.1 < next.1) = true) (ho : Op.lookupswitch.offset ps.toList dflt x.toInt = off) (ht : (pc : Int) + off = (tgt : Int)) (kk : Rr G tgt ls st h) : Rr G pc ls (vi x :: st) h :=
  r_op C (fun al hw => w_t hw) (fun f hx hb k => lv_lookup hx hb dd hp ho ht k) kk
/-- null, or not -/
theorem r_ifnonnull_y (C : Cx G cc nL own) {k a : Nat} {off : Int} {tgt : Nat} (dd : decode cc pc = .ok (.ifnonnull off, 3)) (ht : (pc : Int) + off = (tgt : Int)) (kk : Rr G tgt ls st h) : Rr G pc ls (vn k (a + 1) :: st) h :=
  r_op C (fun al hw => w_t hw) (fun f hx hb k => lv_ifnonnull hx hb dd ht k) kk
theorem r_ifnonnull_n (C : Cx G cc nL own) {k : Nat} {off : Int} (dd : decode cc pc = .ok (.ifnonnull off, 3)) (kk : Rr G (pc + 3) ls st h) : Rr G pc ls (vn k 0 :: st) h :=
  r_op C (fun al hw => w_t hw) (fun f hx hb k => lv_ifnonnullN hx hb dd k) kk
theorem rmx1 {l : Launch} {G : Gt} {d : Nat} {alX : List Nat} (X : Rmx l G d alX) (hd : 1 ≤ d) : match G with
    | (p, l', e, R, s, m, args, below, meth, c, D, dA, A, f0, al0, Q, nL) => 1 ≤ R.frames ∧ 40 ≤ R.locals ∧ alX.length - al0.length ≤ R.cells ∧ slo alX - slo al0 ≤ R.slots := by
  obtain ⟨p, l', e, R, s, m, args, below, meth, c, D, dA, A, f0, al0, Q, nL'⟩ := G
  obtain ⟨rfl, X1, X2, X3, X4⟩ := X
  exact ⟨by omega, by omega, X3, X4⟩
/-- Math.min -/
theorem r_min (C : Cx G cc nL own) (X : Rmx l G d alX) (hd : 1 ≤ d) (hal : xK h <+: alX) {index : Nat} {x y : Int32} (hcat : catS st ≤ 8) (q1 : Cond.methodLink own index Lib.Math.min.name ∈ lw_g) (q2 : Cond.static Lib.Math.min.name ∈ lw_g) (q3 : Cond.initialized "java/lang/Math" ∈ lw_g) (q4 : Cond.code Lib.Math.min.name Lib.Math.min.code 2 (some .int) ∈ lw_g)
    (dd : decode cc pc = .ok (.invokestatic index, 3)) (kk : Rr G (pc + 3) ls (vi (if y < x then y else x) :: st) h) : Rr G pc ls (vi y :: vi x :: st) h := by
  obtain ⟨p, l', e, R, s, m, args, below, meth, c, D, dA, A, f0, al0, Q, nL'⟩ := G
  obtain ⟨rfl, hx, hb, hml, hown, hts, hlk, hK, hAz, hSF⟩ := C
  obtain ⟨X1, X2, X3, X4⟩ := rmx1 X hd
  intro f H locs LS h1 h2 h3 hP hD hS hl w1 w2
  have p1 := pfx_len hal
  have p2 := pfx_slo hal
  refine va_mmin hx hb (hml.trans hl.1.symm) hown (hts _ q1) (hts _ q2) (hts _ q3) (hts _ q4) X1 ?_ (by omega) (by omega) dd ?_
  · rw [catS_rep]; omega
  · exact kk f H locs LS h1 h2 h3 hP hD hS hl w1 (w_1 (w_t (w_t w2)))
/-- System.arraycopy -/
def cpI (h : Hp) (a0 a sp dp n : Nat) : Hp := (fun b => if b = a then va_cpy (xI h a0) (xI h a) sp dp n else xI h b, h.2)
def cpL (h : Hp) (a0 a sp dp n : Nat) : Hp := (h.1, fun b => if b = a then va_cpy (xL h a0) (xL h a) sp dp n else xL h b, h.2.2)
theorem oth_cpI {h : Hp} {a0 a sp dp n : Nat} : ∀ b, b ≠ a → xI (cpI h a0 a sp dp n) b = xI h b ∧ xL (cpI h a0 a sp dp n) b = xL h b ∧ xN (cpI h a0 a sp dp n) b = xN h b := fun b hb => ⟨by simp [cpI, xI, hb], rfl, rfl⟩
theorem oth_cpL {h : Hp} {a0 a sp dp n : Nat} : ∀ b, b ≠ a → xI (cpL h a0 a sp dp n) b = xI h b ∧ xL (cpL h a0 a sp dp n) b = xL h b ∧ xN (cpL h a0 a sp dp n) b = xN h b := fun b hb => ⟨rfl, by simp [cpL, xL, hb], rfl⟩
/-- the words of arraycopy -/
def qcp : Prop := Cond.native arraycopyName ∈ lw_g ∧ Cond.static arraycopyName ∈ lw_g ∧ Cond.initialized "java/lang/System" ∈ lw_g
theorem r_copyI (C : Cx G cc nL own) (X : Rmx l G d alX) (hd : 1 ≤ d) {index k0 k a0 a n0 n1 o0 o1 sp dp n : Nat} {sp' dp' n' : Int32} (hcat : catS st ≤ 8) (q1 : Cond.methodLink own index arraycopyName ∈ lw_g) (q2 : qcp) (hL0 : fkL[k0]? = none) (hq0 : akL[k0 - 20]? = some (0, n0, o0)) (hL1 : fkL[k]? = none) (hq1 : akL[k - 20]? = some (0, n1, o1))
    (e1 : sp' = nI sp) (e2 : dp' = nI dp) (e3 : n' = nI n) (b1 : sp < 2 ^ 31) (b2 : dp < 2 ^ 31) (b3 : n < 2 ^ 31) (h4 : sp + n ≤ n0) (h5 : dp + n ≤ n1) (dd : decode cc pc = .ok (.invokestatic index, 3)) (kk : Rr G (pc + 3) ls st (cpI h a0 a sp dp n)) : Rr G pc ls (vi n' :: vi dp' :: vr k a :: vi sp' :: vr k0 a0 :: st) h := by
  subst e1; subst e2; subst e3
  obtain ⟨p, l', e, R, s, m, args, below, meth, c, D, dA, A, f0, al0, Q, nL'⟩ := G
  obtain ⟨rfl, hx, hb, hml, hown, hts, hlk, hK, hAz, hSF⟩ := C
  obtain ⟨X1, X2, X3, X4⟩ := rmx1 X hd
  intro f H locs LS h1 h2 h3 hP hD hS hl w1 w2
  have k0' := w_h (w_t (w_t (w_t (w_t w2))))
  have k1' := w_h (w_t (w_t w2))
  have g0 : (wd dA f h)[a0]? = some (f a0, .inl (dA 0, n0, .inl (xI h a0))) := (wd_get dA f h k0').trans (by rw [ent_arr hL0 hq0]; rfl)
  have g1 : (wd dA f h)[a]? = some (f a, .inl (dA 0, n1, .inl (xI h a))) := (wd_get dA f h k1').trans (by rw [ent_arr hL1 hq1]; rfl)
  have e9 : ent dA f (cpI h a0 a sp dp n) k a = .inl (dA 0, n1, .inl (va_cpy (xI h a0) (xI h a) sp dp n)) := by rw [ent_arr hL1 hq1]; simp [entA, cpI, xI]
  refine va_copyi hx hb (hml.trans hl.1.symm) hown (hts _ q1) (hts _ q2.1) (hts _ q2.2.1) (hts _ q2.2.2) hK hP hD hS a0 a 0 0 g0 g1 rfl rfl rfl (nI_pos b1) (nI_pos b2) (nI_pos b3) (by rw [nI_clamp b1, nI_clamp b3]; exact h4) (by rw [nI_clamp b2, nI_clamp b3]; exact h5) (fun _ _ => rfl) X1 ?_ dd (fun H1 locs1 a1 a2 a3 => ?_)
  · rw [catS_rep, show nativeFrameWords "java/lang/System" "arraycopy" 5 = 7 by decide]; omega
  · rw [nI_clamp b1, nI_clamp b2, nI_clamp b3, ← e9, wd_set (h' := cpI h a0 a sp dp n) (a := a) (k := k) k1' rfl oth_cpI rfl] at a1 a2
    exact kk f H1 locs1 LS h1 h2 h3 a1 a2 a3 hl w1 (w_t (w_t (w_t (w_t (w_t w2)))))
theorem r_copyZ (C : Cx G cc nL own) (X : Rmx l G d alX) (hd : 1 ≤ d) {index k0 k a0 a n0 n1 o0 o1 sp dp n : Nat} {sp' dp' n' : Int32} (hcat : catS st ≤ 8) (q1 : Cond.methodLink own index arraycopyName ∈ lw_g) (q2 : qcp) (hL0 : fkL[k0]? = none) (hq0 : akL[k0 - 20]? = some (3, n0, o0)) (hL1 : fkL[k]? = none) (hq1 : akL[k - 20]? = some (3, n1, o1))
    (e1 : sp' = nI sp) (e2 : dp' = nI dp) (e3 : n' = nI n) (b1 : sp < 2 ^ 31) (b2 : dp < 2 ^ 31) (b3 : n < 2 ^ 31) (h4 : sp + n ≤ n0) (h5 : dp + n ≤ n1) (hz0 : ∀ i, i < n → fits .boolean (.int (xI h a0 (sp + i))) = true) (dd : decode cc pc = .ok (.invokestatic index, 3)) (kk : Rr G (pc + 3) ls st (cpI h a0 a sp dp n)) : Rr G pc ls (vi n' :: vi dp' :: vr k a :: vi sp' :: vr k0 a0 :: st) h := by
  subst e1; subst e2; subst e3
  obtain ⟨p, l', e, R, s, m, args, below, meth, c, D, dA, A, f0, al0, Q, nL'⟩ := G
  obtain ⟨rfl, hx, hb, hml, hown, hts, hlk, hK, hAz, hSF⟩ := C
  obtain ⟨X1, X2, X3, X4⟩ := rmx1 X hd
  intro f H locs LS h1 h2 h3 hP hD hS hl w1 w2
  have k0' := w_h (w_t (w_t (w_t (w_t w2))))
  have k1' := w_h (w_t (w_t w2))
  have g0 : (wd dA f h)[a0]? = some (f a0, .inl (dA 3, n0, .inl (xI h a0))) := (wd_get dA f h k0').trans (by rw [ent_arr hL0 hq0]; rfl)
  have g1 : (wd dA f h)[a]? = some (f a, .inl (dA 3, n1, .inl (xI h a))) := (wd_get dA f h k1').trans (by rw [ent_arr hL1 hq1]; rfl)
  have e9 : ent dA f (cpI h a0 a sp dp n) k a = .inl (dA 3, n1, .inl (va_cpy (xI h a0) (xI h a) sp dp n)) := by rw [ent_arr hL1 hq1]; simp [entA, cpI, xI]
  refine va_copyi hx hb (hml.trans hl.1.symm) hown (hts _ q1) (hts _ q2.1) (hts _ q2.2.1) (hts _ q2.2.2) hK hP hD hS a0 a 3 3 g0 g1 rfl rfl rfl (nI_pos b1) (nI_pos b2) (nI_pos b3) (by rw [nI_clamp b1, nI_clamp b3]; exact h4) (by rw [nI_clamp b2, nI_clamp b3]; exact h5) (fun i hi => by rw [nI_clamp b3] at hi; rw [nI_clamp b1]; exact hz0 i hi) X1 ?_ dd (fun H1 locs1 a1 a2 a3 => ?_)
  · rw [catS_rep, show nativeFrameWords "java/lang/System" "arraycopy" 5 = 7 by decide]; omega
  · rw [nI_clamp b1, nI_clamp b2, nI_clamp b3, ← e9, wd_set (h' := cpI h a0 a sp dp n) (a := a) (k := k) k1' rfl oth_cpI rfl] at a1 a2
    exact kk f H1 locs1 LS h1 h2 h3 a1 a2 a3 hl w1 (w_t (w_t (w_t (w_t (w_t w2)))))
theorem r_copyL (C : Cx G cc nL own) (X : Rmx l G d alX) (hd : 1 ≤ d) {index k0 k a0 a n0 n1 o0 o1 sp dp n : Nat} {sp' dp' n' : Int32} (hcat : catS st ≤ 8) (q1 : Cond.methodLink own index arraycopyName ∈ lw_g) (q2 : qcp) (hL0 : fkL[k0]? = none) (hq0 : akL[k0 - 20]? = some (1, n0, o0)) (hL1 : fkL[k]? = none) (hq1 : akL[k - 20]? = some (1, n1, o1))
    (e1 : sp' = nI sp) (e2 : dp' = nI dp) (e3 : n' = nI n) (b1 : sp < 2 ^ 31) (b2 : dp < 2 ^ 31) (b3 : n < 2 ^ 31) (h4 : sp + n ≤ n0) (h5 : dp + n ≤ n1) (dd : decode cc pc = .ok (.invokestatic index, 3)) (kk : Rr G (pc + 3) ls st (cpL h a0 a sp dp n)) : Rr G pc ls (vi n' :: vi dp' :: vr k a :: vi sp' :: vr k0 a0 :: st) h := by
  subst e1; subst e2; subst e3
  obtain ⟨p, l', e, R, s, m, args, below, meth, c, D, dA, A, f0, al0, Q, nL'⟩ := G
  obtain ⟨rfl, hx, hb, hml, hown, hts, hlk, hK, hAz, hSF⟩ := C
  obtain ⟨X1, X2, X3, X4⟩ := rmx1 X hd
  intro f H locs LS h1 h2 h3 hP hD hS hl w1 w2
  have k0' := w_h (w_t (w_t (w_t (w_t w2))))
  have k1' := w_h (w_t (w_t w2))
  have g0 : (wd dA f h)[a0]? = some (f a0, .inl (dA 1, n0, .inr (.inl (xL h a0)))) := (wd_get dA f h k0').trans (by rw [ent_arr hL0 hq0]; rfl)
  have g1 : (wd dA f h)[a]? = some (f a, .inl (dA 1, n1, .inr (.inl (xL h a)))) := (wd_get dA f h k1').trans (by rw [ent_arr hL1 hq1]; rfl)
  have e9 : ent dA f (cpL h a0 a sp dp n) k a = .inl (dA 1, n1, .inr (.inl (va_cpy (xL h a0) (xL h a) sp dp n))) := by rw [ent_arr hL1 hq1]; simp [entA, cpL, xL]
  refine va_copyl hx hb (hml.trans hl.1.symm) hown (hts _ q1) (hts _ q2.1) (hts _ q2.2.1) (hts _ q2.2.2) hK hP hD hS a0 a 1 1 g0 g1 rfl rfl rfl (nI_pos b1) (nI_pos b2) (nI_pos b3) (by rw [nI_clamp b1, nI_clamp b3]; exact h4) (by rw [nI_clamp b2, nI_clamp b3]; exact h5) (fun _ _ => rfl) X1 ?_ dd (fun H1 locs1 a1 a2 a3 => ?_)
  · rw [catS_rep, show nativeFrameWords "java/lang/System" "arraycopy" 5 = 7 by decide]; omega
  · rw [nI_clamp b1, nI_clamp b2, nI_clamp b3, ← e9, wd_set (h' := cpL h a0 a sp dp n) (a := a) (k := k) k1' rfl oth_cpL rfl] at a1 a2
    exact kk f H1 locs1 LS h1 h2 h3 a1 a2 a3 hl w1 (w_t (w_t (w_t (w_t (w_t w2)))))
end MORE

