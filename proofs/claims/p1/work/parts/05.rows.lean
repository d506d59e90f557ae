/-! PART 05: rows in the shape in which a program lays them -/
def b2i (b : Bool) : Int32 := cond b 1 0
theorem b2i_0 {b : Bool} : b2i b = 0 ↔ b = false := by cases b <;> simp [b2i]
theorem b2i_n {b : Bool} : ¬ b2i b = 0 ↔ b = true := by cases b <;> simp [b2i]
theorem b2i_inj {a b : Bool} (h : a = b) : b2i a = b2i b := by rw [h]
theorem nar_b (b : Bool) : narrow .boolean (.int (b2i b)) = .int (b2i b) := by cases b <;> rfl
section R5
variable {G : Gt} {cc : ByteArray} {nL pc : Nat} {own : String} {ls : List (Nat × V)} {st : List V} {h : Hp} {l : Launch} {d : Nat} {alX : List Nat}
theorem rn_lt (C : Cx G cc nL own) {a b : Nat} (ha : a < 2 ^ 31) (hb : b < 2 ^ 31) {off : Int} {tgt : Nat} (dd : decode cc pc = .ok (.if_icmp .lt off, 3)) (ht : (pc : Int) + off = (tgt : Int)) (k1 : a < b → Rr G tgt ls st h) (k2 : b ≤ a → Rr G (pc + 3) ls st h) : Rr G pc ls (vi (nI b) :: vi (nI a) :: st) h :=
  r_icmp_lt C dd ht (fun q => k1 ((nI_ltI ha hb).mp q)) (fun q => k2 (Nat.le_of_not_lt fun z => q ((nI_ltI ha hb).mpr z)))
theorem rn_ge (C : Cx G cc nL own) {a b : Nat} (ha : a < 2 ^ 31) (hb : b < 2 ^ 31) {off : Int} {tgt : Nat} (dd : decode cc pc = .ok (.if_icmp .ge off, 3)) (ht : (pc : Int) + off = (tgt : Int)) (k1 : b ≤ a → Rr G tgt ls st h) (k2 : a < b → Rr G (pc + 3) ls st h) : Rr G pc ls (vi (nI b) :: vi (nI a) :: st) h :=
  r_icmp_ge C dd ht (fun q => k1 ((nI_leI hb ha).mp q)) (fun q => k2 (Nat.lt_of_not_le fun z => q ((nI_leI hb ha).mpr z)))
theorem rn_gt (C : Cx G cc nL own) {a b : Nat} (ha : a < 2 ^ 31) (hb : b < 2 ^ 31) {off : Int} {tgt : Nat} (dd : decode cc pc = .ok (.if_icmp .gt off, 3)) (ht : (pc : Int) + off = (tgt : Int)) (k1 : b < a → Rr G tgt ls st h) (k2 : a ≤ b → Rr G (pc + 3) ls st h) : Rr G pc ls (vi (nI b) :: vi (nI a) :: st) h :=
  r_icmp_gt C dd ht (fun q => k1 ((nI_ltI hb ha).mp q)) (fun q => k2 (Nat.le_of_not_lt fun z => q ((nI_ltI hb ha).mpr z)))
theorem rn_le (C : Cx G cc nL own) {a b : Nat} (ha : a < 2 ^ 31) (hb : b < 2 ^ 31) {off : Int} {tgt : Nat} (dd : decode cc pc = .ok (.if_icmp .le off, 3)) (ht : (pc : Int) + off = (tgt : Int)) (k1 : a ≤ b → Rr G tgt ls st h) (k2 : b < a → Rr G (pc + 3) ls st h) : Rr G pc ls (vi (nI b) :: vi (nI a) :: st) h :=
  r_icmp_le C dd ht (fun q => k1 ((nI_leI ha hb).mp q)) (fun q => k2 (Nat.lt_of_not_le fun z => q ((nI_leI ha hb).mpr z)))
theorem rn_eq (C : Cx G cc nL own) {a b : Nat} (ha : a < 2 ^ 31) (hb : b < 2 ^ 31) {off : Int} {tgt : Nat} (dd : decode cc pc = .ok (.if_icmp .eq off, 3)) (ht : (pc : Int) + off = (tgt : Int)) (k1 : a = b → Rr G tgt ls st h) (k2 : ¬ a = b → Rr G (pc + 3) ls st h) : Rr G pc ls (vi (nI b) :: vi (nI a) :: st) h :=
  r_icmp_eq C dd ht (fun q => k1 ((nI_eq ha hb).mp q)) (fun q => k2 fun z => q ((nI_eq ha hb).mpr z))
theorem rn_ne (C : Cx G cc nL own) {a b : Nat} (ha : a < 2 ^ 31) (hb : b < 2 ^ 31) {off : Int} {tgt : Nat} (dd : decode cc pc = .ok (.if_icmp .ne off, 3)) (ht : (pc : Int) + off = (tgt : Int)) (k1 : ¬ a = b → Rr G tgt ls st h) (k2 : a = b → Rr G (pc + 3) ls st h) : Rr G pc ls (vi (nI b) :: vi (nI a) :: st) h :=
  r_icmp_ne C dd ht (fun q => k1 fun z => q ((nI_eq ha hb).mpr z)) (fun q => k2 ((nI_eq ha hb).mp q))
theorem rb_eq (C : Cx G cc nL own) {b : Bool} {off : Int} {tgt : Nat} (dd : decode cc pc = .ok (.ifCond .eq off, 3)) (ht : (pc : Int) + off = (tgt : Int)) (k1 : b = false → Rr G tgt ls st h) (k2 : b = true → Rr G (pc + 3) ls st h) : Rr G pc ls (vi (b2i b) :: st) h :=
  r_if_eq C dd ht (fun q => k1 (b2i_0.mp q)) (fun q => k2 (b2i_n.mp q))
theorem rb_ne (C : Cx G cc nL own) {b : Bool} {off : Int} {tgt : Nat} (dd : decode cc pc = .ok (.ifCond .ne off, 3)) (ht : (pc : Int) + off = (tgt : Int)) (k1 : b = true → Rr G tgt ls st h) (k2 : b = false → Rr G (pc + 3) ls st h) : Rr G pc ls (vi (b2i b) :: st) h :=
  r_if_ne C dd ht (fun q => k1 (b2i_n.mp q)) (fun q => k2 (b2i_0.mp q))
theorem rn_iadd (C : Cx G cc nL own) {a b : Nat} (dd : decode cc pc = .ok (.iadd, 1)) (kk : Rr G (pc + 1) ls (vi (nI (a + b)) :: st) h) : Rr G pc ls (vi (nI b) :: vi (nI a) :: st) h :=
  r_iadd C dd (by rw [nI_add]; exact kk)
theorem rn_isub (C : Cx G cc nL own) {a b : Nat} (hab : b ≤ a) (dd : decode cc pc = .ok (.isub, 1)) (kk : Rr G (pc + 1) ls (vi (nI (a - b)) :: st) h) : Rr G pc ls (vi (nI b) :: vi (nI a) :: st) h :=
  r_isub C dd (by rw [pk_sub hab]; exact kk)
theorem rn_imul (C : Cx G cc nL own) {a b : Nat} (dd : decode cc pc = .ok (.imul, 1)) (kk : Rr G (pc + 1) ls (vi (nI (a * b)) :: st) h) : Rr G pc ls (vi (nI b) :: vi (nI a) :: st) h :=
  r_imul C dd (by rw [pk_mul]; exact kk)
theorem rn_iinc (C : Cx G cc nL own) {i : Nat} {k : Nat} {n : Int} {a : Nat} {ls' : List (Nat × V)} (dd : decode cc pc = .ok (.iinc i n, 3)) (hl : lkv i ls = some (vi (nI a))) (hn : Int32.ofInt n = nI k) (hi : i < nL) (ks : List Nat) (hk : lpick (stv i (vi (nI (a + k))) ls) ks = ls') (kk : Rr G (pc + 3) ls' st h) : Rr G pc ls st h :=
  r_iinc C dd hl (by rw [hn, nI_add]) hi ks hk kk
/-- contracts of methods that only read -/
abbrev Mp (l : Launch) (y : MethodName) (cc : ByteArray) (nL : Nat) (ret : Option FieldType) (d : Nat) (as : List V) (h : Hp) (v : V) : Prop := Ms l y cc nL ret d as h (xK h) (fun r h' => r = some v ∧ h' = h)
variable {y : MethodName} {cc' : ByteArray} {nL' d' index n : Nat} {ret : Option FieldType} {as : List V} {al1 : List Nat} {post : Option V → Hp → Prop}
theorem r_cv {k a N : Nat} {T : u_T} {L : List Fd3} (C : Cx G cc nL own) (X : Rmx l G d alX) (I : VI y cc' nL' ret n) (q1 : Cond.methodLink own index y ∈ lw_g) (hM : Ms l y cc' nL' ret d' (vr k a :: as) h al1 post) (hd' : d' + 1 ≤ d) (hn : nL' ≤ 21) (hpre : xK h <+: al1) (hal : al1 <+: alX) (hc : vwCl[k]? = some (y.cls, T, N)) (hL : fkL[k]? = some L) (hcat : catS st ≤ 8) (hlen : n = as.length) (dd : decode cc pc = .ok (.invokevirtual index, 3))
    (kk : ∀ (r : Option V) (h' : Hp), post r h' → xK h' = al1 → Rr G (pc + 3) ls (r.toList ++ st) h') : Rr G pc ls (as.reverse ++ vr k a :: st) h :=
  r_callV C X hM hd' hn hpre hal hc hL hcat q1 I.1 I.2.1 I.2.2.1 I.2.2.2.1 I.2.2.2.2.1 (hlen ▸ I.2.2.2.2.2) dd kk
theorem r_cs (C : Cx G cc nL own) (X : Rmx l G d alX) (I : SI y cc' nL' ret n) (q1 : Cond.methodLink own index y ∈ lw_g) (hM : Ms l y cc' nL' ret d' as h al1 post) (hd' : d' + 1 ≤ d) (hn : nL' ≤ 21) (hpre : xK h <+: al1) (hal : al1 <+: alX) (hcat : catS st ≤ 8) (hlen : n = as.length) (dd : decode cc pc = .ok (.invokestatic index, 3))
    (kk : ∀ (r : Option V) (h' : Hp), post r h' → xK h' = al1 → Rr G (pc + 3) ls (r.toList ++ st) h') : Rr G pc ls (as.reverse ++ st) h :=
  r_callS C X hM hd' hn hpre hal hcat q1 I.1 I.2.1 I.2.2.1 I.2.2.2.1 (hlen ▸ I.2.2.2.2) dd kk
theorem r_cvP {k a N : Nat} {T : u_T} {L : List Fd3} {v : V} (C : Cx G cc nL own) (X : Rmx l G d alX) (I : VI y cc' nL' ret n) (q1 : Cond.methodLink own index y ∈ lw_g) (hM : Mp l y cc' nL' ret d' (vr k a :: as) h v) (hd' : d' + 1 ≤ d) (hn : nL' ≤ 21) (hal : xK h <+: alX) (hc : vwCl[k]? = some (y.cls, T, N)) (hL : fkL[k]? = some L) (hcat : catS st ≤ 8) (hlen : n = as.length) (dd : decode cc pc = .ok (.invokevirtual index, 3))
    (kk : Rr G (pc + 3) ls (v :: st) h) : Rr G pc ls (as.reverse ++ vr k a :: st) h := by
  refine r_cv C X I q1 hM hd' hn List.prefix_rfl hal hc hL hcat hlen dd (fun r h' hp _ => ?_)
  obtain ⟨rfl, rfl⟩ := hp
  exact kk
theorem r_csP {v : V} (C : Cx G cc nL own) (X : Rmx l G d alX) (I : SI y cc' nL' ret n) (q1 : Cond.methodLink own index y ∈ lw_g) (hM : Mp l y cc' nL' ret d' as h v) (hd' : d' + 1 ≤ d) (hn : nL' ≤ 21) (hal : xK h <+: alX) (hcat : catS st ≤ 8) (hlen : n = as.length) (dd : decode cc pc = .ok (.invokestatic index, 3))
    (kk : Rr G (pc + 3) ls (v :: st) h) : Rr G pc ls (as.reverse ++ st) h := by
  refine r_cs C X I q1 hM hd' hn List.prefix_rfl hal hcat hlen dd (fun r h' hp _ => ?_)
  obtain ⟨rfl, rfl⟩ := hp
  exact kk
/-- loops that count up -/
theorem loopU {Φ : Nat → Prop} {N : Nat} (hN : Φ N) (hs : ∀ i, i < N → Φ (i + 1) → Φ i) : ∀ i, i ≤ N → Φ i := by
  have key : ∀ n i, i + n = N → Φ i := by
    intro n
    induction n with
    | zero => intro i hi; rw [show i = N by omega]; exact hN
    | succ n ih => intro i hi; exact hs i (by omega) (ih (i + 1) (by omega))
  intro i hi
  exact key (N - i) i (by omega)
end R5

