/-! PART 31: objects made -/
theorem ptr_tab : ∀ L ∈ fkL, ∀ d ∈ L, d.1 = 2 → ¬ (8 ≤ d.2.2 ∧ d.2.2 < 16) := by decide +kernel
theorem row_tab : ∀ d ∈ akL, 4 ≤ d.1 → ¬ (8 ≤ d.2.2 ∧ d.2.2 < 16) := by decide +kernel
theorem cl8 {k : Nat} (hk : k < 8) : vwCl[k + 8]? = vwCl[k]? := by
  match k, hk with
  | 0, _ => rfl
  | 1, _ => rfl
  | 2, _ => rfl
  | 3, _ => rfl
  | 4, _ => rfl
  | 5, _ => rfl
  | 6, _ => rfl
  | 7, _ => rfl
theorem fk8 {k : Nat} (hk : k < 8) : fkL[k + 8]? = (fkL[k]?).map (fun L => L.map (fun d => if d.1 = 2 then (3, 0, d.2.2) else d)) := by
  match k, hk with
  | 0, _ => rfl
  | 1, _ => rfl
  | 2, _ => rfl
  | 3, _ => rfl
  | 4, _ => rfl
  | 5, _ => rfl
  | 6, _ => rfl
  | 7, _ => rfl
theorem at8 {D : va_G} {tys : List (ClassId × FieldType)} {s : State} {k x : Nat} {vs : List Value} {H : Heap} (hK : va_K D vwCl tys s) (hk : k < 8) (h : va_at D vwCl (x, .inr (k + 8, vs)) H) : va_at D vwCl (x, .inr (k, vs)) H := by
  obtain ⟨r, h1, cell, g1, g2, g3, g4⟩ := h
  have h2 : vwCl[k]? = some r := (cl8 hk).symm.trans h1
  obtain ⟨a1, a2⟩ := hK.1 (k + 8) r h1
  obtain ⟨b1, b2⟩ := hK.1 k r h2
  have e1 : D.1 (k + 8) = D.1 k := Option.some.inj (a2.1.symm.trans b2.1)
  refine ⟨r, h2, cell, g1, g2.trans e1, g3, fun j hj => ?_⟩
  have e2 : D.2 (k + 8) j = D.2 k j := by
    obtain ⟨_, _, _, _, p1, p2⟩ := a1 j hj
    obtain ⟨_, _, _, _, q1, q2⟩ := b1 j hj
    have e := p1.symm.trans q1
    simp only [Option.some.injEq, Prod.mk.injEq] at e
    rw [← p2, ← q2, e.2.2.2]
  rw [← e2]; exact g4 j hj
/-- an object that is made -/
def rt (h : Hp) (a k : Nat) : Hp := (h.1, h.2.1, h.2.2.1, (xK h).set a k)
theorem slo_set {x : Nat} : ∀ (l : List Nat) (i : Nat) (y : Nat), l[i]? = some y → slk x = slk y → slo (l.set i x) = slo l
  | [], _, _, h, _ => by simp at h
  | k :: t, 0, y, h, e => by simp at h; subst h; simp [slo, e]
  | k :: t, i + 1, y, h, e => by
    simp only [List.getElem?_cons_succ] at h
    simp only [List.set_cons_succ, slo, slo_set t i y h e]
theorem slk8 {k : Nat} (hk : k < 8) : slk k = slk (k + 8) := by
  match k, hk with
  | 0, _ => rfl
  | 1, _ => rfl
  | 2, _ => rfl
  | 3, _ => rfl
  | 4, _ => rfl
  | 5, _ => rfl
  | 6, _ => rfl
  | 7, _ => rfl
/-- a value doesn't lead to a cell -/
def nr1 (a : Nat) : V → Prop
  | .inr (.inr (.inl q)) => q.2 ≠ a
  | .inr (.inr (.inr (.inl q))) => q.2 ≠ a + 1
  | _ => True
def nrS (a : Nat) : List V → Prop
  | [] => True
  | v :: t => nr1 a v ∧ nrS a t
def nrL (a : Nat) : List (Nat × V) → Prop
  | [] => True
  | q :: t => nr1 a q.2 ∧ nrL a t
theorem nrS.at {a : Nat} : ∀ {st : List V}, nrS a st → ∀ q ∈ st, nr1 a q
  | [], _, q, hq => by cases hq
  | v :: t, h, q, hq => by
    rcases List.mem_cons.mp hq with rfl | hq
    · exact h.1
    · exact nrS.at h.2 q hq
theorem nrL.at {a : Nat} : ∀ {ls : List (Nat × V)}, nrL a ls → ∀ q ∈ ls, nr1 a q.2
  | [], _, q, hq => by cases hq
  | v :: t, h, q, hq => by
    rcases List.mem_cons.mp hq with rfl | hq
    · exact h.1
    · exact nrL.at h.2 q hq
theorem wv.set {al : List Nat} {a k : Nat} {v : V} (h : wv al v) (n : nr1 a v) : wv (al.set a k) v := by
  have up : ∀ (b x : Nat), b ≠ a → al[b]? = some x → (al.set a k)[b]? = some x := fun b x hb hx => by
    rw [List.getElem?_set_ne (Ne.symm hb)]; exact hx
  rcases v with x | x | q | q | y
  · trivial
  · trivial
  · exact up _ _ n h
  · rcases h with h | h
    · exact Or.inl h
    · by_cases z : q.2 = 0
      · exact Or.inl z
      · exact Or.inr (up _ _ (fun e => n (show q.2 = a + 1 by omega)) h)
  · exact h
def Al0 (G : Gt) (al : List Nat) : Prop := match G with
  | (p, l, e, R, s, m, args, below, meth, c, D, dA, A, f0, al0, Q, nL) => al0 = al
def NmX (G : Gt) (n : String) : Prop := match G with
  | (p, l, e, R, s, m, args, below, meth, c, D, dA, A, f0, al0, Q, nL) => meth.name = n
section MK2
variable {G : Gt} {cc : ByteArray} {nL pc : Nat} {own : String} {ls : List (Nat × V)} {st : List V} {h : Hp} {l : Launch} {d : Nat} {alX : List Nat}
theorem r_retag {a k : Nat} {L : List Fd3} {al : List Nat} (C : Cx G cc nL own) (E : Al0 G al) (hal : al.length ≤ a) (hk : k < 8) (ha : (xK h)[a]? = some (k + 8)) (hL : fkL[k]? = some L) (hp : ∀ j o k', L[j]? = some (2, o, k') → xN h a j = a + o + 1 ∧ (xK h)[a + o]? = some k') (n1 : nrL a ls) (n2 : nrS a st)
    (kk : Rr G pc ls (vr k a :: st) (rt h a k)) : Rr G pc ls (vr (k + 8) a :: st) h := by
  obtain ⟨p, l, e, R, s, m, args, below, meth, c, D, dA, A, f0, al0, Q, nL'⟩ := G
  obtain ⟨rfl, hx, hb, hml, hown, hts, hlk, hK, hAz, hSF⟩ := C
  have E : al0 = al := E
  subst E
  intro f H locs LS h1 h2 h3 hP hD hS hl w1 w2
  have hlt := (List.getElem?_eq_some_iff.mp ha).1
  have no8 : ∀ (b kb : Nat), (xK h)[b]? = some kb → ¬ (8 ≤ kb ∧ kb < 16) → b ≠ a := fun b kb hb hn e => by
    subst e; rw [ha] at hb; cases hb; omega
  have up : ∀ (b x : Nat), b ≠ a → (xK h)[b]? = some x → ((xK h).set a k)[b]? = some x := fun b x hb hx => by
    rw [List.getElem?_set_ne (Ne.symm hb)]; exact hx
  have eP : ∀ b, (xK (rt h a k))[b]? = if b = a then some k else (xK h)[b]? := fun b => by
    show ((xK h).set a k)[b]? = _
    by_cases z : b = a
    · subst z; rw [if_pos rfl, List.getElem?_set_self hlt]
    · rw [if_neg z, List.getElem?_set_ne (Ne.symm z)]
  have hsl : slo (xK (rt h a k)) = slo (xK h) := slo_set _ _ _ ha (slk8 hk)
  have hln : (xK (rt h a k)).length = (xK h).length := List.length_set
  have g := kk f H locs LS h1 ?_ ?_ ?_ ?_ hS hl ?_ ?_
  · rw [hln, hsl] at g; exact g
  · obtain ⟨t, ht⟩ := h2
    refine ⟨t.set (a - al0.length) k, ?_⟩
    show al0 ++ _ = (xK h).set a k
    rw [← ht, List.set_append_right _ _ hal]
  · intro b kb hkb
    rw [eP] at hkb
    by_cases z : b = a
    · subst z
      rw [if_pos rfl] at hkb; cases hkb
      refine ⟨fun L' hL' j o k' hj => ?_, fun h9 => by rw [hL] at h9; cases h9⟩
      rw [hL] at hL'; cases hL'
      have q := (hp j o k' hj).2
      exact up _ _ (no8 _ _ q (ptr_tab L (List.mem_of_getElem? hL) _ (List.mem_of_getElem? hj) rfl)) q
    · rw [if_neg z] at hkb
      obtain ⟨o1, o2⟩ := h3 b kb hkb
      refine ⟨fun L' hL' j o k' hj => ?_, fun hL' t' n' k' hq h4 i hi => ?_⟩
      · have q := o1 L' hL' j o k' hj
        exact up _ _ (no8 _ _ q (ptr_tab L' (List.mem_of_getElem? hL') _ (List.mem_of_getElem? hj) rfl)) q
      · have q := o2 hL' t' n' k' hq h4 i hi
        exact up _ _ (no8 _ _ q (row_tab _ (List.mem_of_getElem? hq) h4)) q
  · intro b q hq
    obtain ⟨kb, hkb, rfl⟩ := wd_inv dA f (rt h a k) hq
    rw [eP] at hkb
    by_cases z : b = a
    · subst z
      rw [if_pos rfl] at hkb; cases hkb
      have g9 := hP b _ (wd_get dA f h ha)
      have hL8 : fkL[k + 8]? = some (L.map (fun d => if d.1 = 2 then (3, 0, d.2.2) else d)) := by rw [fk8 hk, hL]; rfl
      rw [ent_obj hL8] at g9
      rw [ent_obj hL]
      have e9 : fvals f (rt h b k) b 0 L = fvals f h b 0 (L.map (fun d => if d.1 = 2 then (3, 0, d.2.2) else d)) := by
        apply List.ext_getElem?
        intro j
        rw [fvals_get, fvals_get, List.getElem?_map]
        cases hj : L[j]? with
        | none => rfl
        | some d =>
          show some _ = some _
          refine congrArg some ?_
          obtain ⟨t, o, k'⟩ := d
          rw [Nat.zero_add]
          by_cases ht : t = 2
          · subst ht
            have q := (hp j o k' hj).1
            show Value.ref (f (b + o)) = (if xN h b j = 0 then Value.null else .ref (f (xN h b j - 1)))
            rw [q, if_neg (by omega), Nat.add_sub_cancel]
          · show fval f (rt h b k) b j (t, o, k') = fval f h b j (if t = 2 then (3, 0, k') else (t, o, k'))
            rw [if_neg ht]; rfl
      rw [e9]
      exact at8 hK hk g9
    · rw [if_neg z] at hkb
      have e9 : ent dA f (rt h a k) kb b = ent dA f h kb b := ent_agree (h := h) (h' := rt h a k) rfl rfl rfl kb
      rw [e9]
      exact hP b _ (wd_get dA f h hkb)
  · refine D_addr ?_ hD
    unfold wd
    rw [List.map_map, List.map_map, hln]
    rfl
  · exact fun q hq => (w1 q hq).set (nrL.at n1 q hq)
  · exact w_c (by show ((xK h).set a k)[a]? = some k; rw [List.getElem?_set_self hlt]) (fun q hq => (w_t w2 q hq).set (nrS.at n2 q hq))
/-- calls of constructors -/
theorem r_callI {y : MethodName} {cc' : ByteArray} {nL' d' index k a N : Nat} {T : u_T} {L : List Fd3} {al1 : List Nat} {post : Option V → Hp → Prop} (C : Cx G cc nL own) (X : Rmx l G d alX) (hM : Ms l y cc' nL' none d' [vr k a] h al1 post) (hd' : d' + 1 ≤ d) (hn : nL' ≤ 21) (hpre : xK h <+: al1) (hal : al1 <+: alX) (hc : vwCl[k]? = some (y.cls, T, N)) (hL : fkL[k]? = some L) (hcat : catS st ≤ 8)
    (q1 : Cond.methodLink own index y ∈ lw_g) (q2 : Cond.instanceMethod y ∈ lw_g) (q4 : Cond.initialized y.cls ∈ lw_g) (q5 : Cond.code y cc' nL' none ∈ lw_g) (hnm : y.name = "<init>") (hy : NotMH y) (hpar : Par y 0) (dd : decode cc pc = .ok (.invokespecial index, 3))
    (kk : ∀ (r : Option V) (h' : Hp), post r h' → xK h' = al1 → Rr G (pc + 3) ls (r.toList ++ st) h') : Rr G pc ls (vr k a :: st) h := by
  refine r_callC (as := [vr k a]) C X hM hd' hn hpre hal q5 (fun al hw => ⟨fun q hq => by rw [List.mem_singleton.mp hq]; exact w_h hw, w_t hw⟩) ?_ kk
  intro f H locs LS cells slots mc ms sz
  obtain ⟨p, l', e, R, s, m, args, below, meth, c, D, dA, A, f0, al0, Q, nL'⟩ := G
  intro hl hx hb hml hown hts hK hP hw hR hG hM2 hPc hf
  exact ⟨_, va_runI (As := []) ⟨hx, hb, hml, hown, hts⟩ hM2 ⟨callB_of 0 hts hG rfl rfl rfl (hts _ q4) (hts _ q1) ⟨hy.1, hy.2, hpar⟩ hR, hnm, hts _ q2⟩ ⟨blindM, hPc⟩ rfl rfl hl.1 rfl (rest_ok hcat) dd hf⟩
theorem r_callIN {y : MethodName} {cc' : ByteArray} {nL' d' index k a N : Nat} {T : u_T} {L : List Fd3} {al1 : List Nat} {i9 : Nat} {post : Option V → Hp → Prop} (C : Cx G cc nL own) (X : Rmx l G d alX) (hM : Ms l y cc' nL' none d' [vr k a] h al1 post) (hd' : d' + 1 ≤ d) (hn : nL' ≤ 21) (hpre : xK h <+: al1) (hal : al1 <+: alX) (hc : vwCl[k]? = some (y.cls, T, N)) (hL : fkL[k]? = some L) (hcat : catS st ≤ 8)
    (q1 : lnR[i9]? = some (own, index, y)) (q2 : Cond.instanceMethod y ∈ lw_g) (q4 : Cond.initialized y.cls ∈ lw_g) (q5 : Cond.code y cc' nL' none ∈ lw_g) (hnm : y.name = "<init>") (hy : NotMH y) (hpar : Par y 0) (dd : decode cc pc = .ok (.invokespecial index, 3))
    (kk : ∀ (r : Option V) (h' : Hp), post r h' → xK h' = al1 → Rr G (pc + 3) ls (r.toList ++ st) h') : Rr G pc ls (vr k a :: st) h := by
  refine r_callC (as := [vr k a]) C X hM hd' hn hpre hal q5 (fun al hw => ⟨fun q hq => by rw [List.mem_singleton.mp hq]; exact w_h hw, w_t hw⟩) ?_ kk
  intro f H locs LS cells slots mc ms sz
  obtain ⟨p, l', e, R, s, m, args, below, meth, c, D, dA, A, f0, al0, Q, nL'⟩ := G
  intro hl hx hb hml hown hts hK hP hw hR hG hM2 hPc hf
  have hln := C.2.2.2.2.2.2.2.2.2.2.2.2.2.2.2 i9 _ q1
  exact ⟨_, va_runIN (As := []) ⟨hx, hb, hml, hown, hts⟩ hM2 ⟨va_cnB 0 hts hG rfl rfl rfl hln (hts _ q4) ⟨hy.1, hy.2, hpar⟩ hR, hnm, hts _ q2⟩ ⟨blindM, hPc⟩ rfl rfl hl.1 rfl (rest_ok hcat) dd hf⟩
/-- Object's own constructor -/
theorem r_obj {k a index : Nat} (C : Cx G cc nL own) (X : Rmx l G d alX) (hd : 1 ≤ d) (q1 : Cond.methodLink own index Lib.objectInit ∈ lw_g) (q2 : Cond.instanceMethod Lib.objectInit ∈ lw_g) (q3 : Cond.code Lib.objectInit ⟨#[0xb1]⟩ 1 none ∈ lw_g) (dd : decode cc pc = .ok (.invokespecial index, 3))
    (kk : Rr G (pc + 3) ls [] h) : Rr G pc ls [vr k a] h := by
  obtain ⟨p, l', e, R, s, m, args, below, meth, c, D, dA, A, f0, al0, Q, nL'⟩ := G
  obtain ⟨rfl, hx, hb, hml, hown, hts, hlk, hK, hAz, hSF⟩ := C
  obtain ⟨X1, X2, X3, X4⟩ := rmx1 X hd
  intro f H locs LS h1 h2 h3 hP hD hS hl w1 w2
  exact W.objInit hx hb hown (hts _ q1) (hts _ q2) (hts _ q3) rfl (hl.1.trans hml.symm) rfl dd X1 (by show 2 * 0 + 0 + 12 ≤ _; omega) (kk f H locs LS h1 h2 h3 hP hD hS hl w1 (fun q hq => by cases hq))
end MK2
set_option maxHeartbeats 4000000 in
/-- a method's contract, where its name and what there is at its entry matter -/
theorem Ms.of2 {l : Launch} {y : MethodName} {cc : ByteArray} {nL : Nat} {ret : Option FieldType} {d : Nat} {as : List V} {h : Hp} {al1 : List Nat} {post : Option V → Hp → Prop} (hy : plainName y.cls = true) (hn : catS as ≤ nL)
    (body : ∀ G, Cx G cc nL y.cls → NmX G y.name → Al0 G (xK h) → Rmx l G d al1 → Fins G cc ret al1 post → Rr G 0 (vargs 0 as) [] h) : Ms l y cc nL ret d as h al1 post := by
  intro D dA f sz
  refine Met.ofW (cc := cc) (maxL := nL) (ret := ret) hy rfl ?_
  intro p e s m args below meth c s₁ B hml hv
  obtain ⟨rfl, hsz, hP, hK, hD0, hG, hw, hSF⟩ := hv
  subst hsz
  have hts := atoms_spec (ws := .code y cc nL ret :: lw_g) B.pre
  have hown : s.vm.findClass y.cls = some m.cls := findClass_of_methodNamed B.named
  have hnam : meth.name = y.name := (name_of_methodNamed B.named B.method).1
  have hlocks := B.notSynchronized
  have hl := lv_entry (as.map (rep f)) (n := nL) (by rw [sl_len]; exact hn)
  rw [lg_entry_eq]
  generalize (lg_sl (as.map (rep f)) ++ List.replicate (nL - (lg_sl (as.map (rep f))).length) Slot.unset).toArray = LS at hl ⊢
  have C : Cx (p, l, e, rmD d (al1.length - (xK h).length) (slo al1 - slo (xK h)), s, m, (as.map (rep f)).toArray, below, meth, c, D, dA, va_A (wd dA f h) s.heap.size, f, xK h, MQ below (QcM D dA f s.heap.size h al1 post) (as.map (rep f)).toArray s (al1.length - (xK h).length) (slo al1 - slo (xK h)) (va_A (wd dA f h) s.heap.size), nL) cc nL y.cls :=
    ⟨rfl, B.exec, B.bytes, hml, hown, fun w hw => hts w (List.mem_cons_of_mem _ hw), hlocks, hK, fun q hq => Or.inr hq, hSF⟩
  suffices K : W p l e (rmD d (al1.length - (xK h).length) (slo al1 - slo (xK h))) s m (as.map (rep f)).toArray below meth c s.heap [] ((xK h).length - (xK h).length) (slo (xK h) - slo (xK h)) (MQ below (QcM D dA f s.heap.size h al1 post) (as.map (rep f)).toArray s (al1.length - (xK h).length) (slo al1 - slo (xK h)) (va_A (wd dA f h) s.heap.size)) (F0 m 0 LS []) by
    rw [Nat.sub_self, Nat.sub_self] at K
    exact K
  refine body _ C hnam rfl ⟨rfl, Nat.le_refl _, Nat.le_refl _, Nat.le_refl _, Nat.le_refl _⟩ ⟨?_, ?_, ?_, ?_⟩ f s.heap [] LS (fun _ _ => rfl) List.prefix_rfl hG hP (hD0.self) va_S.rf (by rw [vargs_rep]; exact hl) ?_ (fun q hq => by cases hq)
  · intro pc ls v h' ty hr hnw hdg hal hp f1 H locs LS h1 h2 h3 hP hD hS hl w1 w2
    subst hal
    exact W.zret B.exec B.bytes (B.returns.trans hr) hnw (fun t ht hW => ⟨⟨some (vi v), h', f1, rfl, hp, rfl, h2, h3, h1, by rw [ht]; exact hP, va_K.moved hW.alike hK, hD, fun v hv => by cases hv; trivial⟩, hS.F ht⟩) hS.2.2 hdg
  · intro pc ls v h' hr hdg hal hp f1 H locs LS h1 h2 h3 hP hD hS hl w1 w2
    subst hal
    exact W.lret B.exec B.bytes (B.returns.trans hr) (fun t ht hW => ⟨⟨some (vl v), h', f1, rfl, hp, rfl, h2, h3, h1, by rw [ht]; exact hP, va_K.moved hW.alike hK, hD, fun v hv => by cases hv; trivial⟩, hS.F ht⟩) hS.2.2 hdg
  · intro pc ls h' hr hdg hal hp f1 H locs LS h1 h2 h3 hP hD hS hl w1 w2
    subst hal
    exact W.vret B.exec B.bytes (B.returns.trans hr) (fun t ht hW => ⟨⟨none, h', f1, rfl, hp, rfl, h2, h3, h1, by rw [ht]; exact hP, va_K.moved hW.alike hK, hD, fun v hv => by cases hv⟩, hS.F ht⟩) hS.2.2 hdg
  · intro pc ls k a h' nm hr hdg hal hp f1 H locs LS h1 h2 h3 hP hD hS hl w1 w2
    subst hal
    exact W.aret B.exec B.bytes (B.returns.trans hr) (Or.inl ⟨_, rfl⟩) (Or.inr ⟨_, rfl⟩) (fun t ht hW => ⟨⟨some (vr k a), h', f1, rfl, hp, rfl, h2, h3, h1, by rw [ht]; exact hP, va_K.moved hW.alike hK, hD, fun v hv => by cases hv; exact w_h w2⟩, hS.F ht⟩) hS.2.2 hdg
  · have aux : ∀ (as : List V) (i : Nat), ws9 (xK h) as → wl (xK h) (vargs i as) := by
      intro as
      induction as with
      | nil => intro i _ q hq; cases hq
      | cons v t ih =>
        intro i hw q hq
        rcases List.mem_cons.mp hq with rfl | hq
        · exact hw v List.mem_cons_self
        · exact ih _ (w_t hw) q hq
    exact aux as 0 hw

