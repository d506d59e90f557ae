/-! PART 17: texts: the rows over the words that the programs know -/
section TX
variable {G : Gt} {cc : ByteArray} {nL pc : Nat} {own : String} {ls : List (Nat × V)} {st : List V} {h : Hp} {l : Launch} {d : Nat} {alX : List Nat}
theorem r_txC (C : Cx G cc nL own) {i index : Nat} (hi : i < 10) (hlk : Cond.fieldLink own index "java/lang/String" "coder" "B" ∈ lw_g) (dd : decode cc pc = .ok (.getfield index, 3)) (kk : Rr G (pc + 3) ls (vi (nI 0) :: st) h) : Rr G pc ls (vt (1000 + i) :: st) h := by
  obtain ⟨p, l, e, R, s, m, args, below, meth, c, D, dA, A, f0, al0, Q, nL'⟩ := G
  obtain ⟨rfl, hx, hb, hml, hown, hts, hlk', hK, hAz, hSF⟩ := C
  intro f H locs LS h1 h2 h3 hP hD hS hl w1 w2
  have e1 : f (1000 + i) = f0 (1000 + i) := h1 _ (Or.inr (by omega))
  show W p l e R s m args below meth c H locs _ _ Q (F0 m pc LS (.ref (f (1000 + i)) :: st.map (rep f)))
  rw [e1]
  exact vk_getf hx hb (hSF.1.1 i hi).2.1 hS hown (hts _ hlk) (fun _ h9 => h9) dd (kk f H locs LS h1 h2 h3 hP hD hS hl w1 (w_1 (w_t w2)))
theorem r_txV (C : Cx G cc nL own) {i index : Nat} (hi : i < 10) (hlk : Cond.fieldLink own index "java/lang/String" "value" "[B" ∈ lw_g) (dd : decode cc pc = .ok (.getfield index, 3)) (kk : Rr G (pc + 3) ls (vt (2000 + i) :: st) h) : Rr G pc ls (vt (1000 + i) :: st) h := by
  obtain ⟨p, l, e, R, s, m, args, below, meth, c, D, dA, A, f0, al0, Q, nL'⟩ := G
  obtain ⟨rfl, hx, hb, hml, hown, hts, hlk', hK, hAz, hSF⟩ := C
  intro f H locs LS h1 h2 h3 hP hD hS hl w1 w2
  have e1 : f (1000 + i) = f0 (1000 + i) := h1 _ (Or.inr (by omega))
  have e2 : f (2000 + i) = f0 (2000 + i) := h1 _ (Or.inr (by omega))
  have k2 := kk f H locs LS h1 h2 h3 hP hD hS hl w1 (w_c (show 1000 ≤ 2000 + i by omega) (w_t w2))
  show W p l e R s m args below meth c H locs _ _ Q (F0 m pc LS (.ref (f (1000 + i)) :: st.map (rep f)))
  rw [e1]
  refine vk_getf hx hb (hSF.1.1 i hi).2.2.1 hS hown (hts _ hlk) (fun _ h9 => h9) dd ?_
  rw [show (fun i => f0 (2000 + i)) i = f (2000 + i) from e2.symm]
  exact k2
theorem r_gsC (C : Cx G cc nL own) {index : Nat} (hlk : Cond.fieldLink own index "java/lang/String" "COMPACT_STRINGS" "Z" ∈ lw_g) (dd : decode cc pc = .ok (.getstatic index, 3)) (kk : Rr G (pc + 3) ls (vi (nI 1) :: st) h) : Rr G pc ls st h := by
  obtain ⟨p, l, e, R, s, m, args, below, meth, c, D, dA, A, f0, al0, Q, nL'⟩ := G
  obtain ⟨rfl, hx, hb, hml, hown, hts, hlk', hK, hAz, hSF⟩ := C
  intro f H locs LS h1 h2 h3 hP hD hS hl w1 w2
  exact va_gets hx hb hSF.2.1 hS hown (hts _ hlk) (fun _ h9 => h9) dd (kk f H locs LS h1 h2 h3 hP hD hS hl w1 (w_1 w2))
theorem r_gsF (C : Cx G cc nL own) {index : Nat} (hlk : Cond.fieldLink own index "jdk/internal/util/Preconditions" "SIOOBE_FORMATTER" "Ljava/util/function/BiFunction;" ∈ lw_g) (dd : decode cc pc = .ok (.getstatic index, 3)) (k1 : Rr G (pc + 3) ls (vn 0 0 :: st) h) (k2 : Rr G (pc + 3) ls (vt 3000 :: st) h) : Rr G pc ls st h := by
  obtain ⟨p, l, e, R, s, m, args, below, meth, c, D, dA, A, f0, al0, Q, nL'⟩ := G
  obtain ⟨rfl, hx, hb, hml, hown, hts, hlk', hK, hAz, hSF⟩ := C
  intro f H locs LS h1 h2 h3 hP hD hS hl w1 w2
  have e2 : f 3000 = f0 3000 := h1 _ (Or.inr (by omega))
  rcases hSF.2.2.1 with z | z
  · exact va_gets hx hb z hS hown (hts _ hlk) (fun _ h9 => h9) dd (k1 f H locs LS h1 h2 h3 hP hD hS hl w1 (w_c (Or.inl rfl) w2))
  · refine va_gets hx hb z hS hown (hts _ hlk) (fun _ h9 => h9) dd ?_
    rw [← e2]
    exact k2 f H locs LS h1 h2 h3 hP hD hS hl w1 (w_c (show 1000 ≤ 3000 by omega) w2)
theorem r_txN (C : Cx G cc nL own) {i : Nat} (hi : i < 10) (dd : decode cc pc = .ok (.arraylength, 1)) (kk : Rr G (pc + 1) ls (vi (nI (txL.getD i 0)) :: st) h) : Rr G pc ls (vt (2000 + i) :: st) h := by
  obtain ⟨p, l, e, R, s, m, args, below, meth, c, D, dA, A, f0, al0, Q, nL'⟩ := G
  obtain ⟨rfl, hx, hb, hml, hown, hts, hlk', hK, hAz, hSF⟩ := C
  intro f H locs LS h1 h2 h3 hP hD hS hl w1 w2
  have e1 : f (2000 + i) = f0 (2000 + i) := h1 _ (Or.inr (by omega))
  show W p l e R s m args below meth c H locs _ _ Q (F0 m pc LS (.ref (f (2000 + i)) :: st.map (rep f)))
  rw [e1]
  exact va_tlen hx hb (hSF.1.1 i hi).2.2.2 hS rfl dd (kk f H locs LS h1 h2 h3 hP hD hS hl w1 (w_1 (w_t w2)))
theorem r_txB (C : Cx G cc nL own) {i j : Nat} (hi : i < 10) (hj : j < txL.getD i 0) (dd : decode cc pc = .ok (.baload, 1)) (kk : Rr G (pc + 1) ls (vi ((txB.getD i []).getD j 0) :: st) h) : Rr G pc ls (vi (nI j) :: vt (2000 + i) :: st) h := by
  have hN : ∀ i, i < 10 → txL.getD i 0 < 20 := by decide
  have hN := hN i hi
  obtain ⟨p, l, e, R, s, m, args, below, meth, c, D, dA, A, f0, al0, Q, nL'⟩ := G
  obtain ⟨rfl, hx, hb, hml, hown, hts, hlk', hK, hAz, hSF⟩ := C
  intro f H locs LS h1 h2 h3 hP hD hS hl w1 w2
  have e1 : f (2000 + i) = f0 (2000 + i) := h1 _ (Or.inr (by omega))
  show W p l e R s m args below meth c H locs _ _ Q (F0 m pc LS (.int (nI j) :: .ref (f (2000 + i)) :: st.map (rep f)))
  rw [e1]
  exact va_tb hx hb (hSF.1.1 i hi).2.2.2 hS (vp_in_nI hj (by omega)) (show Value.int ((txB.getD i []).getD (nI j).toNatClampNeg 0) = Value.int ((txB.getD i []).getD j 0) by rw [nI_clamp (by omega)]) dd (kk f H locs LS h1 h2 h3 hP hD hS hl w1 (w_1 (w_t (w_t w2))))
variable {y : MethodName} {cc' : ByteArray} {nL' d' index : Nat} {ret : Option FieldType} {as : List V} {al1 : List Nat} {post : Option V → Hp → Prop}
theorem r_callVT {i : Nat} (hi : i < 10) (C : Cx G cc nL own) (X : Rmx l G d alX) (hM : Ms l y cc' nL' ret d' (vt (1000 + i) :: as) h al1 post) (hd' : d' + 1 ≤ d) (hn : nL' ≤ 21) (hpre : xK h <+: al1) (hal : al1 <+: alX) (hc : y.cls = "java/lang/String") (hcat : catS st ≤ 8)
    (q1 : Cond.methodLink own index y ∈ lw_g) (q2 : Cond.instanceMethod y ∈ lw_g) (q3 : Cond.selects y.cls y y ∈ lw_g) (q4 : Cond.initialized y.cls ∈ lw_g) (q5 : Cond.code y cc' nL' ret ∈ lw_g) (hy : NotMH y) (hpar : Par y as.length) (dd : decode cc pc = .ok (.invokevirtual index, 3))
    (kk : ∀ (r : Option V) (h' : Hp), post r h' → xK h' = al1 → Rr G (pc + 3) ls (r.toList ++ st) h') : Rr G pc ls (as.reverse ++ vt (1000 + i) :: st) h := by
  refine r_callC (as := vt (1000 + i) :: as) C X hM hd' hn hpre hal q5 (fun al hw => ⟨w_c (w_h (w_app hw).2) (w_rev (w_app hw).1), w_t (w_app hw).2⟩) ?_ kk
  intro f H locs LS cells slots mc ms sz
  obtain ⟨p, l', e, R, s, m, args, below, meth, c, D, dA, A, f0, al0, Q, nL'⟩ := G
  intro hl hx hb hml hown hts hK hP hw hR hG hM2 hPc hf
  have hrc : ∃ cell : Cell, H[f (1000 + i)]? = some cell ∧ cell.vm.isStatics = false ∧ s.vm.findClass y.cls = some cell.cls := by
    have z := hPc { s with heap := H } rfl ⟨rfl, rfl, fun dd kk hk => ⟨kk, hk, rfl, rfl, fun i => Or.inl rfl, Or.inl ⟨rfl, rfl⟩⟩⟩
    obtain ⟨_, _, _, _, _, _, _, hSF⟩ := z
    obtain ⟨cell, z1, z2, z3, -⟩ := (hSF.1.1 i hi).1
    rw [hc]
    exact ⟨cell, z1, z2, z3⟩
  exact ⟨_, va_runV (As := as.map (rep f)) ⟨hx, hb, hml, hown, hts⟩ hM2 ⟨callB_of as.length hts hG rfl rfl rfl (hts _ q4) (hts _ q1) ⟨hy.1, hy.2, hpar⟩ hR, hts _ q2, hts _ q3⟩ ⟨blindM, hrc, hPc⟩ rfl (by simp) hl.1 (by simp [rep]) (rest_ok hcat) dd hf⟩
end TX

