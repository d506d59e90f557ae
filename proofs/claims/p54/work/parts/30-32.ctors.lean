section
/-! PART 30: making cells -/
/-! ===== BEGIN new T[n][m]: the outer array a place, the inner ones among the pooled ===== -/
/-- f, but v at every address of l -/
def vr_up {α : Type} (f : Nat → α) (l : List Nat) (v : α) : Nat → α := fun a => if a ∈ l then v else f a
theorem vr_up_in {α : Type} {f : Nat → α} {l : List Nat} {v : α} {a : Nat} (h : a ∈ l) : vr_up f l v a = v := if_pos h
theorem vr_up_ne {α : Type} {f : Nat → α} {l : List Nat} {v : α} {a : Nat} (h : a ∉ l) : vr_up f l v a = f a := if_neg h
theorem vr_rows {L l : List Nat} {f : Nat → va_E} {e : va_E} (h : ∀ a, a ∈ l → a ∉ L) : va_pl L f ++ l.map (fun a => (a, e)) = va_pl (L ++ l) (vr_up f l e) := by
  unfold va_pl
  rw [List.map_append]
  congr 1
  · apply List.map_congr_left
    intro a ha
    rw [vr_up_ne (fun q => h a q ha)]
  · apply List.map_congr_left
    intro a ha
    rw [vr_up_in ha]
theorem vr_lay {X rows : va_W} {x : Nat × va_E} {pl : va_W} {D : va_G} {cl : List vw_C} {H : Heap} (hP : va_P D cl (((X ++ pl) ++ [x]) ++ rows) H) : va_P D cl ((X ++ [x]) ++ (pl ++ rows)) H := by
  rw [List.append_assoc (X ++ pl)] at hP
  have h := va_P.swap hP
  rw [← List.append_assoc X] at h
  have h2 := va_P.swap h
  rw [List.append_assoc (X ++ [x])] at h2
  exact h2
theorem vr_layD {X rows : va_W} {x : Nat × va_E} {pl : va_W} {A : Nat → Prop} (hD : va_D A (((X ++ pl) ++ [x]) ++ rows)) : va_D A ((X ++ [x]) ++ (pl ++ rows)) := by
  rw [List.append_assoc (X ++ pl)] at hD
  have h := va_D.swap hD
  rw [← List.append_assoc X] at h
  have h2 := va_D.swap h
  rw [List.append_assoc (X ++ [x])] at h2
  exact h2
theorem vr_outer (c : ClassId) (N h0 : Nat) : ∀ i : Nat, Jvm.Free.Multi.outerC c N h0 i = arrV c N (fun j => va_rf (if j < i then some (h0 + 1 + j) else none))
  | 0 => by
    show ({ cls := c, slots := Array.replicate N .null, vm := .none } : Cell) = _
    rw [arrV_new]
    refine congrArg (arrV c N) (funext fun j => ?_)
    simp [va_rf]
  | i + 1 => by
    show (Jvm.Free.Multi.outerC c N h0 i).setSlot i (.ref (h0 + 1 + i)) = _
    rw [vr_outer c N h0 i, arrV_store]
    refine congrArg (arrV c N) (funext fun j => ?_)
    by_cases e : j = i
    · subst e
      simp [updV, va_rf]
    · by_cases h : j < i
      · simp [updV, e, h, Nat.lt_succ_of_lt h]
      · simp [updV, e, h, show ¬ j < i + 1 by omega]
section VGM
variable {p : Program} {l : Launch} {e : Env} {R : Room} {s : State} {m : MethodId} {args : Array Value} {below : List Frame} {meth : Method} {c : Code} {H : Heap} {locs : List Loc} {cells slots : Nat} {Q : State → Prop}
variable {cc : ByteArray} {pc : Nat} {ls : Array Slot} {rest : List Value} {D : va_G} {cl : List vw_C} {A : Nat → Prop} {a : Nat} {tys : List (ClassId × FieldType)} {ws : va_W} {H0 : Heap}
theorem va_mna {X : va_W} {L : List Nat} {f : Nat → va_E} {cc : ByteArray} (hexec : p.tables.exec = Jvm.exec) (hb : c.code = cc) {own : String} {index : Nat} {ty : FieldType} {cy : ClassId} (hown : s.vm.findClass own = some m.cls) (hclink : (Cond.classLink own index ("[" ++ (FieldType.array ty).toString)).before args s = true) (hover : (Cond.arrayOver (.array ty)).before args s = true) (harr : (Cond.arrayClass ty).before args s = true) (hcy : s.vm.findClass (FieldType.array ty).toString = some cy)
    (hK : va_K D cl tys s) (hP : va_P D cl (X ++ va_pl L f) H) (hD : va_D A (X ++ va_pl L f)) (hS : va_S A H0 H locs) (hA : ∀ q, H0.size ≤ q → A q) {n k : Int32} {N' K' : Nat} {z : vp_A} (hn : ¬ n < 0) (hk : ¬ k < 0) (hN : n.toNatClampNeg = N') (hM : k.toNatClampNeg = K')
    (hb1 : N' * 4 ≤ 536870912) (hb2 : K' * componentBytes ty ≤ 536870912) (hb3 : K' ≤ 536870912) (hdf : fits ty (defaultValue ty) = true) (hdd : (defaultValue ty).isDefault = true) (hcells : cells + (1 + N') ≤ R.cells) (hslots : slots + (N' + N' * K') ≤ R.slots) (hz : ∀ c : ClassId, Jvm.Free.Multi.innerC c K' (defaultValue ty) = vp_cell c z) (hdg : decode cc pc = .ok (.multianewarray index 2, 4))
    (kk : ∀ (q : Nat) (r : Nat → Nat) (cA : ClassId) (H1 : Heap), (∀ i j : Nat, i < N' → j < N' → r i = r j → i = j) → (∀ i : Nat, i < N' → r i ∉ L) → va_K D cl (tys ++ [(cA, .array ty)]) s →
      va_P D cl ((X ++ [(q, .inl (cA, N', .inr (.inr (.inr (.inr (fun i => if i < N' then some (r i) else none))))))]) ++ va_pl (L ++ (List.range N').map r) (vr_up f ((List.range N').map r) (.inl (cy, z)))) H1 → va_D A ((X ++ [(q, .inl (cA, N', .inr (.inr (.inr (.inr (fun i => if i < N' then some (r i) else none))))))]) ++ va_pl (L ++ (List.range N').map r) (vr_up f ((List.range N').map r) (.inl (cy, z)))) → va_S A H0 H1 locs →
      W p l e R s m args below meth c H1 locs (cells + 1 + N') (slots + N' + N' * K') Q (F0 m (pc + 4) ls (.ref q :: rest))) : W p l e R s m args below meth c H locs cells slots Q (F0 m pc ls (.int k :: .int n :: rest)) := by
  subst hN
  subst hM
  intro T hT Xs
  obtain ⟨vm₁, cA, comp, -, fA, fC, hO, -, X', step⟩ := Xs.multianewarray2F hexec hown hclink hover harr (g := F0 m pc ls (.int k :: .int n :: rest)) rfl (by rw [hb]; exact hdg) rfl hn hk hb1 hb2 hb3 hdf hdd hcells hslots
  have ec : some cy = some comp := hcy.symm.trans fC
  cases ec
  generalize hF : Jvm.Free.Multi.fill (T.setVm vm₁) cA cy n.toNatClampNeg k.toNatClampNeg (defaultValue ty) n.toNatClampNeg = F at X' step
  have hTh : (T.setVm vm₁).heap = H := hT
  obtain ⟨f1, f2, -, -⟩ := Jvm.Free.Multi.fill_facts (T.setVm vm₁) cA cy n.toNatClampNeg k.toNatClampNeg (defaultValue ty) n.toNatClampNeg
  rw [hF, hTh] at f1 f2
  have hold : ∀ x : Nat, x < H.size → F.heap[x]? = H[x]? := fun x hx => by
    have := Jvm.Free.Multi.fill_old (T.setVm vm₁) cA cy n.toNatClampNeg k.toNatClampNeg (defaultValue ty) (a := x) (by rw [hTh]; exact hx) n.toNatClampNeg
    rw [hF, hTh] at this
    exact this
  have hrow : ∀ j : Nat, j < n.toNatClampNeg → F.heap[H.size + 1 + j]? = some (vp_cell cy z) := fun j hj => by
    have := Jvm.Free.Multi.fill_inner (T.setVm vm₁) cA cy n.toNatClampNeg k.toNatClampNeg (defaultValue ty) n.toNatClampNeg j hj
    rw [hF, hTh, hz] at this
    exact this
  have hout : Jvm.Free.Multi.outerC cA n.toNatClampNeg H.size n.toNatClampNeg = vp_cell cA (n.toNatClampNeg, .inr (.inr (.inr (.inr (fun i => if i < n.toNatClampNeg then some (H.size + 1 + i) else none))))) := by
    rw [vp_cell_q]
    exact vr_outer cA n.toNatClampNeg H.size n.toNatClampNeg
  rw [hout] at f2
  have hlt : ∀ a, a ∈ L → a < H.size := fun a ha => by
    obtain ⟨k9, hk9⟩ := va_pl_get (X := X) (f := f) ha
    exact (hP k9 _ hk9).lt
  have hnl : ∀ i : Nat, i < n.toNatClampNeg → H.size + 1 + i ∉ L := fun i _ h => by
    have := hlt _ h
    omega
  have hnm : ∀ a, a ∈ (List.range n.toNatClampNeg).map (fun i => H.size + 1 + i) → a ∉ L := fun a ha h => by
    obtain ⟨i, -, rfl⟩ := List.mem_map.mp ha
    have := hlt _ h
    omega
  have hP0 : va_P D cl (X ++ va_pl L f) F.heap := hP.kept (fun k9 x hx => hold x.1 ((hP k9 x hx).lt))
  have hP1 : va_P D cl ((X ++ va_pl L f) ++ [(H.size, .inl (cA, n.toNatClampNeg, .inr (.inr (.inr (.inr (fun i => if i < n.toNatClampNeg then some (H.size + 1 + i) else none))))))]) F.heap := hP0.app (fun k9 x hx => by
    have h0 : k9 < 1 := (List.getElem?_eq_some_iff.mp hx).1
    rw [show k9 = 0 by omega] at hx
    cases hx
    exact f2)
  have hP2 : va_P D cl (((X ++ va_pl L f) ++ [(H.size, .inl (cA, n.toNatClampNeg, .inr (.inr (.inr (.inr (fun i => if i < n.toNatClampNeg then some (H.size + 1 + i) else none))))))]) ++ ((List.range n.toNatClampNeg).map (fun i => H.size + 1 + i)).map (fun a => (a, .inl (cy, z)))) F.heap := hP1.app (fun k9 x hx => by
    obtain ⟨a, ha, rfl⟩ := List.mem_map.mp (List.mem_of_getElem? hx)
    obtain ⟨i, hi, rfl⟩ := List.mem_map.mp ha
    exact hrow i (List.mem_range.mp hi))
  have hD2 : va_D A (((X ++ va_pl L f) ++ [(H.size, .inl (cA, n.toNatClampNeg, .inr (.inr (.inr (.inr (fun i => if i < n.toNatClampNeg then some (H.size + 1 + i) else none))))))]) ++ ((List.range n.toNatClampNeg).map (fun i => H.size + 1 + i)).map (fun a => (a, .inl (cy, z)))) := by
    have hD1 := hD.push (e := .inl (cA, n.toNatClampNeg, .inr (.inr (.inr (.inr (fun i => if i < n.toNatClampNeg then some (H.size + 1 + i) else none)))))) hP rfl (hA _ hS.1)
    generalize hW1 : (X ++ va_pl L f) ++ [(H.size, .inl (cA, n.toNatClampNeg, .inr (.inr (.inr (.inr (fun i => if i < n.toNatClampNeg then some (H.size + 1 + i) else none))))))] = W1 at hD1 hP1 ⊢
    have hle : ∀ (k9 : Nat) (x : Nat × va_E), W1[k9]? = some x → x.1 ≤ H.size := fun k9 x hx => by
      rw [← hW1] at hx
      by_cases hl : k9 < (X ++ va_pl L f).length
      · rw [List.getElem?_append_left hl] at hx
        exact Nat.le_of_lt ((hP k9 x hx).lt)
      · rw [List.getElem?_append_right (by omega)] at hx
        have h0 : k9 - (X ++ va_pl L f).length < 1 := (List.getElem?_eq_some_iff.mp hx).1
        rw [show k9 - (X ++ va_pl L f).length = 0 by omega] at hx
        cases hx
        exact Nat.le_refl _
    have hr : ∀ (k9 : Nat) (x : Nat × va_E), (((List.range n.toNatClampNeg).map (fun i => H.size + 1 + i)).map (fun a => ((a, .inl (cy, z)) : Nat × va_E)))[k9]? = some x → x.1 = H.size + 1 + k9 := fun k9 x hx => by
      rw [List.getElem?_map, List.getElem?_map] at hx
      by_cases h9 : k9 < n.toNatClampNeg
      · rw [List.getElem?_range h9] at hx
        cases hx
        rfl
      · have hn0 : (List.range n.toNatClampNeg)[k9]? = none := List.getElem?_eq_none (by rw [List.length_range]; omega)
        rw [hn0] at hx
        cases hx
    refine ⟨fun i j x y hi hj hxy => ?_, fun k9 x hx => ?_⟩
    · by_cases h1 : i < W1.length <;> by_cases h2 : j < W1.length
      · rw [List.getElem?_append_left h1] at hi
        rw [List.getElem?_append_left h2] at hj
        exact hD1.1 i j x y hi hj hxy
      · rw [List.getElem?_append_left h1] at hi
        rw [List.getElem?_append_right (by omega)] at hj
        have := hle _ _ hi
        have := hr _ _ hj
        omega
      · rw [List.getElem?_append_right (by omega)] at hi
        rw [List.getElem?_append_left h2] at hj
        have := hle _ _ hj
        have := hr _ _ hi
        omega
      · rw [List.getElem?_append_right (by omega)] at hi hj
        have := hr _ _ hi
        have := hr _ _ hj
        omega
    · by_cases h1 : k9 < W1.length
      · rw [List.getElem?_append_left h1] at hx
        exact hD1.2 k9 x hx
      · rw [List.getElem?_append_right (by omega)] at hx
        have := hr _ _ hx
        exact hA _ (by have := hS.1; omega)
  have hAr : ArrOfT s cA (.array ty) := fun N9 z9 => by
    obtain ⟨-, k9, hk9, cm9, hkk9⟩ := (hO 0 0 0).1
    exact ⟨(fun q hq => by cases hq), k9, hk9, cm9, hkk9⟩
  have hK2 : va_K D cl (tys ++ [(cA, .array ty)]) s := ⟨hK.1, fun k9 x hx => by
    by_cases hl : k9 < tys.length
    · rw [List.getElem?_append_left hl] at hx
      exact hK.2 k9 x hx
    · rw [List.getElem?_append_right (by omega)] at hx
      have h0 : k9 - tys.length < 1 := (List.getElem?_eq_some_iff.mp hx).1
      rw [show k9 - tys.length = 0 by omega] at hx
      cases hx
      exact ⟨hAr, fA⟩⟩
  obtain ⟨t, a1, b1⟩ := kk H.size (fun i => H.size + 1 + i) cA F.heap (fun i j _ _ h => by have h9 : H.size + 1 + i = H.size + 1 + j := h; omega) hnl hK2 (by rw [← vr_rows hnm]; exact vr_lay hP2) (by rw [← vr_rows hnm]; exact vr_layD hD2) ⟨by rw [f1]; have := hS.1; omega, fun x h1 h2 => (hold x (Nat.lt_of_lt_of_le h1 hS.1)).trans (hS.2.1 x h1 h2), hS.2.2⟩ F rfl X'
  refine ⟨t, step t ?_, b1⟩
  have e : T.heap.size = H.size := by rw [hT]
  rw [e]
  exact a1
end VGM
/-- a new cell of a kind: all zero -/
def nw (h : Hp) (k : Nat) : Hp := (fun b => if b = (xK h).length then fun _ => 0 else xI h b, fun b => if b = (xK h).length then fun _ => 0 else xL h b, fun b => if b = (xK h).length then fun _ => 0 else xN h b, xK h ++ [k])
/-- .. several: one, and n of another kind -/
def nwR (h : Hp) (k k2 n : Nat) : Hp := (fun b => if (xK h).length ≤ b then fun _ => 0 else xI h b, fun b => if (xK h).length ≤ b then fun _ => 0 else xL h b, fun b => if (xK h).length ≤ b then fun _ => 0 else xN h b, xK h ++ (k :: List.replicate n k2))
/-- cells that may be null are cells that there are -/
def NOk (h : Hp) : Prop := ∀ (a k : Nat) (L : List Fd3) (j t o k' : Nat), (xK h)[a]? = some k → fkL[k]? = some L → L[j]? = some (t, o, k') → 3 ≤ t → xN h a j ≤ (xK h).length
theorem arrV_cg {c : ClassId} {n : Nat} {f g : Nat → Value} (h : ∀ j, j < n → f j = g j) : arrV c n f = arrV c n g := by
  unfold arrV
  congr 1
  apply Array.ext
  · simp
  · intro j h1 h2
    simp only [Array.size_ofFn] at h1
    simp only [Array.getElem_ofFn]
    exact h j h1
theorem fval_grow {f f' : Nat → Nat} {h h2 : Hp} {i k : Nat} {L : List Fd3} (hf : ∀ b, b < (xK h).length → f' b = f b) (e : xI h2 i = xI h i ∧ xL h2 i = xL h i ∧ xN h2 i = xN h i) (hG : GoodAl (xK h)) (hN : NOk h) (hk : (xK h)[i]? = some k) (hL : fkL[k]? = some L) {j : Nat} {d : Fd3} (hj : L[j]? = some d) : fval f' h2 i j d = fval f h i j d := by
  obtain ⟨t, o, k'⟩ := d
  unfold fval
  rw [e.1, e.2.1, e.2.2]
  match t, hj with
  | 0, _ => rfl
  | 1, _ => rfl
  | 2, hj =>
    have q := (hG i k hk).1 L hL j o k' hj
    have hl : i + o < (xK h).length := (List.getElem?_eq_some_iff.mp q).1
    show Value.ref (f' (i + o)) = .ref (f (i + o))
    rw [hf _ hl]
  | n + 3, hj =>
    have q := hN i k L j (n + 3) o k' hk hL hj (by omega)
    show (if xN h i j = 0 then Value.null else .ref (f' (xN h i j - 1))) = (if xN h i j = 0 then Value.null else .ref (f (xN h i j - 1)))
    by_cases z : xN h i j = 0
    · rw [if_pos z, if_pos z]
    · rw [if_neg z, if_neg z, hf _ (by omega)]
theorem at_grow {D : va_G} {dA : Nat → ClassId} {f f' : Nat → Nat} {h h2 : Hp} {H : Heap} {i k : Nat} (hf : ∀ b, b < (xK h).length → f' b = f b) (e : xI h2 i = xI h i ∧ xL h2 i = xL h i ∧ xN h2 i = xN h i) (hG : GoodAl (xK h)) (hN : NOk h) (hk : (xK h)[i]? = some k) (H0 : va_at D vwCl (f i, ent dA f h k i) H) : va_at D vwCl (f' i, ent dA f' h2 k i) H := by
  have hl : i < (xK h).length := (List.getElem?_eq_some_iff.mp hk).1
  rw [hf i hl]
  cases hL : fkL[k]? with
  | some L =>
    rw [ent_obj hL] at H0 ⊢
    have e9 : fvals f' h2 i 0 L = fvals f h i 0 L := by
      apply List.ext_getElem?
      intro j
      rw [fvals_get, fvals_get]
      cases hj : L[j]? with
      | none => rfl
      | some d =>
        show some _ = some _
        rw [Nat.zero_add]
        exact congrArg some (fval_grow hf e hG hN hk hL hj)
    rw [e9]
    exact H0
  | none =>
    cases hq : akL[k - 20]? with
    | none =>
      have e1 : akL.getD (k - 20) (0, 0, 0) = (0, 0, 0) := by rw [List.getD_eq_getElem?_getD, hq]; rfl
      unfold ent at H0 ⊢
      rw [hL] at H0 ⊢
      simp only [e1, entA] at H0 ⊢
      rw [e.1]
      exact H0
    | some q =>
      rw [ent_arr hL hq] at H0 ⊢
      obtain ⟨t, n, k'⟩ := q
      have hg := (hG i k hk).2 hL t n k' hq
      have cell : ∀ (c : ClassId), 4 ≤ t → vp_cell c (n, .inr (.inr (.inr (.inr (fun j => some (f' (i + 1 + j))))))) = vp_cell c (n, .inr (.inr (.inr (.inr (fun j => some (f (i + 1 + j))))))) := fun c h4 => by
        rw [vp_cell_q, vp_cell_q]
        refine arrV_cg (fun j hj => ?_)
        have hl2 : i + 1 + j < (xK h).length := (List.getElem?_eq_some_iff.mp (hg h4 j hj)).1
        rw [hf _ hl2]
      match t, hq, cell with
      | 0, _, _ => simp only [entA] at H0 ⊢; rw [e.1]; exact H0
      | 1, _, _ => simp only [entA] at H0 ⊢; rw [e.2.1]; exact H0
      | 2, _, _ => simp only [entA] at H0 ⊢; rw [e.1]; exact H0
      | 3, _, _ => simp only [entA] at H0 ⊢; rw [e.1]; exact H0
      | 4, _, cell =>
        show H[f i]? = some (vp_cell (dA 4) _)
        rw [cell _ (Nat.le_refl _)]
        exact H0
      | m + 5, _, cell =>
        show H[f i]? = some (vp_cell (dA 5) _)
        rw [cell _ (by omega)]
        exact H0
theorem P_grow {D : va_G} {dA : Nat → ClassId} {f f' : Nat → Nat} {h h2 : Hp} {H : Heap} {t : List Nat} (hP : va_P D vwCl (wd dA f h) H) (pre : xK h2 = xK h ++ t) (hf : ∀ b, b < (xK h).length → f' b = f b) (e : ∀ i, i < (xK h).length → xI h2 i = xI h i ∧ xL h2 i = xL h i ∧ xN h2 i = xN h i) (hG : GoodAl (xK h)) (hN : NOk h)
    (hnew : ∀ a k, (xK h).length ≤ a → (xK h2)[a]? = some k → va_at D vwCl (f' a, ent dA f' h2 k a) H) : va_P D vwCl (wd dA f' h2) H := by
  intro a q hq
  obtain ⟨k, hk, rfl⟩ := wd_inv dA f' h2 hq
  by_cases hl : a < (xK h).length
  · have hk0 : (xK h)[a]? = some k := by rw [pre, List.getElem?_append_left hl] at hk; exact hk
    exact at_grow hf (e a hl) hG hN hk0 (hP a _ (wd_get dA f h hk0))
  · exact hnew a k (by omega) hk
theorem D_addr {A : Nat → Prop} {w1 w2 : va_W} (e : w1.map (fun q => q.1) = w2.map (fun q => q.1)) (h : va_D A w1) : va_D A w2 := by
  have g : ∀ (i : Nat) (q : Nat × va_E), w2[i]? = some q → ∃ q', w1[i]? = some q' ∧ q'.1 = q.1 := fun i q hq => by
    have h2 : (w2.map (fun q => q.1))[i]? = some q.1 := by rw [List.getElem?_map, hq]; rfl
    rw [← e, List.getElem?_map] at h2
    cases h3 : w1[i]? with
    | none => rw [h3] at h2; cases h2
    | some q' => rw [h3] at h2; exact ⟨q', rfl, Option.some.inj h2⟩
  refine ⟨fun i j p q hp hq hpq => ?_, fun i q hq => ?_⟩
  · obtain ⟨p', hp', ep⟩ := g i p hp
    obtain ⟨q', hq', eq⟩ := g j q hq
    exact h.1 i j p' q' hp' hq' (by rw [ep, eq]; exact hpq)
  · obtain ⟨q', hq', eq⟩ := g i q hq
    rw [← eq]; exact h.2 i q' hq'
theorem GoodAl.app {al t : List Nat} (h : GoodAl al) (ht : ∀ a k, al.length ≤ a → (al ++ t)[a]? = some k → okK (al ++ t) a k) : GoodAl (al ++ t) := by
  intro a k hk
  by_cases hl : a < al.length
  · have hk0 : al[a]? = some k := by rw [List.getElem?_append_left hl] at hk; exact hk
    obtain ⟨g1, g2⟩ := h a k hk0
    have up : ∀ (b : Nat) (x : Nat), al[b]? = some x → (al ++ t)[b]? = some x := fun b x hb => by
      rw [List.getElem?_append_left (List.getElem?_eq_some_iff.mp hb).1]; exact hb
    exact ⟨fun L hL j o k' hj => up _ _ (g1 L hL j o k' hj), fun hL t' n k' hq h4 i hi => up _ _ (g2 hL t' n k' hq h4 i hi)⟩
  · exact ht a k (by omega) hk
theorem wv.app {al : List Nat} {v : V} (t : List Nat) (h : wv al v) : wv (al ++ t) v := by
  have up : ∀ (b : Nat) (x : Nat), al[b]? = some x → (al ++ t)[b]? = some x := fun b x hb => by
    rw [List.getElem?_append_left (List.getElem?_eq_some_iff.mp hb).1]; exact hb
  rcases v with x | x | q | q | a
  · trivial
  · trivial
  · exact up _ _ h
  · exact h.imp_right (up _ _)
  · exact h
theorem rep_grow {f f' : Nat → Nat} {al : List Nat} {v : V} (hf : ∀ b, b < al.length ∨ 1000 ≤ b → f' b = f b) (h : wv al v) : rep f' v = rep f v := by
  have lt : ∀ (b : Nat) (x : Nat), al[b]? = some x → b < al.length := fun b x hb => (List.getElem?_eq_some_iff.mp hb).1
  rcases v with x | x | q | q | a
  · rfl
  · rfl
  · show Value.ref (f' q.2) = .ref (f q.2)
    rw [hf _ (Or.inl (lt _ _ h))]
  · show (if q.2 = 0 then Value.null else .ref (f' (q.2 - 1))) = (if q.2 = 0 then Value.null else .ref (f (q.2 - 1)))
    rcases h with h | h
    · rw [if_pos h, if_pos h]
    · rw [hf _ (Or.inl (lt _ _ h))]
  · show Value.ref (f' a) = .ref (f a)
    rw [hf _ (Or.inr h)]
theorem lrep_grow {f f' : Nat → Nat} {al : List Nat} {ls : List (Nat × V)} (hf : ∀ b, b < al.length ∨ 1000 ≤ b → f' b = f b) (h : wl al ls) : lrep f' ls = lrep f ls := by
  unfold lrep
  exact List.map_congr_left (fun q hq => by rw [rep_grow hf (h q hq)])
theorem srep_grow {f f' : Nat → Nat} {al : List Nat} {st : List V} (hf : ∀ b, b < al.length ∨ 1000 ≤ b → f' b = f b) (h : ws9 al st) : st.map (rep f') = st.map (rep f) :=
  List.map_congr_left (fun q hq => rep_grow hf (h q hq))
section MK
variable {G : Gt} {cc : ByteArray} {nL pc : Nat} {own : String} {ls : List (Nat × V)} {st st2 : List V} {h : Hp} {l : Launch} {d : Nat} {alX : List Nat}
/-- a row that makes one cell -/
theorem r_make {kk pc2 : Nat} (C : Cx G cc nL own) (X : Rmx l G d alX) (hal : xK h ++ [kk] <+: alX) (hN : NOk h) (hlen : (xK h).length < 1000) (hok : okK (xK h ++ [kk]) (xK h).length kk) (hw : ∀ al, ws9 al st2 → ws9 al st)
    (run : ∀ (f : Nat → Nat) (H : Heap) (locs : List Loc) (LS : Array Slot) (cells slots : Nat), match G with
      | (p, l', e, R, s, m, args, below, meth, c, D, dA, A, f0, al0, Q, nL) => p.tables.exec = Jvm.exec → c.code = cc → s.vm.findClass own = some m.cls → (∀ w ∈ lw_g, w.before args s = true) → va_K D vwCl (tysD dA) s → va_P D vwCl (wd dA f h) H → va_D A (wd dA f h) → va_S A s.heap H locs → (∀ q : Nat, s.heap.size ≤ q → A q) → cells + 1 ≤ R.cells → slots + slk kk ≤ R.slots →
        (∀ (q : Nat) (H1 : Heap) (E : va_E), va_P D vwCl (wd dA f h) H1 → (∀ f', va_at D vwCl (q, ent dA f' (nw h kk) kk (xK h).length) H1) → va_D A (wd dA f h ++ [(q, E)]) → va_S A s.heap H1 locs → W p l' e R s m args below meth c H1 locs (cells + 1) (slots + slk kk) Q (F0 m pc2 LS (.ref q :: st.map (rep f)))) →
        W p l' e R s m args below meth c H locs cells slots Q (F0 m pc LS (st2.map (rep f))))
    (kk9 : Rr G pc2 ls (vr kk (xK h).length :: st) (nw h kk)) : Rr G pc ls st2 h := by
  obtain ⟨p, l', e, R, s, m, args, below, meth, c, D, dA, A, f0, al0, Q, nL'⟩ := G
  obtain ⟨rfl, hx, hb, hml, hown, hts, hlk, hK, hAz, hSF⟩ := C
  obtain ⟨rfl, X1, X2, X3, X4⟩ := X
  intro f H locs LS h1 h2 h3 hP hD hS hl w1 w2
  have p1 := pfx_len hal
  have p2 := pfx_slo hal
  have p3 := pfx_len h2
  have p4 := pfx_slo h2
  rw [List.length_append, List.length_singleton] at p1
  rw [slo_app] at p2
  have s1 : slo [kk] = slk kk := rfl
  rw [s1] at p2
  have w3 := hw _ w2
  refine run f H locs LS _ _ hx hb hown hts hK hP hD hS hAz (by omega) (by omega) (fun q H1 E hP1 hE hD1 hS1 => ?_)
  have hf : ∀ b, b < (xK h).length ∨ 1000 ≤ b → (fun a => if a = (xK h).length then q else f a) b = f b := fun b hb => if_neg (by omega)
  have hf1 : ∀ b, b < (xK h).length → (fun a => if a = (xK h).length then q else f a) b = f b := fun b hb => hf b (Or.inl hb)
  have eK : xK (nw h kk) = xK h ++ [kk] := rfl
  have g := kk9 (fun a => if a = (xK h).length then q else f a) H1 locs LS (fun a ha => (hf a (by omega)).trans (h1 a ha)) (h2.trans (List.prefix_append _ _)) ?_ ?_ ?_ hS1 ?_ ?_ ?_
  · have e1 : (vr kk (xK h).length :: st).map (rep (fun a => if a = (xK h).length then q else f a)) = .ref q :: st.map (rep f) := by
      rw [List.map_cons, srep_grow hf w3]
      show Value.ref (if (xK h).length = (xK h).length then q else f (xK h).length) :: _ = _
      rw [if_pos rfl]
    rw [e1, eK, List.length_append, List.length_singleton, slo_app, s1, show (xK h).length + 1 - al0.length = (xK h).length - al0.length + 1 by omega, show slo (xK h) + slk kk - slo al0 = slo (xK h) - slo al0 + slk kk by omega] at g
    exact g
  · rw [eK]
    refine h3.app (fun a k ha hk => ?_)
    have : a = (xK h).length := by
      have := (List.getElem?_eq_some_iff.mp hk).1
      rw [List.length_append, List.length_singleton] at this
      omega
    subst this
    rw [List.getElem?_append_right (Nat.le_refl _), Nat.sub_self] at hk
    cases hk
    exact hok
  · refine P_grow hP1 eK hf1 (fun i hi => ?_) h3 hN (fun a k ha hk => ?_)
    · have : ¬ i = (xK h).length := by omega
      exact ⟨if_neg this, if_neg this, if_neg this⟩
    · have : a = (xK h).length := by
        have := (List.getElem?_eq_some_iff.mp hk).1
        rw [eK, List.length_append, List.length_singleton] at this
        omega
      subst this
      rw [eK, List.getElem?_append_right (Nat.le_refl _), Nat.sub_self] at hk
      cases hk
      show va_at D vwCl ((if (xK h).length = (xK h).length then q else f (xK h).length), _) H1
      rw [if_pos rfl]
      exact hE _
  · refine D_addr ?_ hD1
    unfold wd
    rw [eK, List.length_append, List.length_singleton, List.range_succ, List.map_append, List.map_append, List.map_append, List.map_map, List.map_map]
    congr 1
    · exact List.map_congr_left (fun a ha => (hf1 a (List.mem_range.mp ha)).symm)
    · show [q] = [if (xK h).length = (xK h).length then q else f (xK h).length]
      rw [if_pos rfl]
  · rw [lrep_grow hf w1]; exact hl
  · exact fun q hq => (w1 q hq).app _
  · exact w_c (by show (xK h ++ [kk])[(xK h).length]? = some kk; rw [List.getElem?_append_right (Nat.le_refl _), Nat.sub_self]; rfl) (fun q hq => (w3 q hq).app _)
theorem slk_arr {kk t n o : Nat} (hL : fkL[kk]? = none) (hq : akL[kk - 20]? = some (t, n, o)) : slk kk = n := by
  unfold slk; rw [hL, List.getD_eq_getElem?_getD, hq]; rfl
theorem slk_obj {kk : Nat} {L : List Fd3} (hL : fkL[kk]? = some L) : slk kk = L.length := by unfold slk; rw [hL]
theorem nw_I {h : Hp} {k : Nat} : xI (nw h k) (xK h).length = fun _ => 0 := if_pos rfl
theorem nw_L {h : Hp} {k : Nat} : xL (nw h k) (xK h).length = fun _ => 0 := if_pos rfl
theorem nw_N {h : Hp} {k : Nat} : xN (nw h k) (xK h).length = fun _ => 0 := if_pos rfl
/-- a new row of numbers -/
theorem r_newa {kk t n o : Nat} {at_ : ArrayType} {ty : FieldType} {S : String} {a0 : vp_A} (C : Cx G cc nL own) (X : Rmx l G d alX) (hL : fkL[kk]? = none) (hq : akL[kk - 20]? = some (t, n, o)) (ht : t < 4) (hal : xK h ++ [kk] <+: alX) (hN : NOk h) (hlen : (xK h).length < 1000) (hty : newarray.typeOf at_ = ty) (harr : Cond.arrayClass (newarray.typeOf at_) ∈ lw_g)
    (hT : ∀ dA, (tysD dA)[t]? = some (dA t, ty)) (hS9 : ∀ (U : State) (c : ClassId), va_RA U c ty → U.vm.findClass S = some c) (ha : ∀ cA : ClassId, vp_cell cA a0 = arrV cA n (fun _ => defaultValue ty)) (hz : ∀ (dA : Nat → ClassId) (f : Nat → Nat) (h' : Hp) (a : Nat), xI h' a = (fun _ => 0) → xL h' a = (fun _ => 0) → ent dA f h' kk a = .inl (dA t, a0)) (hb : n * componentBytes ty ≤ 536870912) (hn31 : n < 2 ^ 31)
    (dd : decode cc pc = .ok (.newarray at_, 2)) (kk9 : Rr G (pc + 2) ls (vr kk (xK h).length :: st) (nw h kk)) : Rr G pc ls (vi (nI n) :: st) h := by
  refine r_make C X hal hN hlen ⟨fun L h9 => by rw [hL] at h9; (cases h9), fun _ t' n' k' h9 h4 => by rw [hq] at h9; (cases h9); omega⟩ (fun al hw => w_t hw) ?_ kk9
  intro f H locs LS cells slots
  obtain ⟨p, l', e, R, s, m, args, below, meth, c, D, dA, A, f0, al0, Q, nL'⟩ := G
  intro hx hb9 hown hts hK hP hD hS hAz c1 c2 k
  have es := slk_arr hL hq
  rw [es] at c2 k
  refine va_newa hx hb9 (atype := at_) (hts _ harr) hty hK hP hD hS hAz ha (nI_pos hn31) (nI_clamp hn31) hb c1 c2 dd (fun q cA H1 hK1 hP1 hD1 hS1 => ?_)
  have ecA : cA = dA t := by
    have e1 := (hK1.2 (tysD dA).length (cA, ty) (by rw [List.getElem?_append_right (Nat.le_refl _), Nat.sub_self]; rfl)).2
    have e2 := (hK.2 t (dA t, ty) (hT dA)).2
    exact Option.some.inj ((hS9 _ _ e1).symm.trans (hS9 _ _ e2))
  refine k q H1 _ (fun i x hx => hP1 i x (by rw [List.getElem?_append_left (List.getElem?_eq_some_iff.mp hx).1]; exact hx)) (fun f' => ?_) hD1 hS1
  have g := hP1 (wd dA f h).length _ (by rw [List.getElem?_append_right (Nat.le_refl _), Nat.sub_self]; rfl)
  rw [hz dA f' _ _ nw_I nw_L, ← ecA]
  exact g
/-- all fields zero -/
def zf (L : List Fd3) : List Value := L.map (fun d => match d.1 with | 0 => .int 0 | 1 => .long 0 | _ => .null)
theorem fvals_zero {f : Nat → Nat} {h : Hp} {a : Nat} {L : List Fd3} (e1 : xI h a = fun _ => 0) (e2 : xL h a = fun _ => 0) (e3 : xN h a = fun _ => 0) (hL : L.all (fun d => d.1 != 2) = true) : fvals f h a 0 L = zf L := by
  apply List.ext_getElem?
  intro j
  rw [fvals_get]
  unfold zf
  rw [List.getElem?_map]
  cases hj : L[j]? with
  | none => rfl
  | some d =>
    have hd := List.all_eq_true.mp hL d (List.mem_of_getElem? hj)
    obtain ⟨t, o, k⟩ := d
    show some (fval f h a (0 + j) (t, o, k)) = some _
    unfold fval
    rw [e1, e2, e3]
    match t, hd with
    | 0, _ => rfl
    | 1, _ => rfl
    | 2, hd => exact absurd hd (by simp)
    | n + 3, _ => rfl
/-- a new object, not yet made -/
theorem r_new {kk N index : Nat} {C0 : String} {T : u_T} {L : List Fd3} (C : Cx G cc nL own) (X : Rmx l G d alX) (hc : vwCl[kk]? = some (C0, T, N)) (hL : fkL[kk]? = some L) (hLN : L.length = N) (hL2 : L.all (fun d => d.1 != 2) = true) (hfs : ∀ j, j < N → defaultValue (clTy kk j) = vp_V (zf L) j) (hal : xK h ++ [kk] <+: alX) (hN : NOk h) (hlen : (xK h).length < 1000)
    (q1 : Cond.classLink own index C0 ∈ lw_g) (q2 : Cond.instantiable C0 N ∈ lw_g) (q3 : Cond.initialized C0 ∈ lw_g) (dd : decode cc pc = .ok (.new index, 3)) (kk9 : Rr G (pc + 3) ls (vr kk (xK h).length :: st) (nw h kk)) : Rr G pc ls st h := by
  refine r_make C X hal hN hlen ⟨fun L' h9 j o k' hj => by
    rw [hL] at h9; cases h9
    have := List.all_eq_true.mp hL2 _ (List.mem_of_getElem? hj)
    exact absurd this (by simp), fun h9 => by rw [hL] at h9; cases h9⟩ (fun al hw => hw) ?_ kk9
  intro f H locs LS cells slots
  obtain ⟨p, l', e, R, s, m, args, below, meth, c, D, dA, A, f0, al0, Q, nL'⟩ := G
  intro hx hb9 hown hts hK hP hD hS hAz c1 c2 k
  have es : slk kk = N := (slk_obj hL).trans hLN
  rw [es] at c2 k
  refine va_new hx hb9 hts (cl_in hc) (clTy kk) (cl_ty hc) hown (hts _ q1) (hts _ q2) (hts _ q3) hK hP hD hS hAz hc hfs c1 c2 dd (fun q H1 hP1 hD1 hS1 => ?_)
  refine k q H1 _ (fun i x hx => hP1 i x (by rw [List.getElem?_append_left (List.getElem?_eq_some_iff.mp hx).1]; exact hx)) (fun f' => ?_) hD1 hS1
  have g := hP1 (wd dA f h).length _ (by rw [List.getElem?_append_right (Nat.le_refl _), Nat.sub_self]; rfl)
  rw [ent_obj hL, fvals_zero nw_I nw_L nw_N hL2]
  exact g
theorem oth_sN {h : Hp} {a j : Nat} {x : Nat} : ∀ b, b ≠ a → xI (sN h a j x) b = xI h b ∧ xL (sN h a j x) b = xL h b ∧ xN (sN h a j x) b = xN h b := fun b hb => ⟨rfl, rfl, by simp [sN, xN, hb]⟩
theorem fvals_sN {f : Nat → Nat} {h : Hp} {a j b : Nat} {L : List Fd3} {t o k' : Nat} (hj : L[j]? = some (t + 3, o, k')) : fvals f (sN h a j (b + 1)) a 0 L = (fvals f h a 0 L).set j (.ref (f b)) := by
  apply List.ext_getElem?
  intro i
  by_cases hi : i = j
  · subst hi
    rw [List.getElem?_set_self (by rw [fvals_len]; exact (List.getElem?_eq_some_iff.mp hj).1), fvals_get, hj]
    show some (if xN (sN h a i (b + 1)) a (0 + i) = 0 then Value.null else .ref (f (xN (sN h a i (b + 1)) a (0 + i) - 1))) = _
    have e : xN (sN h a i (b + 1)) a (0 + i) = b + 1 := by simp [sN, xN]
    rw [e, if_neg (by omega)]; rfl
  · rw [List.getElem?_set_ne (Ne.symm hi), fvals_get, fvals_get]
    congr 1
    funext d
    simp [fval, sN, xI, xL, xN, hi]
def CI (G : Gt) : Prop := match G with
  | (p, l, e, R, s, m, args, below, meth, c, D, dA, A, f0, al0, Q, nL) => meth.name = "<init>"
/-- a cell put into a field that may be null -/
theorem r_putN {k a j t o k' N index b kb : Nat} {C0 : String} {T : u_T} {L : List Fd3} (C : Cx G cc nL own) (hc : vwCl[k]? = some (C0, T, N)) (hL : fkL[k]? = some L) (hj : L[j]? = some (t + 3, o, k')) (hjN : j < N) (hlk : Cond.fieldLink own index (T j).1 (T j).2.1 (T j).2.2.1 ∈ lw_g)
    (hfin : (T j).2.2.2 = false) (hn : ∀ x : Nat, narrow (clTy k j) (.ref x) = .ref x) (hfit : ∀ x : Nat, fits (clTy k j) (.ref x) = true)
    (dd : decode cc pc = .ok (.putfield index, 3)) (kk : Rr G (pc + 3) ls st (sN h a j (b + 1))) : Rr G pc ls (vr kb b :: vr k a :: st) h := by
  refine r_put (h2 := sN h a j (b + 1)) (a := a) (k := k) (st2 := st) C rfl oth_sN (fun al hw => w_t (w_t hw)) (fun al hw => w_h (w_t hw)) ?_ kk
  intro f H locs LS cells slots
  obtain ⟨p, l, e, R, s, m, args, below, meth, c, D, dA, A, f0, al0, Q, nL'⟩ := G
  intro hP hD hS hx hb hown hts hK hg kk
  rw [ent_obj hL] at hg
  have hl9 : j < (fvals f h a 0 L).length := by rw [fvals_len]; exact (List.getElem?_eq_some_iff.mp hj).1
  refine va_put hx hb hts (cl_in hc) (clTy k) (cl_ty hc) (cl_nm hc) hown hK hP hD hS a hg hc j hjN (hts _ hlk) (fun _ h9 => h9) hfin (cl_ty hc j hjN) (hn (f b)) (hfit (f b)) hl9 dd (fun H1 locs1 a1 a2 a3 => kk H1 locs1 ?_ ?_ a3)
  · rw [ent_obj hL, fvals_sN hj]; exact a1
  · rw [ent_obj hL, fvals_sN hj]; exact a2
theorem r_putNF {k a j t o k' N index b kb : Nat} {T : u_T} {L : List Fd3} (C : Cx G cc nL own) (hI : CI G) (hc : vwCl[k]? = some (own, T, N)) (hL : fkL[k]? = some L) (hj : L[j]? = some (t + 3, o, k')) (hjN : j < N) (hlk : Cond.fieldLink own index (T j).1 (T j).2.1 (T j).2.2.1 ∈ lw_g)
    (hfin : (T j).2.2.2 = true) (hdecl : (T j).1 = own) (hn : ∀ x : Nat, narrow (clTy k j) (.ref x) = .ref x) (hfit : ∀ x : Nat, fits (clTy k j) (.ref x) = true)
    (dd : decode cc pc = .ok (.putfield index, 3)) (kk : Rr G (pc + 3) ls st (sN h a j (b + 1))) : Rr G pc ls (vr kb b :: vr k a :: st) h := by
  refine r_put (h2 := sN h a j (b + 1)) (a := a) (k := k) (st2 := st) C rfl oth_sN (fun al hw => w_t (w_t hw)) (fun al hw => w_h (w_t hw)) ?_ kk
  intro f H locs LS cells slots
  obtain ⟨p, l, e, R, s, m, args, below, meth, c, D, dA, A, f0, al0, Q, nL'⟩ := G
  intro hP hD hS hx hb hown hts hK hg kk
  rw [ent_obj hL] at hg
  have hl9 : j < (fvals f h a 0 L).length := by rw [fvals_len]; exact (List.getElem?_eq_some_iff.mp hj).1
  refine va_putF hx hb hts (cl_in hc) (clTy k) (cl_ty hc) (cl_nm hc) hown hK hP hD hS a hg hc j hjN (hts _ hlk) (fun _ h9 => h9) hfin hI hdecl (cl_ty hc j hjN) (hn (f b)) (hfit (f b)) hl9 dd (fun H1 locs1 a1 a2 a3 => kk H1 locs1 ?_ ?_ a3)
  · rw [ent_obj hL, fvals_sN hj]; exact a1
  · rw [ent_obj hL, fvals_sN hj]; exact a2
theorem slo_rep (k : Nat) : ∀ n, slo (List.replicate n k) = n * slk k
  | 0 => by simp [slo]
  | n + 1 => by rw [List.replicate_succ, slo, slo_rep k n, Nat.succ_mul, Nat.add_comm]
theorem nwR_at {h : Hp} {k k2 n a : Nat} (ha : (xK h).length ≤ a) : xI (nwR h k k2 n) a = (fun _ => 0) ∧ xL (nwR h k k2 n) a = (fun _ => 0) ∧ xN (nwR h k k2 n) a = (fun _ => 0) := ⟨if_pos ha, if_pos ha, if_pos ha⟩
theorem nwR_ne {h : Hp} {k k2 n a : Nat} (ha : a < (xK h).length) : xI (nwR h k k2 n) a = xI h a ∧ xL (nwR h k k2 n) a = xL h a ∧ xN (nwR h k k2 n) a = xN h a := ⟨if_neg (by omega), if_neg (by omega), if_neg (by omega)⟩
/-- a row of rows -/
theorem r_mna {ko ki n m9 to ti oi index : Nat} {ty : FieldType} {S1 S2 : String} {z : vp_A} (C : Cx G cc nL own) (X : Rmx l G d alX) (hLo : fkL[ko]? = none) (hqo : akL[ko - 20]? = some (to, n, ki)) (hLi : fkL[ki]? = none) (hqi : akL[ki - 20]? = some (ti, m9, oi)) (hti : ti < 4) (hto : ∀ (dA : Nat → ClassId) (f : Nat → Nat) (h' : Hp) (a : Nat), ent dA f h' ko a = .inl (dA to, n, .inr (.inr (.inr (.inr (fun i => some (f (a + 1 + i)))))))) (hal : xK h ++ (ko :: List.replicate n ki) <+: alX) (hN : NOk h) (hlen : (xK h).length + n + 1 ≤ 1000)
    (q1 : Cond.classLink own index S1 ∈ lw_g) (q2 : ∀ U, SX U → (Cond.arrayOver (.array ty)).before #[] U = true) (q3 : Cond.arrayClass ty ∈ lw_g) (e1 : S1 = "[" ++ (FieldType.array ty).toString) (hTo : ∀ dA, (tysD dA)[to]? = some (dA to, .array ty)) (hTi : ∀ dA, (tysD dA)[ti]? = some (dA ti, ty)) (hRo : ∀ (U : State) (c : ClassId), va_RA U c (.array ty) → U.vm.findClass S1 = some c) (hRi : ∀ (U : State) (c : ClassId), va_RA U c ty → U.vm.findClass (FieldType.array ty).toString = some c)
    (hb1 : n * 4 ≤ 536870912) (hb2 : m9 * componentBytes ty ≤ 536870912) (hb3 : m9 ≤ 536870912) (hdf : fits ty (defaultValue ty) = true) (hdd : (defaultValue ty).isDefault = true) (hz : ∀ c : ClassId, Jvm.Free.Multi.innerC c m9 (defaultValue ty) = vp_cell c z) (hzi : ∀ (dA : Nat → ClassId) (f : Nat → Nat) (h' : Hp) (a : Nat), xI h' a = (fun _ => 0) → xL h' a = (fun _ => 0) → ent dA f h' ki a = .inl (dA ti, z)) (hn31 : n < 2 ^ 31) (hm31 : m9 < 2 ^ 31)
    (dd : decode cc pc = .ok (.multianewarray index 2, 4)) (kk9 : Rr G (pc + 4) ls (vr ko (xK h).length :: st) (nwR h ko ki n)) : Rr G pc ls (vi (nI m9) :: vi (nI n) :: st) h := by
  obtain ⟨p, l', e, R, s, m, args, below, meth, c, D, dA, A, f0, al0, Q, nL'⟩ := G
  obtain ⟨rfl, hx, hb, hml, hown, hts, hlk, hK, hAz, hSF⟩ := C
  obtain ⟨rfl, X1, X2, X3, X4⟩ := X
  intro f H locs LS h1 h2 h3 hP hD hS hl w1 w2
  have p1 := pfx_len hal
  have p2 := pfx_slo hal
  have p3 := pfx_len h2
  have p4 := pfx_slo h2
  rw [List.length_append, List.length_cons, List.length_replicate] at p1
  have so : slk ko = n := slk_arr hLo hqo
  have si : slk ki = m9 := slk_arr hLi hqi
  have s1 : slo (ko :: List.replicate n ki) = n + n * m9 := by rw [slo, slo_rep, so, si]
  rw [slo_app, s1] at p2
  have w3 := w_t (w_t w2)
  have hcy : s.vm.findClass (FieldType.array ty).toString = some (dA ti) := hRi _ _ (hK.2 ti _ (hTi dA)).2
  refine va_mna (X := wd dA f h) (L := []) (f := fun _ => .inl (dA 0, 0, .inl (fun _ => 0))) hx hb hown (by rw [← e1]; exact hts _ q1) (over_moved (Vm.Alike.refl _) (q2 s hSF.2.2.2.2)) (hts _ q3) hcy hK (by unfold va_pl; rw [List.map_nil, List.append_nil]; exact hP) (by unfold va_pl; rw [List.map_nil, List.append_nil]; exact hD) hS hAz (nI_pos hn31) (nI_pos hm31) (nI_clamp hn31) (nI_clamp hm31) hb1 hb2 hb3 hdf hdd (by omega) (by omega) hz dd (fun q r cA H1 hr1 _ hK1 hP1 hD1 hS1 => ?_)
  have ecA : cA = dA to := by
    have g1 := (hK1.2 (tysD dA).length (cA, .array ty) (by rw [List.getElem?_append_right (Nat.le_refl _), Nat.sub_self]; rfl)).2
    have g2 := (hK.2 to (dA to, .array ty) (hTo dA)).2
    exact Option.some.inj ((hRo _ _ g1).symm.trans (hRo _ _ g2))
  generalize hF : (fun a => if a = (xK h).length then q else if (xK h).length < a ∧ a ≤ (xK h).length + n then r (a - (xK h).length - 1) else f a) = f'
  have hf : ∀ b, b < (xK h).length ∨ 1000 ≤ b → f' b = f b := fun b hb => by rw [← hF]; show (if _ then _ else if _ then _ else _) = _; rw [if_neg (by omega), if_neg (by omega)]
  have fq : f' (xK h).length = q := by rw [← hF]; exact if_pos rfl
  have fr : ∀ i, i < n → f' ((xK h).length + 1 + i) = r i := fun i hi => by
    rw [← hF]; show (if _ then _ else if _ then _ else _) = _
    rw [if_neg (by omega), if_pos (by omega), show (xK h).length + 1 + i - (xK h).length - 1 = i by omega]
  have eK : xK (nwR h ko ki n) = xK h ++ (ko :: List.replicate n ki) := rfl
  have eKl : (xK (nwR h ko ki n)).length = (xK h).length + 1 + n := by rw [eK, List.length_append, List.length_cons, List.length_replicate]; omega
  have kd : ∀ a k, (xK h).length ≤ a → (xK h ++ (ko :: List.replicate n ki))[a]? = some k → (a = (xK h).length ∧ k = ko) ∨ (∃ i, i < n ∧ a = (xK h).length + 1 + i ∧ k = ki) := fun a k ha hk => by
    have hl9 := (List.getElem?_eq_some_iff.mp hk).1
    rw [List.length_append, List.length_cons, List.length_replicate] at hl9
    rw [List.getElem?_append_right ha] at hk
    by_cases e0 : a = (xK h).length
    · subst e0; rw [Nat.sub_self] at hk; cases hk; exact Or.inl ⟨rfl, rfl⟩
    · right
      refine ⟨a - (xK h).length - 1, by omega, by omega, ?_⟩
      rw [show a - (xK h).length = (a - (xK h).length - 1) + 1 by omega, List.getElem?_cons_succ, List.getElem?_replicate] at hk
      rw [if_pos (by omega)] at hk
      exact (Option.some.inj hk).symm
  have get1 : ∀ (i : Nat) (x : Nat × va_E), (wd dA f h)[i]? = some x → va_at D vwCl x H1 := fun i x hx => by
    have hl9 := (List.getElem?_eq_some_iff.mp hx).1
    exact hP1 i x (by rw [List.getElem?_append_left (by rw [List.length_append]; omega), List.getElem?_append_left hl9]; exact hx)
  have getq : va_at D vwCl (q, .inl (cA, n, .inr (.inr (.inr (.inr (fun i => if i < n then some (r i) else none)))))) H1 := hP1 (wd dA f h).length _ (by
    rw [List.getElem?_append_left (by rw [List.length_append, List.length_singleton]; omega), List.getElem?_append_right (Nat.le_refl _), Nat.sub_self]; rfl)
  have getr : ∀ i, i < n → va_at D vwCl (r i, .inl (dA ti, z)) H1 := fun i hi => by
    refine hP1 ((wd dA f h).length + 1 + i) _ ?_
    rw [List.getElem?_append_right (by rw [List.length_append, List.length_singleton]; omega), List.length_append, List.length_singleton, show (wd dA f h).length + 1 + i - ((wd dA f h).length + 1) = i by omega]
    unfold va_pl
    rw [List.nil_append, List.getElem?_map, List.getElem?_map, List.getElem?_range hi]
    show some (r i, vr_up _ _ _ (r i)) = _
    rw [vr_up_in (List.mem_map.mpr ⟨i, List.mem_range.mpr hi, rfl⟩)]
  have g := kk9 f' H1 locs LS (fun a ha => by rw [hf a (by omega)]; exact h1 a ha) (h2.trans (List.prefix_append _ _)) ?_ ?_ ?_ hS1 ?_ ?_ ?_
  · have e9 : (vr ko (xK h).length :: st).map (rep f') = .ref q :: st.map (rep f) := by
      rw [List.map_cons, srep_grow hf w3]
      show Value.ref (f' (xK h).length) :: _ = _
      rw [fq]
    rw [e9, eKl, eK, slo_app, s1, show (xK h).length + 1 + n - al0.length = (xK h).length - al0.length + 1 + n by omega, show slo (xK h) + (n + n * m9) - slo al0 = slo (xK h) - slo al0 + n + n * m9 by omega] at g
    exact g
  · rw [eK]
    refine h3.app (fun a k ha hk => ?_)
    rcases kd a k ha hk with ⟨rfl, rfl⟩ | ⟨i, hi, rfl, rfl⟩
    · refine ⟨fun L h9 => by rw [hLo] at h9; (cases h9), fun _ t' n' k' h9 h4 i hi => ?_⟩
      rw [hqo] at h9; cases h9
      rw [List.getElem?_append_right (by omega), show (xK h).length + 1 + i - (xK h).length = i + 1 by omega, List.getElem?_cons_succ, List.getElem?_replicate, if_pos hi]
    · exact ⟨fun L h9 => by rw [hLi] at h9; (cases h9), fun _ t' n' k' h9 h4 => by rw [hqi] at h9; (cases h9); omega⟩
  · refine P_grow (fun i x hx => get1 i x hx) eK (fun b hb => hf b (Or.inl hb)) (fun i hi => nwR_ne hi) h3 hN (fun a k ha hk => ?_)
    rw [eK] at hk
    rcases kd a k ha hk with ⟨rfl, rfl⟩ | ⟨i, hi, rfl, rfl⟩
    · rw [fq, hto]
      show H1[q]? = some (vp_cell (dA to) _)
      have g9 : H1[q]? = some (vp_cell cA _) := getq
      rw [g9, ecA, vp_cell_q, vp_cell_q]
      refine congrArg some (arrV_cg (fun j hj => ?_))
      rw [fr j hj, if_pos hj]
    · rw [fr i hi, hzi dA f' _ _ (nwR_at (by omega)).1 (nwR_at (by omega)).2.1]
      exact getr i hi
  · refine D_addr ?_ hD1
    unfold wd va_pl
    rw [eKl, show List.range ((xK h).length + 1 + n) = List.range (xK h).length ++ (0 :: (List.range n).map (1 + ·)).map ((xK h).length + ·) from by rw [Nat.add_assoc, List.range_add, List.range_add (n := 1)]; rfl]
    simp only [List.map_append, List.map_map, List.nil_append, List.append_assoc, List.map_cons, List.map_nil]
    have cg2 : ∀ (A1 A2 B1 B2 : List Nat), A1 = A2 → B1 = B2 → A1 ++ B1 = A2 ++ B2 := fun _ _ _ _ e1 e2 => by rw [e1, e2]
    have cg3 : ∀ (x y : Nat) (B1 B2 : List Nat), x = y → B1 = B2 → x :: B1 = y :: B2 := fun _ _ _ _ e1 e2 => by rw [e1, e2]
    refine cg2 _ _ _ _ (List.map_congr_left (fun a ha => (hf a (Or.inl (List.mem_range.mp ha))).symm)) ?_
    refine cg3 _ _ _ _ (show q = f' ((xK h).length + 0) by rw [Nat.add_zero, fq]) (List.map_congr_left (fun i hi => ?_))
    show r i = f' ((xK h).length + (1 + i))
    rw [← Nat.add_assoc, fr i (List.mem_range.mp hi)]
  · rw [lrep_grow hf w1]; exact hl
  · exact fun q hq => (w1 q hq).app _
  · exact w_c (by show (xK h ++ (ko :: List.replicate n ki))[(xK h).length]? = some ko; rw [List.getElem?_append_right (Nat.le_refl _), Nat.sub_self]; rfl) (fun q hq => (w3 q hq).app _)
end MK
end
section
/-! PART 31: objects made -/
theorem ptr_tab : ∀ L ∈ fkL, ∀ d ∈ L, d.1 = 2 → ¬ (8 ≤ d.2.2 ∧ d.2.2 < 16) := by decide +kernel
theorem row_tab : ∀ d ∈ akL, 4 ≤ d.1 → ¬ (8 ≤ d.2.2 ∧ d.2.2 < 16) := by decide +kernel
theorem cl8 {k : Nat} (hk : k < 8) : vwCl[k + 8]? = vwCl[k]? := by
  match k, hk with
  | 0, _ => rfl
  | 1, _ => rfl
  | 2, _ => rfl
  | 3, _ => rfl
  | 4, _ => rfl
  | 5, _ => rfl
  | 6, _ => rfl
  | 7, _ => rfl
theorem fk8 {k : Nat} (hk : k < 8) : fkL[k + 8]? = (fkL[k]?).map (fun L => L.map (fun d => if d.1 = 2 then (3, 0, d.2.2) else d)) := by
  match k, hk with
  | 0, _ => rfl
  | 1, _ => rfl
  | 2, _ => rfl
  | 3, _ => rfl
  | 4, _ => rfl
  | 5, _ => rfl
  | 6, _ => rfl
  | 7, _ => rfl
theorem at8 {D : va_G} {tys : List (ClassId × FieldType)} {s : State} {k x : Nat} {vs : List Value} {H : Heap} (hK : va_K D vwCl tys s) (hk : k < 8) (h : va_at D vwCl (x, .inr (k + 8, vs)) H) : va_at D vwCl (x, .inr (k, vs)) H := by
  obtain ⟨r, h1, cell, g1, g2, g3, g4⟩ := h
  have h2 : vwCl[k]? = some r := (cl8 hk).symm.trans h1
  obtain ⟨a1, a2⟩ := hK.1 (k + 8) r h1
  obtain ⟨b1, b2⟩ := hK.1 k r h2
  have e1 : D.1 (k + 8) = D.1 k := Option.some.inj (a2.1.symm.trans b2.1)
  refine ⟨r, h2, cell, g1, g2.trans e1, g3, fun j hj => ?_⟩
  have e2 : D.2 (k + 8) j = D.2 k j := by
    obtain ⟨_, _, _, _, p1, p2⟩ := a1 j hj
    obtain ⟨_, _, _, _, q1, q2⟩ := b1 j hj
    have e := p1.symm.trans q1
    simp only [Option.some.injEq, Prod.mk.injEq] at e
    rw [← p2, ← q2, e.2.2.2]
  rw [← e2]; exact g4 j hj
/-- an object that is made -/
def rt (h : Hp) (a k : Nat) : Hp := (h.1, h.2.1, h.2.2.1, (xK h).set a k)
theorem slo_set {x : Nat} : ∀ (l : List Nat) (i : Nat) (y : Nat), l[i]? = some y → slk x = slk y → slo (l.set i x) = slo l
  | [], _, _, h, _ => by simp at h
  | k :: t, 0, y, h, e => by simp at h; subst h; simp [slo, e]
  | k :: t, i + 1, y, h, e => by
    simp only [List.getElem?_cons_succ] at h
    simp only [List.set_cons_succ, slo, slo_set t i y h e]
theorem slk8 {k : Nat} (hk : k < 8) : slk k = slk (k + 8) := by
  match k, hk with
  | 0, _ => rfl
  | 1, _ => rfl
  | 2, _ => rfl
  | 3, _ => rfl
  | 4, _ => rfl
  | 5, _ => rfl
  | 6, _ => rfl
  | 7, _ => rfl
/-- a value doesn't lead to a cell -/
def nr1 (a : Nat) : V → Prop
  | .inr (.inr (.inl q)) => q.2 ≠ a
  | .inr (.inr (.inr (.inl q))) => q.2 ≠ a + 1
  | _ => True
def nrS (a : Nat) : List V → Prop
  | [] => True
  | v :: t => nr1 a v ∧ nrS a t
def nrL (a : Nat) : List (Nat × V) → Prop
  | [] => True
  | q :: t => nr1 a q.2 ∧ nrL a t
theorem nrS.at {a : Nat} : ∀ {st : List V}, nrS a st → ∀ q ∈ st, nr1 a q
  | [], _, q, hq => by cases hq
  | v :: t, h, q, hq => by
    rcases List.mem_cons.mp hq with rfl | hq
    · exact h.1
    · exact nrS.at h.2 q hq
theorem nrL.at {a : Nat} : ∀ {ls : List (Nat × V)}, nrL a ls → ∀ q ∈ ls, nr1 a q.2
  | [], _, q, hq => by cases hq
  | v :: t, h, q, hq => by
    rcases List.mem_cons.mp hq with rfl | hq
    · exact h.1
    · exact nrL.at h.2 q hq
theorem wv.set {al : List Nat} {a k : Nat} {v : V} (h : wv al v) (n : nr1 a v) : wv (al.set a k) v := by
  have up : ∀ (b x : Nat), b ≠ a → al[b]? = some x → (al.set a k)[b]? = some x := fun b x hb hx => by
    rw [List.getElem?_set_ne (Ne.symm hb)]; exact hx
  rcases v with x | x | q | q | y
  · trivial
  · trivial
  · exact up _ _ n h
  · rcases h with h | h
    · exact Or.inl h
    · by_cases z : q.2 = 0
      · exact Or.inl z
      · exact Or.inr (up _ _ (fun e => n (show q.2 = a + 1 by omega)) h)
  · exact h
def Al0 (G : Gt) (al : List Nat) : Prop := match G with
  | (p, l, e, R, s, m, args, below, meth, c, D, dA, A, f0, al0, Q, nL) => al0 = al
def NmX (G : Gt) (n : String) : Prop := match G with
  | (p, l, e, R, s, m, args, below, meth, c, D, dA, A, f0, al0, Q, nL) => meth.name = n
section MK2
variable {G : Gt} {cc : ByteArray} {nL pc : Nat} {own : String} {ls : List (Nat × V)} {st : List V} {h : Hp} {l : Launch} {d : Nat} {alX : List Nat}
theorem r_retag {a k : Nat} {L : List Fd3} {al : List Nat} (C : Cx G cc nL own) (E : Al0 G al) (hal : al.length ≤ a) (hk : k < 8) (ha : (xK h)[a]? = some (k + 8)) (hL : fkL[k]? = some L) (hp : ∀ j o k', L[j]? = some (2, o, k') → xN h a j = a + o + 1 ∧ (xK h)[a + o]? = some k') (n1 : nrL a ls) (n2 : nrS a st)
    (kk : Rr G pc ls (vr k a :: st) (rt h a k)) : Rr G pc ls (vr (k + 8) a :: st) h := by
  obtain ⟨p, l, e, R, s, m, args, below, meth, c, D, dA, A, f0, al0, Q, nL'⟩ := G
  obtain ⟨rfl, hx, hb, hml, hown, hts, hlk, hK, hAz, hSF⟩ := C
  have E : al0 = al := E
  subst E
  intro f H locs LS h1 h2 h3 hP hD hS hl w1 w2
  have hlt := (List.getElem?_eq_some_iff.mp ha).1
  have no8 : ∀ (b kb : Nat), (xK h)[b]? = some kb → ¬ (8 ≤ kb ∧ kb < 16) → b ≠ a := fun b kb hb hn e => by
    subst e; rw [ha] at hb; cases hb; omega
  have up : ∀ (b x : Nat), b ≠ a → (xK h)[b]? = some x → ((xK h).set a k)[b]? = some x := fun b x hb hx => by
    rw [List.getElem?_set_ne (Ne.symm hb)]; exact hx
  have eP : ∀ b, (xK (rt h a k))[b]? = if b = a then some k else (xK h)[b]? := fun b => by
    show ((xK h).set a k)[b]? = _
    by_cases z : b = a
    · subst z; rw [if_pos rfl, List.getElem?_set_self hlt]
    · rw [if_neg z, List.getElem?_set_ne (Ne.symm z)]
  have hsl : slo (xK (rt h a k)) = slo (xK h) := slo_set _ _ _ ha (slk8 hk)
  have hln : (xK (rt h a k)).length = (xK h).length := List.length_set
  have g := kk f H locs LS h1 ?_ ?_ ?_ ?_ hS hl ?_ ?_
  · rw [hln, hsl] at g; exact g
  · obtain ⟨t, ht⟩ := h2
    refine ⟨t.set (a - al0.length) k, ?_⟩
    show al0 ++ _ = (xK h).set a k
    rw [← ht, List.set_append_right _ _ hal]
  · intro b kb hkb
    rw [eP] at hkb
    by_cases z : b = a
    · subst z
      rw [if_pos rfl] at hkb; cases hkb
      refine ⟨fun L' hL' j o k' hj => ?_, fun h9 => by rw [hL] at h9; cases h9⟩
      rw [hL] at hL'; cases hL'
      have q := (hp j o k' hj).2
      exact up _ _ (no8 _ _ q (ptr_tab L (List.mem_of_getElem? hL) _ (List.mem_of_getElem? hj) rfl)) q
    · rw [if_neg z] at hkb
      obtain ⟨o1, o2⟩ := h3 b kb hkb
      refine ⟨fun L' hL' j o k' hj => ?_, fun hL' t' n' k' hq h4 i hi => ?_⟩
      · have q := o1 L' hL' j o k' hj
        exact up _ _ (no8 _ _ q (ptr_tab L' (List.mem_of_getElem? hL') _ (List.mem_of_getElem? hj) rfl)) q
      · have q := o2 hL' t' n' k' hq h4 i hi
        exact up _ _ (no8 _ _ q (row_tab _ (List.mem_of_getElem? hq) h4)) q
  · intro b q hq
    obtain ⟨kb, hkb, rfl⟩ := wd_inv dA f (rt h a k) hq
    rw [eP] at hkb
    by_cases z : b = a
    · subst z
      rw [if_pos rfl] at hkb; cases hkb
      have g9 := hP b _ (wd_get dA f h ha)
      have hL8 : fkL[k + 8]? = some (L.map (fun d => if d.1 = 2 then (3, 0, d.2.2) else d)) := by rw [fk8 hk, hL]; rfl
      rw [ent_obj hL8] at g9
      rw [ent_obj hL]
      have e9 : fvals f (rt h b k) b 0 L = fvals f h b 0 (L.map (fun d => if d.1 = 2 then (3, 0, d.2.2) else d)) := by
        apply List.ext_getElem?
        intro j
        rw [fvals_get, fvals_get, List.getElem?_map]
        cases hj : L[j]? with
        | none => rfl
        | some d =>
          show some _ = some _
          refine congrArg some ?_
          obtain ⟨t, o, k'⟩ := d
          rw [Nat.zero_add]
          by_cases ht : t = 2
          · subst ht
            have q := (hp j o k' hj).1
            show Value.ref (f (b + o)) = (if xN h b j = 0 then Value.null else .ref (f (xN h b j - 1)))
            rw [q, if_neg (by omega), Nat.add_sub_cancel]
          · show fval f (rt h b k) b j (t, o, k') = fval f h b j (if t = 2 then (3, 0, k') else (t, o, k'))
            rw [if_neg ht]; rfl
      rw [e9]
      exact at8 hK hk g9
    · rw [if_neg z] at hkb
      have e9 : ent dA f (rt h a k) kb b = ent dA f h kb b := ent_agree (h := h) (h' := rt h a k) rfl rfl rfl kb
      rw [e9]
      exact hP b _ (wd_get dA f h hkb)
  · refine D_addr ?_ hD
    unfold wd
    rw [List.map_map, List.map_map, hln]
    rfl
  · exact fun q hq => (w1 q hq).set (nrL.at n1 q hq)
  · exact w_c (by show ((xK h).set a k)[a]? = some k; rw [List.getElem?_set_self hlt]) (fun q hq => (w_t w2 q hq).set (nrS.at n2 q hq))
/-- calls of constructors -/
theorem r_callI {y : MethodName} {cc' : ByteArray} {nL' d' index k a N : Nat} {T : u_T} {L : List Fd3} {al1 : List Nat} {post : Option V → Hp → Prop} (C : Cx G cc nL own) (X : Rmx l G d alX) (hM : Ms l y cc' nL' none d' [vr k a] h al1 post) (hd' : d' + 1 ≤ d) (hn : nL' ≤ 21) (hpre : xK h <+: al1) (hal : al1 <+: alX) (hc : vwCl[k]? = some (y.cls, T, N)) (hL : fkL[k]? = some L) (hcat : catS st ≤ 8)
    (q1 : Cond.methodLink own index y ∈ lw_g) (q2 : Cond.instanceMethod y ∈ lw_g) (q4 : Cond.initialized y.cls ∈ lw_g) (q5 : Cond.code y cc' nL' none ∈ lw_g) (hnm : y.name = "<init>") (hy : NotMH y) (hpar : Par y 0) (dd : decode cc pc = .ok (.invokespecial index, 3))
    (kk : ∀ (r : Option V) (h' : Hp), post r h' → xK h' = al1 → Rr G (pc + 3) ls (r.toList ++ st) h') : Rr G pc ls (vr k a :: st) h := by
  refine r_callC (as := [vr k a]) C X hM hd' hn hpre hal q5 (fun al hw => ⟨fun q hq => by rw [List.mem_singleton.mp hq]; exact w_h hw, w_t hw⟩) ?_ kk
  intro f H locs LS cells slots mc ms sz
  obtain ⟨p, l', e, R, s, m, args, below, meth, c, D, dA, A, f0, al0, Q, nL'⟩ := G
  intro hl hx hb hml hown hts hK hP hw hR hG hM2 hPc hf
  exact ⟨_, va_runI (As := []) ⟨hx, hb, hml, hown, hts⟩ hM2 ⟨callB_of 0 hts hG rfl rfl rfl (hts _ q4) (hts _ q1) ⟨hy.1, hy.2, hpar⟩ hR, hnm, hts _ q2⟩ ⟨blindM, hPc⟩ rfl rfl hl.1 rfl (rest_ok hcat) dd hf⟩
theorem r_callIN {y : MethodName} {cc' : ByteArray} {nL' d' index k a N : Nat} {T : u_T} {L : List Fd3} {al1 : List Nat} {i9 : Nat} {post : Option V → Hp → Prop} (C : Cx G cc nL own) (X : Rmx l G d alX) (hM : Ms l y cc' nL' none d' [vr k a] h al1 post) (hd' : d' + 1 ≤ d) (hn : nL' ≤ 21) (hpre : xK h <+: al1) (hal : al1 <+: alX) (hc : vwCl[k]? = some (y.cls, T, N)) (hL : fkL[k]? = some L) (hcat : catS st ≤ 8)
    (q1 : lnR[i9]? = some (own, index, y)) (q2 : Cond.instanceMethod y ∈ lw_g) (q4 : Cond.initialized y.cls ∈ lw_g) (q5 : Cond.code y cc' nL' none ∈ lw_g) (hnm : y.name = "<init>") (hy : NotMH y) (hpar : Par y 0) (dd : decode cc pc = .ok (.invokespecial index, 3))
    (kk : ∀ (r : Option V) (h' : Hp), post r h' → xK h' = al1 → Rr G (pc + 3) ls (r.toList ++ st) h') : Rr G pc ls (vr k a :: st) h := by
  refine r_callC (as := [vr k a]) C X hM hd' hn hpre hal q5 (fun al hw => ⟨fun q hq => by rw [List.mem_singleton.mp hq]; exact w_h hw, w_t hw⟩) ?_ kk
  intro f H locs LS cells slots mc ms sz
  obtain ⟨p, l', e, R, s, m, args, below, meth, c, D, dA, A, f0, al0, Q, nL'⟩ := G
  intro hl hx hb hml hown hts hK hP hw hR hG hM2 hPc hf
  have hln := C.2.2.2.2.2.2.2.2.2.2.2.2.2.2.2 i9 _ q1
  exact ⟨_, va_runIN (As := []) ⟨hx, hb, hml, hown, hts⟩ hM2 ⟨va_cnB 0 hts hG rfl rfl rfl hln (hts _ q4) ⟨hy.1, hy.2, hpar⟩ hR, hnm, hts _ q2⟩ ⟨blindM, hPc⟩ rfl rfl hl.1 rfl (rest_ok hcat) dd hf⟩
/-- Object's own constructor -/
theorem r_obj {k a index : Nat} (C : Cx G cc nL own) (X : Rmx l G d alX) (hd : 1 ≤ d) (q1 : Cond.methodLink own index Lib.objectInit ∈ lw_g) (q2 : Cond.instanceMethod Lib.objectInit ∈ lw_g) (q3 : Cond.code Lib.objectInit ⟨#[0xb1]⟩ 1 none ∈ lw_g) (dd : decode cc pc = .ok (.invokespecial index, 3))
    (kk : Rr G (pc + 3) ls [] h) : Rr G pc ls [vr k a] h := by
  obtain ⟨p, l', e, R, s, m, args, below, meth, c, D, dA, A, f0, al0, Q, nL'⟩ := G
  obtain ⟨rfl, hx, hb, hml, hown, hts, hlk, hK, hAz, hSF⟩ := C
  obtain ⟨X1, X2, X3, X4⟩ := rmx1 X hd
  intro f H locs LS h1 h2 h3 hP hD hS hl w1 w2
  exact W.objInit hx hb hown (hts _ q1) (hts _ q2) (hts _ q3) rfl (hl.1.trans hml.symm) rfl dd X1 (by show 2 * 0 + 0 + 12 ≤ _; omega) (kk f H locs LS h1 h2 h3 hP hD hS hl w1 (fun q hq => by cases hq))
end MK2
set_option maxHeartbeats 4000000 in
/-- a method's contract, where its name and what there is at its entry matter -/
theorem Ms.of2 {l : Launch} {y : MethodName} {cc : ByteArray} {nL : Nat} {ret : Option FieldType} {d : Nat} {as : List V} {h : Hp} {al1 : List Nat} {post : Option V → Hp → Prop} (hy : plainName y.cls = true) (hn : catS as ≤ nL)
    (body : ∀ G, Cx G cc nL y.cls → NmX G y.name → Al0 G (xK h) → Rmx l G d al1 → Fins G cc ret al1 post → Rr G 0 (vargs 0 as) [] h) : Ms l y cc nL ret d as h al1 post := by
  intro D dA f sz
  refine Met.ofW (cc := cc) (maxL := nL) (ret := ret) hy rfl ?_
  intro p e s m args below meth c s₁ B hml hv
  obtain ⟨rfl, hsz, hP, hK, hD0, hG, hw, hSF⟩ := hv
  subst hsz
  have hts := atoms_spec (ws := .code y cc nL ret :: lw_g) B.pre
  have hown : s.vm.findClass y.cls = some m.cls := findClass_of_methodNamed B.named
  have hnam : meth.name = y.name := (name_of_methodNamed B.named B.method).1
  have hlocks := B.notSynchronized
  have hl := lv_entry (as.map (rep f)) (n := nL) (by rw [sl_len]; exact hn)
  rw [lg_entry_eq]
  generalize (lg_sl (as.map (rep f)) ++ List.replicate (nL - (lg_sl (as.map (rep f))).length) Slot.unset).toArray = LS at hl ⊢
  have C : Cx (p, l, e, rmD d (al1.length - (xK h).length) (slo al1 - slo (xK h)), s, m, (as.map (rep f)).toArray, below, meth, c, D, dA, va_A (wd dA f h) s.heap.size, f, xK h, MQ below (QcM D dA f s.heap.size h al1 post) (as.map (rep f)).toArray s (al1.length - (xK h).length) (slo al1 - slo (xK h)) (va_A (wd dA f h) s.heap.size), nL) cc nL y.cls :=
    ⟨rfl, B.exec, B.bytes, hml, hown, fun w hw => hts w (List.mem_cons_of_mem _ hw), hlocks, hK, fun q hq => Or.inr hq, hSF⟩
  suffices K : W p l e (rmD d (al1.length - (xK h).length) (slo al1 - slo (xK h))) s m (as.map (rep f)).toArray below meth c s.heap [] ((xK h).length - (xK h).length) (slo (xK h) - slo (xK h)) (MQ below (QcM D dA f s.heap.size h al1 post) (as.map (rep f)).toArray s (al1.length - (xK h).length) (slo al1 - slo (xK h)) (va_A (wd dA f h) s.heap.size)) (F0 m 0 LS []) by
    rw [Nat.sub_self, Nat.sub_self] at K
    exact K
  refine body _ C hnam rfl ⟨rfl, Nat.le_refl _, Nat.le_refl _, Nat.le_refl _, Nat.le_refl _⟩ ⟨?_, ?_, ?_, ?_⟩ f s.heap [] LS (fun _ _ => rfl) List.prefix_rfl hG hP (hD0.self) va_S.rf (by rw [vargs_rep]; exact hl) ?_ (fun q hq => by cases hq)
  · intro pc ls v h' ty hr hnw hdg hal hp f1 H locs LS h1 h2 h3 hP hD hS hl w1 w2
    subst hal
    exact W.zret B.exec B.bytes (B.returns.trans hr) hnw (fun t ht hW => ⟨⟨some (vi v), h', f1, rfl, hp, rfl, h2, h3, h1, by rw [ht]; exact hP, va_K.moved hW.alike hK, hD, fun v hv => by cases hv; trivial⟩, hS.F ht⟩) hS.2.2 hdg
  · intro pc ls v h' hr hdg hal hp f1 H locs LS h1 h2 h3 hP hD hS hl w1 w2
    subst hal
    exact W.lret B.exec B.bytes (B.returns.trans hr) (fun t ht hW => ⟨⟨some (vl v), h', f1, rfl, hp, rfl, h2, h3, h1, by rw [ht]; exact hP, va_K.moved hW.alike hK, hD, fun v hv => by cases hv; trivial⟩, hS.F ht⟩) hS.2.2 hdg
  · intro pc ls h' hr hdg hal hp f1 H locs LS h1 h2 h3 hP hD hS hl w1 w2
    subst hal
    exact W.vret B.exec B.bytes (B.returns.trans hr) (fun t ht hW => ⟨⟨none, h', f1, rfl, hp, rfl, h2, h3, h1, by rw [ht]; exact hP, va_K.moved hW.alike hK, hD, fun v hv => by cases hv⟩, hS.F ht⟩) hS.2.2 hdg
  · intro pc ls k a h' nm hr hdg hal hp f1 H locs LS h1 h2 h3 hP hD hS hl w1 w2
    subst hal
    exact W.aret B.exec B.bytes (B.returns.trans hr) (Or.inl ⟨_, rfl⟩) (Or.inr ⟨_, rfl⟩) (fun t ht hW => ⟨⟨some (vr k a), h', f1, rfl, hp, rfl, h2, h3, h1, by rw [ht]; exact hP, va_K.moved hW.alike hK, hD, fun v hv => by cases hv; exact w_h w2⟩, hS.F ht⟩) hS.2.2 hdg
  · have aux : ∀ (as : List V) (i : Nat), ws9 (xK h) as → wl (xK h) (vargs i as) := by
      intro as
      induction as with
      | nil => intro i _ q hq; cases hq
      | cons v t ih =>
        intro i hw q hq
        rcases List.mem_cons.mp hq with rfl | hq
        · exact hw v List.mem_cons_self
        · exact ih _ (w_t hw) q hq
    exact aux as 0 hw
end
section
/-! PART 32: constructors -/
theorem nw_ne {h : Hp} {k b : Nat} (hb : b ≠ (xK h).length) : xI (nw h k) b = xI h b ∧ xL (nw h k) b = xL h b ∧ xN (nw h k) b = xN h b := ⟨if_neg hb, if_neg hb, if_neg hb⟩
/-- cells below are as they were -/
def Lo (a : Nat) (h h' : Hp) : Prop := ∀ b, b < a → xI h' b = xI h b ∧ xL h' b = xL h b ∧ xN h' b = xN h b
theorem Lo.rf {a : Nat} {h : Hp} : Lo a h h := fun _ _ => ⟨rfl, rfl, rfl⟩
theorem Lo.tr {a : Nat} {h h1 h2 : Hp} (p : Lo a h h1) (q : Lo a h1 h2) : Lo a h h2 := fun b hb => ⟨(q b hb).1.trans (p b hb).1, (q b hb).2.1.trans (p b hb).2.1, (q b hb).2.2.trans (p b hb).2.2⟩
theorem Lo.mono {a c : Nat} {h h1 : Hp} (p : Lo c h h1) (q : a ≤ c) : Lo a h h1 := fun b hb => p b (by omega)
theorem Lo.nw {a k : Nat} {h : Hp} (q : a ≤ (xK h).length) : Lo a h (nw h k) := fun b hb => nw_ne (by omega)
theorem Lo.nwR {a k k2 n : Nat} {h : Hp} (q : a ≤ (xK h).length) : Lo a h (nwR h k k2 n) := fun b hb => nwR_ne (by omega)
theorem Lo.sN {a c j x : Nat} {h : Hp} (q : a ≤ c) : Lo a h (sN h c j x) := fun b hb => oth_sN b (by omega)
theorem Lo.sI {a c j : Nat} {x : Int32} {h : Hp} (q : a ≤ c) : Lo a h (sI h c j x) := fun b hb => oth_sI b (by omega)
theorem Lo.sL {a c j : Nat} {x : Int64} {h : Hp} (q : a ≤ c) : Lo a h (sL h c j x) := fun b hb => oth_sL b (by omega)
theorem NOk.nw {k : Nat} {h : Hp} (q : NOk h) : NOk (nw h k) := fun a k' L j t o k2 ha hL hj ht => by
  show (if a = (xK h).length then (fun _ => 0) else xN h a) j ≤ (xK h ++ [k]).length
  rw [List.length_append]
  by_cases z : a = (xK h).length
  · rw [if_pos z]; exact Nat.zero_le _
  · rw [if_neg z]
    have ha2 : (xK h ++ [k])[a]? = some k' := ha
    have hl := (List.getElem?_eq_some_iff.mp ha2).1
    rw [List.length_append, List.length_singleton] at hl
    rw [List.getElem?_append_left (by omega)] at ha2
    have := q a k' L j t o k2 ha2 hL hj ht
    omega
theorem NOk.nwR {k k9 n : Nat} {h : Hp} (q : NOk h) : NOk (nwR h k k9 n) := fun a k' L j t o k2 ha hL hj ht => by
  show (if (xK h).length ≤ a then (fun _ => 0) else xN h a) j ≤ (xK h ++ (k :: List.replicate n k9)).length
  rw [List.length_append]
  by_cases z : (xK h).length ≤ a
  · rw [if_pos z]; exact Nat.zero_le _
  · rw [if_neg z]
    have ha2 : (xK h ++ (k :: List.replicate n k9))[a]? = some k' := ha
    rw [List.getElem?_append_left (by omega)] at ha2
    have := q a k' L j t o k2 ha2 hL hj ht
    omega
theorem NOk.sI {a j : Nat} {x : Int32} {h : Hp} (q : NOk h) : NOk (sI h a j x) := q
theorem NOk.sL {a j : Nat} {x : Int64} {h : Hp} (q : NOk h) : NOk (sL h a j x) := q
theorem NOk.sN {a j x : Nat} {h : Hp} (q : NOk h) (hx : x ≤ (xK h).length) : NOk (sN h a j x) := fun a' k' L j' t o k2 ha hL hj ht => by
  have g := q a' k' L j' t o k2 ha hL hj ht
  show (if a' = a then (fun i => if i = j then x else xN h a i) else xN h a') j' ≤ (xK h).length
  by_cases z : a' = a
  · subst z
    rw [if_pos rfl]
    show (if j' = j then x else xN h a' j') ≤ _
    split
    · exact hx
    · exact g
  · rw [if_neg z]; exact g
theorem NOk.mk8 {a k : Nat} {h : Hp} (q : NOk h) (hk : k < 8) (ha : (xK h)[a]? = some (k + 8)) : NOk (rt h a k) := fun a' k' L' j' t o k2 ha' hL hj ht => by
  show xN h a' j' ≤ ((xK h).set a k).length
  rw [List.length_set]
  by_cases z : a' = a
  · subst z
    have hl := (List.getElem?_eq_some_iff.mp ha).1
    have e : ((xK h).set a' k)[a']? = some k := List.getElem?_set_self hl
    have e2 : ((xK h).set a' k)[a']? = some k' := ha'
    rw [e] at e2; cases e2
    have hL8 : fkL[k + 8]? = some (L'.map (fun d => if d.1 = 2 then (3, 0, d.2.2) else d)) := by rw [fk8 hk, hL]; rfl
    refine q a' (k + 8) _ j' t o k2 ha hL8 ?_ ht
    rw [List.getElem?_map, hj]
    show some (if t = 2 then _ else _) = _
    rw [if_neg (by omega)]
  · have e2 : ((xK h).set a k)[a']? = some k' := ha'
    rw [List.getElem?_set_ne (Ne.symm z)] at e2
    exact q a' k' L' j' t o k2 e2 hL hj ht
theorem oa2 {a i c : Nat} (h : i ≠ c) : a + i ≠ a + c := by omega
theorem oa3 {a c : Nat} (h : 0 < c) : a ≠ a + c := by omega
theorem oa4 {a c T : Nat} (hb : a + T < 900) (h : c ≤ T + 100) : a + c < 1000 := by omega
theorem oa5 {a c n T : Nat} (hb : a + T < 900) (h : c + n + 1 ≤ T + 100) : a + c + n + 1 ≤ 1000 := by omega
theorem oa6 {a i c : Nat} (h : i + 1 ≤ c) : a + i + 1 ≤ a + c := by omega
theorem oa7 {a i : Nat} (h : 0 < i) : a + i ≠ a := by omega
theorem oa8 {a c : Nat} (h : 0 < c) : a < a + c := by omega
theorem sN_ne {h : Hp} {a j i x : Nat} (hi : i ≠ j) : xN (sN h a j x) a i = xN h a i := by simp [sN, xN, hi]
theorem sN_at {h : Hp} {a j x : Nat} : xN (sN h a j x) a j = x := by simp [sN, xN]
theorem c7 {P : Nat → Prop} (h0 : P 0) (h1 : P 1) (h2 : P 2) (h3 : P 3) (h4 : P 4) (h5 : P 5) (h6 : P 6) : ∀ c, c < 7 → P c := fun c hc => by
  match c, hc with
  | 0, _ => exact h0
  | 1, _ => exact h1
  | 2, _ => exact h2
  | 3, _ => exact h3
  | 4, _ => exact h4
  | 5, _ => exact h5
  | 6, _ => exact h6
  | n + 7, hc => exact absurd hc (by omega)
theorem set_app {p l : List Nat} {a i k : Nat} (e : a = p.length + i) : (p ++ l).set a k = p ++ l.set i k := by
  subst e; rw [List.set_append_right _ _ (Nat.le_add_right _ _), Nat.add_sub_cancel_left]

theorem q_ac_int : Cond.arrayClass (newarray.typeOf .int) ∈ lw_g := tb_1 108 rfl rfl
theorem q_ac_long : Cond.arrayClass (newarray.typeOf .long) ∈ lw_g := tb_1 126 rfl rfl
theorem q_ac_byte : Cond.arrayClass (newarray.typeOf .byte) ∈ lw_g := tb_1 187 rfl rfl
theorem q_ac_boolean : Cond.arrayClass (newarray.typeOf .boolean) ∈ lw_g := tb_1 109 rfl rfl
theorem q_ao_int : ∀ U, SX U → (Cond.arrayOver (.array .int)).before #[] U = true := fun _ h => h.1
theorem q_ao_long : ∀ U, SX U → (Cond.arrayOver (.array .long)).before #[] U = true := fun _ h => h.2.1
theorem q_ac2_int : Cond.arrayClass .int ∈ lw_g := tb_1 108 rfl rfl
theorem q_ac2_long : Cond.arrayClass .long ∈ lw_g := tb_1 126 rfl rfl
theorem q_oi : Cond.instanceMethod Lib.objectInit ∈ lw_g := tb_1 23 rfl rfl
theorem q_oc : Cond.code Lib.objectInit ⟨#[0xb1]⟩ 1 none ∈ lw_g := tb_1 24 rfl rfl
theorem q_in0 : Cond.instantiable RX0 1 ∈ lw_g := tb_1 128 rfl rfl
theorem q_ii0 : Cond.initialized RX0 ∈ lw_g := tb_1 4 rfl rfl
theorem q_im0 : Cond.instanceMethod yX0_init ∈ lw_g := tb_1 130 rfl rfl
theorem q_co0 : Cond.code yX0_init cX0_init 1 none ∈ lw_g := tb_1 131 rfl rfl
theorem q_pd0 : Par yX0_init 0 := by decide +kernel
theorem q_in1 : Cond.instantiable RX1 6 ∈ lw_g := tb_1 138 rfl rfl
theorem q_ii1 : Cond.initialized RX1 ∈ lw_g := tb_1 5 rfl rfl
theorem q_im1 : Cond.instanceMethod yX1_init ∈ lw_g := tb_1 140 rfl rfl
theorem q_co1 : Cond.code yX1_init cX1_init 1 none ∈ lw_g := tb_1 141 rfl rfl
theorem q_pd1 : Par yX1_init 0 := by decide +kernel
theorem q_in2 : Cond.instantiable RX2 4 ∈ lw_g := tb_1 189 rfl rfl
theorem q_ii2 : Cond.initialized RX2 ∈ lw_g := tb_1 7 rfl rfl
theorem q_im2 : Cond.instanceMethod yX2_init ∈ lw_g := tb_1 191 rfl rfl
theorem q_co2 : Cond.code yX2_init cX2_init 2 none ∈ lw_g := tb_1 192 rfl rfl
theorem q_pd2 : Par yX2_init 0 := by decide +kernel
theorem q_in3 : Cond.instantiable RX3 5 ∈ lw_g := tb_1 166 rfl rfl
theorem q_ii3 : Cond.initialized RX3 ∈ lw_g := tb_1 6 rfl rfl
theorem q_im3 : Cond.instanceMethod yX3_init ∈ lw_g := tb_1 168 rfl rfl
theorem q_co3 : Cond.code yX3_init cX3_init 1 none ∈ lw_g := tb_1 169 rfl rfl
theorem q_pd3 : Par yX3_init 0 := by decide +kernel
theorem q_in4 : Cond.instantiable RX4 3 ∈ lw_g := tb_1 111 rfl rfl
theorem q_ii4 : Cond.initialized RX4 ∈ lw_g := tb_1 3 rfl rfl
theorem q_im4 : Cond.instanceMethod yX4_init ∈ lw_g := tb_1 113 rfl rfl
theorem q_co4 : Cond.code yX4_init cX4_init 3 none ∈ lw_g := tb_1 114 rfl rfl
theorem q_pd4 : Par yX4_init 0 := by decide +kernel
theorem q_in5 : Cond.instantiable RX5 12 ∈ lw_g := tb_1 26 rfl rfl
theorem q_ii5 : Cond.initialized RX5 ∈ lw_g := tb_1 2 rfl rfl
theorem q_im5 : Cond.instanceMethod yX5_init ∈ lw_g := tb_1 28 rfl rfl
theorem q_co5 : Cond.code yX5_init cX5_init 1 none ∈ lw_g := tb_1 29 rfl rfl
theorem q_pd5 : Par yX5_init 0 := by decide +kernel
theorem q_in6 : Cond.instantiable RX6 12 ∈ lw_g := tb_1 18 rfl rfl
theorem q_ii6 : Cond.initialized RX6 ∈ lw_g := tb_1 1 rfl rfl
theorem q_im6 : Cond.instanceMethod yX6_init ∈ lw_g := tb_1 20 rfl rfl
theorem q_co6 : Cond.code yX6_init cX6_init 1 none ∈ lw_g := tb_1 21 rfl rfl
theorem q_pd6 : Par yX6_init 0 := by decide +kernel
theorem q_in7 : Cond.instantiable RX7 32 ∈ lw_g := tb_5 5 rfl rfl
theorem q_ii7 : Cond.initialized RX7 ∈ lw_g := tb_1 8 rfl rfl
theorem q_im7 : Cond.instanceMethod yX7_init ∈ lw_g := tb_5 7 rfl rfl
theorem q_co7 : Cond.code yX7_init cX7_init 1 none ∈ lw_g := tb_5 8 rfl rfl
theorem q_pd7 : Par yX7_init 0 := by decide +kernel
theorem cl_RX6_7 : Cond.classLink RX6 7 "OnlyWhatFits$Village" ∈ lw_g := tb_1 25 rfl rfl
theorem cl_RX6_26 : Cond.classLink RX6 26 "OnlyWhatFits$Teams" ∈ lw_g := tb_1 110 rfl rfl
theorem cl_RX6_33 : Cond.classLink RX6 33 "OnlyWhatFits$Rules" ∈ lw_g := tb_1 127 rfl rfl
theorem cl_RX6_40 : Cond.classLink RX6 40 "OnlyWhatFits$Search" ∈ lw_g := tb_1 137 rfl rfl
theorem cl_RX1_21 : Cond.classLink RX1 21 "[[I" ∈ lw_g := tb_1 143 rfl rfl
theorem cl_RX6_47 : Cond.classLink RX6 47 "OnlyWhatFits$Tape" ∈ lw_g := tb_1 165 rfl rfl
theorem cl_RX6_54 : Cond.classLink RX6 54 "OnlyWhatFits$Shelves" ∈ lw_g := tb_1 188 rfl rfl
theorem cl_RX2_18 : Cond.classLink RX2 18 "[[J" ∈ lw_g := tb_1 194 rfl rfl
theorem cl_RX7_19 : Cond.classLink RX7 19 "[[J" ∈ lw_g := tb_5 10 rfl rfl
theorem cl_RX7_52 : Cond.classLink RX7 52 "[[I" ∈ lw_g := tb_5 11 rfl rfl
theorem cl_RX7_8 : Cond.classLink RX7 8 "OnlyWhatFitsModel" ∈ lw_g := tb_5 163 rfl rfl
def v00 : Vg := (0, 0, 0, fun _ _ => 0, 1)
def g00 : Sg := (fun _ => -1, fun _ => 0, fun _ => 0, fun _ _ => 0)
set_option maxHeartbeats 4000000 in
theorem c_X0_init {l : Launch} {h : Hp} {a : Nat} (hlen : (xK h).length = a + 1) (hb : a + 3 < 900) (hN : NOk h) (hz1 : xI h a = fun _ => 0) (hz2 : xL h a = fun _ => 0) (hz3 : xN h a = fun _ => 0) : Ms l yX0_init cX0_init 1 none 2 [vr 8 a] h (xK h ++ [22]) (fun r h' => r = none ∧ NOk h' ∧ Lo a h h' ∧ xN h' a 0 = a + 1 + 1) := by
  refine Ms.of2 (by decide) (Nat.le_of_ble_eq_true rfl) (fun G C NM E0 X F => ?_)
  have C : Cx G cX0_init 1 RX0 := C
  have hI : CI G := NM
  show Rr G 0 [(0, vr 8 a)] [] h
  have K0 : xK h = xK h ++ [] := (List.append_nil _).symm
  have L0 : Lo a h h := Lo.rf
  have len_h : (xK h).length = a + 1 := hlen
  refine r_aload_n C (dx dX0_init 0 rfl) rfl ?_
  refine r_obj C X (by decide) l_X0_3 q_oi q_oc (dx dX0_init 1 rfl) ?_
  refine r_aload_n C (dx dX0_init 2 rfl) rfl ?_
  refine r_bipush (v := nI 8) C (dx dX0_init 3 rfl) rfl ?_
  refine r_newa (kk := 22) (t := 0) (n := 8) (ty := .int) (S := "[" ++ (.int : FieldType).toString) (a0 := (8, .inl (fun _ => 0))) C X rfl rfl (by decide) ⟨[], by simp⟩ hN (by rw [len_h]; exact oa4 hb (by decide)) rfl q_ac_int (fun _ => rfl) (fun _ _ q => q) (fun _ => rfl) (fun dA f h9 a9 e1 e2 => by rw [ent_arr (q := (0, 8, 0)) rfl rfl]; simp [entA, e1, e2]) (by decide) (by decide) (dx dX0_init 4 rfl) ?_
  rw [len_h]
  have NO_h1 : NOk (nw h 22) := hN.nw
  have LO_h1 : Lo a h (nw h 22) := L0.tr (Lo.nw (by rw [len_h]; exact Nat.le_add_right _ _))
  have Z1_h1 : xI (nw h 22) (a + 1) = fun _ => 0 := by have q9 := nw_I (h := h) (k := 22); rw [len_h] at q9; exact q9
  have K_h1 : xK (nw h 22) = xK h ++ [22] := rfl
  generalize nw h 22 = h1 at NO_h1 LO_h1 Z1_h1 K_h1 ⊢
  have len_h1 : (xK h1).length = a + 2 := by rw [K_h1, List.length_append, hlen]; rfl
  refine r_putNF (k := 8) (j := 0) (t := 0) C hI rfl rfl rfl (by decide) f_X0_9 rfl rfl (fun _ => rfl) (fun _ => rfl) (dx dX0_init 5 rfl) ?_
  have NO_h2 : NOk (sN h1 a 0 (a + 1 + 1)) := NO_h1.sN (by rw [len_h1]; exact oa6 (by decide))
  have LO_h2 : Lo a h (sN h1 a 0 (a + 1 + 1)) := LO_h1.tr (Lo.sN (Nat.le_refl _))
  have Z1_h2 : xI (sN h1 a 0 (a + 1 + 1)) (a + 1) = fun _ => 0 := Z1_h1
  have K_h2 : xK (sN h1 a 0 (a + 1 + 1)) = xK h ++ [22] := K_h1
  have N0_h2 : xN (sN h1 a 0 (a + 1 + 1)) a 0 = a + 1 + 1 := sN_at
  generalize sN h1 a 0 (a + 1 + 1) = h2 at NO_h2 LO_h2 Z1_h2 K_h2 N0_h2 ⊢
  have len_h2 : (xK h2).length = a + 2 := by rw [K_h2, List.length_append, hlen]; rfl
  exact F.2.2.1 _ _ _ rfl (dx dX0_init 6 rfl) K_h2 ⟨rfl, NO_h2, LO_h2, N0_h2⟩
set_option maxHeartbeats 4000000 in
theorem c_X1_init {l : Launch} {h : Hp} {a : Nat} (hlen : (xK h).length = a + 1) (hb : a + 14 < 900) (hN : NOk h) (hz1 : xI h a = fun _ => 0) (hz2 : xL h a = fun _ => 0) (hz3 : xN h a = fun _ => 0) : Ms l yX1_init cX1_init 1 none 2 [vr 9 a] h (xK h ++ [21, 21, 27, 32, 21, 21, 21, 21, 21, 21, 21, 28]) (fun r h' => r = none ∧ NOk h' ∧ Lo a h h' ∧ xN h' a 0 = a + 1 + 1 ∧ xN h' a 1 = a + 2 + 1 ∧ xN h' a 2 = a + 3 + 1 ∧ xN h' a 3 = a + 4 + 1 ∧ xN h' a 4 = a + 12 + 1 ∧ SInv h' a) := by
  refine Ms.of2 (by decide) (Nat.le_of_ble_eq_true rfl) (fun G C NM E0 X F => ?_)
  have C : Cx G cX1_init 1 RX1 := C
  have hI : CI G := NM
  show Rr G 0 [(0, vr 9 a)] [] h
  have K0 : xK h = xK h ++ [] := (List.append_nil _).symm
  have L0 : Lo a h h := Lo.rf
  have len_h : (xK h).length = a + 1 := hlen
  refine r_aload_n C (dx dX1_init 0 rfl) rfl ?_
  refine r_obj C X (by decide) l_X1_3 q_oi q_oc (dx dX1_init 1 rfl) ?_
  refine r_aload_n C (dx dX1_init 2 rfl) rfl ?_
  refine r_bipush (v := nI 6) C (dx dX1_init 3 rfl) rfl ?_
  refine r_newa (kk := 21) (t := 0) (n := 6) (ty := .int) (S := "[" ++ (.int : FieldType).toString) (a0 := (6, .inl (fun _ => 0))) C X rfl rfl (by decide) ⟨[21, 27, 32, 21, 21, 21, 21, 21, 21, 21, 28], by simp⟩ hN (by rw [len_h]; exact oa4 hb (by decide)) rfl q_ac_int (fun _ => rfl) (fun _ _ q => q) (fun _ => rfl) (fun dA f h9 a9 e1 e2 => by rw [ent_arr (q := (0, 6, 0)) rfl rfl]; simp [entA, e1, e2]) (by decide) (by decide) (dx dX1_init 4 rfl) ?_
  rw [len_h]
  have NO_h1 : NOk (nw h 21) := hN.nw
  have LO_h1 : Lo a h (nw h 21) := L0.tr (Lo.nw (by rw [len_h]; exact Nat.le_add_right _ _))
  have Z1_h1 : xI (nw h 21) (a + 1) = fun _ => 0 := by have q9 := nw_I (h := h) (k := 21); rw [len_h] at q9; exact q9
  have K_h1 : xK (nw h 21) = xK h ++ [21] := rfl
  generalize nw h 21 = h1 at NO_h1 LO_h1 Z1_h1 K_h1 ⊢
  have len_h1 : (xK h1).length = a + 2 := by rw [K_h1, List.length_append, hlen]; rfl
  refine r_putNF (k := 9) (j := 0) (t := 0) C hI rfl rfl rfl (by decide) f_X1_9 rfl rfl (fun _ => rfl) (fun _ => rfl) (dx dX1_init 5 rfl) ?_
  have NO_h2 : NOk (sN h1 a 0 (a + 1 + 1)) := NO_h1.sN (by rw [len_h1]; exact oa6 (by decide))
  have LO_h2 : Lo a h (sN h1 a 0 (a + 1 + 1)) := LO_h1.tr (Lo.sN (Nat.le_refl _))
  have Z1_h2 : xI (sN h1 a 0 (a + 1 + 1)) (a + 1) = fun _ => 0 := Z1_h1
  have K_h2 : xK (sN h1 a 0 (a + 1 + 1)) = xK h ++ [21] := K_h1
  have N0_h2 : xN (sN h1 a 0 (a + 1 + 1)) a 0 = a + 1 + 1 := sN_at
  generalize sN h1 a 0 (a + 1 + 1) = h2 at NO_h2 LO_h2 Z1_h2 K_h2 N0_h2 ⊢
  have len_h2 : (xK h2).length = a + 2 := by rw [K_h2, List.length_append, hlen]; rfl
  refine r_aload_n C (dx dX1_init 6 rfl) rfl ?_
  refine r_bipush (v := nI 6) C (dx dX1_init 7 rfl) rfl ?_
  refine r_newa (kk := 21) (t := 0) (n := 6) (ty := .int) (S := "[" ++ (.int : FieldType).toString) (a0 := (6, .inl (fun _ => 0))) C X rfl rfl (by decide) (by rw [K_h2]; exact ⟨[27, 32, 21, 21, 21, 21, 21, 21, 21, 28], by rw [List.append_assoc, List.append_assoc]; rfl⟩) NO_h2 (by rw [len_h2]; exact oa4 hb (by decide)) rfl q_ac_int (fun _ => rfl) (fun _ _ q => q) (fun _ => rfl) (fun dA f h9 a9 e1 e2 => by rw [ent_arr (q := (0, 6, 0)) rfl rfl]; simp [entA, e1, e2]) (by decide) (by decide) (dx dX1_init 8 rfl) ?_
  rw [len_h2]
  have NO_h3 : NOk (nw h2 21) := NO_h2.nw
  have LO_h3 : Lo a h (nw h2 21) := LO_h2.tr (Lo.nw (by rw [len_h2]; exact Nat.le_add_right _ _))
  have Z1_h3 : xI (nw h2 21) (a + 1) = fun _ => 0 := by rw [(nw_ne (h := h2) (k := 21) (b := a + 1) (by rw [len_h2]; exact oa2 (by decide))).1]; exact Z1_h2
  have N0_h3 : xN (nw h2 21) a 0 = a + 1 + 1 := by rw [(nw_ne (h := h2) (k := 21) (b := a) (by rw [len_h2]; exact oa3 (by decide))).2.2]; exact N0_h2
  have Z2_h3 : xI (nw h2 21) (a + 2) = fun _ => 0 := by have q9 := nw_I (h := h2) (k := 21); rw [len_h2] at q9; exact q9
  have K_h3 : xK (nw h2 21) = xK h ++ [21, 21] := by show xK h2 ++ _ = _; rw [K_h2, List.append_assoc]; rfl
  generalize nw h2 21 = h3 at NO_h3 LO_h3 Z1_h3 N0_h3 Z2_h3 K_h3 ⊢
  have len_h3 : (xK h3).length = a + 3 := by rw [K_h3, List.length_append, hlen]; rfl
  refine r_putNF (k := 9) (j := 1) (t := 0) C hI rfl rfl rfl (by decide) f_X1_15 rfl rfl (fun _ => rfl) (fun _ => rfl) (dx dX1_init 9 rfl) ?_
  have NO_h4 : NOk (sN h3 a 1 (a + 2 + 1)) := NO_h3.sN (by rw [len_h3]; exact oa6 (by decide))
  have LO_h4 : Lo a h (sN h3 a 1 (a + 2 + 1)) := LO_h3.tr (Lo.sN (Nat.le_refl _))
  have Z1_h4 : xI (sN h3 a 1 (a + 2 + 1)) (a + 1) = fun _ => 0 := Z1_h3
  have N0_h4 : xN (sN h3 a 1 (a + 2 + 1)) a 0 = a + 1 + 1 := (sN_ne (by decide)).trans N0_h3
  have Z2_h4 : xI (sN h3 a 1 (a + 2 + 1)) (a + 2) = fun _ => 0 := Z2_h3
  have K_h4 : xK (sN h3 a 1 (a + 2 + 1)) = xK h ++ [21, 21] := K_h3
  have N1_h4 : xN (sN h3 a 1 (a + 2 + 1)) a 1 = a + 2 + 1 := sN_at
  generalize sN h3 a 1 (a + 2 + 1) = h4 at NO_h4 LO_h4 Z1_h4 N0_h4 Z2_h4 K_h4 N1_h4 ⊢
  have len_h4 : (xK h4).length = a + 3 := by rw [K_h4, List.length_append, hlen]; rfl
  refine r_aload_n C (dx dX1_init 10 rfl) rfl ?_
  refine r_iconst (v := nI 4) C (dx dX1_init 11 rfl) rfl ?_
  refine r_newa (kk := 27) (t := 0) (n := 4) (ty := .int) (S := "[" ++ (.int : FieldType).toString) (a0 := (4, .inl (fun _ => 0))) C X rfl rfl (by decide) (by rw [K_h4]; exact ⟨[32, 21, 21, 21, 21, 21, 21, 21, 28], by rw [List.append_assoc, List.append_assoc]; rfl⟩) NO_h4 (by rw [len_h4]; exact oa4 hb (by decide)) rfl q_ac_int (fun _ => rfl) (fun _ _ q => q) (fun _ => rfl) (fun dA f h9 a9 e1 e2 => by rw [ent_arr (q := (0, 4, 0)) rfl rfl]; simp [entA, e1, e2]) (by decide) (by decide) (dx dX1_init 12 rfl) ?_
  rw [len_h4]
  have NO_h5 : NOk (nw h4 27) := NO_h4.nw
  have LO_h5 : Lo a h (nw h4 27) := LO_h4.tr (Lo.nw (by rw [len_h4]; exact Nat.le_add_right _ _))
  have Z1_h5 : xI (nw h4 27) (a + 1) = fun _ => 0 := by rw [(nw_ne (h := h4) (k := 27) (b := a + 1) (by rw [len_h4]; exact oa2 (by decide))).1]; exact Z1_h4
  have N0_h5 : xN (nw h4 27) a 0 = a + 1 + 1 := by rw [(nw_ne (h := h4) (k := 27) (b := a) (by rw [len_h4]; exact oa3 (by decide))).2.2]; exact N0_h4
  have Z2_h5 : xI (nw h4 27) (a + 2) = fun _ => 0 := by rw [(nw_ne (h := h4) (k := 27) (b := a + 2) (by rw [len_h4]; exact oa2 (by decide))).1]; exact Z2_h4
  have N1_h5 : xN (nw h4 27) a 1 = a + 2 + 1 := by rw [(nw_ne (h := h4) (k := 27) (b := a) (by rw [len_h4]; exact oa3 (by decide))).2.2]; exact N1_h4
  have Z3_h5 : xI (nw h4 27) (a + 3) = fun _ => 0 := by have q9 := nw_I (h := h4) (k := 27); rw [len_h4] at q9; exact q9
  have K_h5 : xK (nw h4 27) = xK h ++ [21, 21, 27] := by show xK h4 ++ _ = _; rw [K_h4, List.append_assoc]; rfl
  generalize nw h4 27 = h5 at NO_h5 LO_h5 Z1_h5 N0_h5 Z2_h5 N1_h5 Z3_h5 K_h5 ⊢
  have len_h5 : (xK h5).length = a + 4 := by rw [K_h5, List.length_append, hlen]; rfl
  refine r_putNF (k := 9) (j := 2) (t := 0) C hI rfl rfl rfl (by decide) f_X1_18 rfl rfl (fun _ => rfl) (fun _ => rfl) (dx dX1_init 13 rfl) ?_
  have NO_h6 : NOk (sN h5 a 2 (a + 3 + 1)) := NO_h5.sN (by rw [len_h5]; exact oa6 (by decide))
  have LO_h6 : Lo a h (sN h5 a 2 (a + 3 + 1)) := LO_h5.tr (Lo.sN (Nat.le_refl _))
  have Z1_h6 : xI (sN h5 a 2 (a + 3 + 1)) (a + 1) = fun _ => 0 := Z1_h5
  have N0_h6 : xN (sN h5 a 2 (a + 3 + 1)) a 0 = a + 1 + 1 := (sN_ne (by decide)).trans N0_h5
  have Z2_h6 : xI (sN h5 a 2 (a + 3 + 1)) (a + 2) = fun _ => 0 := Z2_h5
  have N1_h6 : xN (sN h5 a 2 (a + 3 + 1)) a 1 = a + 2 + 1 := (sN_ne (by decide)).trans N1_h5
  have Z3_h6 : xI (sN h5 a 2 (a + 3 + 1)) (a + 3) = fun _ => 0 := Z3_h5
  have K_h6 : xK (sN h5 a 2 (a + 3 + 1)) = xK h ++ [21, 21, 27] := K_h5
  have N2_h6 : xN (sN h5 a 2 (a + 3 + 1)) a 2 = a + 3 + 1 := sN_at
  generalize sN h5 a 2 (a + 3 + 1) = h6 at NO_h6 LO_h6 Z1_h6 N0_h6 Z2_h6 N1_h6 Z3_h6 K_h6 N2_h6 ⊢
  have len_h6 : (xK h6).length = a + 4 := by rw [K_h6, List.length_append, hlen]; rfl
  refine r_aload_n C (dx dX1_init 14 rfl) rfl ?_
  refine r_bipush (v := nI 7) C (dx dX1_init 15 rfl) rfl ?_
  refine r_bipush (v := nI 6) C (dx dX1_init 16 rfl) rfl ?_
  refine r_mna (S2 := "") (ko := 32) (ki := 21) (n := 7) (m9 := 6) (to := 4) (ti := 0) (ty := .int) (z := (6, .inl (fun _ => 0))) C X rfl rfl rfl rfl (by decide) (fun dA f h9 a9 => by rw [ent_arr (q := (4, 7, 21)) rfl rfl]; rfl) (by rw [K_h6]; exact ⟨[28], by rw [List.append_assoc, List.append_assoc]; rfl⟩) NO_h6 (by rw [len_h6]; exact oa5 (a := a) (c := 4) (n := 7) hb (by decide)) cl_RX1_21 q_ao_int q_ac2_int rfl (fun _ => rfl) (fun _ => rfl) (fun _ _ q => q) (fun _ _ q => q) (by decide) (by decide) (by decide) rfl rfl (fun c => by first | rfl | (show _ = arrV _ _ _; rw [← arrV_new]; rfl)) (fun dA f h9 a9 e1 e2 => by rw [ent_arr (q := (0, 6, 0)) rfl rfl]; simp [entA, e1, e2]) (by decide) (by decide) (dx dX1_init 17 rfl) ?_
  rw [len_h6]
  have NO_h7 : NOk (nwR h6 32 21 7) := NO_h6.nwR
  have LO_h7 : Lo a h (nwR h6 32 21 7) := LO_h6.tr (Lo.nwR (by rw [len_h6]; exact Nat.le_add_right _ _))
  have Z1_h7 : xI (nwR h6 32 21 7) (a + 1) = fun _ => 0 := by rw [(nwR_ne (h := h6) (k := 32) (k2 := 21) (n := 7) (a := a + 1) (by rw [len_h6]; exact Nat.add_lt_add_left (by decide) a)).1]; exact Z1_h6
  have N0_h7 : xN (nwR h6 32 21 7) a 0 = a + 1 + 1 := by rw [(nwR_ne (h := h6) (k := 32) (k2 := 21) (n := 7) (a := a) (by rw [len_h6]; exact oa8 (by decide))).2.2]; exact N0_h6
  have Z2_h7 : xI (nwR h6 32 21 7) (a + 2) = fun _ => 0 := by rw [(nwR_ne (h := h6) (k := 32) (k2 := 21) (n := 7) (a := a + 2) (by rw [len_h6]; exact Nat.add_lt_add_left (by decide) a)).1]; exact Z2_h6
  have N1_h7 : xN (nwR h6 32 21 7) a 1 = a + 2 + 1 := by rw [(nwR_ne (h := h6) (k := 32) (k2 := 21) (n := 7) (a := a) (by rw [len_h6]; exact oa8 (by decide))).2.2]; exact N1_h6
  have Z3_h7 : xI (nwR h6 32 21 7) (a + 3) = fun _ => 0 := by rw [(nwR_ne (h := h6) (k := 32) (k2 := 21) (n := 7) (a := a + 3) (by rw [len_h6]; exact Nat.add_lt_add_left (by decide) a)).1]; exact Z3_h6
  have N2_h7 : xN (nwR h6 32 21 7) a 2 = a + 3 + 1 := by rw [(nwR_ne (h := h6) (k := 32) (k2 := 21) (n := 7) (a := a) (by rw [len_h6]; exact oa8 (by decide))).2.2]; exact N2_h6
  have Z5_h7 : xI (nwR h6 32 21 7) (a + 5) = fun _ => 0 := (nwR_at (by rw [len_h6]; exact Nat.add_le_add_left (by decide) a)).1
  have Z6_h7 : xI (nwR h6 32 21 7) (a + 6) = fun _ => 0 := (nwR_at (by rw [len_h6]; exact Nat.add_le_add_left (by decide) a)).1
  have Z7_h7 : xI (nwR h6 32 21 7) (a + 7) = fun _ => 0 := (nwR_at (by rw [len_h6]; exact Nat.add_le_add_left (by decide) a)).1
  have Z8_h7 : xI (nwR h6 32 21 7) (a + 8) = fun _ => 0 := (nwR_at (by rw [len_h6]; exact Nat.add_le_add_left (by decide) a)).1
  have Z9_h7 : xI (nwR h6 32 21 7) (a + 9) = fun _ => 0 := (nwR_at (by rw [len_h6]; exact Nat.add_le_add_left (by decide) a)).1
  have Z10_h7 : xI (nwR h6 32 21 7) (a + 10) = fun _ => 0 := (nwR_at (by rw [len_h6]; exact Nat.add_le_add_left (by decide) a)).1
  have Z11_h7 : xI (nwR h6 32 21 7) (a + 11) = fun _ => 0 := (nwR_at (by rw [len_h6]; exact Nat.add_le_add_left (by decide) a)).1
  have K_h7 : xK (nwR h6 32 21 7) = xK h ++ [21, 21, 27, 32, 21, 21, 21, 21, 21, 21, 21] := by show xK h6 ++ _ = _; rw [K_h6, List.append_assoc]; rfl
  generalize nwR h6 32 21 7 = h7 at NO_h7 LO_h7 Z1_h7 N0_h7 Z2_h7 N1_h7 Z3_h7 N2_h7 Z5_h7 Z6_h7 Z7_h7 Z8_h7 Z9_h7 Z10_h7 Z11_h7 K_h7 ⊢
  have len_h7 : (xK h7).length = a + 12 := by rw [K_h7, List.length_append, hlen]; rfl
  refine r_putNF (k := 9) (j := 3) (t := 0) C hI rfl rfl rfl (by decide) f_X1_23 rfl rfl (fun _ => rfl) (fun _ => rfl) (dx dX1_init 18 rfl) ?_
  have NO_h8 : NOk (sN h7 a 3 (a + 4 + 1)) := NO_h7.sN (by rw [len_h7]; exact oa6 (by decide))
  have LO_h8 : Lo a h (sN h7 a 3 (a + 4 + 1)) := LO_h7.tr (Lo.sN (Nat.le_refl _))
  have Z1_h8 : xI (sN h7 a 3 (a + 4 + 1)) (a + 1) = fun _ => 0 := Z1_h7
  have N0_h8 : xN (sN h7 a 3 (a + 4 + 1)) a 0 = a + 1 + 1 := (sN_ne (by decide)).trans N0_h7
  have Z2_h8 : xI (sN h7 a 3 (a + 4 + 1)) (a + 2) = fun _ => 0 := Z2_h7
  have N1_h8 : xN (sN h7 a 3 (a + 4 + 1)) a 1 = a + 2 + 1 := (sN_ne (by decide)).trans N1_h7
  have Z3_h8 : xI (sN h7 a 3 (a + 4 + 1)) (a + 3) = fun _ => 0 := Z3_h7
  have N2_h8 : xN (sN h7 a 3 (a + 4 + 1)) a 2 = a + 3 + 1 := (sN_ne (by decide)).trans N2_h7
  have Z5_h8 : xI (sN h7 a 3 (a + 4 + 1)) (a + 5) = fun _ => 0 := Z5_h7
  have Z6_h8 : xI (sN h7 a 3 (a + 4 + 1)) (a + 6) = fun _ => 0 := Z6_h7
  have Z7_h8 : xI (sN h7 a 3 (a + 4 + 1)) (a + 7) = fun _ => 0 := Z7_h7
  have Z8_h8 : xI (sN h7 a 3 (a + 4 + 1)) (a + 8) = fun _ => 0 := Z8_h7
  have Z9_h8 : xI (sN h7 a 3 (a + 4 + 1)) (a + 9) = fun _ => 0 := Z9_h7
  have Z10_h8 : xI (sN h7 a 3 (a + 4 + 1)) (a + 10) = fun _ => 0 := Z10_h7
  have Z11_h8 : xI (sN h7 a 3 (a + 4 + 1)) (a + 11) = fun _ => 0 := Z11_h7
  have K_h8 : xK (sN h7 a 3 (a + 4 + 1)) = xK h ++ [21, 21, 27, 32, 21, 21, 21, 21, 21, 21, 21] := K_h7
  have N3_h8 : xN (sN h7 a 3 (a + 4 + 1)) a 3 = a + 4 + 1 := sN_at
  generalize sN h7 a 3 (a + 4 + 1) = h8 at NO_h8 LO_h8 Z1_h8 N0_h8 Z2_h8 N1_h8 Z3_h8 N2_h8 Z5_h8 Z6_h8 Z7_h8 Z8_h8 Z9_h8 Z10_h8 Z11_h8 K_h8 N3_h8 ⊢
  have len_h8 : (xK h8).length = a + 12 := by rw [K_h8, List.length_append, hlen]; rfl
  refine r_aload_n C (dx dX1_init 19 rfl) rfl ?_
  refine r_bipush (v := nI 32) C (dx dX1_init 20 rfl) rfl ?_
  refine r_newa (kk := 28) (t := 1) (n := 32) (ty := .long) (S := "[" ++ (.long : FieldType).toString) (a0 := (32, .inr (.inl (fun _ => 0)))) C X rfl rfl (by decide) (by rw [K_h8]; exact ⟨[], by rw [List.append_assoc, List.append_assoc]; rfl⟩) NO_h8 (by rw [len_h8]; exact oa4 hb (by decide)) rfl q_ac_long (fun _ => rfl) (fun _ _ q => q) (fun _ => rfl) (fun dA f h9 a9 e1 e2 => by rw [ent_arr (q := (1, 32, 0)) rfl rfl]; simp [entA, e1, e2]) (by decide) (by decide) (dx dX1_init 21 rfl) ?_
  rw [len_h8]
  have NO_h9 : NOk (nw h8 28) := NO_h8.nw
  have LO_h9 : Lo a h (nw h8 28) := LO_h8.tr (Lo.nw (by rw [len_h8]; exact Nat.le_add_right _ _))
  have Z1_h9 : xI (nw h8 28) (a + 1) = fun _ => 0 := by rw [(nw_ne (h := h8) (k := 28) (b := a + 1) (by rw [len_h8]; exact oa2 (by decide))).1]; exact Z1_h8
  have N0_h9 : xN (nw h8 28) a 0 = a + 1 + 1 := by rw [(nw_ne (h := h8) (k := 28) (b := a) (by rw [len_h8]; exact oa3 (by decide))).2.2]; exact N0_h8
  have Z2_h9 : xI (nw h8 28) (a + 2) = fun _ => 0 := by rw [(nw_ne (h := h8) (k := 28) (b := a + 2) (by rw [len_h8]; exact oa2 (by decide))).1]; exact Z2_h8
  have N1_h9 : xN (nw h8 28) a 1 = a + 2 + 1 := by rw [(nw_ne (h := h8) (k := 28) (b := a) (by rw [len_h8]; exact oa3 (by decide))).2.2]; exact N1_h8
  have Z3_h9 : xI (nw h8 28) (a + 3) = fun _ => 0 := by rw [(nw_ne (h := h8) (k := 28) (b := a + 3) (by rw [len_h8]; exact oa2 (by decide))).1]; exact Z3_h8
  have N2_h9 : xN (nw h8 28) a 2 = a + 3 + 1 := by rw [(nw_ne (h := h8) (k := 28) (b := a) (by rw [len_h8]; exact oa3 (by decide))).2.2]; exact N2_h8
  have Z5_h9 : xI (nw h8 28) (a + 5) = fun _ => 0 := by rw [(nw_ne (h := h8) (k := 28) (b := a + 5) (by rw [len_h8]; exact oa2 (by decide))).1]; exact Z5_h8
  have Z6_h9 : xI (nw h8 28) (a + 6) = fun _ => 0 := by rw [(nw_ne (h := h8) (k := 28) (b := a + 6) (by rw [len_h8]; exact oa2 (by decide))).1]; exact Z6_h8
  have Z7_h9 : xI (nw h8 28) (a + 7) = fun _ => 0 := by rw [(nw_ne (h := h8) (k := 28) (b := a + 7) (by rw [len_h8]; exact oa2 (by decide))).1]; exact Z7_h8
  have Z8_h9 : xI (nw h8 28) (a + 8) = fun _ => 0 := by rw [(nw_ne (h := h8) (k := 28) (b := a + 8) (by rw [len_h8]; exact oa2 (by decide))).1]; exact Z8_h8
  have Z9_h9 : xI (nw h8 28) (a + 9) = fun _ => 0 := by rw [(nw_ne (h := h8) (k := 28) (b := a + 9) (by rw [len_h8]; exact oa2 (by decide))).1]; exact Z9_h8
  have Z10_h9 : xI (nw h8 28) (a + 10) = fun _ => 0 := by rw [(nw_ne (h := h8) (k := 28) (b := a + 10) (by rw [len_h8]; exact oa2 (by decide))).1]; exact Z10_h8
  have Z11_h9 : xI (nw h8 28) (a + 11) = fun _ => 0 := by rw [(nw_ne (h := h8) (k := 28) (b := a + 11) (by rw [len_h8]; exact oa2 (by decide))).1]; exact Z11_h8
  have N3_h9 : xN (nw h8 28) a 3 = a + 4 + 1 := by rw [(nw_ne (h := h8) (k := 28) (b := a) (by rw [len_h8]; exact oa3 (by decide))).2.2]; exact N3_h8
  have Z12_h9 : xL (nw h8 28) (a + 12) = fun _ => 0 := by have q9 := nw_L (h := h8) (k := 28); rw [len_h8] at q9; exact q9
  have K_h9 : xK (nw h8 28) = xK h ++ [21, 21, 27, 32, 21, 21, 21, 21, 21, 21, 21, 28] := by show xK h8 ++ _ = _; rw [K_h8, List.append_assoc]; rfl
  generalize nw h8 28 = h9 at NO_h9 LO_h9 Z1_h9 N0_h9 Z2_h9 N1_h9 Z3_h9 N2_h9 Z5_h9 Z6_h9 Z7_h9 Z8_h9 Z9_h9 Z10_h9 Z11_h9 N3_h9 Z12_h9 K_h9 ⊢
  have len_h9 : (xK h9).length = a + 13 := by rw [K_h9, List.length_append, hlen]; rfl
  refine r_putNF (k := 9) (j := 4) (t := 0) C hI rfl rfl rfl (by decide) f_X1_26 rfl rfl (fun _ => rfl) (fun _ => rfl) (dx dX1_init 22 rfl) ?_
  have NO_h10 : NOk (sN h9 a 4 (a + 12 + 1)) := NO_h9.sN (by rw [len_h9]; exact oa6 (by decide))
  have LO_h10 : Lo a h (sN h9 a 4 (a + 12 + 1)) := LO_h9.tr (Lo.sN (Nat.le_refl _))
  have Z1_h10 : xI (sN h9 a 4 (a + 12 + 1)) (a + 1) = fun _ => 0 := Z1_h9
  have N0_h10 : xN (sN h9 a 4 (a + 12 + 1)) a 0 = a + 1 + 1 := (sN_ne (by decide)).trans N0_h9
  have Z2_h10 : xI (sN h9 a 4 (a + 12 + 1)) (a + 2) = fun _ => 0 := Z2_h9
  have N1_h10 : xN (sN h9 a 4 (a + 12 + 1)) a 1 = a + 2 + 1 := (sN_ne (by decide)).trans N1_h9
  have Z3_h10 : xI (sN h9 a 4 (a + 12 + 1)) (a + 3) = fun _ => 0 := Z3_h9
  have N2_h10 : xN (sN h9 a 4 (a + 12 + 1)) a 2 = a + 3 + 1 := (sN_ne (by decide)).trans N2_h9
  have Z5_h10 : xI (sN h9 a 4 (a + 12 + 1)) (a + 5) = fun _ => 0 := Z5_h9
  have Z6_h10 : xI (sN h9 a 4 (a + 12 + 1)) (a + 6) = fun _ => 0 := Z6_h9
  have Z7_h10 : xI (sN h9 a 4 (a + 12 + 1)) (a + 7) = fun _ => 0 := Z7_h9
  have Z8_h10 : xI (sN h9 a 4 (a + 12 + 1)) (a + 8) = fun _ => 0 := Z8_h9
  have Z9_h10 : xI (sN h9 a 4 (a + 12 + 1)) (a + 9) = fun _ => 0 := Z9_h9
  have Z10_h10 : xI (sN h9 a 4 (a + 12 + 1)) (a + 10) = fun _ => 0 := Z10_h9
  have Z11_h10 : xI (sN h9 a 4 (a + 12 + 1)) (a + 11) = fun _ => 0 := Z11_h9
  have N3_h10 : xN (sN h9 a 4 (a + 12 + 1)) a 3 = a + 4 + 1 := (sN_ne (by decide)).trans N3_h9
  have Z12_h10 : xL (sN h9 a 4 (a + 12 + 1)) (a + 12) = fun _ => 0 := Z12_h9
  have K_h10 : xK (sN h9 a 4 (a + 12 + 1)) = xK h ++ [21, 21, 27, 32, 21, 21, 21, 21, 21, 21, 21, 28] := K_h9
  have N4_h10 : xN (sN h9 a 4 (a + 12 + 1)) a 4 = a + 12 + 1 := sN_at
  generalize sN h9 a 4 (a + 12 + 1) = h10 at NO_h10 LO_h10 Z1_h10 N0_h10 Z2_h10 N1_h10 Z3_h10 N2_h10 Z5_h10 Z6_h10 Z7_h10 Z8_h10 Z9_h10 Z10_h10 Z11_h10 N3_h10 Z12_h10 K_h10 N4_h10 ⊢
  have len_h10 : (xK h10).length = a + 13 := by rw [K_h10, List.length_append, hlen]; rfl
  refine r_aload_n C (dx dX1_init 23 rfl) rfl ?_
  refine r_ldc2 C n_X1_30 (dx dX1_init 24 rfl) ?_
  refine r_putL (k := 9) (j := 5) (T := TX1) C rfl rfl rfl (by decide) f_X1_32 rfl rfl rfl (dx dX1_init 25 rfl) ?_
  have NO_h11 : NOk (sL h10 a 5 (-1)) := NO_h10
  have LO_h11 : Lo a h (sL h10 a 5 (-1)) := LO_h10.tr (Lo.sL (Nat.le_refl _))
  have Z1_h11 : xI (sL h10 a 5 (-1)) (a + 1) = fun _ => 0 := Z1_h10
  have N0_h11 : xN (sL h10 a 5 (-1)) a 0 = a + 1 + 1 := N0_h10
  have Z2_h11 : xI (sL h10 a 5 (-1)) (a + 2) = fun _ => 0 := Z2_h10
  have N1_h11 : xN (sL h10 a 5 (-1)) a 1 = a + 2 + 1 := N1_h10
  have Z3_h11 : xI (sL h10 a 5 (-1)) (a + 3) = fun _ => 0 := Z3_h10
  have N2_h11 : xN (sL h10 a 5 (-1)) a 2 = a + 3 + 1 := N2_h10
  have Z5_h11 : xI (sL h10 a 5 (-1)) (a + 5) = fun _ => 0 := Z5_h10
  have Z6_h11 : xI (sL h10 a 5 (-1)) (a + 6) = fun _ => 0 := Z6_h10
  have Z7_h11 : xI (sL h10 a 5 (-1)) (a + 7) = fun _ => 0 := Z7_h10
  have Z8_h11 : xI (sL h10 a 5 (-1)) (a + 8) = fun _ => 0 := Z8_h10
  have Z9_h11 : xI (sL h10 a 5 (-1)) (a + 9) = fun _ => 0 := Z9_h10
  have Z10_h11 : xI (sL h10 a 5 (-1)) (a + 10) = fun _ => 0 := Z10_h10
  have Z11_h11 : xI (sL h10 a 5 (-1)) (a + 11) = fun _ => 0 := Z11_h10
  have N3_h11 : xN (sL h10 a 5 (-1)) a 3 = a + 4 + 1 := N3_h10
  have Z12_h11 : xL (sL h10 a 5 (-1)) (a + 12) = fun _ => 0 := by funext i; rw [sL_ne (oa7 (by decide))]; exact congrFun Z12_h10 i
  have K_h11 : xK (sL h10 a 5 (-1)) = xK h ++ [21, 21, 27, 32, 21, 21, 21, 21, 21, 21, 21, 28] := K_h10
  have N4_h11 : xN (sL h10 a 5 (-1)) a 4 = a + 12 + 1 := N4_h10
  have L5_h11 : xL (sL h10 a 5 (-1)) a 5 = (-1) := by rw [sL_at, if_pos rfl]
  generalize sL h10 a 5 (-1) = h11 at NO_h11 LO_h11 Z1_h11 N0_h11 Z2_h11 N1_h11 Z3_h11 N2_h11 Z5_h11 Z6_h11 Z7_h11 Z8_h11 Z9_h11 Z10_h11 Z11_h11 N3_h11 Z12_h11 K_h11 N4_h11 L5_h11 ⊢
  have len_h11 : (xK h11).length = a + 13 := by rw [K_h11, List.length_append, hlen]; rfl
  exact F.2.2.1 _ _ _ rfl (dx dX1_init 26 rfl) K_h11 ⟨rfl, NO_h11, LO_h11, N0_h11, N1_h11, N2_h11, N3_h11, N4_h11, c7 (P := fun q => ∀ m, m < 6 → ∃ w, w < 32 ∧ xI h11 (a + 5 + q) m = nI w) (fun m _ => ⟨0, by decide, congrFun Z5_h11 m⟩) (fun m _ => ⟨0, by decide, congrFun Z6_h11 m⟩) (fun m _ => ⟨0, by decide, congrFun Z7_h11 m⟩) (fun m _ => ⟨0, by decide, congrFun Z8_h11 m⟩) (fun m _ => ⟨0, by decide, congrFun Z9_h11 m⟩) (fun m _ => ⟨0, by decide, congrFun Z10_h11 m⟩) (fun m _ => ⟨0, by decide, congrFun Z11_h11 m⟩)⟩
set_option maxHeartbeats 4000000 in
theorem c_X3_init {l : Launch} {h : Hp} {a : Nat} (hlen : (xK h).length = a + 1) (hb : a + 3 < 900) (hN : NOk h) (hz1 : xI h a = fun _ => 0) (hz2 : xL h a = fun _ => 0) (hz3 : xN h a = fun _ => 0) : Ms l yX3_init cX3_init 1 none 2 [vr 11 a] h (xK h ++ [29]) (fun r h' => r = none ∧ NOk h' ∧ Lo a h h' ∧ xN h' a 0 = a + 1 + 1 ∧ TapAt h' a (fun _ => 0) 0) := by
  refine Ms.of2 (by decide) (Nat.le_of_ble_eq_true rfl) (fun G C NM E0 X F => ?_)
  have C : Cx G cX3_init 1 RX3 := C
  have hI : CI G := NM
  show Rr G 0 [(0, vr 11 a)] [] h
  have K0 : xK h = xK h ++ [] := (List.append_nil _).symm
  have L0 : Lo a h h := Lo.rf
  have len_h : (xK h).length = a + 1 := hlen
  have z0_1 : xI h a 1 = 0 := by rw [hz1]
  refine r_aload_n C (dx dX3_init 0 rfl) rfl ?_
  refine r_obj C X (by decide) l_X3_3 q_oi q_oc (dx dX3_init 1 rfl) ?_
  refine r_aload_n C (dx dX3_init 2 rfl) rfl ?_
  refine r_sipush (v := nI 250) C (dx dX3_init 3 rfl) rfl ?_
  refine r_newa (kk := 29) (t := 2) (n := 250) (ty := .byte) (S := "[" ++ (.byte : FieldType).toString) (a0 := (250, .inl (fun _ => 0))) C X rfl rfl (by decide) ⟨[], by simp⟩ hN (by rw [len_h]; exact oa4 hb (by decide)) rfl q_ac_byte (fun _ => rfl) (fun _ _ q => q) (fun _ => rfl) (fun dA f h9 a9 e1 e2 => by rw [ent_arr (q := (2, 250, 0)) rfl rfl]; simp [entA, e1, e2]) (by decide) (by decide) (dx dX3_init 4 rfl) ?_
  rw [len_h]
  have NO_h1 : NOk (nw h 29) := hN.nw
  have LO_h1 : Lo a h (nw h 29) := L0.tr (Lo.nw (by rw [len_h]; exact Nat.le_add_right _ _))
  have I1_h1 : xI (nw h 29) a 1 = 0 := by rw [(nw_ne (h := h) (k := 29) (b := a) (by rw [len_h]; exact oa3 (by decide))).1]; exact z0_1
  have Z1_h1 : xI (nw h 29) (a + 1) = fun _ => 0 := by have q9 := nw_I (h := h) (k := 29); rw [len_h] at q9; exact q9
  have K_h1 : xK (nw h 29) = xK h ++ [29] := rfl
  generalize nw h 29 = h1 at NO_h1 LO_h1 I1_h1 Z1_h1 K_h1 ⊢
  have len_h1 : (xK h1).length = a + 2 := by rw [K_h1, List.length_append, hlen]; rfl
  refine r_putNF (k := 11) (j := 0) (t := 0) C hI rfl rfl rfl (by decide) f_X3_9 rfl rfl (fun _ => rfl) (fun _ => rfl) (dx dX3_init 5 rfl) ?_
  have NO_h2 : NOk (sN h1 a 0 (a + 1 + 1)) := NO_h1.sN (by rw [len_h1]; exact oa6 (by decide))
  have LO_h2 : Lo a h (sN h1 a 0 (a + 1 + 1)) := LO_h1.tr (Lo.sN (Nat.le_refl _))
  have I1_h2 : xI (sN h1 a 0 (a + 1 + 1)) a 1 = 0 := I1_h1
  have Z1_h2 : xI (sN h1 a 0 (a + 1 + 1)) (a + 1) = fun _ => 0 := Z1_h1
  have K_h2 : xK (sN h1 a 0 (a + 1 + 1)) = xK h ++ [29] := K_h1
  have N0_h2 : xN (sN h1 a 0 (a + 1 + 1)) a 0 = a + 1 + 1 := sN_at
  generalize sN h1 a 0 (a + 1 + 1) = h2 at NO_h2 LO_h2 I1_h2 Z1_h2 K_h2 N0_h2 ⊢
  have len_h2 : (xK h2).length = a + 2 := by rw [K_h2, List.length_append, hlen]; rfl
  refine r_aload_n C (dx dX3_init 6 rfl) rfl ?_
  refine r_iconst (v := nI 0) C (dx dX3_init 7 rfl) rfl ?_
  refine r_putI (k := 11) (j := 1) (T := TX3) C rfl rfl rfl (by decide) f_X3_15 rfl rfl rfl (dx dX3_init 8 rfl) ?_
  have NO_h3 : NOk (sI h2 a 1 (nI 0)) := NO_h2
  have LO_h3 : Lo a h (sI h2 a 1 (nI 0)) := LO_h2.tr (Lo.sI (Nat.le_refl _))
  have Z1_h3 : xI (sI h2 a 1 (nI 0)) (a + 1) = fun _ => 0 := by funext i; rw [sI_ne (oa7 (by decide))]; exact congrFun Z1_h2 i
  have K_h3 : xK (sI h2 a 1 (nI 0)) = xK h ++ [29] := K_h2
  have N0_h3 : xN (sI h2 a 1 (nI 0)) a 0 = a + 1 + 1 := N0_h2
  have I1_h3 : xI (sI h2 a 1 (nI 0)) a 1 = nI 0 := by rw [sI_at, if_pos rfl]
  generalize sI h2 a 1 (nI 0) = h3 at NO_h3 LO_h3 Z1_h3 K_h3 N0_h3 I1_h3 ⊢
  have len_h3 : (xK h3).length = a + 2 := by rw [K_h3, List.length_append, hlen]; rfl
  refine r_aload_n C (dx dX3_init 9 rfl) rfl ?_
  refine r_iconst (v := nI 3) C (dx dX3_init 10 rfl) rfl ?_
  refine r_putI (k := 11) (j := 2) (T := TX3) C rfl rfl rfl (by decide) f_X3_19 rfl rfl rfl (dx dX3_init 11 rfl) ?_
  have NO_h4 : NOk (sI h3 a 2 (nI 3)) := NO_h3
  have LO_h4 : Lo a h (sI h3 a 2 (nI 3)) := LO_h3.tr (Lo.sI (Nat.le_refl _))
  have Z1_h4 : xI (sI h3 a 2 (nI 3)) (a + 1) = fun _ => 0 := by funext i; rw [sI_ne (oa7 (by decide))]; exact congrFun Z1_h3 i
  have K_h4 : xK (sI h3 a 2 (nI 3)) = xK h ++ [29] := K_h3
  have N0_h4 : xN (sI h3 a 2 (nI 3)) a 0 = a + 1 + 1 := N0_h3
  have I1_h4 : xI (sI h3 a 2 (nI 3)) a 1 = nI 0 := by rw [sI_at, if_neg (by decide)]; exact I1_h3
  have I2_h4 : xI (sI h3 a 2 (nI 3)) a 2 = nI 3 := by rw [sI_at, if_pos rfl]
  generalize sI h3 a 2 (nI 3) = h4 at NO_h4 LO_h4 Z1_h4 K_h4 N0_h4 I1_h4 I2_h4 ⊢
  have len_h4 : (xK h4).length = a + 2 := by rw [K_h4, List.length_append, hlen]; rfl
  refine r_aload_n C (dx dX3_init 12 rfl) rfl ?_
  refine r_iconst (v := nI 0) C (dx dX3_init 13 rfl) rfl ?_
  refine r_putI (k := 11) (j := 3) (T := TX3) C rfl rfl rfl (by decide) f_X3_22 rfl rfl rfl (dx dX3_init 14 rfl) ?_
  have NO_h5 : NOk (sI h4 a 3 (nI 0)) := NO_h4
  have LO_h5 : Lo a h (sI h4 a 3 (nI 0)) := LO_h4.tr (Lo.sI (Nat.le_refl _))
  have Z1_h5 : xI (sI h4 a 3 (nI 0)) (a + 1) = fun _ => 0 := by funext i; rw [sI_ne (oa7 (by decide))]; exact congrFun Z1_h4 i
  have K_h5 : xK (sI h4 a 3 (nI 0)) = xK h ++ [29] := K_h4
  have N0_h5 : xN (sI h4 a 3 (nI 0)) a 0 = a + 1 + 1 := N0_h4
  have I1_h5 : xI (sI h4 a 3 (nI 0)) a 1 = nI 0 := by rw [sI_at, if_neg (by decide)]; exact I1_h4
  have I2_h5 : xI (sI h4 a 3 (nI 0)) a 2 = nI 3 := by rw [sI_at, if_neg (by decide)]; exact I2_h4
  have I3_h5 : xI (sI h4 a 3 (nI 0)) a 3 = nI 0 := by rw [sI_at, if_pos rfl]
  generalize sI h4 a 3 (nI 0) = h5 at NO_h5 LO_h5 Z1_h5 K_h5 N0_h5 I1_h5 I2_h5 I3_h5 ⊢
  have len_h5 : (xK h5).length = a + 2 := by rw [K_h5, List.length_append, hlen]; rfl
  refine r_aload_n C (dx dX3_init 15 rfl) rfl ?_
  refine r_iconst (v := nI 0) C (dx dX3_init 16 rfl) rfl ?_
  refine r_putI (k := 11) (j := 4) (T := TX3) C rfl rfl rfl (by decide) f_X3_25 rfl rfl rfl (dx dX3_init 17 rfl) ?_
  have NO_h6 : NOk (sI h5 a 4 (nI 0)) := NO_h5
  have LO_h6 : Lo a h (sI h5 a 4 (nI 0)) := LO_h5.tr (Lo.sI (Nat.le_refl _))
  have Z1_h6 : xI (sI h5 a 4 (nI 0)) (a + 1) = fun _ => 0 := by funext i; rw [sI_ne (oa7 (by decide))]; exact congrFun Z1_h5 i
  have K_h6 : xK (sI h5 a 4 (nI 0)) = xK h ++ [29] := K_h5
  have N0_h6 : xN (sI h5 a 4 (nI 0)) a 0 = a + 1 + 1 := N0_h5
  have I1_h6 : xI (sI h5 a 4 (nI 0)) a 1 = nI 0 := by rw [sI_at, if_neg (by decide)]; exact I1_h5
  have I2_h6 : xI (sI h5 a 4 (nI 0)) a 2 = nI 3 := by rw [sI_at, if_neg (by decide)]; exact I2_h5
  have I3_h6 : xI (sI h5 a 4 (nI 0)) a 3 = nI 0 := by rw [sI_at, if_neg (by decide)]; exact I3_h5
  have I4_h6 : xI (sI h5 a 4 (nI 0)) a 4 = nI 0 := by rw [sI_at, if_pos rfl]
  generalize sI h5 a 4 (nI 0) = h6 at NO_h6 LO_h6 Z1_h6 K_h6 N0_h6 I1_h6 I2_h6 I3_h6 I4_h6 ⊢
  have len_h6 : (xK h6).length = a + 2 := by rw [K_h6, List.length_append, hlen]; rfl
  exact F.2.2.1 _ _ _ rfl (dx dX3_init 18 rfl) K_h6 ⟨rfl, NO_h6, LO_h6, N0_h6, ⟨fun i hi => congrFun Z1_h6 i, I1_h6, Nat.zero_le _⟩⟩
set_option maxHeartbeats 4000000 in
theorem c_X5_init {l : Launch} {h : Hp} {a : Nat} (hlen : (xK h).length = a + 1) (hb : a + 10 < 900) (hN : NOk h) (hz1 : xI h a = fun _ => 0) (hz2 : xL h a = fun _ => 0) (hz3 : xN h a = fun _ => 0) : Ms l yX5_init cX5_init 1 none 2 [vr 13 a] h (xK h ++ [20, 20, 21, 21, 22, 22, 23, 22]) (fun r h' => r = none ∧ NOk h' ∧ Lo a h h' ∧ xN h' a 1 = a + 1 + 1 ∧ xN h' a 2 = a + 2 + 1 ∧ xN h' a 4 = a + 3 + 1 ∧ xN h' a 5 = a + 4 + 1 ∧ xN h' a 7 = a + 5 + 1 ∧ xN h' a 8 = a + 6 + 1 ∧ xN h' a 9 = a + 7 + 1 ∧ xN h' a 10 = a + 8 + 1 ∧ VilAt h' a v00) := by
  refine Ms.of2 (by decide) (Nat.le_of_ble_eq_true rfl) (fun G C NM E0 X F => ?_)
  have C : Cx G cX5_init 1 RX5 := C
  have hI : CI G := NM
  show Rr G 0 [(0, vr 13 a)] [] h
  have K0 : xK h = xK h ++ [] := (List.append_nil _).symm
  have L0 : Lo a h h := Lo.rf
  have len_h : (xK h).length = a + 1 := hlen
  refine r_aload_n C (dx dX5_init 0 rfl) rfl ?_
  refine r_obj C X (by decide) l_X5_3 q_oi q_oc (dx dX5_init 1 rfl) ?_
  refine r_aload_n C (dx dX5_init 2 rfl) rfl ?_
  refine r_iconst (v := nI 0) C (dx dX5_init 3 rfl) rfl ?_
  refine r_putI (k := 13) (j := 0) (T := TX5) C rfl rfl rfl (by decide) f_X5_9 rfl rfl rfl (dx dX5_init 4 rfl) ?_
  have K_h1 : xK (sI h a 0 (nI 0)) = xK h ++ [] := K0
  have NO_h1 : NOk (sI h a 0 (nI 0)) := hN
  have LO_h1 : Lo a h (sI h a 0 (nI 0)) := L0.tr (Lo.sI (Nat.le_refl _))
  have I0_h1 : xI (sI h a 0 (nI 0)) a 0 = nI 0 := by rw [sI_at, if_pos rfl]
  generalize sI h a 0 (nI 0) = h1 at K_h1 NO_h1 LO_h1 I0_h1 ⊢
  have len_h1 : (xK h1).length = a + 1 := by rw [K_h1, List.length_append, hlen]; rfl
  refine r_aload_n C (dx dX5_init 5 rfl) rfl ?_
  refine r_bipush (v := nI 12) C (dx dX5_init 6 rfl) rfl ?_
  refine r_newa (kk := 20) (t := 0) (n := 12) (ty := .int) (S := "[" ++ (.int : FieldType).toString) (a0 := (12, .inl (fun _ => 0))) C X rfl rfl (by decide) (by rw [K_h1]; exact ⟨[20, 21, 21, 22, 22, 23, 22], by rw [List.append_assoc, List.append_assoc]; rfl⟩) NO_h1 (by rw [len_h1]; exact oa4 hb (by decide)) rfl q_ac_int (fun _ => rfl) (fun _ _ q => q) (fun _ => rfl) (fun dA f h9 a9 e1 e2 => by rw [ent_arr (q := (0, 12, 0)) rfl rfl]; simp [entA, e1, e2]) (by decide) (by decide) (dx dX5_init 7 rfl) ?_
  rw [len_h1]
  have NO_h2 : NOk (nw h1 20) := NO_h1.nw
  have LO_h2 : Lo a h (nw h1 20) := LO_h1.tr (Lo.nw (by rw [len_h1]; exact Nat.le_add_right _ _))
  have I0_h2 : xI (nw h1 20) a 0 = nI 0 := by rw [(nw_ne (h := h1) (k := 20) (b := a) (by rw [len_h1]; exact oa3 (by decide))).1]; exact I0_h1
  have Z1_h2 : xI (nw h1 20) (a + 1) = fun _ => 0 := by have q9 := nw_I (h := h1) (k := 20); rw [len_h1] at q9; exact q9
  have K_h2 : xK (nw h1 20) = xK h ++ [20] := by show xK h1 ++ _ = _; rw [K_h1, List.append_assoc]; rfl
  generalize nw h1 20 = h2 at NO_h2 LO_h2 I0_h2 Z1_h2 K_h2 ⊢
  have len_h2 : (xK h2).length = a + 2 := by rw [K_h2, List.length_append, hlen]; rfl
  refine r_putNF (k := 13) (j := 1) (t := 0) C hI rfl rfl rfl (by decide) f_X5_15 rfl rfl (fun _ => rfl) (fun _ => rfl) (dx dX5_init 8 rfl) ?_
  have NO_h3 : NOk (sN h2 a 1 (a + 1 + 1)) := NO_h2.sN (by rw [len_h2]; exact oa6 (by decide))
  have LO_h3 : Lo a h (sN h2 a 1 (a + 1 + 1)) := LO_h2.tr (Lo.sN (Nat.le_refl _))
  have I0_h3 : xI (sN h2 a 1 (a + 1 + 1)) a 0 = nI 0 := I0_h2
  have Z1_h3 : xI (sN h2 a 1 (a + 1 + 1)) (a + 1) = fun _ => 0 := Z1_h2
  have K_h3 : xK (sN h2 a 1 (a + 1 + 1)) = xK h ++ [20] := K_h2
  have N1_h3 : xN (sN h2 a 1 (a + 1 + 1)) a 1 = a + 1 + 1 := sN_at
  generalize sN h2 a 1 (a + 1 + 1) = h3 at NO_h3 LO_h3 I0_h3 Z1_h3 K_h3 N1_h3 ⊢
  have len_h3 : (xK h3).length = a + 2 := by rw [K_h3, List.length_append, hlen]; rfl
  refine r_aload_n C (dx dX5_init 9 rfl) rfl ?_
  refine r_bipush (v := nI 12) C (dx dX5_init 10 rfl) rfl ?_
  refine r_newa (kk := 20) (t := 0) (n := 12) (ty := .int) (S := "[" ++ (.int : FieldType).toString) (a0 := (12, .inl (fun _ => 0))) C X rfl rfl (by decide) (by rw [K_h3]; exact ⟨[21, 21, 22, 22, 23, 22], by rw [List.append_assoc, List.append_assoc]; rfl⟩) NO_h3 (by rw [len_h3]; exact oa4 hb (by decide)) rfl q_ac_int (fun _ => rfl) (fun _ _ q => q) (fun _ => rfl) (fun dA f h9 a9 e1 e2 => by rw [ent_arr (q := (0, 12, 0)) rfl rfl]; simp [entA, e1, e2]) (by decide) (by decide) (dx dX5_init 11 rfl) ?_
  rw [len_h3]
  have NO_h4 : NOk (nw h3 20) := NO_h3.nw
  have LO_h4 : Lo a h (nw h3 20) := LO_h3.tr (Lo.nw (by rw [len_h3]; exact Nat.le_add_right _ _))
  have I0_h4 : xI (nw h3 20) a 0 = nI 0 := by rw [(nw_ne (h := h3) (k := 20) (b := a) (by rw [len_h3]; exact oa3 (by decide))).1]; exact I0_h3
  have Z1_h4 : xI (nw h3 20) (a + 1) = fun _ => 0 := by rw [(nw_ne (h := h3) (k := 20) (b := a + 1) (by rw [len_h3]; exact oa2 (by decide))).1]; exact Z1_h3
  have N1_h4 : xN (nw h3 20) a 1 = a + 1 + 1 := by rw [(nw_ne (h := h3) (k := 20) (b := a) (by rw [len_h3]; exact oa3 (by decide))).2.2]; exact N1_h3
  have Z2_h4 : xI (nw h3 20) (a + 2) = fun _ => 0 := by have q9 := nw_I (h := h3) (k := 20); rw [len_h3] at q9; exact q9
  have K_h4 : xK (nw h3 20) = xK h ++ [20, 20] := by show xK h3 ++ _ = _; rw [K_h3, List.append_assoc]; rfl
  generalize nw h3 20 = h4 at NO_h4 LO_h4 I0_h4 Z1_h4 N1_h4 Z2_h4 K_h4 ⊢
  have len_h4 : (xK h4).length = a + 3 := by rw [K_h4, List.length_append, hlen]; rfl
  refine r_putNF (k := 13) (j := 2) (t := 0) C hI rfl rfl rfl (by decide) f_X5_19 rfl rfl (fun _ => rfl) (fun _ => rfl) (dx dX5_init 12 rfl) ?_
  have NO_h5 : NOk (sN h4 a 2 (a + 2 + 1)) := NO_h4.sN (by rw [len_h4]; exact oa6 (by decide))
  have LO_h5 : Lo a h (sN h4 a 2 (a + 2 + 1)) := LO_h4.tr (Lo.sN (Nat.le_refl _))
  have I0_h5 : xI (sN h4 a 2 (a + 2 + 1)) a 0 = nI 0 := I0_h4
  have Z1_h5 : xI (sN h4 a 2 (a + 2 + 1)) (a + 1) = fun _ => 0 := Z1_h4
  have N1_h5 : xN (sN h4 a 2 (a + 2 + 1)) a 1 = a + 1 + 1 := (sN_ne (by decide)).trans N1_h4
  have Z2_h5 : xI (sN h4 a 2 (a + 2 + 1)) (a + 2) = fun _ => 0 := Z2_h4
  have K_h5 : xK (sN h4 a 2 (a + 2 + 1)) = xK h ++ [20, 20] := K_h4
  have N2_h5 : xN (sN h4 a 2 (a + 2 + 1)) a 2 = a + 2 + 1 := sN_at
  generalize sN h4 a 2 (a + 2 + 1) = h5 at NO_h5 LO_h5 I0_h5 Z1_h5 N1_h5 Z2_h5 K_h5 N2_h5 ⊢
  have len_h5 : (xK h5).length = a + 3 := by rw [K_h5, List.length_append, hlen]; rfl
  refine r_aload_n C (dx dX5_init 13 rfl) rfl ?_
  refine r_iconst (v := nI 0) C (dx dX5_init 14 rfl) rfl ?_
  refine r_putI (k := 13) (j := 3) (T := TX5) C rfl rfl rfl (by decide) f_X5_22 rfl rfl rfl (dx dX5_init 15 rfl) ?_
  have NO_h6 : NOk (sI h5 a 3 (nI 0)) := NO_h5
  have LO_h6 : Lo a h (sI h5 a 3 (nI 0)) := LO_h5.tr (Lo.sI (Nat.le_refl _))
  have I0_h6 : xI (sI h5 a 3 (nI 0)) a 0 = nI 0 := by rw [sI_at, if_neg (by decide)]; exact I0_h5
  have Z1_h6 : xI (sI h5 a 3 (nI 0)) (a + 1) = fun _ => 0 := by funext i; rw [sI_ne (oa7 (by decide))]; exact congrFun Z1_h5 i
  have N1_h6 : xN (sI h5 a 3 (nI 0)) a 1 = a + 1 + 1 := N1_h5
  have Z2_h6 : xI (sI h5 a 3 (nI 0)) (a + 2) = fun _ => 0 := by funext i; rw [sI_ne (oa7 (by decide))]; exact congrFun Z2_h5 i
  have K_h6 : xK (sI h5 a 3 (nI 0)) = xK h ++ [20, 20] := K_h5
  have N2_h6 : xN (sI h5 a 3 (nI 0)) a 2 = a + 2 + 1 := N2_h5
  have I3_h6 : xI (sI h5 a 3 (nI 0)) a 3 = nI 0 := by rw [sI_at, if_pos rfl]
  generalize sI h5 a 3 (nI 0) = h6 at NO_h6 LO_h6 I0_h6 Z1_h6 N1_h6 Z2_h6 K_h6 N2_h6 I3_h6 ⊢
  have len_h6 : (xK h6).length = a + 3 := by rw [K_h6, List.length_append, hlen]; rfl
  refine r_aload_n C (dx dX5_init 16 rfl) rfl ?_
  refine r_bipush (v := nI 6) C (dx dX5_init 17 rfl) rfl ?_
  refine r_newa (kk := 21) (t := 0) (n := 6) (ty := .int) (S := "[" ++ (.int : FieldType).toString) (a0 := (6, .inl (fun _ => 0))) C X rfl rfl (by decide) (by rw [K_h6]; exact ⟨[21, 22, 22, 23, 22], by rw [List.append_assoc, List.append_assoc]; rfl⟩) NO_h6 (by rw [len_h6]; exact oa4 hb (by decide)) rfl q_ac_int (fun _ => rfl) (fun _ _ q => q) (fun _ => rfl) (fun dA f h9 a9 e1 e2 => by rw [ent_arr (q := (0, 6, 0)) rfl rfl]; simp [entA, e1, e2]) (by decide) (by decide) (dx dX5_init 18 rfl) ?_
  rw [len_h6]
  have NO_h7 : NOk (nw h6 21) := NO_h6.nw
  have LO_h7 : Lo a h (nw h6 21) := LO_h6.tr (Lo.nw (by rw [len_h6]; exact Nat.le_add_right _ _))
  have I0_h7 : xI (nw h6 21) a 0 = nI 0 := by rw [(nw_ne (h := h6) (k := 21) (b := a) (by rw [len_h6]; exact oa3 (by decide))).1]; exact I0_h6
  have Z1_h7 : xI (nw h6 21) (a + 1) = fun _ => 0 := by rw [(nw_ne (h := h6) (k := 21) (b := a + 1) (by rw [len_h6]; exact oa2 (by decide))).1]; exact Z1_h6
  have N1_h7 : xN (nw h6 21) a 1 = a + 1 + 1 := by rw [(nw_ne (h := h6) (k := 21) (b := a) (by rw [len_h6]; exact oa3 (by decide))).2.2]; exact N1_h6
  have Z2_h7 : xI (nw h6 21) (a + 2) = fun _ => 0 := by rw [(nw_ne (h := h6) (k := 21) (b := a + 2) (by rw [len_h6]; exact oa2 (by decide))).1]; exact Z2_h6
  have N2_h7 : xN (nw h6 21) a 2 = a + 2 + 1 := by rw [(nw_ne (h := h6) (k := 21) (b := a) (by rw [len_h6]; exact oa3 (by decide))).2.2]; exact N2_h6
  have I3_h7 : xI (nw h6 21) a 3 = nI 0 := by rw [(nw_ne (h := h6) (k := 21) (b := a) (by rw [len_h6]; exact oa3 (by decide))).1]; exact I3_h6
  have Z3_h7 : xI (nw h6 21) (a + 3) = fun _ => 0 := by have q9 := nw_I (h := h6) (k := 21); rw [len_h6] at q9; exact q9
  have K_h7 : xK (nw h6 21) = xK h ++ [20, 20, 21] := by show xK h6 ++ _ = _; rw [K_h6, List.append_assoc]; rfl
  generalize nw h6 21 = h7 at NO_h7 LO_h7 I0_h7 Z1_h7 N1_h7 Z2_h7 N2_h7 I3_h7 Z3_h7 K_h7 ⊢
  have len_h7 : (xK h7).length = a + 4 := by rw [K_h7, List.length_append, hlen]; rfl
  refine r_putNF (k := 13) (j := 4) (t := 0) C hI rfl rfl rfl (by decide) f_X5_25 rfl rfl (fun _ => rfl) (fun _ => rfl) (dx dX5_init 19 rfl) ?_
  have NO_h8 : NOk (sN h7 a 4 (a + 3 + 1)) := NO_h7.sN (by rw [len_h7]; exact oa6 (by decide))
  have LO_h8 : Lo a h (sN h7 a 4 (a + 3 + 1)) := LO_h7.tr (Lo.sN (Nat.le_refl _))
  have I0_h8 : xI (sN h7 a 4 (a + 3 + 1)) a 0 = nI 0 := I0_h7
  have Z1_h8 : xI (sN h7 a 4 (a + 3 + 1)) (a + 1) = fun _ => 0 := Z1_h7
  have N1_h8 : xN (sN h7 a 4 (a + 3 + 1)) a 1 = a + 1 + 1 := (sN_ne (by decide)).trans N1_h7
  have Z2_h8 : xI (sN h7 a 4 (a + 3 + 1)) (a + 2) = fun _ => 0 := Z2_h7
  have N2_h8 : xN (sN h7 a 4 (a + 3 + 1)) a 2 = a + 2 + 1 := (sN_ne (by decide)).trans N2_h7
  have I3_h8 : xI (sN h7 a 4 (a + 3 + 1)) a 3 = nI 0 := I3_h7
  have Z3_h8 : xI (sN h7 a 4 (a + 3 + 1)) (a + 3) = fun _ => 0 := Z3_h7
  have K_h8 : xK (sN h7 a 4 (a + 3 + 1)) = xK h ++ [20, 20, 21] := K_h7
  have N4_h8 : xN (sN h7 a 4 (a + 3 + 1)) a 4 = a + 3 + 1 := sN_at
  generalize sN h7 a 4 (a + 3 + 1) = h8 at NO_h8 LO_h8 I0_h8 Z1_h8 N1_h8 Z2_h8 N2_h8 I3_h8 Z3_h8 K_h8 N4_h8 ⊢
  have len_h8 : (xK h8).length = a + 4 := by rw [K_h8, List.length_append, hlen]; rfl
  refine r_aload_n C (dx dX5_init 20 rfl) rfl ?_
  refine r_bipush (v := nI 6) C (dx dX5_init 21 rfl) rfl ?_
  refine r_newa (kk := 21) (t := 0) (n := 6) (ty := .int) (S := "[" ++ (.int : FieldType).toString) (a0 := (6, .inl (fun _ => 0))) C X rfl rfl (by decide) (by rw [K_h8]; exact ⟨[22, 22, 23, 22], by rw [List.append_assoc, List.append_assoc]; rfl⟩) NO_h8 (by rw [len_h8]; exact oa4 hb (by decide)) rfl q_ac_int (fun _ => rfl) (fun _ _ q => q) (fun _ => rfl) (fun dA f h9 a9 e1 e2 => by rw [ent_arr (q := (0, 6, 0)) rfl rfl]; simp [entA, e1, e2]) (by decide) (by decide) (dx dX5_init 22 rfl) ?_
  rw [len_h8]
  have NO_h9 : NOk (nw h8 21) := NO_h8.nw
  have LO_h9 : Lo a h (nw h8 21) := LO_h8.tr (Lo.nw (by rw [len_h8]; exact Nat.le_add_right _ _))
  have I0_h9 : xI (nw h8 21) a 0 = nI 0 := by rw [(nw_ne (h := h8) (k := 21) (b := a) (by rw [len_h8]; exact oa3 (by decide))).1]; exact I0_h8
  have Z1_h9 : xI (nw h8 21) (a + 1) = fun _ => 0 := by rw [(nw_ne (h := h8) (k := 21) (b := a + 1) (by rw [len_h8]; exact oa2 (by decide))).1]; exact Z1_h8
  have N1_h9 : xN (nw h8 21) a 1 = a + 1 + 1 := by rw [(nw_ne (h := h8) (k := 21) (b := a) (by rw [len_h8]; exact oa3 (by decide))).2.2]; exact N1_h8
  have Z2_h9 : xI (nw h8 21) (a + 2) = fun _ => 0 := by rw [(nw_ne (h := h8) (k := 21) (b := a + 2) (by rw [len_h8]; exact oa2 (by decide))).1]; exact Z2_h8
  have N2_h9 : xN (nw h8 21) a 2 = a + 2 + 1 := by rw [(nw_ne (h := h8) (k := 21) (b := a) (by rw [len_h8]; exact oa3 (by decide))).2.2]; exact N2_h8
  have I3_h9 : xI (nw h8 21) a 3 = nI 0 := by rw [(nw_ne (h := h8) (k := 21) (b := a) (by rw [len_h8]; exact oa3 (by decide))).1]; exact I3_h8
  have Z3_h9 : xI (nw h8 21) (a + 3) = fun _ => 0 := by rw [(nw_ne (h := h8) (k := 21) (b := a + 3) (by rw [len_h8]; exact oa2 (by decide))).1]; exact Z3_h8
  have N4_h9 : xN (nw h8 21) a 4 = a + 3 + 1 := by rw [(nw_ne (h := h8) (k := 21) (b := a) (by rw [len_h8]; exact oa3 (by decide))).2.2]; exact N4_h8
  have Z4_h9 : xI (nw h8 21) (a + 4) = fun _ => 0 := by have q9 := nw_I (h := h8) (k := 21); rw [len_h8] at q9; exact q9
  have K_h9 : xK (nw h8 21) = xK h ++ [20, 20, 21, 21] := by show xK h8 ++ _ = _; rw [K_h8, List.append_assoc]; rfl
  generalize nw h8 21 = h9 at NO_h9 LO_h9 I0_h9 Z1_h9 N1_h9 Z2_h9 N2_h9 I3_h9 Z3_h9 N4_h9 Z4_h9 K_h9 ⊢
  have len_h9 : (xK h9).length = a + 5 := by rw [K_h9, List.length_append, hlen]; rfl
  refine r_putNF (k := 13) (j := 5) (t := 0) C hI rfl rfl rfl (by decide) f_X5_28 rfl rfl (fun _ => rfl) (fun _ => rfl) (dx dX5_init 23 rfl) ?_
  have NO_h10 : NOk (sN h9 a 5 (a + 4 + 1)) := NO_h9.sN (by rw [len_h9]; exact oa6 (by decide))
  have LO_h10 : Lo a h (sN h9 a 5 (a + 4 + 1)) := LO_h9.tr (Lo.sN (Nat.le_refl _))
  have I0_h10 : xI (sN h9 a 5 (a + 4 + 1)) a 0 = nI 0 := I0_h9
  have Z1_h10 : xI (sN h9 a 5 (a + 4 + 1)) (a + 1) = fun _ => 0 := Z1_h9
  have N1_h10 : xN (sN h9 a 5 (a + 4 + 1)) a 1 = a + 1 + 1 := (sN_ne (by decide)).trans N1_h9
  have Z2_h10 : xI (sN h9 a 5 (a + 4 + 1)) (a + 2) = fun _ => 0 := Z2_h9
  have N2_h10 : xN (sN h9 a 5 (a + 4 + 1)) a 2 = a + 2 + 1 := (sN_ne (by decide)).trans N2_h9
  have I3_h10 : xI (sN h9 a 5 (a + 4 + 1)) a 3 = nI 0 := I3_h9
  have Z3_h10 : xI (sN h9 a 5 (a + 4 + 1)) (a + 3) = fun _ => 0 := Z3_h9
  have N4_h10 : xN (sN h9 a 5 (a + 4 + 1)) a 4 = a + 3 + 1 := (sN_ne (by decide)).trans N4_h9
  have Z4_h10 : xI (sN h9 a 5 (a + 4 + 1)) (a + 4) = fun _ => 0 := Z4_h9
  have K_h10 : xK (sN h9 a 5 (a + 4 + 1)) = xK h ++ [20, 20, 21, 21] := K_h9
  have N5_h10 : xN (sN h9 a 5 (a + 4 + 1)) a 5 = a + 4 + 1 := sN_at
  generalize sN h9 a 5 (a + 4 + 1) = h10 at NO_h10 LO_h10 I0_h10 Z1_h10 N1_h10 Z2_h10 N2_h10 I3_h10 Z3_h10 N4_h10 Z4_h10 K_h10 N5_h10 ⊢
  have len_h10 : (xK h10).length = a + 5 := by rw [K_h10, List.length_append, hlen]; rfl
  refine r_aload_n C (dx dX5_init 24 rfl) rfl ?_
  refine r_iconst (v := nI 0) C (dx dX5_init 25 rfl) rfl ?_
  refine r_putI (k := 13) (j := 6) (T := TX5) C rfl rfl rfl (by decide) f_X5_31 rfl rfl rfl (dx dX5_init 26 rfl) ?_
  have NO_h11 : NOk (sI h10 a 6 (nI 0)) := NO_h10
  have LO_h11 : Lo a h (sI h10 a 6 (nI 0)) := LO_h10.tr (Lo.sI (Nat.le_refl _))
  have I0_h11 : xI (sI h10 a 6 (nI 0)) a 0 = nI 0 := by rw [sI_at, if_neg (by decide)]; exact I0_h10
  have Z1_h11 : xI (sI h10 a 6 (nI 0)) (a + 1) = fun _ => 0 := by funext i; rw [sI_ne (oa7 (by decide))]; exact congrFun Z1_h10 i
  have N1_h11 : xN (sI h10 a 6 (nI 0)) a 1 = a + 1 + 1 := N1_h10
  have Z2_h11 : xI (sI h10 a 6 (nI 0)) (a + 2) = fun _ => 0 := by funext i; rw [sI_ne (oa7 (by decide))]; exact congrFun Z2_h10 i
  have N2_h11 : xN (sI h10 a 6 (nI 0)) a 2 = a + 2 + 1 := N2_h10
  have I3_h11 : xI (sI h10 a 6 (nI 0)) a 3 = nI 0 := by rw [sI_at, if_neg (by decide)]; exact I3_h10
  have Z3_h11 : xI (sI h10 a 6 (nI 0)) (a + 3) = fun _ => 0 := by funext i; rw [sI_ne (oa7 (by decide))]; exact congrFun Z3_h10 i
  have N4_h11 : xN (sI h10 a 6 (nI 0)) a 4 = a + 3 + 1 := N4_h10
  have Z4_h11 : xI (sI h10 a 6 (nI 0)) (a + 4) = fun _ => 0 := by funext i; rw [sI_ne (oa7 (by decide))]; exact congrFun Z4_h10 i
  have K_h11 : xK (sI h10 a 6 (nI 0)) = xK h ++ [20, 20, 21, 21] := K_h10
  have N5_h11 : xN (sI h10 a 6 (nI 0)) a 5 = a + 4 + 1 := N5_h10
  have I6_h11 : xI (sI h10 a 6 (nI 0)) a 6 = nI 0 := by rw [sI_at, if_pos rfl]
  generalize sI h10 a 6 (nI 0) = h11 at NO_h11 LO_h11 I0_h11 Z1_h11 N1_h11 Z2_h11 N2_h11 I3_h11 Z3_h11 N4_h11 Z4_h11 K_h11 N5_h11 I6_h11 ⊢
  have len_h11 : (xK h11).length = a + 5 := by rw [K_h11, List.length_append, hlen]; rfl
  refine r_aload_n C (dx dX5_init 27 rfl) rfl ?_
  refine r_bipush (v := nI 8) C (dx dX5_init 28 rfl) rfl ?_
  refine r_newa (kk := 22) (t := 0) (n := 8) (ty := .int) (S := "[" ++ (.int : FieldType).toString) (a0 := (8, .inl (fun _ => 0))) C X rfl rfl (by decide) (by rw [K_h11]; exact ⟨[22, 23, 22], by rw [List.append_assoc, List.append_assoc]; rfl⟩) NO_h11 (by rw [len_h11]; exact oa4 hb (by decide)) rfl q_ac_int (fun _ => rfl) (fun _ _ q => q) (fun _ => rfl) (fun dA f h9 a9 e1 e2 => by rw [ent_arr (q := (0, 8, 0)) rfl rfl]; simp [entA, e1, e2]) (by decide) (by decide) (dx dX5_init 29 rfl) ?_
  rw [len_h11]
  have NO_h12 : NOk (nw h11 22) := NO_h11.nw
  have LO_h12 : Lo a h (nw h11 22) := LO_h11.tr (Lo.nw (by rw [len_h11]; exact Nat.le_add_right _ _))
  have I0_h12 : xI (nw h11 22) a 0 = nI 0 := by rw [(nw_ne (h := h11) (k := 22) (b := a) (by rw [len_h11]; exact oa3 (by decide))).1]; exact I0_h11
  have Z1_h12 : xI (nw h11 22) (a + 1) = fun _ => 0 := by rw [(nw_ne (h := h11) (k := 22) (b := a + 1) (by rw [len_h11]; exact oa2 (by decide))).1]; exact Z1_h11
  have N1_h12 : xN (nw h11 22) a 1 = a + 1 + 1 := by rw [(nw_ne (h := h11) (k := 22) (b := a) (by rw [len_h11]; exact oa3 (by decide))).2.2]; exact N1_h11
  have Z2_h12 : xI (nw h11 22) (a + 2) = fun _ => 0 := by rw [(nw_ne (h := h11) (k := 22) (b := a + 2) (by rw [len_h11]; exact oa2 (by decide))).1]; exact Z2_h11
  have N2_h12 : xN (nw h11 22) a 2 = a + 2 + 1 := by rw [(nw_ne (h := h11) (k := 22) (b := a) (by rw [len_h11]; exact oa3 (by decide))).2.2]; exact N2_h11
  have I3_h12 : xI (nw h11 22) a 3 = nI 0 := by rw [(nw_ne (h := h11) (k := 22) (b := a) (by rw [len_h11]; exact oa3 (by decide))).1]; exact I3_h11
  have Z3_h12 : xI (nw h11 22) (a + 3) = fun _ => 0 := by rw [(nw_ne (h := h11) (k := 22) (b := a + 3) (by rw [len_h11]; exact oa2 (by decide))).1]; exact Z3_h11
  have N4_h12 : xN (nw h11 22) a 4 = a + 3 + 1 := by rw [(nw_ne (h := h11) (k := 22) (b := a) (by rw [len_h11]; exact oa3 (by decide))).2.2]; exact N4_h11
  have Z4_h12 : xI (nw h11 22) (a + 4) = fun _ => 0 := by rw [(nw_ne (h := h11) (k := 22) (b := a + 4) (by rw [len_h11]; exact oa2 (by decide))).1]; exact Z4_h11
  have N5_h12 : xN (nw h11 22) a 5 = a + 4 + 1 := by rw [(nw_ne (h := h11) (k := 22) (b := a) (by rw [len_h11]; exact oa3 (by decide))).2.2]; exact N5_h11
  have I6_h12 : xI (nw h11 22) a 6 = nI 0 := by rw [(nw_ne (h := h11) (k := 22) (b := a) (by rw [len_h11]; exact oa3 (by decide))).1]; exact I6_h11
  have Z5_h12 : xI (nw h11 22) (a + 5) = fun _ => 0 := by have q9 := nw_I (h := h11) (k := 22); rw [len_h11] at q9; exact q9
  have K_h12 : xK (nw h11 22) = xK h ++ [20, 20, 21, 21, 22] := by show xK h11 ++ _ = _; rw [K_h11, List.append_assoc]; rfl
  generalize nw h11 22 = h12 at NO_h12 LO_h12 I0_h12 Z1_h12 N1_h12 Z2_h12 N2_h12 I3_h12 Z3_h12 N4_h12 Z4_h12 N5_h12 I6_h12 Z5_h12 K_h12 ⊢
  have len_h12 : (xK h12).length = a + 6 := by rw [K_h12, List.length_append, hlen]; rfl
  refine r_putNF (k := 13) (j := 7) (t := 0) C hI rfl rfl rfl (by decide) f_X5_34 rfl rfl (fun _ => rfl) (fun _ => rfl) (dx dX5_init 30 rfl) ?_
  have NO_h13 : NOk (sN h12 a 7 (a + 5 + 1)) := NO_h12.sN (by rw [len_h12]; exact oa6 (by decide))
  have LO_h13 : Lo a h (sN h12 a 7 (a + 5 + 1)) := LO_h12.tr (Lo.sN (Nat.le_refl _))
  have I0_h13 : xI (sN h12 a 7 (a + 5 + 1)) a 0 = nI 0 := I0_h12
  have Z1_h13 : xI (sN h12 a 7 (a + 5 + 1)) (a + 1) = fun _ => 0 := Z1_h12
  have N1_h13 : xN (sN h12 a 7 (a + 5 + 1)) a 1 = a + 1 + 1 := (sN_ne (by decide)).trans N1_h12
  have Z2_h13 : xI (sN h12 a 7 (a + 5 + 1)) (a + 2) = fun _ => 0 := Z2_h12
  have N2_h13 : xN (sN h12 a 7 (a + 5 + 1)) a 2 = a + 2 + 1 := (sN_ne (by decide)).trans N2_h12
  have I3_h13 : xI (sN h12 a 7 (a + 5 + 1)) a 3 = nI 0 := I3_h12
  have Z3_h13 : xI (sN h12 a 7 (a + 5 + 1)) (a + 3) = fun _ => 0 := Z3_h12
  have N4_h13 : xN (sN h12 a 7 (a + 5 + 1)) a 4 = a + 3 + 1 := (sN_ne (by decide)).trans N4_h12
  have Z4_h13 : xI (sN h12 a 7 (a + 5 + 1)) (a + 4) = fun _ => 0 := Z4_h12
  have N5_h13 : xN (sN h12 a 7 (a + 5 + 1)) a 5 = a + 4 + 1 := (sN_ne (by decide)).trans N5_h12
  have I6_h13 : xI (sN h12 a 7 (a + 5 + 1)) a 6 = nI 0 := I6_h12
  have Z5_h13 : xI (sN h12 a 7 (a + 5 + 1)) (a + 5) = fun _ => 0 := Z5_h12
  have K_h13 : xK (sN h12 a 7 (a + 5 + 1)) = xK h ++ [20, 20, 21, 21, 22] := K_h12
  have N7_h13 : xN (sN h12 a 7 (a + 5 + 1)) a 7 = a + 5 + 1 := sN_at
  generalize sN h12 a 7 (a + 5 + 1) = h13 at NO_h13 LO_h13 I0_h13 Z1_h13 N1_h13 Z2_h13 N2_h13 I3_h13 Z3_h13 N4_h13 Z4_h13 N5_h13 I6_h13 Z5_h13 K_h13 N7_h13 ⊢
  have len_h13 : (xK h13).length = a + 6 := by rw [K_h13, List.length_append, hlen]; rfl
  refine r_aload_n C (dx dX5_init 31 rfl) rfl ?_
  refine r_bipush (v := nI 8) C (dx dX5_init 32 rfl) rfl ?_
  refine r_newa (kk := 22) (t := 0) (n := 8) (ty := .int) (S := "[" ++ (.int : FieldType).toString) (a0 := (8, .inl (fun _ => 0))) C X rfl rfl (by decide) (by rw [K_h13]; exact ⟨[23, 22], by rw [List.append_assoc, List.append_assoc]; rfl⟩) NO_h13 (by rw [len_h13]; exact oa4 hb (by decide)) rfl q_ac_int (fun _ => rfl) (fun _ _ q => q) (fun _ => rfl) (fun dA f h9 a9 e1 e2 => by rw [ent_arr (q := (0, 8, 0)) rfl rfl]; simp [entA, e1, e2]) (by decide) (by decide) (dx dX5_init 33 rfl) ?_
  rw [len_h13]
  have NO_h14 : NOk (nw h13 22) := NO_h13.nw
  have LO_h14 : Lo a h (nw h13 22) := LO_h13.tr (Lo.nw (by rw [len_h13]; exact Nat.le_add_right _ _))
  have I0_h14 : xI (nw h13 22) a 0 = nI 0 := by rw [(nw_ne (h := h13) (k := 22) (b := a) (by rw [len_h13]; exact oa3 (by decide))).1]; exact I0_h13
  have Z1_h14 : xI (nw h13 22) (a + 1) = fun _ => 0 := by rw [(nw_ne (h := h13) (k := 22) (b := a + 1) (by rw [len_h13]; exact oa2 (by decide))).1]; exact Z1_h13
  have N1_h14 : xN (nw h13 22) a 1 = a + 1 + 1 := by rw [(nw_ne (h := h13) (k := 22) (b := a) (by rw [len_h13]; exact oa3 (by decide))).2.2]; exact N1_h13
  have Z2_h14 : xI (nw h13 22) (a + 2) = fun _ => 0 := by rw [(nw_ne (h := h13) (k := 22) (b := a + 2) (by rw [len_h13]; exact oa2 (by decide))).1]; exact Z2_h13
  have N2_h14 : xN (nw h13 22) a 2 = a + 2 + 1 := by rw [(nw_ne (h := h13) (k := 22) (b := a) (by rw [len_h13]; exact oa3 (by decide))).2.2]; exact N2_h13
  have I3_h14 : xI (nw h13 22) a 3 = nI 0 := by rw [(nw_ne (h := h13) (k := 22) (b := a) (by rw [len_h13]; exact oa3 (by decide))).1]; exact I3_h13
  have Z3_h14 : xI (nw h13 22) (a + 3) = fun _ => 0 := by rw [(nw_ne (h := h13) (k := 22) (b := a + 3) (by rw [len_h13]; exact oa2 (by decide))).1]; exact Z3_h13
  have N4_h14 : xN (nw h13 22) a 4 = a + 3 + 1 := by rw [(nw_ne (h := h13) (k := 22) (b := a) (by rw [len_h13]; exact oa3 (by decide))).2.2]; exact N4_h13
  have Z4_h14 : xI (nw h13 22) (a + 4) = fun _ => 0 := by rw [(nw_ne (h := h13) (k := 22) (b := a + 4) (by rw [len_h13]; exact oa2 (by decide))).1]; exact Z4_h13
  have N5_h14 : xN (nw h13 22) a 5 = a + 4 + 1 := by rw [(nw_ne (h := h13) (k := 22) (b := a) (by rw [len_h13]; exact oa3 (by decide))).2.2]; exact N5_h13
  have I6_h14 : xI (nw h13 22) a 6 = nI 0 := by rw [(nw_ne (h := h13) (k := 22) (b := a) (by rw [len_h13]; exact oa3 (by decide))).1]; exact I6_h13
  have Z5_h14 : xI (nw h13 22) (a + 5) = fun _ => 0 := by rw [(nw_ne (h := h13) (k := 22) (b := a + 5) (by rw [len_h13]; exact oa2 (by decide))).1]; exact Z5_h13
  have N7_h14 : xN (nw h13 22) a 7 = a + 5 + 1 := by rw [(nw_ne (h := h13) (k := 22) (b := a) (by rw [len_h13]; exact oa3 (by decide))).2.2]; exact N7_h13
  have Z6_h14 : xI (nw h13 22) (a + 6) = fun _ => 0 := by have q9 := nw_I (h := h13) (k := 22); rw [len_h13] at q9; exact q9
  have K_h14 : xK (nw h13 22) = xK h ++ [20, 20, 21, 21, 22, 22] := by show xK h13 ++ _ = _; rw [K_h13, List.append_assoc]; rfl
  generalize nw h13 22 = h14 at NO_h14 LO_h14 I0_h14 Z1_h14 N1_h14 Z2_h14 N2_h14 I3_h14 Z3_h14 N4_h14 Z4_h14 N5_h14 I6_h14 Z5_h14 N7_h14 Z6_h14 K_h14 ⊢
  have len_h14 : (xK h14).length = a + 7 := by rw [K_h14, List.length_append, hlen]; rfl
  refine r_putNF (k := 13) (j := 8) (t := 0) C hI rfl rfl rfl (by decide) f_X5_37 rfl rfl (fun _ => rfl) (fun _ => rfl) (dx dX5_init 34 rfl) ?_
  have NO_h15 : NOk (sN h14 a 8 (a + 6 + 1)) := NO_h14.sN (by rw [len_h14]; exact oa6 (by decide))
  have LO_h15 : Lo a h (sN h14 a 8 (a + 6 + 1)) := LO_h14.tr (Lo.sN (Nat.le_refl _))
  have I0_h15 : xI (sN h14 a 8 (a + 6 + 1)) a 0 = nI 0 := I0_h14
  have Z1_h15 : xI (sN h14 a 8 (a + 6 + 1)) (a + 1) = fun _ => 0 := Z1_h14
  have N1_h15 : xN (sN h14 a 8 (a + 6 + 1)) a 1 = a + 1 + 1 := (sN_ne (by decide)).trans N1_h14
  have Z2_h15 : xI (sN h14 a 8 (a + 6 + 1)) (a + 2) = fun _ => 0 := Z2_h14
  have N2_h15 : xN (sN h14 a 8 (a + 6 + 1)) a 2 = a + 2 + 1 := (sN_ne (by decide)).trans N2_h14
  have I3_h15 : xI (sN h14 a 8 (a + 6 + 1)) a 3 = nI 0 := I3_h14
  have Z3_h15 : xI (sN h14 a 8 (a + 6 + 1)) (a + 3) = fun _ => 0 := Z3_h14
  have N4_h15 : xN (sN h14 a 8 (a + 6 + 1)) a 4 = a + 3 + 1 := (sN_ne (by decide)).trans N4_h14
  have Z4_h15 : xI (sN h14 a 8 (a + 6 + 1)) (a + 4) = fun _ => 0 := Z4_h14
  have N5_h15 : xN (sN h14 a 8 (a + 6 + 1)) a 5 = a + 4 + 1 := (sN_ne (by decide)).trans N5_h14
  have I6_h15 : xI (sN h14 a 8 (a + 6 + 1)) a 6 = nI 0 := I6_h14
  have Z5_h15 : xI (sN h14 a 8 (a + 6 + 1)) (a + 5) = fun _ => 0 := Z5_h14
  have N7_h15 : xN (sN h14 a 8 (a + 6 + 1)) a 7 = a + 5 + 1 := (sN_ne (by decide)).trans N7_h14
  have Z6_h15 : xI (sN h14 a 8 (a + 6 + 1)) (a + 6) = fun _ => 0 := Z6_h14
  have K_h15 : xK (sN h14 a 8 (a + 6 + 1)) = xK h ++ [20, 20, 21, 21, 22, 22] := K_h14
  have N8_h15 : xN (sN h14 a 8 (a + 6 + 1)) a 8 = a + 6 + 1 := sN_at
  generalize sN h14 a 8 (a + 6 + 1) = h15 at NO_h15 LO_h15 I0_h15 Z1_h15 N1_h15 Z2_h15 N2_h15 I3_h15 Z3_h15 N4_h15 Z4_h15 N5_h15 I6_h15 Z5_h15 N7_h15 Z6_h15 K_h15 N8_h15 ⊢
  have len_h15 : (xK h15).length = a + 7 := by rw [K_h15, List.length_append, hlen]; rfl
  refine r_aload_n C (dx dX5_init 35 rfl) rfl ?_
  refine r_bipush (v := nI 8) C (dx dX5_init 36 rfl) rfl ?_
  refine r_newa (kk := 23) (t := 3) (n := 8) (ty := .boolean) (S := "[" ++ (.boolean : FieldType).toString) (a0 := (8, .inl (fun _ => 0))) C X rfl rfl (by decide) (by rw [K_h15]; exact ⟨[22], by rw [List.append_assoc, List.append_assoc]; rfl⟩) NO_h15 (by rw [len_h15]; exact oa4 hb (by decide)) rfl q_ac_boolean (fun _ => rfl) (fun _ _ q => q) (fun _ => rfl) (fun dA f h9 a9 e1 e2 => by rw [ent_arr (q := (3, 8, 0)) rfl rfl]; simp [entA, e1, e2]) (by decide) (by decide) (dx dX5_init 37 rfl) ?_
  rw [len_h15]
  have NO_h16 : NOk (nw h15 23) := NO_h15.nw
  have LO_h16 : Lo a h (nw h15 23) := LO_h15.tr (Lo.nw (by rw [len_h15]; exact Nat.le_add_right _ _))
  have I0_h16 : xI (nw h15 23) a 0 = nI 0 := by rw [(nw_ne (h := h15) (k := 23) (b := a) (by rw [len_h15]; exact oa3 (by decide))).1]; exact I0_h15
  have Z1_h16 : xI (nw h15 23) (a + 1) = fun _ => 0 := by rw [(nw_ne (h := h15) (k := 23) (b := a + 1) (by rw [len_h15]; exact oa2 (by decide))).1]; exact Z1_h15
  have N1_h16 : xN (nw h15 23) a 1 = a + 1 + 1 := by rw [(nw_ne (h := h15) (k := 23) (b := a) (by rw [len_h15]; exact oa3 (by decide))).2.2]; exact N1_h15
  have Z2_h16 : xI (nw h15 23) (a + 2) = fun _ => 0 := by rw [(nw_ne (h := h15) (k := 23) (b := a + 2) (by rw [len_h15]; exact oa2 (by decide))).1]; exact Z2_h15
  have N2_h16 : xN (nw h15 23) a 2 = a + 2 + 1 := by rw [(nw_ne (h := h15) (k := 23) (b := a) (by rw [len_h15]; exact oa3 (by decide))).2.2]; exact N2_h15
  have I3_h16 : xI (nw h15 23) a 3 = nI 0 := by rw [(nw_ne (h := h15) (k := 23) (b := a) (by rw [len_h15]; exact oa3 (by decide))).1]; exact I3_h15
  have Z3_h16 : xI (nw h15 23) (a + 3) = fun _ => 0 := by rw [(nw_ne (h := h15) (k := 23) (b := a + 3) (by rw [len_h15]; exact oa2 (by decide))).1]; exact Z3_h15
  have N4_h16 : xN (nw h15 23) a 4 = a + 3 + 1 := by rw [(nw_ne (h := h15) (k := 23) (b := a) (by rw [len_h15]; exact oa3 (by decide))).2.2]; exact N4_h15
  have Z4_h16 : xI (nw h15 23) (a + 4) = fun _ => 0 := by rw [(nw_ne (h := h15) (k := 23) (b := a + 4) (by rw [len_h15]; exact oa2 (by decide))).1]; exact Z4_h15
  have N5_h16 : xN (nw h15 23) a 5 = a + 4 + 1 := by rw [(nw_ne (h := h15) (k := 23) (b := a) (by rw [len_h15]; exact oa3 (by decide))).2.2]; exact N5_h15
  have I6_h16 : xI (nw h15 23) a 6 = nI 0 := by rw [(nw_ne (h := h15) (k := 23) (b := a) (by rw [len_h15]; exact oa3 (by decide))).1]; exact I6_h15
  have Z5_h16 : xI (nw h15 23) (a + 5) = fun _ => 0 := by rw [(nw_ne (h := h15) (k := 23) (b := a + 5) (by rw [len_h15]; exact oa2 (by decide))).1]; exact Z5_h15
  have N7_h16 : xN (nw h15 23) a 7 = a + 5 + 1 := by rw [(nw_ne (h := h15) (k := 23) (b := a) (by rw [len_h15]; exact oa3 (by decide))).2.2]; exact N7_h15
  have Z6_h16 : xI (nw h15 23) (a + 6) = fun _ => 0 := by rw [(nw_ne (h := h15) (k := 23) (b := a + 6) (by rw [len_h15]; exact oa2 (by decide))).1]; exact Z6_h15
  have N8_h16 : xN (nw h15 23) a 8 = a + 6 + 1 := by rw [(nw_ne (h := h15) (k := 23) (b := a) (by rw [len_h15]; exact oa3 (by decide))).2.2]; exact N8_h15
  have Z7_h16 : xI (nw h15 23) (a + 7) = fun _ => 0 := by have q9 := nw_I (h := h15) (k := 23); rw [len_h15] at q9; exact q9
  have K_h16 : xK (nw h15 23) = xK h ++ [20, 20, 21, 21, 22, 22, 23] := by show xK h15 ++ _ = _; rw [K_h15, List.append_assoc]; rfl
  generalize nw h15 23 = h16 at NO_h16 LO_h16 I0_h16 Z1_h16 N1_h16 Z2_h16 N2_h16 I3_h16 Z3_h16 N4_h16 Z4_h16 N5_h16 I6_h16 Z5_h16 N7_h16 Z6_h16 N8_h16 Z7_h16 K_h16 ⊢
  have len_h16 : (xK h16).length = a + 8 := by rw [K_h16, List.length_append, hlen]; rfl
  refine r_putNF (k := 13) (j := 9) (t := 0) C hI rfl rfl rfl (by decide) f_X5_40 rfl rfl (fun _ => rfl) (fun _ => rfl) (dx dX5_init 38 rfl) ?_
  have NO_h17 : NOk (sN h16 a 9 (a + 7 + 1)) := NO_h16.sN (by rw [len_h16]; exact oa6 (by decide))
  have LO_h17 : Lo a h (sN h16 a 9 (a + 7 + 1)) := LO_h16.tr (Lo.sN (Nat.le_refl _))
  have I0_h17 : xI (sN h16 a 9 (a + 7 + 1)) a 0 = nI 0 := I0_h16
  have Z1_h17 : xI (sN h16 a 9 (a + 7 + 1)) (a + 1) = fun _ => 0 := Z1_h16
  have N1_h17 : xN (sN h16 a 9 (a + 7 + 1)) a 1 = a + 1 + 1 := (sN_ne (by decide)).trans N1_h16
  have Z2_h17 : xI (sN h16 a 9 (a + 7 + 1)) (a + 2) = fun _ => 0 := Z2_h16
  have N2_h17 : xN (sN h16 a 9 (a + 7 + 1)) a 2 = a + 2 + 1 := (sN_ne (by decide)).trans N2_h16
  have I3_h17 : xI (sN h16 a 9 (a + 7 + 1)) a 3 = nI 0 := I3_h16
  have Z3_h17 : xI (sN h16 a 9 (a + 7 + 1)) (a + 3) = fun _ => 0 := Z3_h16
  have N4_h17 : xN (sN h16 a 9 (a + 7 + 1)) a 4 = a + 3 + 1 := (sN_ne (by decide)).trans N4_h16
  have Z4_h17 : xI (sN h16 a 9 (a + 7 + 1)) (a + 4) = fun _ => 0 := Z4_h16
  have N5_h17 : xN (sN h16 a 9 (a + 7 + 1)) a 5 = a + 4 + 1 := (sN_ne (by decide)).trans N5_h16
  have I6_h17 : xI (sN h16 a 9 (a + 7 + 1)) a 6 = nI 0 := I6_h16
  have Z5_h17 : xI (sN h16 a 9 (a + 7 + 1)) (a + 5) = fun _ => 0 := Z5_h16
  have N7_h17 : xN (sN h16 a 9 (a + 7 + 1)) a 7 = a + 5 + 1 := (sN_ne (by decide)).trans N7_h16
  have Z6_h17 : xI (sN h16 a 9 (a + 7 + 1)) (a + 6) = fun _ => 0 := Z6_h16
  have N8_h17 : xN (sN h16 a 9 (a + 7 + 1)) a 8 = a + 6 + 1 := (sN_ne (by decide)).trans N8_h16
  have Z7_h17 : xI (sN h16 a 9 (a + 7 + 1)) (a + 7) = fun _ => 0 := Z7_h16
  have K_h17 : xK (sN h16 a 9 (a + 7 + 1)) = xK h ++ [20, 20, 21, 21, 22, 22, 23] := K_h16
  have N9_h17 : xN (sN h16 a 9 (a + 7 + 1)) a 9 = a + 7 + 1 := sN_at
  generalize sN h16 a 9 (a + 7 + 1) = h17 at NO_h17 LO_h17 I0_h17 Z1_h17 N1_h17 Z2_h17 N2_h17 I3_h17 Z3_h17 N4_h17 Z4_h17 N5_h17 I6_h17 Z5_h17 N7_h17 Z6_h17 N8_h17 Z7_h17 K_h17 N9_h17 ⊢
  have len_h17 : (xK h17).length = a + 8 := by rw [K_h17, List.length_append, hlen]; rfl
  refine r_aload_n C (dx dX5_init 39 rfl) rfl ?_
  refine r_bipush (v := nI 8) C (dx dX5_init 40 rfl) rfl ?_
  refine r_newa (kk := 22) (t := 0) (n := 8) (ty := .int) (S := "[" ++ (.int : FieldType).toString) (a0 := (8, .inl (fun _ => 0))) C X rfl rfl (by decide) (by rw [K_h17]; exact ⟨[], by rw [List.append_assoc, List.append_assoc]; rfl⟩) NO_h17 (by rw [len_h17]; exact oa4 hb (by decide)) rfl q_ac_int (fun _ => rfl) (fun _ _ q => q) (fun _ => rfl) (fun dA f h9 a9 e1 e2 => by rw [ent_arr (q := (0, 8, 0)) rfl rfl]; simp [entA, e1, e2]) (by decide) (by decide) (dx dX5_init 41 rfl) ?_
  rw [len_h17]
  have NO_h18 : NOk (nw h17 22) := NO_h17.nw
  have LO_h18 : Lo a h (nw h17 22) := LO_h17.tr (Lo.nw (by rw [len_h17]; exact Nat.le_add_right _ _))
  have I0_h18 : xI (nw h17 22) a 0 = nI 0 := by rw [(nw_ne (h := h17) (k := 22) (b := a) (by rw [len_h17]; exact oa3 (by decide))).1]; exact I0_h17
  have Z1_h18 : xI (nw h17 22) (a + 1) = fun _ => 0 := by rw [(nw_ne (h := h17) (k := 22) (b := a + 1) (by rw [len_h17]; exact oa2 (by decide))).1]; exact Z1_h17
  have N1_h18 : xN (nw h17 22) a 1 = a + 1 + 1 := by rw [(nw_ne (h := h17) (k := 22) (b := a) (by rw [len_h17]; exact oa3 (by decide))).2.2]; exact N1_h17
  have Z2_h18 : xI (nw h17 22) (a + 2) = fun _ => 0 := by rw [(nw_ne (h := h17) (k := 22) (b := a + 2) (by rw [len_h17]; exact oa2 (by decide))).1]; exact Z2_h17
  have N2_h18 : xN (nw h17 22) a 2 = a + 2 + 1 := by rw [(nw_ne (h := h17) (k := 22) (b := a) (by rw [len_h17]; exact oa3 (by decide))).2.2]; exact N2_h17
  have I3_h18 : xI (nw h17 22) a 3 = nI 0 := by rw [(nw_ne (h := h17) (k := 22) (b := a) (by rw [len_h17]; exact oa3 (by decide))).1]; exact I3_h17
  have Z3_h18 : xI (nw h17 22) (a + 3) = fun _ => 0 := by rw [(nw_ne (h := h17) (k := 22) (b := a + 3) (by rw [len_h17]; exact oa2 (by decide))).1]; exact Z3_h17
  have N4_h18 : xN (nw h17 22) a 4 = a + 3 + 1 := by rw [(nw_ne (h := h17) (k := 22) (b := a) (by rw [len_h17]; exact oa3 (by decide))).2.2]; exact N4_h17
  have Z4_h18 : xI (nw h17 22) (a + 4) = fun _ => 0 := by rw [(nw_ne (h := h17) (k := 22) (b := a + 4) (by rw [len_h17]; exact oa2 (by decide))).1]; exact Z4_h17
  have N5_h18 : xN (nw h17 22) a 5 = a + 4 + 1 := by rw [(nw_ne (h := h17) (k := 22) (b := a) (by rw [len_h17]; exact oa3 (by decide))).2.2]; exact N5_h17
  have I6_h18 : xI (nw h17 22) a 6 = nI 0 := by rw [(nw_ne (h := h17) (k := 22) (b := a) (by rw [len_h17]; exact oa3 (by decide))).1]; exact I6_h17
  have Z5_h18 : xI (nw h17 22) (a + 5) = fun _ => 0 := by rw [(nw_ne (h := h17) (k := 22) (b := a + 5) (by rw [len_h17]; exact oa2 (by decide))).1]; exact Z5_h17
  have N7_h18 : xN (nw h17 22) a 7 = a + 5 + 1 := by rw [(nw_ne (h := h17) (k := 22) (b := a) (by rw [len_h17]; exact oa3 (by decide))).2.2]; exact N7_h17
  have Z6_h18 : xI (nw h17 22) (a + 6) = fun _ => 0 := by rw [(nw_ne (h := h17) (k := 22) (b := a + 6) (by rw [len_h17]; exact oa2 (by decide))).1]; exact Z6_h17
  have N8_h18 : xN (nw h17 22) a 8 = a + 6 + 1 := by rw [(nw_ne (h := h17) (k := 22) (b := a) (by rw [len_h17]; exact oa3 (by decide))).2.2]; exact N8_h17
  have Z7_h18 : xI (nw h17 22) (a + 7) = fun _ => 0 := by rw [(nw_ne (h := h17) (k := 22) (b := a + 7) (by rw [len_h17]; exact oa2 (by decide))).1]; exact Z7_h17
  have N9_h18 : xN (nw h17 22) a 9 = a + 7 + 1 := by rw [(nw_ne (h := h17) (k := 22) (b := a) (by rw [len_h17]; exact oa3 (by decide))).2.2]; exact N9_h17
  have Z8_h18 : xI (nw h17 22) (a + 8) = fun _ => 0 := by have q9 := nw_I (h := h17) (k := 22); rw [len_h17] at q9; exact q9
  have K_h18 : xK (nw h17 22) = xK h ++ [20, 20, 21, 21, 22, 22, 23, 22] := by show xK h17 ++ _ = _; rw [K_h17, List.append_assoc]; rfl
  generalize nw h17 22 = h18 at NO_h18 LO_h18 I0_h18 Z1_h18 N1_h18 Z2_h18 N2_h18 I3_h18 Z3_h18 N4_h18 Z4_h18 N5_h18 I6_h18 Z5_h18 N7_h18 Z6_h18 N8_h18 Z7_h18 N9_h18 Z8_h18 K_h18 ⊢
  have len_h18 : (xK h18).length = a + 9 := by rw [K_h18, List.length_append, hlen]; rfl
  refine r_putNF (k := 13) (j := 10) (t := 0) C hI rfl rfl rfl (by decide) f_X5_44 rfl rfl (fun _ => rfl) (fun _ => rfl) (dx dX5_init 42 rfl) ?_
  have NO_h19 : NOk (sN h18 a 10 (a + 8 + 1)) := NO_h18.sN (by rw [len_h18]; exact oa6 (by decide))
  have LO_h19 : Lo a h (sN h18 a 10 (a + 8 + 1)) := LO_h18.tr (Lo.sN (Nat.le_refl _))
  have I0_h19 : xI (sN h18 a 10 (a + 8 + 1)) a 0 = nI 0 := I0_h18
  have Z1_h19 : xI (sN h18 a 10 (a + 8 + 1)) (a + 1) = fun _ => 0 := Z1_h18
  have N1_h19 : xN (sN h18 a 10 (a + 8 + 1)) a 1 = a + 1 + 1 := (sN_ne (by decide)).trans N1_h18
  have Z2_h19 : xI (sN h18 a 10 (a + 8 + 1)) (a + 2) = fun _ => 0 := Z2_h18
  have N2_h19 : xN (sN h18 a 10 (a + 8 + 1)) a 2 = a + 2 + 1 := (sN_ne (by decide)).trans N2_h18
  have I3_h19 : xI (sN h18 a 10 (a + 8 + 1)) a 3 = nI 0 := I3_h18
  have Z3_h19 : xI (sN h18 a 10 (a + 8 + 1)) (a + 3) = fun _ => 0 := Z3_h18
  have N4_h19 : xN (sN h18 a 10 (a + 8 + 1)) a 4 = a + 3 + 1 := (sN_ne (by decide)).trans N4_h18
  have Z4_h19 : xI (sN h18 a 10 (a + 8 + 1)) (a + 4) = fun _ => 0 := Z4_h18
  have N5_h19 : xN (sN h18 a 10 (a + 8 + 1)) a 5 = a + 4 + 1 := (sN_ne (by decide)).trans N5_h18
  have I6_h19 : xI (sN h18 a 10 (a + 8 + 1)) a 6 = nI 0 := I6_h18
  have Z5_h19 : xI (sN h18 a 10 (a + 8 + 1)) (a + 5) = fun _ => 0 := Z5_h18
  have N7_h19 : xN (sN h18 a 10 (a + 8 + 1)) a 7 = a + 5 + 1 := (sN_ne (by decide)).trans N7_h18
  have Z6_h19 : xI (sN h18 a 10 (a + 8 + 1)) (a + 6) = fun _ => 0 := Z6_h18
  have N8_h19 : xN (sN h18 a 10 (a + 8 + 1)) a 8 = a + 6 + 1 := (sN_ne (by decide)).trans N8_h18
  have Z7_h19 : xI (sN h18 a 10 (a + 8 + 1)) (a + 7) = fun _ => 0 := Z7_h18
  have N9_h19 : xN (sN h18 a 10 (a + 8 + 1)) a 9 = a + 7 + 1 := (sN_ne (by decide)).trans N9_h18
  have Z8_h19 : xI (sN h18 a 10 (a + 8 + 1)) (a + 8) = fun _ => 0 := Z8_h18
  have K_h19 : xK (sN h18 a 10 (a + 8 + 1)) = xK h ++ [20, 20, 21, 21, 22, 22, 23, 22] := K_h18
  have N10_h19 : xN (sN h18 a 10 (a + 8 + 1)) a 10 = a + 8 + 1 := sN_at
  generalize sN h18 a 10 (a + 8 + 1) = h19 at NO_h19 LO_h19 I0_h19 Z1_h19 N1_h19 Z2_h19 N2_h19 I3_h19 Z3_h19 N4_h19 Z4_h19 N5_h19 I6_h19 Z5_h19 N7_h19 Z6_h19 N8_h19 Z7_h19 N9_h19 Z8_h19 K_h19 N10_h19 ⊢
  have len_h19 : (xK h19).length = a + 9 := by rw [K_h19, List.length_append, hlen]; rfl
  refine r_aload_n C (dx dX5_init 43 rfl) rfl ?_
  refine r_iconst (v := nI 1) C (dx dX5_init 44 rfl) rfl ?_
  refine r_putI (k := 13) (j := 11) (T := TX5) C rfl rfl rfl (by decide) f_X5_47 rfl rfl rfl (dx dX5_init 45 rfl) ?_
  have NO_h20 : NOk (sI h19 a 11 (nI 1)) := NO_h19
  have LO_h20 : Lo a h (sI h19 a 11 (nI 1)) := LO_h19.tr (Lo.sI (Nat.le_refl _))
  have I0_h20 : xI (sI h19 a 11 (nI 1)) a 0 = nI 0 := by rw [sI_at, if_neg (by decide)]; exact I0_h19
  have Z1_h20 : xI (sI h19 a 11 (nI 1)) (a + 1) = fun _ => 0 := by funext i; rw [sI_ne (oa7 (by decide))]; exact congrFun Z1_h19 i
  have N1_h20 : xN (sI h19 a 11 (nI 1)) a 1 = a + 1 + 1 := N1_h19
  have Z2_h20 : xI (sI h19 a 11 (nI 1)) (a + 2) = fun _ => 0 := by funext i; rw [sI_ne (oa7 (by decide))]; exact congrFun Z2_h19 i
  have N2_h20 : xN (sI h19 a 11 (nI 1)) a 2 = a + 2 + 1 := N2_h19
  have I3_h20 : xI (sI h19 a 11 (nI 1)) a 3 = nI 0 := by rw [sI_at, if_neg (by decide)]; exact I3_h19
  have Z3_h20 : xI (sI h19 a 11 (nI 1)) (a + 3) = fun _ => 0 := by funext i; rw [sI_ne (oa7 (by decide))]; exact congrFun Z3_h19 i
  have N4_h20 : xN (sI h19 a 11 (nI 1)) a 4 = a + 3 + 1 := N4_h19
  have Z4_h20 : xI (sI h19 a 11 (nI 1)) (a + 4) = fun _ => 0 := by funext i; rw [sI_ne (oa7 (by decide))]; exact congrFun Z4_h19 i
  have N5_h20 : xN (sI h19 a 11 (nI 1)) a 5 = a + 4 + 1 := N5_h19
  have I6_h20 : xI (sI h19 a 11 (nI 1)) a 6 = nI 0 := by rw [sI_at, if_neg (by decide)]; exact I6_h19
  have Z5_h20 : xI (sI h19 a 11 (nI 1)) (a + 5) = fun _ => 0 := by funext i; rw [sI_ne (oa7 (by decide))]; exact congrFun Z5_h19 i
  have N7_h20 : xN (sI h19 a 11 (nI 1)) a 7 = a + 5 + 1 := N7_h19
  have Z6_h20 : xI (sI h19 a 11 (nI 1)) (a + 6) = fun _ => 0 := by funext i; rw [sI_ne (oa7 (by decide))]; exact congrFun Z6_h19 i
  have N8_h20 : xN (sI h19 a 11 (nI 1)) a 8 = a + 6 + 1 := N8_h19
  have Z7_h20 : xI (sI h19 a 11 (nI 1)) (a + 7) = fun _ => 0 := by funext i; rw [sI_ne (oa7 (by decide))]; exact congrFun Z7_h19 i
  have N9_h20 : xN (sI h19 a 11 (nI 1)) a 9 = a + 7 + 1 := N9_h19
  have Z8_h20 : xI (sI h19 a 11 (nI 1)) (a + 8) = fun _ => 0 := by funext i; rw [sI_ne (oa7 (by decide))]; exact congrFun Z8_h19 i
  have K_h20 : xK (sI h19 a 11 (nI 1)) = xK h ++ [20, 20, 21, 21, 22, 22, 23, 22] := K_h19
  have N10_h20 : xN (sI h19 a 11 (nI 1)) a 10 = a + 8 + 1 := N10_h19
  have I11_h20 : xI (sI h19 a 11 (nI 1)) a 11 = nI 1 := by rw [sI_at, if_pos rfl]
  generalize sI h19 a 11 (nI 1) = h20 at NO_h20 LO_h20 I0_h20 Z1_h20 N1_h20 Z2_h20 N2_h20 I3_h20 Z3_h20 N4_h20 Z4_h20 N5_h20 I6_h20 Z5_h20 N7_h20 Z6_h20 N8_h20 Z7_h20 N9_h20 Z8_h20 K_h20 N10_h20 I11_h20 ⊢
  have len_h20 : (xK h20).length = a + 9 := by rw [K_h20, List.length_append, hlen]; rfl
  exact F.2.2.1 _ _ _ rfl (dx dX5_init 46 rfl) K_h20 ⟨rfl, NO_h20, LO_h20, N1_h20, N2_h20, N4_h20, N5_h20, N7_h20, N8_h20, N9_h20, N10_h20, ⟨I0_h20, I3_h20, I6_h20, I11_h20, fun i hi => congrFun Z1_h20 i, fun i hi => congrFun Z2_h20 i, fun i hi => congrFun Z3_h20 i, fun i hi => congrFun Z4_h20 i, fun i hi => congrFun Z5_h20 i, fun i hi => congrFun Z6_h20 i, fun i hi => congrFun Z7_h20 i, fun i hi => congrFun Z8_h20 i, by decide, by decide, by decide, fun i hi => rfl⟩⟩
set_option maxHeartbeats 4000000 in
theorem c_X7_init {l : Launch} {h : Hp} {a : Nat} (hlen : (xK h).length = a + 1) (hb : a + 33 < 900) (hN : NOk h) (hz1 : xI h a = fun _ => 0) (hz2 : xL h a = fun _ => 0) (hz3 : xN h a = fun _ => 0) : Ms l yX7_init cX7_init 1 none 2 [vr 15 a] h (xK h ++ [22, 22, 22, 33, 31, 31, 31, 31, 31, 31, 31, 31, 31, 22, 22, 30, 22, 20, 20, 21, 21, 34, 27, 27, 27, 27, 27, 27, 27, 27, 20]) (fun r h' => r = none ∧ NOk h' ∧ Lo a h h' ∧ xN h' a 0 = a + 1 + 1 ∧ xN h' a 1 = a + 2 + 1 ∧ xN h' a 2 = a + 3 + 1 ∧ xN h' a 3 = a + 4 + 1 ∧ xN h' a 4 = a + 13 + 1 ∧ xN h' a 5 = a + 14 + 1 ∧ xN h' a 6 = a + 15 + 1 ∧ xN h' a 7 = a + 16 + 1 ∧ xN h' a 9 = a + 17 + 1 ∧ xN h' a 11 = a + 18 + 1 ∧ xN h' a 12 = a + 19 + 1 ∧ xN h' a 14 = a + 20 + 1 ∧ xN h' a 15 = a + 21 + 1 ∧ xN h' a 17 = a + 22 + 1 ∧ xN h' a 30 = a + 31 + 1 ∧ MilAt h' a v00 ∧ MshAt h' a g00 ∧ xI h' a 8 = nI 0 ∧ xN h' a 21 = 0 ∧ xN h' a 22 = 0) := by
  refine Ms.of2 (by decide) (Nat.le_of_ble_eq_true rfl) (fun G C NM E0 X F => ?_)
  have C : Cx G cX7_init 1 RX7 := C
  have hI : CI G := NM
  show Rr G 0 [(0, vr 15 a)] [] h
  have K0 : xK h = xK h ++ [] := (List.append_nil _).symm
  have L0 : Lo a h h := Lo.rf
  have len_h : (xK h).length = a + 1 := hlen
  have z0_8 : xI h a 8 = 0 := by rw [hz1]
  have z0_10 : xI h a 10 = 0 := by rw [hz1]
  have z0_13 : xI h a 13 = 0 := by rw [hz1]
  have z0_16 : xI h a 16 = 0 := by rw [hz1]
  have z0_20 : xI h a 20 = 0 := by rw [hz1]
  have z0_21 : xN h a 21 = 0 := by rw [hz3]
  have z0_22 : xN h a 22 = 0 := by rw [hz3]
  refine r_aload_n C (dx dX7_init 0 rfl) rfl ?_
  refine r_obj C X (by decide) l_X7_1 q_oi q_oc (dx dX7_init 1 rfl) ?_
  refine r_aload_n C (dx dX7_init 2 rfl) rfl ?_
  refine r_bipush (v := nI 8) C (dx dX7_init 3 rfl) rfl ?_
  refine r_newa (kk := 22) (t := 0) (n := 8) (ty := .int) (S := "[" ++ (.int : FieldType).toString) (a0 := (8, .inl (fun _ => 0))) C X rfl rfl (by decide) ⟨[22, 22, 33, 31, 31, 31, 31, 31, 31, 31, 31, 31, 22, 22, 30, 22, 20, 20, 21, 21, 34, 27, 27, 27, 27, 27, 27, 27, 27, 20], by simp⟩ hN (by rw [len_h]; exact oa4 hb (by decide)) rfl q_ac_int (fun _ => rfl) (fun _ _ q => q) (fun _ => rfl) (fun dA f h9 a9 e1 e2 => by rw [ent_arr (q := (0, 8, 0)) rfl rfl]; simp [entA, e1, e2]) (by decide) (by decide) (dx dX7_init 4 rfl) ?_
  rw [len_h]
  have NO_h1 : NOk (nw h 22) := hN.nw
  have LO_h1 : Lo a h (nw h 22) := L0.tr (Lo.nw (by rw [len_h]; exact Nat.le_add_right _ _))
  have I8_h1 : xI (nw h 22) a 8 = 0 := by rw [(nw_ne (h := h) (k := 22) (b := a) (by rw [len_h]; exact oa3 (by decide))).1]; exact z0_8
  have I10_h1 : xI (nw h 22) a 10 = 0 := by rw [(nw_ne (h := h) (k := 22) (b := a) (by rw [len_h]; exact oa3 (by decide))).1]; exact z0_10
  have I13_h1 : xI (nw h 22) a 13 = 0 := by rw [(nw_ne (h := h) (k := 22) (b := a) (by rw [len_h]; exact oa3 (by decide))).1]; exact z0_13
  have I16_h1 : xI (nw h 22) a 16 = 0 := by rw [(nw_ne (h := h) (k := 22) (b := a) (by rw [len_h]; exact oa3 (by decide))).1]; exact z0_16
  have I20_h1 : xI (nw h 22) a 20 = 0 := by rw [(nw_ne (h := h) (k := 22) (b := a) (by rw [len_h]; exact oa3 (by decide))).1]; exact z0_20
  have N21_h1 : xN (nw h 22) a 21 = 0 := by rw [(nw_ne (h := h) (k := 22) (b := a) (by rw [len_h]; exact oa3 (by decide))).2.2]; exact z0_21
  have N22_h1 : xN (nw h 22) a 22 = 0 := by rw [(nw_ne (h := h) (k := 22) (b := a) (by rw [len_h]; exact oa3 (by decide))).2.2]; exact z0_22
  have Z1_h1 : xI (nw h 22) (a + 1) = fun _ => 0 := by have q9 := nw_I (h := h) (k := 22); rw [len_h] at q9; exact q9
  have K_h1 : xK (nw h 22) = xK h ++ [22] := rfl
  generalize nw h 22 = h1 at NO_h1 LO_h1 I8_h1 I10_h1 I13_h1 I16_h1 I20_h1 N21_h1 N22_h1 Z1_h1 K_h1 ⊢
  have len_h1 : (xK h1).length = a + 2 := by rw [K_h1, List.length_append, hlen]; rfl
  refine r_putNF (k := 15) (j := 0) (t := 0) C hI rfl rfl rfl (by decide) f_X7_7 rfl rfl (fun _ => rfl) (fun _ => rfl) (dx dX7_init 5 rfl) ?_
  have NO_h2 : NOk (sN h1 a 0 (a + 1 + 1)) := NO_h1.sN (by rw [len_h1]; exact oa6 (by decide))
  have LO_h2 : Lo a h (sN h1 a 0 (a + 1 + 1)) := LO_h1.tr (Lo.sN (Nat.le_refl _))
  have I8_h2 : xI (sN h1 a 0 (a + 1 + 1)) a 8 = 0 := I8_h1
  have I10_h2 : xI (sN h1 a 0 (a + 1 + 1)) a 10 = 0 := I10_h1
  have I13_h2 : xI (sN h1 a 0 (a + 1 + 1)) a 13 = 0 := I13_h1
  have I16_h2 : xI (sN h1 a 0 (a + 1 + 1)) a 16 = 0 := I16_h1
  have I20_h2 : xI (sN h1 a 0 (a + 1 + 1)) a 20 = 0 := I20_h1
  have N21_h2 : xN (sN h1 a 0 (a + 1 + 1)) a 21 = 0 := (sN_ne (by decide)).trans N21_h1
  have N22_h2 : xN (sN h1 a 0 (a + 1 + 1)) a 22 = 0 := (sN_ne (by decide)).trans N22_h1
  have Z1_h2 : xI (sN h1 a 0 (a + 1 + 1)) (a + 1) = fun _ => 0 := Z1_h1
  have K_h2 : xK (sN h1 a 0 (a + 1 + 1)) = xK h ++ [22] := K_h1
  have N0_h2 : xN (sN h1 a 0 (a + 1 + 1)) a 0 = a + 1 + 1 := sN_at
  generalize sN h1 a 0 (a + 1 + 1) = h2 at NO_h2 LO_h2 I8_h2 I10_h2 I13_h2 I16_h2 I20_h2 N21_h2 N22_h2 Z1_h2 K_h2 N0_h2 ⊢
  have len_h2 : (xK h2).length = a + 2 := by rw [K_h2, List.length_append, hlen]; rfl
  refine r_aload_n C (dx dX7_init 6 rfl) rfl ?_
  refine r_bipush (v := nI 8) C (dx dX7_init 7 rfl) rfl ?_
  refine r_newa (kk := 22) (t := 0) (n := 8) (ty := .int) (S := "[" ++ (.int : FieldType).toString) (a0 := (8, .inl (fun _ => 0))) C X rfl rfl (by decide) (by rw [K_h2]; exact ⟨[22, 33, 31, 31, 31, 31, 31, 31, 31, 31, 31, 22, 22, 30, 22, 20, 20, 21, 21, 34, 27, 27, 27, 27, 27, 27, 27, 27, 20], by rw [List.append_assoc, List.append_assoc]; rfl⟩) NO_h2 (by rw [len_h2]; exact oa4 hb (by decide)) rfl q_ac_int (fun _ => rfl) (fun _ _ q => q) (fun _ => rfl) (fun dA f h9 a9 e1 e2 => by rw [ent_arr (q := (0, 8, 0)) rfl rfl]; simp [entA, e1, e2]) (by decide) (by decide) (dx dX7_init 8 rfl) ?_
  rw [len_h2]
  have NO_h3 : NOk (nw h2 22) := NO_h2.nw
  have LO_h3 : Lo a h (nw h2 22) := LO_h2.tr (Lo.nw (by rw [len_h2]; exact Nat.le_add_right _ _))
  have I8_h3 : xI (nw h2 22) a 8 = 0 := by rw [(nw_ne (h := h2) (k := 22) (b := a) (by rw [len_h2]; exact oa3 (by decide))).1]; exact I8_h2
  have I10_h3 : xI (nw h2 22) a 10 = 0 := by rw [(nw_ne (h := h2) (k := 22) (b := a) (by rw [len_h2]; exact oa3 (by decide))).1]; exact I10_h2
  have I13_h3 : xI (nw h2 22) a 13 = 0 := by rw [(nw_ne (h := h2) (k := 22) (b := a) (by rw [len_h2]; exact oa3 (by decide))).1]; exact I13_h2
  have I16_h3 : xI (nw h2 22) a 16 = 0 := by rw [(nw_ne (h := h2) (k := 22) (b := a) (by rw [len_h2]; exact oa3 (by decide))).1]; exact I16_h2
  have I20_h3 : xI (nw h2 22) a 20 = 0 := by rw [(nw_ne (h := h2) (k := 22) (b := a) (by rw [len_h2]; exact oa3 (by decide))).1]; exact I20_h2
  have N21_h3 : xN (nw h2 22) a 21 = 0 := by rw [(nw_ne (h := h2) (k := 22) (b := a) (by rw [len_h2]; exact oa3 (by decide))).2.2]; exact N21_h2
  have N22_h3 : xN (nw h2 22) a 22 = 0 := by rw [(nw_ne (h := h2) (k := 22) (b := a) (by rw [len_h2]; exact oa3 (by decide))).2.2]; exact N22_h2
  have Z1_h3 : xI (nw h2 22) (a + 1) = fun _ => 0 := by rw [(nw_ne (h := h2) (k := 22) (b := a + 1) (by rw [len_h2]; exact oa2 (by decide))).1]; exact Z1_h2
  have N0_h3 : xN (nw h2 22) a 0 = a + 1 + 1 := by rw [(nw_ne (h := h2) (k := 22) (b := a) (by rw [len_h2]; exact oa3 (by decide))).2.2]; exact N0_h2
  have Z2_h3 : xI (nw h2 22) (a + 2) = fun _ => 0 := by have q9 := nw_I (h := h2) (k := 22); rw [len_h2] at q9; exact q9
  have K_h3 : xK (nw h2 22) = xK h ++ [22, 22] := by show xK h2 ++ _ = _; rw [K_h2, List.append_assoc]; rfl
  generalize nw h2 22 = h3 at NO_h3 LO_h3 I8_h3 I10_h3 I13_h3 I16_h3 I20_h3 N21_h3 N22_h3 Z1_h3 N0_h3 Z2_h3 K_h3 ⊢
  have len_h3 : (xK h3).length = a + 3 := by rw [K_h3, List.length_append, hlen]; rfl
  refine r_putNF (k := 15) (j := 1) (t := 0) C hI rfl rfl rfl (by decide) f_X7_13 rfl rfl (fun _ => rfl) (fun _ => rfl) (dx dX7_init 9 rfl) ?_
  have NO_h4 : NOk (sN h3 a 1 (a + 2 + 1)) := NO_h3.sN (by rw [len_h3]; exact oa6 (by decide))
  have LO_h4 : Lo a h (sN h3 a 1 (a + 2 + 1)) := LO_h3.tr (Lo.sN (Nat.le_refl _))
  have I8_h4 : xI (sN h3 a 1 (a + 2 + 1)) a 8 = 0 := I8_h3
  have I10_h4 : xI (sN h3 a 1 (a + 2 + 1)) a 10 = 0 := I10_h3
  have I13_h4 : xI (sN h3 a 1 (a + 2 + 1)) a 13 = 0 := I13_h3
  have I16_h4 : xI (sN h3 a 1 (a + 2 + 1)) a 16 = 0 := I16_h3
  have I20_h4 : xI (sN h3 a 1 (a + 2 + 1)) a 20 = 0 := I20_h3
  have N21_h4 : xN (sN h3 a 1 (a + 2 + 1)) a 21 = 0 := (sN_ne (by decide)).trans N21_h3
  have N22_h4 : xN (sN h3 a 1 (a + 2 + 1)) a 22 = 0 := (sN_ne (by decide)).trans N22_h3
  have Z1_h4 : xI (sN h3 a 1 (a + 2 + 1)) (a + 1) = fun _ => 0 := Z1_h3
  have N0_h4 : xN (sN h3 a 1 (a + 2 + 1)) a 0 = a + 1 + 1 := (sN_ne (by decide)).trans N0_h3
  have Z2_h4 : xI (sN h3 a 1 (a + 2 + 1)) (a + 2) = fun _ => 0 := Z2_h3
  have K_h4 : xK (sN h3 a 1 (a + 2 + 1)) = xK h ++ [22, 22] := K_h3
  have N1_h4 : xN (sN h3 a 1 (a + 2 + 1)) a 1 = a + 2 + 1 := sN_at
  generalize sN h3 a 1 (a + 2 + 1) = h4 at NO_h4 LO_h4 I8_h4 I10_h4 I13_h4 I16_h4 I20_h4 N21_h4 N22_h4 Z1_h4 N0_h4 Z2_h4 K_h4 N1_h4 ⊢
  have len_h4 : (xK h4).length = a + 3 := by rw [K_h4, List.length_append, hlen]; rfl
  refine r_aload_n C (dx dX7_init 10 rfl) rfl ?_
  refine r_bipush (v := nI 8) C (dx dX7_init 11 rfl) rfl ?_
  refine r_newa (kk := 22) (t := 0) (n := 8) (ty := .int) (S := "[" ++ (.int : FieldType).toString) (a0 := (8, .inl (fun _ => 0))) C X rfl rfl (by decide) (by rw [K_h4]; exact ⟨[33, 31, 31, 31, 31, 31, 31, 31, 31, 31, 22, 22, 30, 22, 20, 20, 21, 21, 34, 27, 27, 27, 27, 27, 27, 27, 27, 20], by rw [List.append_assoc, List.append_assoc]; rfl⟩) NO_h4 (by rw [len_h4]; exact oa4 hb (by decide)) rfl q_ac_int (fun _ => rfl) (fun _ _ q => q) (fun _ => rfl) (fun dA f h9 a9 e1 e2 => by rw [ent_arr (q := (0, 8, 0)) rfl rfl]; simp [entA, e1, e2]) (by decide) (by decide) (dx dX7_init 12 rfl) ?_
  rw [len_h4]
  have NO_h5 : NOk (nw h4 22) := NO_h4.nw
  have LO_h5 : Lo a h (nw h4 22) := LO_h4.tr (Lo.nw (by rw [len_h4]; exact Nat.le_add_right _ _))
  have I8_h5 : xI (nw h4 22) a 8 = 0 := by rw [(nw_ne (h := h4) (k := 22) (b := a) (by rw [len_h4]; exact oa3 (by decide))).1]; exact I8_h4
  have I10_h5 : xI (nw h4 22) a 10 = 0 := by rw [(nw_ne (h := h4) (k := 22) (b := a) (by rw [len_h4]; exact oa3 (by decide))).1]; exact I10_h4
  have I13_h5 : xI (nw h4 22) a 13 = 0 := by rw [(nw_ne (h := h4) (k := 22) (b := a) (by rw [len_h4]; exact oa3 (by decide))).1]; exact I13_h4
  have I16_h5 : xI (nw h4 22) a 16 = 0 := by rw [(nw_ne (h := h4) (k := 22) (b := a) (by rw [len_h4]; exact oa3 (by decide))).1]; exact I16_h4
  have I20_h5 : xI (nw h4 22) a 20 = 0 := by rw [(nw_ne (h := h4) (k := 22) (b := a) (by rw [len_h4]; exact oa3 (by decide))).1]; exact I20_h4
  have N21_h5 : xN (nw h4 22) a 21 = 0 := by rw [(nw_ne (h := h4) (k := 22) (b := a) (by rw [len_h4]; exact oa3 (by decide))).2.2]; exact N21_h4
  have N22_h5 : xN (nw h4 22) a 22 = 0 := by rw [(nw_ne (h := h4) (k := 22) (b := a) (by rw [len_h4]; exact oa3 (by decide))).2.2]; exact N22_h4
  have Z1_h5 : xI (nw h4 22) (a + 1) = fun _ => 0 := by rw [(nw_ne (h := h4) (k := 22) (b := a + 1) (by rw [len_h4]; exact oa2 (by decide))).1]; exact Z1_h4
  have N0_h5 : xN (nw h4 22) a 0 = a + 1 + 1 := by rw [(nw_ne (h := h4) (k := 22) (b := a) (by rw [len_h4]; exact oa3 (by decide))).2.2]; exact N0_h4
  have Z2_h5 : xI (nw h4 22) (a + 2) = fun _ => 0 := by rw [(nw_ne (h := h4) (k := 22) (b := a + 2) (by rw [len_h4]; exact oa2 (by decide))).1]; exact Z2_h4
  have N1_h5 : xN (nw h4 22) a 1 = a + 2 + 1 := by rw [(nw_ne (h := h4) (k := 22) (b := a) (by rw [len_h4]; exact oa3 (by decide))).2.2]; exact N1_h4
  have Z3_h5 : xI (nw h4 22) (a + 3) = fun _ => 0 := by have q9 := nw_I (h := h4) (k := 22); rw [len_h4] at q9; exact q9
  have K_h5 : xK (nw h4 22) = xK h ++ [22, 22, 22] := by show xK h4 ++ _ = _; rw [K_h4, List.append_assoc]; rfl
  generalize nw h4 22 = h5 at NO_h5 LO_h5 I8_h5 I10_h5 I13_h5 I16_h5 I20_h5 N21_h5 N22_h5 Z1_h5 N0_h5 Z2_h5 N1_h5 Z3_h5 K_h5 ⊢
  have len_h5 : (xK h5).length = a + 4 := by rw [K_h5, List.length_append, hlen]; rfl
  refine r_putNF (k := 15) (j := 2) (t := 0) C hI rfl rfl rfl (by decide) f_X7_16 rfl rfl (fun _ => rfl) (fun _ => rfl) (dx dX7_init 13 rfl) ?_
  have NO_h6 : NOk (sN h5 a 2 (a + 3 + 1)) := NO_h5.sN (by rw [len_h5]; exact oa6 (by decide))
  have LO_h6 : Lo a h (sN h5 a 2 (a + 3 + 1)) := LO_h5.tr (Lo.sN (Nat.le_refl _))
  have I8_h6 : xI (sN h5 a 2 (a + 3 + 1)) a 8 = 0 := I8_h5
  have I10_h6 : xI (sN h5 a 2 (a + 3 + 1)) a 10 = 0 := I10_h5
  have I13_h6 : xI (sN h5 a 2 (a + 3 + 1)) a 13 = 0 := I13_h5
  have I16_h6 : xI (sN h5 a 2 (a + 3 + 1)) a 16 = 0 := I16_h5
  have I20_h6 : xI (sN h5 a 2 (a + 3 + 1)) a 20 = 0 := I20_h5
  have N21_h6 : xN (sN h5 a 2 (a + 3 + 1)) a 21 = 0 := (sN_ne (by decide)).trans N21_h5
  have N22_h6 : xN (sN h5 a 2 (a + 3 + 1)) a 22 = 0 := (sN_ne (by decide)).trans N22_h5
  have Z1_h6 : xI (sN h5 a 2 (a + 3 + 1)) (a + 1) = fun _ => 0 := Z1_h5
  have N0_h6 : xN (sN h5 a 2 (a + 3 + 1)) a 0 = a + 1 + 1 := (sN_ne (by decide)).trans N0_h5
  have Z2_h6 : xI (sN h5 a 2 (a + 3 + 1)) (a + 2) = fun _ => 0 := Z2_h5
  have N1_h6 : xN (sN h5 a 2 (a + 3 + 1)) a 1 = a + 2 + 1 := (sN_ne (by decide)).trans N1_h5
  have Z3_h6 : xI (sN h5 a 2 (a + 3 + 1)) (a + 3) = fun _ => 0 := Z3_h5
  have K_h6 : xK (sN h5 a 2 (a + 3 + 1)) = xK h ++ [22, 22, 22] := K_h5
  have N2_h6 : xN (sN h5 a 2 (a + 3 + 1)) a 2 = a + 3 + 1 := sN_at
  generalize sN h5 a 2 (a + 3 + 1) = h6 at NO_h6 LO_h6 I8_h6 I10_h6 I13_h6 I16_h6 I20_h6 N21_h6 N22_h6 Z1_h6 N0_h6 Z2_h6 N1_h6 Z3_h6 K_h6 N2_h6 ⊢
  have len_h6 : (xK h6).length = a + 4 := by rw [K_h6, List.length_append, hlen]; rfl
  refine r_aload_n C (dx dX7_init 14 rfl) rfl ?_
  refine r_bipush (v := nI 8) C (dx dX7_init 15 rfl) rfl ?_
  refine r_bipush (v := nI 40) C (dx dX7_init 16 rfl) rfl ?_
  refine r_mna (S2 := "") (ko := 33) (ki := 31) (n := 8) (m9 := 40) (to := 5) (ti := 1) (ty := .long) (z := (40, .inr (.inl (fun _ => 0)))) C X rfl rfl rfl rfl (by decide) (fun dA f h9 a9 => by rw [ent_arr (q := (5, 8, 31)) rfl rfl]; rfl) (by rw [K_h6]; exact ⟨[31, 22, 22, 30, 22, 20, 20, 21, 21, 34, 27, 27, 27, 27, 27, 27, 27, 27, 20], by rw [List.append_assoc, List.append_assoc]; rfl⟩) NO_h6 (by rw [len_h6]; exact oa5 (a := a) (c := 4) (n := 8) hb (by decide)) cl_RX7_19 q_ao_long q_ac2_long rfl (fun _ => rfl) (fun _ => rfl) (fun _ _ q => q) (fun _ _ q => q) (by decide) (by decide) (by decide) rfl rfl (fun c => by first | rfl | (show _ = arrV _ _ _; rw [← arrV_new]; rfl)) (fun dA f h9 a9 e1 e2 => by rw [ent_arr (q := (1, 40, 0)) rfl rfl]; simp [entA, e1, e2]) (by decide) (by decide) (dx dX7_init 17 rfl) ?_
  rw [len_h6]
  have NO_h7 : NOk (nwR h6 33 31 8) := NO_h6.nwR
  have LO_h7 : Lo a h (nwR h6 33 31 8) := LO_h6.tr (Lo.nwR (by rw [len_h6]; exact Nat.le_add_right _ _))
  have I8_h7 : xI (nwR h6 33 31 8) a 8 = 0 := by rw [(nwR_ne (h := h6) (k := 33) (k2 := 31) (n := 8) (a := a) (by rw [len_h6]; exact oa8 (by decide))).1]; exact I8_h6
  have I10_h7 : xI (nwR h6 33 31 8) a 10 = 0 := by rw [(nwR_ne (h := h6) (k := 33) (k2 := 31) (n := 8) (a := a) (by rw [len_h6]; exact oa8 (by decide))).1]; exact I10_h6
  have I13_h7 : xI (nwR h6 33 31 8) a 13 = 0 := by rw [(nwR_ne (h := h6) (k := 33) (k2 := 31) (n := 8) (a := a) (by rw [len_h6]; exact oa8 (by decide))).1]; exact I13_h6
  have I16_h7 : xI (nwR h6 33 31 8) a 16 = 0 := by rw [(nwR_ne (h := h6) (k := 33) (k2 := 31) (n := 8) (a := a) (by rw [len_h6]; exact oa8 (by decide))).1]; exact I16_h6
  have I20_h7 : xI (nwR h6 33 31 8) a 20 = 0 := by rw [(nwR_ne (h := h6) (k := 33) (k2 := 31) (n := 8) (a := a) (by rw [len_h6]; exact oa8 (by decide))).1]; exact I20_h6
  have N21_h7 : xN (nwR h6 33 31 8) a 21 = 0 := by rw [(nwR_ne (h := h6) (k := 33) (k2 := 31) (n := 8) (a := a) (by rw [len_h6]; exact oa8 (by decide))).2.2]; exact N21_h6
  have N22_h7 : xN (nwR h6 33 31 8) a 22 = 0 := by rw [(nwR_ne (h := h6) (k := 33) (k2 := 31) (n := 8) (a := a) (by rw [len_h6]; exact oa8 (by decide))).2.2]; exact N22_h6
  have Z1_h7 : xI (nwR h6 33 31 8) (a + 1) = fun _ => 0 := by rw [(nwR_ne (h := h6) (k := 33) (k2 := 31) (n := 8) (a := a + 1) (by rw [len_h6]; exact Nat.add_lt_add_left (by decide) a)).1]; exact Z1_h6
  have N0_h7 : xN (nwR h6 33 31 8) a 0 = a + 1 + 1 := by rw [(nwR_ne (h := h6) (k := 33) (k2 := 31) (n := 8) (a := a) (by rw [len_h6]; exact oa8 (by decide))).2.2]; exact N0_h6
  have Z2_h7 : xI (nwR h6 33 31 8) (a + 2) = fun _ => 0 := by rw [(nwR_ne (h := h6) (k := 33) (k2 := 31) (n := 8) (a := a + 2) (by rw [len_h6]; exact Nat.add_lt_add_left (by decide) a)).1]; exact Z2_h6
  have N1_h7 : xN (nwR h6 33 31 8) a 1 = a + 2 + 1 := by rw [(nwR_ne (h := h6) (k := 33) (k2 := 31) (n := 8) (a := a) (by rw [len_h6]; exact oa8 (by decide))).2.2]; exact N1_h6
  have Z3_h7 : xI (nwR h6 33 31 8) (a + 3) = fun _ => 0 := by rw [(nwR_ne (h := h6) (k := 33) (k2 := 31) (n := 8) (a := a + 3) (by rw [len_h6]; exact Nat.add_lt_add_left (by decide) a)).1]; exact Z3_h6
  have N2_h7 : xN (nwR h6 33 31 8) a 2 = a + 3 + 1 := by rw [(nwR_ne (h := h6) (k := 33) (k2 := 31) (n := 8) (a := a) (by rw [len_h6]; exact oa8 (by decide))).2.2]; exact N2_h6
  have Z5_h7 : xL (nwR h6 33 31 8) (a + 5) = fun _ => 0 := (nwR_at (by rw [len_h6]; exact Nat.add_le_add_left (by decide) a)).2.1
  have Z6_h7 : xL (nwR h6 33 31 8) (a + 6) = fun _ => 0 := (nwR_at (by rw [len_h6]; exact Nat.add_le_add_left (by decide) a)).2.1
  have Z7_h7 : xL (nwR h6 33 31 8) (a + 7) = fun _ => 0 := (nwR_at (by rw [len_h6]; exact Nat.add_le_add_left (by decide) a)).2.1
  have Z8_h7 : xL (nwR h6 33 31 8) (a + 8) = fun _ => 0 := (nwR_at (by rw [len_h6]; exact Nat.add_le_add_left (by decide) a)).2.1
  have Z9_h7 : xL (nwR h6 33 31 8) (a + 9) = fun _ => 0 := (nwR_at (by rw [len_h6]; exact Nat.add_le_add_left (by decide) a)).2.1
  have Z10_h7 : xL (nwR h6 33 31 8) (a + 10) = fun _ => 0 := (nwR_at (by rw [len_h6]; exact Nat.add_le_add_left (by decide) a)).2.1
  have Z11_h7 : xL (nwR h6 33 31 8) (a + 11) = fun _ => 0 := (nwR_at (by rw [len_h6]; exact Nat.add_le_add_left (by decide) a)).2.1
  have Z12_h7 : xL (nwR h6 33 31 8) (a + 12) = fun _ => 0 := (nwR_at (by rw [len_h6]; exact Nat.add_le_add_left (by decide) a)).2.1
  have K_h7 : xK (nwR h6 33 31 8) = xK h ++ [22, 22, 22, 33, 31, 31, 31, 31, 31, 31, 31, 31] := by show xK h6 ++ _ = _; rw [K_h6, List.append_assoc]; rfl
  generalize nwR h6 33 31 8 = h7 at NO_h7 LO_h7 I8_h7 I10_h7 I13_h7 I16_h7 I20_h7 N21_h7 N22_h7 Z1_h7 N0_h7 Z2_h7 N1_h7 Z3_h7 N2_h7 Z5_h7 Z6_h7 Z7_h7 Z8_h7 Z9_h7 Z10_h7 Z11_h7 Z12_h7 K_h7 ⊢
  have len_h7 : (xK h7).length = a + 13 := by rw [K_h7, List.length_append, hlen]; rfl
  refine r_putNF (k := 15) (j := 3) (t := 0) C hI rfl rfl rfl (by decide) f_X7_21 rfl rfl (fun _ => rfl) (fun _ => rfl) (dx dX7_init 18 rfl) ?_
  have NO_h8 : NOk (sN h7 a 3 (a + 4 + 1)) := NO_h7.sN (by rw [len_h7]; exact oa6 (by decide))
  have LO_h8 : Lo a h (sN h7 a 3 (a + 4 + 1)) := LO_h7.tr (Lo.sN (Nat.le_refl _))
  have I8_h8 : xI (sN h7 a 3 (a + 4 + 1)) a 8 = 0 := I8_h7
  have I10_h8 : xI (sN h7 a 3 (a + 4 + 1)) a 10 = 0 := I10_h7
  have I13_h8 : xI (sN h7 a 3 (a + 4 + 1)) a 13 = 0 := I13_h7
  have I16_h8 : xI (sN h7 a 3 (a + 4 + 1)) a 16 = 0 := I16_h7
  have I20_h8 : xI (sN h7 a 3 (a + 4 + 1)) a 20 = 0 := I20_h7
  have N21_h8 : xN (sN h7 a 3 (a + 4 + 1)) a 21 = 0 := (sN_ne (by decide)).trans N21_h7
  have N22_h8 : xN (sN h7 a 3 (a + 4 + 1)) a 22 = 0 := (sN_ne (by decide)).trans N22_h7
  have Z1_h8 : xI (sN h7 a 3 (a + 4 + 1)) (a + 1) = fun _ => 0 := Z1_h7
  have N0_h8 : xN (sN h7 a 3 (a + 4 + 1)) a 0 = a + 1 + 1 := (sN_ne (by decide)).trans N0_h7
  have Z2_h8 : xI (sN h7 a 3 (a + 4 + 1)) (a + 2) = fun _ => 0 := Z2_h7
  have N1_h8 : xN (sN h7 a 3 (a + 4 + 1)) a 1 = a + 2 + 1 := (sN_ne (by decide)).trans N1_h7
  have Z3_h8 : xI (sN h7 a 3 (a + 4 + 1)) (a + 3) = fun _ => 0 := Z3_h7
  have N2_h8 : xN (sN h7 a 3 (a + 4 + 1)) a 2 = a + 3 + 1 := (sN_ne (by decide)).trans N2_h7
  have Z5_h8 : xL (sN h7 a 3 (a + 4 + 1)) (a + 5) = fun _ => 0 := Z5_h7
  have Z6_h8 : xL (sN h7 a 3 (a + 4 + 1)) (a + 6) = fun _ => 0 := Z6_h7
  have Z7_h8 : xL (sN h7 a 3 (a + 4 + 1)) (a + 7) = fun _ => 0 := Z7_h7
  have Z8_h8 : xL (sN h7 a 3 (a + 4 + 1)) (a + 8) = fun _ => 0 := Z8_h7
  have Z9_h8 : xL (sN h7 a 3 (a + 4 + 1)) (a + 9) = fun _ => 0 := Z9_h7
  have Z10_h8 : xL (sN h7 a 3 (a + 4 + 1)) (a + 10) = fun _ => 0 := Z10_h7
  have Z11_h8 : xL (sN h7 a 3 (a + 4 + 1)) (a + 11) = fun _ => 0 := Z11_h7
  have Z12_h8 : xL (sN h7 a 3 (a + 4 + 1)) (a + 12) = fun _ => 0 := Z12_h7
  have K_h8 : xK (sN h7 a 3 (a + 4 + 1)) = xK h ++ [22, 22, 22, 33, 31, 31, 31, 31, 31, 31, 31, 31] := K_h7
  have N3_h8 : xN (sN h7 a 3 (a + 4 + 1)) a 3 = a + 4 + 1 := sN_at
  generalize sN h7 a 3 (a + 4 + 1) = h8 at NO_h8 LO_h8 I8_h8 I10_h8 I13_h8 I16_h8 I20_h8 N21_h8 N22_h8 Z1_h8 N0_h8 Z2_h8 N1_h8 Z3_h8 N2_h8 Z5_h8 Z6_h8 Z7_h8 Z8_h8 Z9_h8 Z10_h8 Z11_h8 Z12_h8 K_h8 N3_h8 ⊢
  have len_h8 : (xK h8).length = a + 13 := by rw [K_h8, List.length_append, hlen]; rfl
  refine r_aload_n C (dx dX7_init 19 rfl) rfl ?_
  refine r_bipush (v := nI 40) C (dx dX7_init 20 rfl) rfl ?_
  refine r_newa (kk := 31) (t := 1) (n := 40) (ty := .long) (S := "[" ++ (.long : FieldType).toString) (a0 := (40, .inr (.inl (fun _ => 0)))) C X rfl rfl (by decide) (by rw [K_h8]; exact ⟨[22, 22, 30, 22, 20, 20, 21, 21, 34, 27, 27, 27, 27, 27, 27, 27, 27, 20], by rw [List.append_assoc, List.append_assoc]; rfl⟩) NO_h8 (by rw [len_h8]; exact oa4 hb (by decide)) rfl q_ac_long (fun _ => rfl) (fun _ _ q => q) (fun _ => rfl) (fun dA f h9 a9 e1 e2 => by rw [ent_arr (q := (1, 40, 0)) rfl rfl]; simp [entA, e1, e2]) (by decide) (by decide) (dx dX7_init 21 rfl) ?_
  rw [len_h8]
  have NO_h9 : NOk (nw h8 31) := NO_h8.nw
  have LO_h9 : Lo a h (nw h8 31) := LO_h8.tr (Lo.nw (by rw [len_h8]; exact Nat.le_add_right _ _))
  have I8_h9 : xI (nw h8 31) a 8 = 0 := by rw [(nw_ne (h := h8) (k := 31) (b := a) (by rw [len_h8]; exact oa3 (by decide))).1]; exact I8_h8
  have I10_h9 : xI (nw h8 31) a 10 = 0 := by rw [(nw_ne (h := h8) (k := 31) (b := a) (by rw [len_h8]; exact oa3 (by decide))).1]; exact I10_h8
  have I13_h9 : xI (nw h8 31) a 13 = 0 := by rw [(nw_ne (h := h8) (k := 31) (b := a) (by rw [len_h8]; exact oa3 (by decide))).1]; exact I13_h8
  have I16_h9 : xI (nw h8 31) a 16 = 0 := by rw [(nw_ne (h := h8) (k := 31) (b := a) (by rw [len_h8]; exact oa3 (by decide))).1]; exact I16_h8
  have I20_h9 : xI (nw h8 31) a 20 = 0 := by rw [(nw_ne (h := h8) (k := 31) (b := a) (by rw [len_h8]; exact oa3 (by decide))).1]; exact I20_h8
  have N21_h9 : xN (nw h8 31) a 21 = 0 := by rw [(nw_ne (h := h8) (k := 31) (b := a) (by rw [len_h8]; exact oa3 (by decide))).2.2]; exact N21_h8
  have N22_h9 : xN (nw h8 31) a 22 = 0 := by rw [(nw_ne (h := h8) (k := 31) (b := a) (by rw [len_h8]; exact oa3 (by decide))).2.2]; exact N22_h8
  have Z1_h9 : xI (nw h8 31) (a + 1) = fun _ => 0 := by rw [(nw_ne (h := h8) (k := 31) (b := a + 1) (by rw [len_h8]; exact oa2 (by decide))).1]; exact Z1_h8
  have N0_h9 : xN (nw h8 31) a 0 = a + 1 + 1 := by rw [(nw_ne (h := h8) (k := 31) (b := a) (by rw [len_h8]; exact oa3 (by decide))).2.2]; exact N0_h8
  have Z2_h9 : xI (nw h8 31) (a + 2) = fun _ => 0 := by rw [(nw_ne (h := h8) (k := 31) (b := a + 2) (by rw [len_h8]; exact oa2 (by decide))).1]; exact Z2_h8
  have N1_h9 : xN (nw h8 31) a 1 = a + 2 + 1 := by rw [(nw_ne (h := h8) (k := 31) (b := a) (by rw [len_h8]; exact oa3 (by decide))).2.2]; exact N1_h8
  have Z3_h9 : xI (nw h8 31) (a + 3) = fun _ => 0 := by rw [(nw_ne (h := h8) (k := 31) (b := a + 3) (by rw [len_h8]; exact oa2 (by decide))).1]; exact Z3_h8
  have N2_h9 : xN (nw h8 31) a 2 = a + 3 + 1 := by rw [(nw_ne (h := h8) (k := 31) (b := a) (by rw [len_h8]; exact oa3 (by decide))).2.2]; exact N2_h8
  have Z5_h9 : xL (nw h8 31) (a + 5) = fun _ => 0 := by rw [(nw_ne (h := h8) (k := 31) (b := a + 5) (by rw [len_h8]; exact oa2 (by decide))).2.1]; exact Z5_h8
  have Z6_h9 : xL (nw h8 31) (a + 6) = fun _ => 0 := by rw [(nw_ne (h := h8) (k := 31) (b := a + 6) (by rw [len_h8]; exact oa2 (by decide))).2.1]; exact Z6_h8
  have Z7_h9 : xL (nw h8 31) (a + 7) = fun _ => 0 := by rw [(nw_ne (h := h8) (k := 31) (b := a + 7) (by rw [len_h8]; exact oa2 (by decide))).2.1]; exact Z7_h8
  have Z8_h9 : xL (nw h8 31) (a + 8) = fun _ => 0 := by rw [(nw_ne (h := h8) (k := 31) (b := a + 8) (by rw [len_h8]; exact oa2 (by decide))).2.1]; exact Z8_h8
  have Z9_h9 : xL (nw h8 31) (a + 9) = fun _ => 0 := by rw [(nw_ne (h := h8) (k := 31) (b := a + 9) (by rw [len_h8]; exact oa2 (by decide))).2.1]; exact Z9_h8
  have Z10_h9 : xL (nw h8 31) (a + 10) = fun _ => 0 := by rw [(nw_ne (h := h8) (k := 31) (b := a + 10) (by rw [len_h8]; exact oa2 (by decide))).2.1]; exact Z10_h8
  have Z11_h9 : xL (nw h8 31) (a + 11) = fun _ => 0 := by rw [(nw_ne (h := h8) (k := 31) (b := a + 11) (by rw [len_h8]; exact oa2 (by decide))).2.1]; exact Z11_h8
  have Z12_h9 : xL (nw h8 31) (a + 12) = fun _ => 0 := by rw [(nw_ne (h := h8) (k := 31) (b := a + 12) (by rw [len_h8]; exact oa2 (by decide))).2.1]; exact Z12_h8
  have N3_h9 : xN (nw h8 31) a 3 = a + 4 + 1 := by rw [(nw_ne (h := h8) (k := 31) (b := a) (by rw [len_h8]; exact oa3 (by decide))).2.2]; exact N3_h8
  have Z13_h9 : xL (nw h8 31) (a + 13) = fun _ => 0 := by have q9 := nw_L (h := h8) (k := 31); rw [len_h8] at q9; exact q9
  have K_h9 : xK (nw h8 31) = xK h ++ [22, 22, 22, 33, 31, 31, 31, 31, 31, 31, 31, 31, 31] := by show xK h8 ++ _ = _; rw [K_h8, List.append_assoc]; rfl
  generalize nw h8 31 = h9 at NO_h9 LO_h9 I8_h9 I10_h9 I13_h9 I16_h9 I20_h9 N21_h9 N22_h9 Z1_h9 N0_h9 Z2_h9 N1_h9 Z3_h9 N2_h9 Z5_h9 Z6_h9 Z7_h9 Z8_h9 Z9_h9 Z10_h9 Z11_h9 Z12_h9 N3_h9 Z13_h9 K_h9 ⊢
  have len_h9 : (xK h9).length = a + 14 := by rw [K_h9, List.length_append, hlen]; rfl
  refine r_putNF (k := 15) (j := 4) (t := 0) C hI rfl rfl rfl (by decide) f_X7_24 rfl rfl (fun _ => rfl) (fun _ => rfl) (dx dX7_init 22 rfl) ?_
  have NO_h10 : NOk (sN h9 a 4 (a + 13 + 1)) := NO_h9.sN (by rw [len_h9]; exact oa6 (by decide))
  have LO_h10 : Lo a h (sN h9 a 4 (a + 13 + 1)) := LO_h9.tr (Lo.sN (Nat.le_refl _))
  have I8_h10 : xI (sN h9 a 4 (a + 13 + 1)) a 8 = 0 := I8_h9
  have I10_h10 : xI (sN h9 a 4 (a + 13 + 1)) a 10 = 0 := I10_h9
  have I13_h10 : xI (sN h9 a 4 (a + 13 + 1)) a 13 = 0 := I13_h9
  have I16_h10 : xI (sN h9 a 4 (a + 13 + 1)) a 16 = 0 := I16_h9
  have I20_h10 : xI (sN h9 a 4 (a + 13 + 1)) a 20 = 0 := I20_h9
  have N21_h10 : xN (sN h9 a 4 (a + 13 + 1)) a 21 = 0 := (sN_ne (by decide)).trans N21_h9
  have N22_h10 : xN (sN h9 a 4 (a + 13 + 1)) a 22 = 0 := (sN_ne (by decide)).trans N22_h9
  have Z1_h10 : xI (sN h9 a 4 (a + 13 + 1)) (a + 1) = fun _ => 0 := Z1_h9
  have N0_h10 : xN (sN h9 a 4 (a + 13 + 1)) a 0 = a + 1 + 1 := (sN_ne (by decide)).trans N0_h9
  have Z2_h10 : xI (sN h9 a 4 (a + 13 + 1)) (a + 2) = fun _ => 0 := Z2_h9
  have N1_h10 : xN (sN h9 a 4 (a + 13 + 1)) a 1 = a + 2 + 1 := (sN_ne (by decide)).trans N1_h9
  have Z3_h10 : xI (sN h9 a 4 (a + 13 + 1)) (a + 3) = fun _ => 0 := Z3_h9
  have N2_h10 : xN (sN h9 a 4 (a + 13 + 1)) a 2 = a + 3 + 1 := (sN_ne (by decide)).trans N2_h9
  have Z5_h10 : xL (sN h9 a 4 (a + 13 + 1)) (a + 5) = fun _ => 0 := Z5_h9
  have Z6_h10 : xL (sN h9 a 4 (a + 13 + 1)) (a + 6) = fun _ => 0 := Z6_h9
  have Z7_h10 : xL (sN h9 a 4 (a + 13 + 1)) (a + 7) = fun _ => 0 := Z7_h9
  have Z8_h10 : xL (sN h9 a 4 (a + 13 + 1)) (a + 8) = fun _ => 0 := Z8_h9
  have Z9_h10 : xL (sN h9 a 4 (a + 13 + 1)) (a + 9) = fun _ => 0 := Z9_h9
  have Z10_h10 : xL (sN h9 a 4 (a + 13 + 1)) (a + 10) = fun _ => 0 := Z10_h9
  have Z11_h10 : xL (sN h9 a 4 (a + 13 + 1)) (a + 11) = fun _ => 0 := Z11_h9
  have Z12_h10 : xL (sN h9 a 4 (a + 13 + 1)) (a + 12) = fun _ => 0 := Z12_h9
  have N3_h10 : xN (sN h9 a 4 (a + 13 + 1)) a 3 = a + 4 + 1 := (sN_ne (by decide)).trans N3_h9
  have Z13_h10 : xL (sN h9 a 4 (a + 13 + 1)) (a + 13) = fun _ => 0 := Z13_h9
  have K_h10 : xK (sN h9 a 4 (a + 13 + 1)) = xK h ++ [22, 22, 22, 33, 31, 31, 31, 31, 31, 31, 31, 31, 31] := K_h9
  have N4_h10 : xN (sN h9 a 4 (a + 13 + 1)) a 4 = a + 13 + 1 := sN_at
  generalize sN h9 a 4 (a + 13 + 1) = h10 at NO_h10 LO_h10 I8_h10 I10_h10 I13_h10 I16_h10 I20_h10 N21_h10 N22_h10 Z1_h10 N0_h10 Z2_h10 N1_h10 Z3_h10 N2_h10 Z5_h10 Z6_h10 Z7_h10 Z8_h10 Z9_h10 Z10_h10 Z11_h10 Z12_h10 N3_h10 Z13_h10 K_h10 N4_h10 ⊢
  have len_h10 : (xK h10).length = a + 14 := by rw [K_h10, List.length_append, hlen]; rfl
  refine r_aload_n C (dx dX7_init 23 rfl) rfl ?_
  refine r_bipush (v := nI 8) C (dx dX7_init 24 rfl) rfl ?_
  refine r_newa (kk := 22) (t := 0) (n := 8) (ty := .int) (S := "[" ++ (.int : FieldType).toString) (a0 := (8, .inl (fun _ => 0))) C X rfl rfl (by decide) (by rw [K_h10]; exact ⟨[22, 30, 22, 20, 20, 21, 21, 34, 27, 27, 27, 27, 27, 27, 27, 27, 20], by rw [List.append_assoc, List.append_assoc]; rfl⟩) NO_h10 (by rw [len_h10]; exact oa4 hb (by decide)) rfl q_ac_int (fun _ => rfl) (fun _ _ q => q) (fun _ => rfl) (fun dA f h9 a9 e1 e2 => by rw [ent_arr (q := (0, 8, 0)) rfl rfl]; simp [entA, e1, e2]) (by decide) (by decide) (dx dX7_init 25 rfl) ?_
  rw [len_h10]
  have NO_h11 : NOk (nw h10 22) := NO_h10.nw
  have LO_h11 : Lo a h (nw h10 22) := LO_h10.tr (Lo.nw (by rw [len_h10]; exact Nat.le_add_right _ _))
  have I8_h11 : xI (nw h10 22) a 8 = 0 := by rw [(nw_ne (h := h10) (k := 22) (b := a) (by rw [len_h10]; exact oa3 (by decide))).1]; exact I8_h10
  have I10_h11 : xI (nw h10 22) a 10 = 0 := by rw [(nw_ne (h := h10) (k := 22) (b := a) (by rw [len_h10]; exact oa3 (by decide))).1]; exact I10_h10
  have I13_h11 : xI (nw h10 22) a 13 = 0 := by rw [(nw_ne (h := h10) (k := 22) (b := a) (by rw [len_h10]; exact oa3 (by decide))).1]; exact I13_h10
  have I16_h11 : xI (nw h10 22) a 16 = 0 := by rw [(nw_ne (h := h10) (k := 22) (b := a) (by rw [len_h10]; exact oa3 (by decide))).1]; exact I16_h10
  have I20_h11 : xI (nw h10 22) a 20 = 0 := by rw [(nw_ne (h := h10) (k := 22) (b := a) (by rw [len_h10]; exact oa3 (by decide))).1]; exact I20_h10
  have N21_h11 : xN (nw h10 22) a 21 = 0 := by rw [(nw_ne (h := h10) (k := 22) (b := a) (by rw [len_h10]; exact oa3 (by decide))).2.2]; exact N21_h10
  have N22_h11 : xN (nw h10 22) a 22 = 0 := by rw [(nw_ne (h := h10) (k := 22) (b := a) (by rw [len_h10]; exact oa3 (by decide))).2.2]; exact N22_h10
  have Z1_h11 : xI (nw h10 22) (a + 1) = fun _ => 0 := by rw [(nw_ne (h := h10) (k := 22) (b := a + 1) (by rw [len_h10]; exact oa2 (by decide))).1]; exact Z1_h10
  have N0_h11 : xN (nw h10 22) a 0 = a + 1 + 1 := by rw [(nw_ne (h := h10) (k := 22) (b := a) (by rw [len_h10]; exact oa3 (by decide))).2.2]; exact N0_h10
  have Z2_h11 : xI (nw h10 22) (a + 2) = fun _ => 0 := by rw [(nw_ne (h := h10) (k := 22) (b := a + 2) (by rw [len_h10]; exact oa2 (by decide))).1]; exact Z2_h10
  have N1_h11 : xN (nw h10 22) a 1 = a + 2 + 1 := by rw [(nw_ne (h := h10) (k := 22) (b := a) (by rw [len_h10]; exact oa3 (by decide))).2.2]; exact N1_h10
  have Z3_h11 : xI (nw h10 22) (a + 3) = fun _ => 0 := by rw [(nw_ne (h := h10) (k := 22) (b := a + 3) (by rw [len_h10]; exact oa2 (by decide))).1]; exact Z3_h10
  have N2_h11 : xN (nw h10 22) a 2 = a + 3 + 1 := by rw [(nw_ne (h := h10) (k := 22) (b := a) (by rw [len_h10]; exact oa3 (by decide))).2.2]; exact N2_h10
  have Z5_h11 : xL (nw h10 22) (a + 5) = fun _ => 0 := by rw [(nw_ne (h := h10) (k := 22) (b := a + 5) (by rw [len_h10]; exact oa2 (by decide))).2.1]; exact Z5_h10
  have Z6_h11 : xL (nw h10 22) (a + 6) = fun _ => 0 := by rw [(nw_ne (h := h10) (k := 22) (b := a + 6) (by rw [len_h10]; exact oa2 (by decide))).2.1]; exact Z6_h10
  have Z7_h11 : xL (nw h10 22) (a + 7) = fun _ => 0 := by rw [(nw_ne (h := h10) (k := 22) (b := a + 7) (by rw [len_h10]; exact oa2 (by decide))).2.1]; exact Z7_h10
  have Z8_h11 : xL (nw h10 22) (a + 8) = fun _ => 0 := by rw [(nw_ne (h := h10) (k := 22) (b := a + 8) (by rw [len_h10]; exact oa2 (by decide))).2.1]; exact Z8_h10
  have Z9_h11 : xL (nw h10 22) (a + 9) = fun _ => 0 := by rw [(nw_ne (h := h10) (k := 22) (b := a + 9) (by rw [len_h10]; exact oa2 (by decide))).2.1]; exact Z9_h10
  have Z10_h11 : xL (nw h10 22) (a + 10) = fun _ => 0 := by rw [(nw_ne (h := h10) (k := 22) (b := a + 10) (by rw [len_h10]; exact oa2 (by decide))).2.1]; exact Z10_h10
  have Z11_h11 : xL (nw h10 22) (a + 11) = fun _ => 0 := by rw [(nw_ne (h := h10) (k := 22) (b := a + 11) (by rw [len_h10]; exact oa2 (by decide))).2.1]; exact Z11_h10
  have Z12_h11 : xL (nw h10 22) (a + 12) = fun _ => 0 := by rw [(nw_ne (h := h10) (k := 22) (b := a + 12) (by rw [len_h10]; exact oa2 (by decide))).2.1]; exact Z12_h10
  have N3_h11 : xN (nw h10 22) a 3 = a + 4 + 1 := by rw [(nw_ne (h := h10) (k := 22) (b := a) (by rw [len_h10]; exact oa3 (by decide))).2.2]; exact N3_h10
  have Z13_h11 : xL (nw h10 22) (a + 13) = fun _ => 0 := by rw [(nw_ne (h := h10) (k := 22) (b := a + 13) (by rw [len_h10]; exact oa2 (by decide))).2.1]; exact Z13_h10
  have N4_h11 : xN (nw h10 22) a 4 = a + 13 + 1 := by rw [(nw_ne (h := h10) (k := 22) (b := a) (by rw [len_h10]; exact oa3 (by decide))).2.2]; exact N4_h10
  have Z14_h11 : xI (nw h10 22) (a + 14) = fun _ => 0 := by have q9 := nw_I (h := h10) (k := 22); rw [len_h10] at q9; exact q9
  have K_h11 : xK (nw h10 22) = xK h ++ [22, 22, 22, 33, 31, 31, 31, 31, 31, 31, 31, 31, 31, 22] := by show xK h10 ++ _ = _; rw [K_h10, List.append_assoc]; rfl
  generalize nw h10 22 = h11 at NO_h11 LO_h11 I8_h11 I10_h11 I13_h11 I16_h11 I20_h11 N21_h11 N22_h11 Z1_h11 N0_h11 Z2_h11 N1_h11 Z3_h11 N2_h11 Z5_h11 Z6_h11 Z7_h11 Z8_h11 Z9_h11 Z10_h11 Z11_h11 Z12_h11 N3_h11 Z13_h11 N4_h11 Z14_h11 K_h11 ⊢
  have len_h11 : (xK h11).length = a + 15 := by rw [K_h11, List.length_append, hlen]; rfl
  refine r_putNF (k := 15) (j := 5) (t := 0) C hI rfl rfl rfl (by decide) f_X7_28 rfl rfl (fun _ => rfl) (fun _ => rfl) (dx dX7_init 26 rfl) ?_
  have NO_h12 : NOk (sN h11 a 5 (a + 14 + 1)) := NO_h11.sN (by rw [len_h11]; exact oa6 (by decide))
  have LO_h12 : Lo a h (sN h11 a 5 (a + 14 + 1)) := LO_h11.tr (Lo.sN (Nat.le_refl _))
  have I8_h12 : xI (sN h11 a 5 (a + 14 + 1)) a 8 = 0 := I8_h11
  have I10_h12 : xI (sN h11 a 5 (a + 14 + 1)) a 10 = 0 := I10_h11
  have I13_h12 : xI (sN h11 a 5 (a + 14 + 1)) a 13 = 0 := I13_h11
  have I16_h12 : xI (sN h11 a 5 (a + 14 + 1)) a 16 = 0 := I16_h11
  have I20_h12 : xI (sN h11 a 5 (a + 14 + 1)) a 20 = 0 := I20_h11
  have N21_h12 : xN (sN h11 a 5 (a + 14 + 1)) a 21 = 0 := (sN_ne (by decide)).trans N21_h11
  have N22_h12 : xN (sN h11 a 5 (a + 14 + 1)) a 22 = 0 := (sN_ne (by decide)).trans N22_h11
  have Z1_h12 : xI (sN h11 a 5 (a + 14 + 1)) (a + 1) = fun _ => 0 := Z1_h11
  have N0_h12 : xN (sN h11 a 5 (a + 14 + 1)) a 0 = a + 1 + 1 := (sN_ne (by decide)).trans N0_h11
  have Z2_h12 : xI (sN h11 a 5 (a + 14 + 1)) (a + 2) = fun _ => 0 := Z2_h11
  have N1_h12 : xN (sN h11 a 5 (a + 14 + 1)) a 1 = a + 2 + 1 := (sN_ne (by decide)).trans N1_h11
  have Z3_h12 : xI (sN h11 a 5 (a + 14 + 1)) (a + 3) = fun _ => 0 := Z3_h11
  have N2_h12 : xN (sN h11 a 5 (a + 14 + 1)) a 2 = a + 3 + 1 := (sN_ne (by decide)).trans N2_h11
  have Z5_h12 : xL (sN h11 a 5 (a + 14 + 1)) (a + 5) = fun _ => 0 := Z5_h11
  have Z6_h12 : xL (sN h11 a 5 (a + 14 + 1)) (a + 6) = fun _ => 0 := Z6_h11
  have Z7_h12 : xL (sN h11 a 5 (a + 14 + 1)) (a + 7) = fun _ => 0 := Z7_h11
  have Z8_h12 : xL (sN h11 a 5 (a + 14 + 1)) (a + 8) = fun _ => 0 := Z8_h11
  have Z9_h12 : xL (sN h11 a 5 (a + 14 + 1)) (a + 9) = fun _ => 0 := Z9_h11
  have Z10_h12 : xL (sN h11 a 5 (a + 14 + 1)) (a + 10) = fun _ => 0 := Z10_h11
  have Z11_h12 : xL (sN h11 a 5 (a + 14 + 1)) (a + 11) = fun _ => 0 := Z11_h11
  have Z12_h12 : xL (sN h11 a 5 (a + 14 + 1)) (a + 12) = fun _ => 0 := Z12_h11
  have N3_h12 : xN (sN h11 a 5 (a + 14 + 1)) a 3 = a + 4 + 1 := (sN_ne (by decide)).trans N3_h11
  have Z13_h12 : xL (sN h11 a 5 (a + 14 + 1)) (a + 13) = fun _ => 0 := Z13_h11
  have N4_h12 : xN (sN h11 a 5 (a + 14 + 1)) a 4 = a + 13 + 1 := (sN_ne (by decide)).trans N4_h11
  have Z14_h12 : xI (sN h11 a 5 (a + 14 + 1)) (a + 14) = fun _ => 0 := Z14_h11
  have K_h12 : xK (sN h11 a 5 (a + 14 + 1)) = xK h ++ [22, 22, 22, 33, 31, 31, 31, 31, 31, 31, 31, 31, 31, 22] := K_h11
  have N5_h12 : xN (sN h11 a 5 (a + 14 + 1)) a 5 = a + 14 + 1 := sN_at
  generalize sN h11 a 5 (a + 14 + 1) = h12 at NO_h12 LO_h12 I8_h12 I10_h12 I13_h12 I16_h12 I20_h12 N21_h12 N22_h12 Z1_h12 N0_h12 Z2_h12 N1_h12 Z3_h12 N2_h12 Z5_h12 Z6_h12 Z7_h12 Z8_h12 Z9_h12 Z10_h12 Z11_h12 Z12_h12 N3_h12 Z13_h12 N4_h12 Z14_h12 K_h12 N5_h12 ⊢
  have len_h12 : (xK h12).length = a + 15 := by rw [K_h12, List.length_append, hlen]; rfl
  refine r_aload_n C (dx dX7_init 27 rfl) rfl ?_
  refine r_bipush (v := nI 8) C (dx dX7_init 28 rfl) rfl ?_
  refine r_newa (kk := 22) (t := 0) (n := 8) (ty := .int) (S := "[" ++ (.int : FieldType).toString) (a0 := (8, .inl (fun _ => 0))) C X rfl rfl (by decide) (by rw [K_h12]; exact ⟨[30, 22, 20, 20, 21, 21, 34, 27, 27, 27, 27, 27, 27, 27, 27, 20], by rw [List.append_assoc, List.append_assoc]; rfl⟩) NO_h12 (by rw [len_h12]; exact oa4 hb (by decide)) rfl q_ac_int (fun _ => rfl) (fun _ _ q => q) (fun _ => rfl) (fun dA f h9 a9 e1 e2 => by rw [ent_arr (q := (0, 8, 0)) rfl rfl]; simp [entA, e1, e2]) (by decide) (by decide) (dx dX7_init 29 rfl) ?_
  rw [len_h12]
  have NO_h13 : NOk (nw h12 22) := NO_h12.nw
  have LO_h13 : Lo a h (nw h12 22) := LO_h12.tr (Lo.nw (by rw [len_h12]; exact Nat.le_add_right _ _))
  have I8_h13 : xI (nw h12 22) a 8 = 0 := by rw [(nw_ne (h := h12) (k := 22) (b := a) (by rw [len_h12]; exact oa3 (by decide))).1]; exact I8_h12
  have I10_h13 : xI (nw h12 22) a 10 = 0 := by rw [(nw_ne (h := h12) (k := 22) (b := a) (by rw [len_h12]; exact oa3 (by decide))).1]; exact I10_h12
  have I13_h13 : xI (nw h12 22) a 13 = 0 := by rw [(nw_ne (h := h12) (k := 22) (b := a) (by rw [len_h12]; exact oa3 (by decide))).1]; exact I13_h12
  have I16_h13 : xI (nw h12 22) a 16 = 0 := by rw [(nw_ne (h := h12) (k := 22) (b := a) (by rw [len_h12]; exact oa3 (by decide))).1]; exact I16_h12
  have I20_h13 : xI (nw h12 22) a 20 = 0 := by rw [(nw_ne (h := h12) (k := 22) (b := a) (by rw [len_h12]; exact oa3 (by decide))).1]; exact I20_h12
  have N21_h13 : xN (nw h12 22) a 21 = 0 := by rw [(nw_ne (h := h12) (k := 22) (b := a) (by rw [len_h12]; exact oa3 (by decide))).2.2]; exact N21_h12
  have N22_h13 : xN (nw h12 22) a 22 = 0 := by rw [(nw_ne (h := h12) (k := 22) (b := a) (by rw [len_h12]; exact oa3 (by decide))).2.2]; exact N22_h12
  have Z1_h13 : xI (nw h12 22) (a + 1) = fun _ => 0 := by rw [(nw_ne (h := h12) (k := 22) (b := a + 1) (by rw [len_h12]; exact oa2 (by decide))).1]; exact Z1_h12
  have N0_h13 : xN (nw h12 22) a 0 = a + 1 + 1 := by rw [(nw_ne (h := h12) (k := 22) (b := a) (by rw [len_h12]; exact oa3 (by decide))).2.2]; exact N0_h12
  have Z2_h13 : xI (nw h12 22) (a + 2) = fun _ => 0 := by rw [(nw_ne (h := h12) (k := 22) (b := a + 2) (by rw [len_h12]; exact oa2 (by decide))).1]; exact Z2_h12
  have N1_h13 : xN (nw h12 22) a 1 = a + 2 + 1 := by rw [(nw_ne (h := h12) (k := 22) (b := a) (by rw [len_h12]; exact oa3 (by decide))).2.2]; exact N1_h12
  have Z3_h13 : xI (nw h12 22) (a + 3) = fun _ => 0 := by rw [(nw_ne (h := h12) (k := 22) (b := a + 3) (by rw [len_h12]; exact oa2 (by decide))).1]; exact Z3_h12
  have N2_h13 : xN (nw h12 22) a 2 = a + 3 + 1 := by rw [(nw_ne (h := h12) (k := 22) (b := a) (by rw [len_h12]; exact oa3 (by decide))).2.2]; exact N2_h12
  have Z5_h13 : xL (nw h12 22) (a + 5) = fun _ => 0 := by rw [(nw_ne (h := h12) (k := 22) (b := a + 5) (by rw [len_h12]; exact oa2 (by decide))).2.1]; exact Z5_h12
  have Z6_h13 : xL (nw h12 22) (a + 6) = fun _ => 0 := by rw [(nw_ne (h := h12) (k := 22) (b := a + 6) (by rw [len_h12]; exact oa2 (by decide))).2.1]; exact Z6_h12
  have Z7_h13 : xL (nw h12 22) (a + 7) = fun _ => 0 := by rw [(nw_ne (h := h12) (k := 22) (b := a + 7) (by rw [len_h12]; exact oa2 (by decide))).2.1]; exact Z7_h12
  have Z8_h13 : xL (nw h12 22) (a + 8) = fun _ => 0 := by rw [(nw_ne (h := h12) (k := 22) (b := a + 8) (by rw [len_h12]; exact oa2 (by decide))).2.1]; exact Z8_h12
  have Z9_h13 : xL (nw h12 22) (a + 9) = fun _ => 0 := by rw [(nw_ne (h := h12) (k := 22) (b := a + 9) (by rw [len_h12]; exact oa2 (by decide))).2.1]; exact Z9_h12
  have Z10_h13 : xL (nw h12 22) (a + 10) = fun _ => 0 := by rw [(nw_ne (h := h12) (k := 22) (b := a + 10) (by rw [len_h12]; exact oa2 (by decide))).2.1]; exact Z10_h12
  have Z11_h13 : xL (nw h12 22) (a + 11) = fun _ => 0 := by rw [(nw_ne (h := h12) (k := 22) (b := a + 11) (by rw [len_h12]; exact oa2 (by decide))).2.1]; exact Z11_h12
  have Z12_h13 : xL (nw h12 22) (a + 12) = fun _ => 0 := by rw [(nw_ne (h := h12) (k := 22) (b := a + 12) (by rw [len_h12]; exact oa2 (by decide))).2.1]; exact Z12_h12
  have N3_h13 : xN (nw h12 22) a 3 = a + 4 + 1 := by rw [(nw_ne (h := h12) (k := 22) (b := a) (by rw [len_h12]; exact oa3 (by decide))).2.2]; exact N3_h12
  have Z13_h13 : xL (nw h12 22) (a + 13) = fun _ => 0 := by rw [(nw_ne (h := h12) (k := 22) (b := a + 13) (by rw [len_h12]; exact oa2 (by decide))).2.1]; exact Z13_h12
  have N4_h13 : xN (nw h12 22) a 4 = a + 13 + 1 := by rw [(nw_ne (h := h12) (k := 22) (b := a) (by rw [len_h12]; exact oa3 (by decide))).2.2]; exact N4_h12
  have Z14_h13 : xI (nw h12 22) (a + 14) = fun _ => 0 := by rw [(nw_ne (h := h12) (k := 22) (b := a + 14) (by rw [len_h12]; exact oa2 (by decide))).1]; exact Z14_h12
  have N5_h13 : xN (nw h12 22) a 5 = a + 14 + 1 := by rw [(nw_ne (h := h12) (k := 22) (b := a) (by rw [len_h12]; exact oa3 (by decide))).2.2]; exact N5_h12
  have Z15_h13 : xI (nw h12 22) (a + 15) = fun _ => 0 := by have q9 := nw_I (h := h12) (k := 22); rw [len_h12] at q9; exact q9
  have K_h13 : xK (nw h12 22) = xK h ++ [22, 22, 22, 33, 31, 31, 31, 31, 31, 31, 31, 31, 31, 22, 22] := by show xK h12 ++ _ = _; rw [K_h12, List.append_assoc]; rfl
  generalize nw h12 22 = h13 at NO_h13 LO_h13 I8_h13 I10_h13 I13_h13 I16_h13 I20_h13 N21_h13 N22_h13 Z1_h13 N0_h13 Z2_h13 N1_h13 Z3_h13 N2_h13 Z5_h13 Z6_h13 Z7_h13 Z8_h13 Z9_h13 Z10_h13 Z11_h13 Z12_h13 N3_h13 Z13_h13 N4_h13 Z14_h13 N5_h13 Z15_h13 K_h13 ⊢
  have len_h13 : (xK h13).length = a + 16 := by rw [K_h13, List.length_append, hlen]; rfl
  refine r_putNF (k := 15) (j := 6) (t := 0) C hI rfl rfl rfl (by decide) f_X7_31 rfl rfl (fun _ => rfl) (fun _ => rfl) (dx dX7_init 30 rfl) ?_
  have NO_h14 : NOk (sN h13 a 6 (a + 15 + 1)) := NO_h13.sN (by rw [len_h13]; exact oa6 (by decide))
  have LO_h14 : Lo a h (sN h13 a 6 (a + 15 + 1)) := LO_h13.tr (Lo.sN (Nat.le_refl _))
  have I8_h14 : xI (sN h13 a 6 (a + 15 + 1)) a 8 = 0 := I8_h13
  have I10_h14 : xI (sN h13 a 6 (a + 15 + 1)) a 10 = 0 := I10_h13
  have I13_h14 : xI (sN h13 a 6 (a + 15 + 1)) a 13 = 0 := I13_h13
  have I16_h14 : xI (sN h13 a 6 (a + 15 + 1)) a 16 = 0 := I16_h13
  have I20_h14 : xI (sN h13 a 6 (a + 15 + 1)) a 20 = 0 := I20_h13
  have N21_h14 : xN (sN h13 a 6 (a + 15 + 1)) a 21 = 0 := (sN_ne (by decide)).trans N21_h13
  have N22_h14 : xN (sN h13 a 6 (a + 15 + 1)) a 22 = 0 := (sN_ne (by decide)).trans N22_h13
  have Z1_h14 : xI (sN h13 a 6 (a + 15 + 1)) (a + 1) = fun _ => 0 := Z1_h13
  have N0_h14 : xN (sN h13 a 6 (a + 15 + 1)) a 0 = a + 1 + 1 := (sN_ne (by decide)).trans N0_h13
  have Z2_h14 : xI (sN h13 a 6 (a + 15 + 1)) (a + 2) = fun _ => 0 := Z2_h13
  have N1_h14 : xN (sN h13 a 6 (a + 15 + 1)) a 1 = a + 2 + 1 := (sN_ne (by decide)).trans N1_h13
  have Z3_h14 : xI (sN h13 a 6 (a + 15 + 1)) (a + 3) = fun _ => 0 := Z3_h13
  have N2_h14 : xN (sN h13 a 6 (a + 15 + 1)) a 2 = a + 3 + 1 := (sN_ne (by decide)).trans N2_h13
  have Z5_h14 : xL (sN h13 a 6 (a + 15 + 1)) (a + 5) = fun _ => 0 := Z5_h13
  have Z6_h14 : xL (sN h13 a 6 (a + 15 + 1)) (a + 6) = fun _ => 0 := Z6_h13
  have Z7_h14 : xL (sN h13 a 6 (a + 15 + 1)) (a + 7) = fun _ => 0 := Z7_h13
  have Z8_h14 : xL (sN h13 a 6 (a + 15 + 1)) (a + 8) = fun _ => 0 := Z8_h13
  have Z9_h14 : xL (sN h13 a 6 (a + 15 + 1)) (a + 9) = fun _ => 0 := Z9_h13
  have Z10_h14 : xL (sN h13 a 6 (a + 15 + 1)) (a + 10) = fun _ => 0 := Z10_h13
  have Z11_h14 : xL (sN h13 a 6 (a + 15 + 1)) (a + 11) = fun _ => 0 := Z11_h13
  have Z12_h14 : xL (sN h13 a 6 (a + 15 + 1)) (a + 12) = fun _ => 0 := Z12_h13
  have N3_h14 : xN (sN h13 a 6 (a + 15 + 1)) a 3 = a + 4 + 1 := (sN_ne (by decide)).trans N3_h13
  have Z13_h14 : xL (sN h13 a 6 (a + 15 + 1)) (a + 13) = fun _ => 0 := Z13_h13
  have N4_h14 : xN (sN h13 a 6 (a + 15 + 1)) a 4 = a + 13 + 1 := (sN_ne (by decide)).trans N4_h13
  have Z14_h14 : xI (sN h13 a 6 (a + 15 + 1)) (a + 14) = fun _ => 0 := Z14_h13
  have N5_h14 : xN (sN h13 a 6 (a + 15 + 1)) a 5 = a + 14 + 1 := (sN_ne (by decide)).trans N5_h13
  have Z15_h14 : xI (sN h13 a 6 (a + 15 + 1)) (a + 15) = fun _ => 0 := Z15_h13
  have K_h14 : xK (sN h13 a 6 (a + 15 + 1)) = xK h ++ [22, 22, 22, 33, 31, 31, 31, 31, 31, 31, 31, 31, 31, 22, 22] := K_h13
  have N6_h14 : xN (sN h13 a 6 (a + 15 + 1)) a 6 = a + 15 + 1 := sN_at
  generalize sN h13 a 6 (a + 15 + 1) = h14 at NO_h14 LO_h14 I8_h14 I10_h14 I13_h14 I16_h14 I20_h14 N21_h14 N22_h14 Z1_h14 N0_h14 Z2_h14 N1_h14 Z3_h14 N2_h14 Z5_h14 Z6_h14 Z7_h14 Z8_h14 Z9_h14 Z10_h14 Z11_h14 Z12_h14 N3_h14 Z13_h14 N4_h14 Z14_h14 N5_h14 Z15_h14 K_h14 N6_h14 ⊢
  have len_h14 : (xK h14).length = a + 16 := by rw [K_h14, List.length_append, hlen]; rfl
  refine r_aload_n C (dx dX7_init 31 rfl) rfl ?_
  refine r_sipush (v := nI 250) C (dx dX7_init 32 rfl) rfl ?_
  refine r_newa (kk := 30) (t := 0) (n := 250) (ty := .int) (S := "[" ++ (.int : FieldType).toString) (a0 := (250, .inl (fun _ => 0))) C X rfl rfl (by decide) (by rw [K_h14]; exact ⟨[22, 20, 20, 21, 21, 34, 27, 27, 27, 27, 27, 27, 27, 27, 20], by rw [List.append_assoc, List.append_assoc]; rfl⟩) NO_h14 (by rw [len_h14]; exact oa4 hb (by decide)) rfl q_ac_int (fun _ => rfl) (fun _ _ q => q) (fun _ => rfl) (fun dA f h9 a9 e1 e2 => by rw [ent_arr (q := (0, 250, 0)) rfl rfl]; simp [entA, e1, e2]) (by decide) (by decide) (dx dX7_init 33 rfl) ?_
  rw [len_h14]
  have NO_h15 : NOk (nw h14 30) := NO_h14.nw
  have LO_h15 : Lo a h (nw h14 30) := LO_h14.tr (Lo.nw (by rw [len_h14]; exact Nat.le_add_right _ _))
  have I8_h15 : xI (nw h14 30) a 8 = 0 := by rw [(nw_ne (h := h14) (k := 30) (b := a) (by rw [len_h14]; exact oa3 (by decide))).1]; exact I8_h14
  have I10_h15 : xI (nw h14 30) a 10 = 0 := by rw [(nw_ne (h := h14) (k := 30) (b := a) (by rw [len_h14]; exact oa3 (by decide))).1]; exact I10_h14
  have I13_h15 : xI (nw h14 30) a 13 = 0 := by rw [(nw_ne (h := h14) (k := 30) (b := a) (by rw [len_h14]; exact oa3 (by decide))).1]; exact I13_h14
  have I16_h15 : xI (nw h14 30) a 16 = 0 := by rw [(nw_ne (h := h14) (k := 30) (b := a) (by rw [len_h14]; exact oa3 (by decide))).1]; exact I16_h14
  have I20_h15 : xI (nw h14 30) a 20 = 0 := by rw [(nw_ne (h := h14) (k := 30) (b := a) (by rw [len_h14]; exact oa3 (by decide))).1]; exact I20_h14
  have N21_h15 : xN (nw h14 30) a 21 = 0 := by rw [(nw_ne (h := h14) (k := 30) (b := a) (by rw [len_h14]; exact oa3 (by decide))).2.2]; exact N21_h14
  have N22_h15 : xN (nw h14 30) a 22 = 0 := by rw [(nw_ne (h := h14) (k := 30) (b := a) (by rw [len_h14]; exact oa3 (by decide))).2.2]; exact N22_h14
  have Z1_h15 : xI (nw h14 30) (a + 1) = fun _ => 0 := by rw [(nw_ne (h := h14) (k := 30) (b := a + 1) (by rw [len_h14]; exact oa2 (by decide))).1]; exact Z1_h14
  have N0_h15 : xN (nw h14 30) a 0 = a + 1 + 1 := by rw [(nw_ne (h := h14) (k := 30) (b := a) (by rw [len_h14]; exact oa3 (by decide))).2.2]; exact N0_h14
  have Z2_h15 : xI (nw h14 30) (a + 2) = fun _ => 0 := by rw [(nw_ne (h := h14) (k := 30) (b := a + 2) (by rw [len_h14]; exact oa2 (by decide))).1]; exact Z2_h14
  have N1_h15 : xN (nw h14 30) a 1 = a + 2 + 1 := by rw [(nw_ne (h := h14) (k := 30) (b := a) (by rw [len_h14]; exact oa3 (by decide))).2.2]; exact N1_h14
  have Z3_h15 : xI (nw h14 30) (a + 3) = fun _ => 0 := by rw [(nw_ne (h := h14) (k := 30) (b := a + 3) (by rw [len_h14]; exact oa2 (by decide))).1]; exact Z3_h14
  have N2_h15 : xN (nw h14 30) a 2 = a + 3 + 1 := by rw [(nw_ne (h := h14) (k := 30) (b := a) (by rw [len_h14]; exact oa3 (by decide))).2.2]; exact N2_h14
  have Z5_h15 : xL (nw h14 30) (a + 5) = fun _ => 0 := by rw [(nw_ne (h := h14) (k := 30) (b := a + 5) (by rw [len_h14]; exact oa2 (by decide))).2.1]; exact Z5_h14
  have Z6_h15 : xL (nw h14 30) (a + 6) = fun _ => 0 := by rw [(nw_ne (h := h14) (k := 30) (b := a + 6) (by rw [len_h14]; exact oa2 (by decide))).2.1]; exact Z6_h14
  have Z7_h15 : xL (nw h14 30) (a + 7) = fun _ => 0 := by rw [(nw_ne (h := h14) (k := 30) (b := a + 7) (by rw [len_h14]; exact oa2 (by decide))).2.1]; exact Z7_h14
  have Z8_h15 : xL (nw h14 30) (a + 8) = fun _ => 0 := by rw [(nw_ne (h := h14) (k := 30) (b := a + 8) (by rw [len_h14]; exact oa2 (by decide))).2.1]; exact Z8_h14
  have Z9_h15 : xL (nw h14 30) (a + 9) = fun _ => 0 := by rw [(nw_ne (h := h14) (k := 30) (b := a + 9) (by rw [len_h14]; exact oa2 (by decide))).2.1]; exact Z9_h14
  have Z10_h15 : xL (nw h14 30) (a + 10) = fun _ => 0 := by rw [(nw_ne (h := h14) (k := 30) (b := a + 10) (by rw [len_h14]; exact oa2 (by decide))).2.1]; exact Z10_h14
  have Z11_h15 : xL (nw h14 30) (a + 11) = fun _ => 0 := by rw [(nw_ne (h := h14) (k := 30) (b := a + 11) (by rw [len_h14]; exact oa2 (by decide))).2.1]; exact Z11_h14
  have Z12_h15 : xL (nw h14 30) (a + 12) = fun _ => 0 := by rw [(nw_ne (h := h14) (k := 30) (b := a + 12) (by rw [len_h14]; exact oa2 (by decide))).2.1]; exact Z12_h14
  have N3_h15 : xN (nw h14 30) a 3 = a + 4 + 1 := by rw [(nw_ne (h := h14) (k := 30) (b := a) (by rw [len_h14]; exact oa3 (by decide))).2.2]; exact N3_h14
  have Z13_h15 : xL (nw h14 30) (a + 13) = fun _ => 0 := by rw [(nw_ne (h := h14) (k := 30) (b := a + 13) (by rw [len_h14]; exact oa2 (by decide))).2.1]; exact Z13_h14
  have N4_h15 : xN (nw h14 30) a 4 = a + 13 + 1 := by rw [(nw_ne (h := h14) (k := 30) (b := a) (by rw [len_h14]; exact oa3 (by decide))).2.2]; exact N4_h14
  have Z14_h15 : xI (nw h14 30) (a + 14) = fun _ => 0 := by rw [(nw_ne (h := h14) (k := 30) (b := a + 14) (by rw [len_h14]; exact oa2 (by decide))).1]; exact Z14_h14
  have N5_h15 : xN (nw h14 30) a 5 = a + 14 + 1 := by rw [(nw_ne (h := h14) (k := 30) (b := a) (by rw [len_h14]; exact oa3 (by decide))).2.2]; exact N5_h14
  have Z15_h15 : xI (nw h14 30) (a + 15) = fun _ => 0 := by rw [(nw_ne (h := h14) (k := 30) (b := a + 15) (by rw [len_h14]; exact oa2 (by decide))).1]; exact Z15_h14
  have N6_h15 : xN (nw h14 30) a 6 = a + 15 + 1 := by rw [(nw_ne (h := h14) (k := 30) (b := a) (by rw [len_h14]; exact oa3 (by decide))).2.2]; exact N6_h14
  have Z16_h15 : xI (nw h14 30) (a + 16) = fun _ => 0 := by have q9 := nw_I (h := h14) (k := 30); rw [len_h14] at q9; exact q9
  have K_h15 : xK (nw h14 30) = xK h ++ [22, 22, 22, 33, 31, 31, 31, 31, 31, 31, 31, 31, 31, 22, 22, 30] := by show xK h14 ++ _ = _; rw [K_h14, List.append_assoc]; rfl
  generalize nw h14 30 = h15 at NO_h15 LO_h15 I8_h15 I10_h15 I13_h15 I16_h15 I20_h15 N21_h15 N22_h15 Z1_h15 N0_h15 Z2_h15 N1_h15 Z3_h15 N2_h15 Z5_h15 Z6_h15 Z7_h15 Z8_h15 Z9_h15 Z10_h15 Z11_h15 Z12_h15 N3_h15 Z13_h15 N4_h15 Z14_h15 N5_h15 Z15_h15 N6_h15 Z16_h15 K_h15 ⊢
  have len_h15 : (xK h15).length = a + 17 := by rw [K_h15, List.length_append, hlen]; rfl
  refine r_putNF (k := 15) (j := 7) (t := 0) C hI rfl rfl rfl (by decide) f_X7_34 rfl rfl (fun _ => rfl) (fun _ => rfl) (dx dX7_init 34 rfl) ?_
  have NO_h16 : NOk (sN h15 a 7 (a + 16 + 1)) := NO_h15.sN (by rw [len_h15]; exact oa6 (by decide))
  have LO_h16 : Lo a h (sN h15 a 7 (a + 16 + 1)) := LO_h15.tr (Lo.sN (Nat.le_refl _))
  have I8_h16 : xI (sN h15 a 7 (a + 16 + 1)) a 8 = 0 := I8_h15
  have I10_h16 : xI (sN h15 a 7 (a + 16 + 1)) a 10 = 0 := I10_h15
  have I13_h16 : xI (sN h15 a 7 (a + 16 + 1)) a 13 = 0 := I13_h15
  have I16_h16 : xI (sN h15 a 7 (a + 16 + 1)) a 16 = 0 := I16_h15
  have I20_h16 : xI (sN h15 a 7 (a + 16 + 1)) a 20 = 0 := I20_h15
  have N21_h16 : xN (sN h15 a 7 (a + 16 + 1)) a 21 = 0 := (sN_ne (by decide)).trans N21_h15
  have N22_h16 : xN (sN h15 a 7 (a + 16 + 1)) a 22 = 0 := (sN_ne (by decide)).trans N22_h15
  have Z1_h16 : xI (sN h15 a 7 (a + 16 + 1)) (a + 1) = fun _ => 0 := Z1_h15
  have N0_h16 : xN (sN h15 a 7 (a + 16 + 1)) a 0 = a + 1 + 1 := (sN_ne (by decide)).trans N0_h15
  have Z2_h16 : xI (sN h15 a 7 (a + 16 + 1)) (a + 2) = fun _ => 0 := Z2_h15
  have N1_h16 : xN (sN h15 a 7 (a + 16 + 1)) a 1 = a + 2 + 1 := (sN_ne (by decide)).trans N1_h15
  have Z3_h16 : xI (sN h15 a 7 (a + 16 + 1)) (a + 3) = fun _ => 0 := Z3_h15
  have N2_h16 : xN (sN h15 a 7 (a + 16 + 1)) a 2 = a + 3 + 1 := (sN_ne (by decide)).trans N2_h15
  have Z5_h16 : xL (sN h15 a 7 (a + 16 + 1)) (a + 5) = fun _ => 0 := Z5_h15
  have Z6_h16 : xL (sN h15 a 7 (a + 16 + 1)) (a + 6) = fun _ => 0 := Z6_h15
  have Z7_h16 : xL (sN h15 a 7 (a + 16 + 1)) (a + 7) = fun _ => 0 := Z7_h15
  have Z8_h16 : xL (sN h15 a 7 (a + 16 + 1)) (a + 8) = fun _ => 0 := Z8_h15
  have Z9_h16 : xL (sN h15 a 7 (a + 16 + 1)) (a + 9) = fun _ => 0 := Z9_h15
  have Z10_h16 : xL (sN h15 a 7 (a + 16 + 1)) (a + 10) = fun _ => 0 := Z10_h15
  have Z11_h16 : xL (sN h15 a 7 (a + 16 + 1)) (a + 11) = fun _ => 0 := Z11_h15
  have Z12_h16 : xL (sN h15 a 7 (a + 16 + 1)) (a + 12) = fun _ => 0 := Z12_h15
  have N3_h16 : xN (sN h15 a 7 (a + 16 + 1)) a 3 = a + 4 + 1 := (sN_ne (by decide)).trans N3_h15
  have Z13_h16 : xL (sN h15 a 7 (a + 16 + 1)) (a + 13) = fun _ => 0 := Z13_h15
  have N4_h16 : xN (sN h15 a 7 (a + 16 + 1)) a 4 = a + 13 + 1 := (sN_ne (by decide)).trans N4_h15
  have Z14_h16 : xI (sN h15 a 7 (a + 16 + 1)) (a + 14) = fun _ => 0 := Z14_h15
  have N5_h16 : xN (sN h15 a 7 (a + 16 + 1)) a 5 = a + 14 + 1 := (sN_ne (by decide)).trans N5_h15
  have Z15_h16 : xI (sN h15 a 7 (a + 16 + 1)) (a + 15) = fun _ => 0 := Z15_h15
  have N6_h16 : xN (sN h15 a 7 (a + 16 + 1)) a 6 = a + 15 + 1 := (sN_ne (by decide)).trans N6_h15
  have Z16_h16 : xI (sN h15 a 7 (a + 16 + 1)) (a + 16) = fun _ => 0 := Z16_h15
  have K_h16 : xK (sN h15 a 7 (a + 16 + 1)) = xK h ++ [22, 22, 22, 33, 31, 31, 31, 31, 31, 31, 31, 31, 31, 22, 22, 30] := K_h15
  have N7_h16 : xN (sN h15 a 7 (a + 16 + 1)) a 7 = a + 16 + 1 := sN_at
  generalize sN h15 a 7 (a + 16 + 1) = h16 at NO_h16 LO_h16 I8_h16 I10_h16 I13_h16 I16_h16 I20_h16 N21_h16 N22_h16 Z1_h16 N0_h16 Z2_h16 N1_h16 Z3_h16 N2_h16 Z5_h16 Z6_h16 Z7_h16 Z8_h16 Z9_h16 Z10_h16 Z11_h16 Z12_h16 N3_h16 Z13_h16 N4_h16 Z14_h16 N5_h16 Z15_h16 N6_h16 Z16_h16 K_h16 N7_h16 ⊢
  have len_h16 : (xK h16).length = a + 17 := by rw [K_h16, List.length_append, hlen]; rfl
  refine r_aload_n C (dx dX7_init 35 rfl) rfl ?_
  refine r_bipush (v := nI 8) C (dx dX7_init 36 rfl) rfl ?_
  refine r_newa (kk := 22) (t := 0) (n := 8) (ty := .int) (S := "[" ++ (.int : FieldType).toString) (a0 := (8, .inl (fun _ => 0))) C X rfl rfl (by decide) (by rw [K_h16]; exact ⟨[20, 20, 21, 21, 34, 27, 27, 27, 27, 27, 27, 27, 27, 20], by rw [List.append_assoc, List.append_assoc]; rfl⟩) NO_h16 (by rw [len_h16]; exact oa4 hb (by decide)) rfl q_ac_int (fun _ => rfl) (fun _ _ q => q) (fun _ => rfl) (fun dA f h9 a9 e1 e2 => by rw [ent_arr (q := (0, 8, 0)) rfl rfl]; simp [entA, e1, e2]) (by decide) (by decide) (dx dX7_init 37 rfl) ?_
  rw [len_h16]
  have NO_h17 : NOk (nw h16 22) := NO_h16.nw
  have LO_h17 : Lo a h (nw h16 22) := LO_h16.tr (Lo.nw (by rw [len_h16]; exact Nat.le_add_right _ _))
  have I8_h17 : xI (nw h16 22) a 8 = 0 := by rw [(nw_ne (h := h16) (k := 22) (b := a) (by rw [len_h16]; exact oa3 (by decide))).1]; exact I8_h16
  have I10_h17 : xI (nw h16 22) a 10 = 0 := by rw [(nw_ne (h := h16) (k := 22) (b := a) (by rw [len_h16]; exact oa3 (by decide))).1]; exact I10_h16
  have I13_h17 : xI (nw h16 22) a 13 = 0 := by rw [(nw_ne (h := h16) (k := 22) (b := a) (by rw [len_h16]; exact oa3 (by decide))).1]; exact I13_h16
  have I16_h17 : xI (nw h16 22) a 16 = 0 := by rw [(nw_ne (h := h16) (k := 22) (b := a) (by rw [len_h16]; exact oa3 (by decide))).1]; exact I16_h16
  have I20_h17 : xI (nw h16 22) a 20 = 0 := by rw [(nw_ne (h := h16) (k := 22) (b := a) (by rw [len_h16]; exact oa3 (by decide))).1]; exact I20_h16
  have N21_h17 : xN (nw h16 22) a 21 = 0 := by rw [(nw_ne (h := h16) (k := 22) (b := a) (by rw [len_h16]; exact oa3 (by decide))).2.2]; exact N21_h16
  have N22_h17 : xN (nw h16 22) a 22 = 0 := by rw [(nw_ne (h := h16) (k := 22) (b := a) (by rw [len_h16]; exact oa3 (by decide))).2.2]; exact N22_h16
  have Z1_h17 : xI (nw h16 22) (a + 1) = fun _ => 0 := by rw [(nw_ne (h := h16) (k := 22) (b := a + 1) (by rw [len_h16]; exact oa2 (by decide))).1]; exact Z1_h16
  have N0_h17 : xN (nw h16 22) a 0 = a + 1 + 1 := by rw [(nw_ne (h := h16) (k := 22) (b := a) (by rw [len_h16]; exact oa3 (by decide))).2.2]; exact N0_h16
  have Z2_h17 : xI (nw h16 22) (a + 2) = fun _ => 0 := by rw [(nw_ne (h := h16) (k := 22) (b := a + 2) (by rw [len_h16]; exact oa2 (by decide))).1]; exact Z2_h16
  have N1_h17 : xN (nw h16 22) a 1 = a + 2 + 1 := by rw [(nw_ne (h := h16) (k := 22) (b := a) (by rw [len_h16]; exact oa3 (by decide))).2.2]; exact N1_h16
  have Z3_h17 : xI (nw h16 22) (a + 3) = fun _ => 0 := by rw [(nw_ne (h := h16) (k := 22) (b := a + 3) (by rw [len_h16]; exact oa2 (by decide))).1]; exact Z3_h16
  have N2_h17 : xN (nw h16 22) a 2 = a + 3 + 1 := by rw [(nw_ne (h := h16) (k := 22) (b := a) (by rw [len_h16]; exact oa3 (by decide))).2.2]; exact N2_h16
  have Z5_h17 : xL (nw h16 22) (a + 5) = fun _ => 0 := by rw [(nw_ne (h := h16) (k := 22) (b := a + 5) (by rw [len_h16]; exact oa2 (by decide))).2.1]; exact Z5_h16
  have Z6_h17 : xL (nw h16 22) (a + 6) = fun _ => 0 := by rw [(nw_ne (h := h16) (k := 22) (b := a + 6) (by rw [len_h16]; exact oa2 (by decide))).2.1]; exact Z6_h16
  have Z7_h17 : xL (nw h16 22) (a + 7) = fun _ => 0 := by rw [(nw_ne (h := h16) (k := 22) (b := a + 7) (by rw [len_h16]; exact oa2 (by decide))).2.1]; exact Z7_h16
  have Z8_h17 : xL (nw h16 22) (a + 8) = fun _ => 0 := by rw [(nw_ne (h := h16) (k := 22) (b := a + 8) (by rw [len_h16]; exact oa2 (by decide))).2.1]; exact Z8_h16
  have Z9_h17 : xL (nw h16 22) (a + 9) = fun _ => 0 := by rw [(nw_ne (h := h16) (k := 22) (b := a + 9) (by rw [len_h16]; exact oa2 (by decide))).2.1]; exact Z9_h16
  have Z10_h17 : xL (nw h16 22) (a + 10) = fun _ => 0 := by rw [(nw_ne (h := h16) (k := 22) (b := a + 10) (by rw [len_h16]; exact oa2 (by decide))).2.1]; exact Z10_h16
  have Z11_h17 : xL (nw h16 22) (a + 11) = fun _ => 0 := by rw [(nw_ne (h := h16) (k := 22) (b := a + 11) (by rw [len_h16]; exact oa2 (by decide))).2.1]; exact Z11_h16
  have Z12_h17 : xL (nw h16 22) (a + 12) = fun _ => 0 := by rw [(nw_ne (h := h16) (k := 22) (b := a + 12) (by rw [len_h16]; exact oa2 (by decide))).2.1]; exact Z12_h16
  have N3_h17 : xN (nw h16 22) a 3 = a + 4 + 1 := by rw [(nw_ne (h := h16) (k := 22) (b := a) (by rw [len_h16]; exact oa3 (by decide))).2.2]; exact N3_h16
  have Z13_h17 : xL (nw h16 22) (a + 13) = fun _ => 0 := by rw [(nw_ne (h := h16) (k := 22) (b := a + 13) (by rw [len_h16]; exact oa2 (by decide))).2.1]; exact Z13_h16
  have N4_h17 : xN (nw h16 22) a 4 = a + 13 + 1 := by rw [(nw_ne (h := h16) (k := 22) (b := a) (by rw [len_h16]; exact oa3 (by decide))).2.2]; exact N4_h16
  have Z14_h17 : xI (nw h16 22) (a + 14) = fun _ => 0 := by rw [(nw_ne (h := h16) (k := 22) (b := a + 14) (by rw [len_h16]; exact oa2 (by decide))).1]; exact Z14_h16
  have N5_h17 : xN (nw h16 22) a 5 = a + 14 + 1 := by rw [(nw_ne (h := h16) (k := 22) (b := a) (by rw [len_h16]; exact oa3 (by decide))).2.2]; exact N5_h16
  have Z15_h17 : xI (nw h16 22) (a + 15) = fun _ => 0 := by rw [(nw_ne (h := h16) (k := 22) (b := a + 15) (by rw [len_h16]; exact oa2 (by decide))).1]; exact Z15_h16
  have N6_h17 : xN (nw h16 22) a 6 = a + 15 + 1 := by rw [(nw_ne (h := h16) (k := 22) (b := a) (by rw [len_h16]; exact oa3 (by decide))).2.2]; exact N6_h16
  have Z16_h17 : xI (nw h16 22) (a + 16) = fun _ => 0 := by rw [(nw_ne (h := h16) (k := 22) (b := a + 16) (by rw [len_h16]; exact oa2 (by decide))).1]; exact Z16_h16
  have N7_h17 : xN (nw h16 22) a 7 = a + 16 + 1 := by rw [(nw_ne (h := h16) (k := 22) (b := a) (by rw [len_h16]; exact oa3 (by decide))).2.2]; exact N7_h16
  have Z17_h17 : xI (nw h16 22) (a + 17) = fun _ => 0 := by have q9 := nw_I (h := h16) (k := 22); rw [len_h16] at q9; exact q9
  have K_h17 : xK (nw h16 22) = xK h ++ [22, 22, 22, 33, 31, 31, 31, 31, 31, 31, 31, 31, 31, 22, 22, 30, 22] := by show xK h16 ++ _ = _; rw [K_h16, List.append_assoc]; rfl
  generalize nw h16 22 = h17 at NO_h17 LO_h17 I8_h17 I10_h17 I13_h17 I16_h17 I20_h17 N21_h17 N22_h17 Z1_h17 N0_h17 Z2_h17 N1_h17 Z3_h17 N2_h17 Z5_h17 Z6_h17 Z7_h17 Z8_h17 Z9_h17 Z10_h17 Z11_h17 Z12_h17 N3_h17 Z13_h17 N4_h17 Z14_h17 N5_h17 Z15_h17 N6_h17 Z16_h17 N7_h17 Z17_h17 K_h17 ⊢
  have len_h17 : (xK h17).length = a + 18 := by rw [K_h17, List.length_append, hlen]; rfl
  refine r_putNF (k := 15) (j := 9) (t := 0) C hI rfl rfl rfl (by decide) f_X7_37 rfl rfl (fun _ => rfl) (fun _ => rfl) (dx dX7_init 38 rfl) ?_
  have NO_h18 : NOk (sN h17 a 9 (a + 17 + 1)) := NO_h17.sN (by rw [len_h17]; exact oa6 (by decide))
  have LO_h18 : Lo a h (sN h17 a 9 (a + 17 + 1)) := LO_h17.tr (Lo.sN (Nat.le_refl _))
  have I8_h18 : xI (sN h17 a 9 (a + 17 + 1)) a 8 = 0 := I8_h17
  have I10_h18 : xI (sN h17 a 9 (a + 17 + 1)) a 10 = 0 := I10_h17
  have I13_h18 : xI (sN h17 a 9 (a + 17 + 1)) a 13 = 0 := I13_h17
  have I16_h18 : xI (sN h17 a 9 (a + 17 + 1)) a 16 = 0 := I16_h17
  have I20_h18 : xI (sN h17 a 9 (a + 17 + 1)) a 20 = 0 := I20_h17
  have N21_h18 : xN (sN h17 a 9 (a + 17 + 1)) a 21 = 0 := (sN_ne (by decide)).trans N21_h17
  have N22_h18 : xN (sN h17 a 9 (a + 17 + 1)) a 22 = 0 := (sN_ne (by decide)).trans N22_h17
  have Z1_h18 : xI (sN h17 a 9 (a + 17 + 1)) (a + 1) = fun _ => 0 := Z1_h17
  have N0_h18 : xN (sN h17 a 9 (a + 17 + 1)) a 0 = a + 1 + 1 := (sN_ne (by decide)).trans N0_h17
  have Z2_h18 : xI (sN h17 a 9 (a + 17 + 1)) (a + 2) = fun _ => 0 := Z2_h17
  have N1_h18 : xN (sN h17 a 9 (a + 17 + 1)) a 1 = a + 2 + 1 := (sN_ne (by decide)).trans N1_h17
  have Z3_h18 : xI (sN h17 a 9 (a + 17 + 1)) (a + 3) = fun _ => 0 := Z3_h17
  have N2_h18 : xN (sN h17 a 9 (a + 17 + 1)) a 2 = a + 3 + 1 := (sN_ne (by decide)).trans N2_h17
  have Z5_h18 : xL (sN h17 a 9 (a + 17 + 1)) (a + 5) = fun _ => 0 := Z5_h17
  have Z6_h18 : xL (sN h17 a 9 (a + 17 + 1)) (a + 6) = fun _ => 0 := Z6_h17
  have Z7_h18 : xL (sN h17 a 9 (a + 17 + 1)) (a + 7) = fun _ => 0 := Z7_h17
  have Z8_h18 : xL (sN h17 a 9 (a + 17 + 1)) (a + 8) = fun _ => 0 := Z8_h17
  have Z9_h18 : xL (sN h17 a 9 (a + 17 + 1)) (a + 9) = fun _ => 0 := Z9_h17
  have Z10_h18 : xL (sN h17 a 9 (a + 17 + 1)) (a + 10) = fun _ => 0 := Z10_h17
  have Z11_h18 : xL (sN h17 a 9 (a + 17 + 1)) (a + 11) = fun _ => 0 := Z11_h17
  have Z12_h18 : xL (sN h17 a 9 (a + 17 + 1)) (a + 12) = fun _ => 0 := Z12_h17
  have N3_h18 : xN (sN h17 a 9 (a + 17 + 1)) a 3 = a + 4 + 1 := (sN_ne (by decide)).trans N3_h17
  have Z13_h18 : xL (sN h17 a 9 (a + 17 + 1)) (a + 13) = fun _ => 0 := Z13_h17
  have N4_h18 : xN (sN h17 a 9 (a + 17 + 1)) a 4 = a + 13 + 1 := (sN_ne (by decide)).trans N4_h17
  have Z14_h18 : xI (sN h17 a 9 (a + 17 + 1)) (a + 14) = fun _ => 0 := Z14_h17
  have N5_h18 : xN (sN h17 a 9 (a + 17 + 1)) a 5 = a + 14 + 1 := (sN_ne (by decide)).trans N5_h17
  have Z15_h18 : xI (sN h17 a 9 (a + 17 + 1)) (a + 15) = fun _ => 0 := Z15_h17
  have N6_h18 : xN (sN h17 a 9 (a + 17 + 1)) a 6 = a + 15 + 1 := (sN_ne (by decide)).trans N6_h17
  have Z16_h18 : xI (sN h17 a 9 (a + 17 + 1)) (a + 16) = fun _ => 0 := Z16_h17
  have N7_h18 : xN (sN h17 a 9 (a + 17 + 1)) a 7 = a + 16 + 1 := (sN_ne (by decide)).trans N7_h17
  have Z17_h18 : xI (sN h17 a 9 (a + 17 + 1)) (a + 17) = fun _ => 0 := Z17_h17
  have K_h18 : xK (sN h17 a 9 (a + 17 + 1)) = xK h ++ [22, 22, 22, 33, 31, 31, 31, 31, 31, 31, 31, 31, 31, 22, 22, 30, 22] := K_h17
  have N9_h18 : xN (sN h17 a 9 (a + 17 + 1)) a 9 = a + 17 + 1 := sN_at
  generalize sN h17 a 9 (a + 17 + 1) = h18 at NO_h18 LO_h18 I8_h18 I10_h18 I13_h18 I16_h18 I20_h18 N21_h18 N22_h18 Z1_h18 N0_h18 Z2_h18 N1_h18 Z3_h18 N2_h18 Z5_h18 Z6_h18 Z7_h18 Z8_h18 Z9_h18 Z10_h18 Z11_h18 Z12_h18 N3_h18 Z13_h18 N4_h18 Z14_h18 N5_h18 Z15_h18 N6_h18 Z16_h18 N7_h18 Z17_h18 K_h18 N9_h18 ⊢
  have len_h18 : (xK h18).length = a + 18 := by rw [K_h18, List.length_append, hlen]; rfl
  refine r_aload_n C (dx dX7_init 39 rfl) rfl ?_
  refine r_bipush (v := nI 12) C (dx dX7_init 40 rfl) rfl ?_
  refine r_newa (kk := 20) (t := 0) (n := 12) (ty := .int) (S := "[" ++ (.int : FieldType).toString) (a0 := (12, .inl (fun _ => 0))) C X rfl rfl (by decide) (by rw [K_h18]; exact ⟨[20, 21, 21, 34, 27, 27, 27, 27, 27, 27, 27, 27, 20], by rw [List.append_assoc, List.append_assoc]; rfl⟩) NO_h18 (by rw [len_h18]; exact oa4 hb (by decide)) rfl q_ac_int (fun _ => rfl) (fun _ _ q => q) (fun _ => rfl) (fun dA f h9 a9 e1 e2 => by rw [ent_arr (q := (0, 12, 0)) rfl rfl]; simp [entA, e1, e2]) (by decide) (by decide) (dx dX7_init 41 rfl) ?_
  rw [len_h18]
  have NO_h19 : NOk (nw h18 20) := NO_h18.nw
  have LO_h19 : Lo a h (nw h18 20) := LO_h18.tr (Lo.nw (by rw [len_h18]; exact Nat.le_add_right _ _))
  have I8_h19 : xI (nw h18 20) a 8 = 0 := by rw [(nw_ne (h := h18) (k := 20) (b := a) (by rw [len_h18]; exact oa3 (by decide))).1]; exact I8_h18
  have I10_h19 : xI (nw h18 20) a 10 = 0 := by rw [(nw_ne (h := h18) (k := 20) (b := a) (by rw [len_h18]; exact oa3 (by decide))).1]; exact I10_h18
  have I13_h19 : xI (nw h18 20) a 13 = 0 := by rw [(nw_ne (h := h18) (k := 20) (b := a) (by rw [len_h18]; exact oa3 (by decide))).1]; exact I13_h18
  have I16_h19 : xI (nw h18 20) a 16 = 0 := by rw [(nw_ne (h := h18) (k := 20) (b := a) (by rw [len_h18]; exact oa3 (by decide))).1]; exact I16_h18
  have I20_h19 : xI (nw h18 20) a 20 = 0 := by rw [(nw_ne (h := h18) (k := 20) (b := a) (by rw [len_h18]; exact oa3 (by decide))).1]; exact I20_h18
  have N21_h19 : xN (nw h18 20) a 21 = 0 := by rw [(nw_ne (h := h18) (k := 20) (b := a) (by rw [len_h18]; exact oa3 (by decide))).2.2]; exact N21_h18
  have N22_h19 : xN (nw h18 20) a 22 = 0 := by rw [(nw_ne (h := h18) (k := 20) (b := a) (by rw [len_h18]; exact oa3 (by decide))).2.2]; exact N22_h18
  have Z1_h19 : xI (nw h18 20) (a + 1) = fun _ => 0 := by rw [(nw_ne (h := h18) (k := 20) (b := a + 1) (by rw [len_h18]; exact oa2 (by decide))).1]; exact Z1_h18
  have N0_h19 : xN (nw h18 20) a 0 = a + 1 + 1 := by rw [(nw_ne (h := h18) (k := 20) (b := a) (by rw [len_h18]; exact oa3 (by decide))).2.2]; exact N0_h18
  have Z2_h19 : xI (nw h18 20) (a + 2) = fun _ => 0 := by rw [(nw_ne (h := h18) (k := 20) (b := a + 2) (by rw [len_h18]; exact oa2 (by decide))).1]; exact Z2_h18
  have N1_h19 : xN (nw h18 20) a 1 = a + 2 + 1 := by rw [(nw_ne (h := h18) (k := 20) (b := a) (by rw [len_h18]; exact oa3 (by decide))).2.2]; exact N1_h18
  have Z3_h19 : xI (nw h18 20) (a + 3) = fun _ => 0 := by rw [(nw_ne (h := h18) (k := 20) (b := a + 3) (by rw [len_h18]; exact oa2 (by decide))).1]; exact Z3_h18
  have N2_h19 : xN (nw h18 20) a 2 = a + 3 + 1 := by rw [(nw_ne (h := h18) (k := 20) (b := a) (by rw [len_h18]; exact oa3 (by decide))).2.2]; exact N2_h18
  have Z5_h19 : xL (nw h18 20) (a + 5) = fun _ => 0 := by rw [(nw_ne (h := h18) (k := 20) (b := a + 5) (by rw [len_h18]; exact oa2 (by decide))).2.1]; exact Z5_h18
  have Z6_h19 : xL (nw h18 20) (a + 6) = fun _ => 0 := by rw [(nw_ne (h := h18) (k := 20) (b := a + 6) (by rw [len_h18]; exact oa2 (by decide))).2.1]; exact Z6_h18
  have Z7_h19 : xL (nw h18 20) (a + 7) = fun _ => 0 := by rw [(nw_ne (h := h18) (k := 20) (b := a + 7) (by rw [len_h18]; exact oa2 (by decide))).2.1]; exact Z7_h18
  have Z8_h19 : xL (nw h18 20) (a + 8) = fun _ => 0 := by rw [(nw_ne (h := h18) (k := 20) (b := a + 8) (by rw [len_h18]; exact oa2 (by decide))).2.1]; exact Z8_h18
  have Z9_h19 : xL (nw h18 20) (a + 9) = fun _ => 0 := by rw [(nw_ne (h := h18) (k := 20) (b := a + 9) (by rw [len_h18]; exact oa2 (by decide))).2.1]; exact Z9_h18
  have Z10_h19 : xL (nw h18 20) (a + 10) = fun _ => 0 := by rw [(nw_ne (h := h18) (k := 20) (b := a + 10) (by rw [len_h18]; exact oa2 (by decide))).2.1]; exact Z10_h18
  have Z11_h19 : xL (nw h18 20) (a + 11) = fun _ => 0 := by rw [(nw_ne (h := h18) (k := 20) (b := a + 11) (by rw [len_h18]; exact oa2 (by decide))).2.1]; exact Z11_h18
  have Z12_h19 : xL (nw h18 20) (a + 12) = fun _ => 0 := by rw [(nw_ne (h := h18) (k := 20) (b := a + 12) (by rw [len_h18]; exact oa2 (by decide))).2.1]; exact Z12_h18
  have N3_h19 : xN (nw h18 20) a 3 = a + 4 + 1 := by rw [(nw_ne (h := h18) (k := 20) (b := a) (by rw [len_h18]; exact oa3 (by decide))).2.2]; exact N3_h18
  have Z13_h19 : xL (nw h18 20) (a + 13) = fun _ => 0 := by rw [(nw_ne (h := h18) (k := 20) (b := a + 13) (by rw [len_h18]; exact oa2 (by decide))).2.1]; exact Z13_h18
  have N4_h19 : xN (nw h18 20) a 4 = a + 13 + 1 := by rw [(nw_ne (h := h18) (k := 20) (b := a) (by rw [len_h18]; exact oa3 (by decide))).2.2]; exact N4_h18
  have Z14_h19 : xI (nw h18 20) (a + 14) = fun _ => 0 := by rw [(nw_ne (h := h18) (k := 20) (b := a + 14) (by rw [len_h18]; exact oa2 (by decide))).1]; exact Z14_h18
  have N5_h19 : xN (nw h18 20) a 5 = a + 14 + 1 := by rw [(nw_ne (h := h18) (k := 20) (b := a) (by rw [len_h18]; exact oa3 (by decide))).2.2]; exact N5_h18
  have Z15_h19 : xI (nw h18 20) (a + 15) = fun _ => 0 := by rw [(nw_ne (h := h18) (k := 20) (b := a + 15) (by rw [len_h18]; exact oa2 (by decide))).1]; exact Z15_h18
  have N6_h19 : xN (nw h18 20) a 6 = a + 15 + 1 := by rw [(nw_ne (h := h18) (k := 20) (b := a) (by rw [len_h18]; exact oa3 (by decide))).2.2]; exact N6_h18
  have Z16_h19 : xI (nw h18 20) (a + 16) = fun _ => 0 := by rw [(nw_ne (h := h18) (k := 20) (b := a + 16) (by rw [len_h18]; exact oa2 (by decide))).1]; exact Z16_h18
  have N7_h19 : xN (nw h18 20) a 7 = a + 16 + 1 := by rw [(nw_ne (h := h18) (k := 20) (b := a) (by rw [len_h18]; exact oa3 (by decide))).2.2]; exact N7_h18
  have Z17_h19 : xI (nw h18 20) (a + 17) = fun _ => 0 := by rw [(nw_ne (h := h18) (k := 20) (b := a + 17) (by rw [len_h18]; exact oa2 (by decide))).1]; exact Z17_h18
  have N9_h19 : xN (nw h18 20) a 9 = a + 17 + 1 := by rw [(nw_ne (h := h18) (k := 20) (b := a) (by rw [len_h18]; exact oa3 (by decide))).2.2]; exact N9_h18
  have Z18_h19 : xI (nw h18 20) (a + 18) = fun _ => 0 := by have q9 := nw_I (h := h18) (k := 20); rw [len_h18] at q9; exact q9
  have K_h19 : xK (nw h18 20) = xK h ++ [22, 22, 22, 33, 31, 31, 31, 31, 31, 31, 31, 31, 31, 22, 22, 30, 22, 20] := by show xK h18 ++ _ = _; rw [K_h18, List.append_assoc]; rfl
  generalize nw h18 20 = h19 at NO_h19 LO_h19 I8_h19 I10_h19 I13_h19 I16_h19 I20_h19 N21_h19 N22_h19 Z1_h19 N0_h19 Z2_h19 N1_h19 Z3_h19 N2_h19 Z5_h19 Z6_h19 Z7_h19 Z8_h19 Z9_h19 Z10_h19 Z11_h19 Z12_h19 N3_h19 Z13_h19 N4_h19 Z14_h19 N5_h19 Z15_h19 N6_h19 Z16_h19 N7_h19 Z17_h19 N9_h19 Z18_h19 K_h19 ⊢
  have len_h19 : (xK h19).length = a + 19 := by rw [K_h19, List.length_append, hlen]; rfl
  refine r_putNF (k := 15) (j := 11) (t := 0) C hI rfl rfl rfl (by decide) f_X7_40 rfl rfl (fun _ => rfl) (fun _ => rfl) (dx dX7_init 42 rfl) ?_
  have NO_h20 : NOk (sN h19 a 11 (a + 18 + 1)) := NO_h19.sN (by rw [len_h19]; exact oa6 (by decide))
  have LO_h20 : Lo a h (sN h19 a 11 (a + 18 + 1)) := LO_h19.tr (Lo.sN (Nat.le_refl _))
  have I8_h20 : xI (sN h19 a 11 (a + 18 + 1)) a 8 = 0 := I8_h19
  have I10_h20 : xI (sN h19 a 11 (a + 18 + 1)) a 10 = 0 := I10_h19
  have I13_h20 : xI (sN h19 a 11 (a + 18 + 1)) a 13 = 0 := I13_h19
  have I16_h20 : xI (sN h19 a 11 (a + 18 + 1)) a 16 = 0 := I16_h19
  have I20_h20 : xI (sN h19 a 11 (a + 18 + 1)) a 20 = 0 := I20_h19
  have N21_h20 : xN (sN h19 a 11 (a + 18 + 1)) a 21 = 0 := (sN_ne (by decide)).trans N21_h19
  have N22_h20 : xN (sN h19 a 11 (a + 18 + 1)) a 22 = 0 := (sN_ne (by decide)).trans N22_h19
  have Z1_h20 : xI (sN h19 a 11 (a + 18 + 1)) (a + 1) = fun _ => 0 := Z1_h19
  have N0_h20 : xN (sN h19 a 11 (a + 18 + 1)) a 0 = a + 1 + 1 := (sN_ne (by decide)).trans N0_h19
  have Z2_h20 : xI (sN h19 a 11 (a + 18 + 1)) (a + 2) = fun _ => 0 := Z2_h19
  have N1_h20 : xN (sN h19 a 11 (a + 18 + 1)) a 1 = a + 2 + 1 := (sN_ne (by decide)).trans N1_h19
  have Z3_h20 : xI (sN h19 a 11 (a + 18 + 1)) (a + 3) = fun _ => 0 := Z3_h19
  have N2_h20 : xN (sN h19 a 11 (a + 18 + 1)) a 2 = a + 3 + 1 := (sN_ne (by decide)).trans N2_h19
  have Z5_h20 : xL (sN h19 a 11 (a + 18 + 1)) (a + 5) = fun _ => 0 := Z5_h19
  have Z6_h20 : xL (sN h19 a 11 (a + 18 + 1)) (a + 6) = fun _ => 0 := Z6_h19
  have Z7_h20 : xL (sN h19 a 11 (a + 18 + 1)) (a + 7) = fun _ => 0 := Z7_h19
  have Z8_h20 : xL (sN h19 a 11 (a + 18 + 1)) (a + 8) = fun _ => 0 := Z8_h19
  have Z9_h20 : xL (sN h19 a 11 (a + 18 + 1)) (a + 9) = fun _ => 0 := Z9_h19
  have Z10_h20 : xL (sN h19 a 11 (a + 18 + 1)) (a + 10) = fun _ => 0 := Z10_h19
  have Z11_h20 : xL (sN h19 a 11 (a + 18 + 1)) (a + 11) = fun _ => 0 := Z11_h19
  have Z12_h20 : xL (sN h19 a 11 (a + 18 + 1)) (a + 12) = fun _ => 0 := Z12_h19
  have N3_h20 : xN (sN h19 a 11 (a + 18 + 1)) a 3 = a + 4 + 1 := (sN_ne (by decide)).trans N3_h19
  have Z13_h20 : xL (sN h19 a 11 (a + 18 + 1)) (a + 13) = fun _ => 0 := Z13_h19
  have N4_h20 : xN (sN h19 a 11 (a + 18 + 1)) a 4 = a + 13 + 1 := (sN_ne (by decide)).trans N4_h19
  have Z14_h20 : xI (sN h19 a 11 (a + 18 + 1)) (a + 14) = fun _ => 0 := Z14_h19
  have N5_h20 : xN (sN h19 a 11 (a + 18 + 1)) a 5 = a + 14 + 1 := (sN_ne (by decide)).trans N5_h19
  have Z15_h20 : xI (sN h19 a 11 (a + 18 + 1)) (a + 15) = fun _ => 0 := Z15_h19
  have N6_h20 : xN (sN h19 a 11 (a + 18 + 1)) a 6 = a + 15 + 1 := (sN_ne (by decide)).trans N6_h19
  have Z16_h20 : xI (sN h19 a 11 (a + 18 + 1)) (a + 16) = fun _ => 0 := Z16_h19
  have N7_h20 : xN (sN h19 a 11 (a + 18 + 1)) a 7 = a + 16 + 1 := (sN_ne (by decide)).trans N7_h19
  have Z17_h20 : xI (sN h19 a 11 (a + 18 + 1)) (a + 17) = fun _ => 0 := Z17_h19
  have N9_h20 : xN (sN h19 a 11 (a + 18 + 1)) a 9 = a + 17 + 1 := (sN_ne (by decide)).trans N9_h19
  have Z18_h20 : xI (sN h19 a 11 (a + 18 + 1)) (a + 18) = fun _ => 0 := Z18_h19
  have K_h20 : xK (sN h19 a 11 (a + 18 + 1)) = xK h ++ [22, 22, 22, 33, 31, 31, 31, 31, 31, 31, 31, 31, 31, 22, 22, 30, 22, 20] := K_h19
  have N11_h20 : xN (sN h19 a 11 (a + 18 + 1)) a 11 = a + 18 + 1 := sN_at
  generalize sN h19 a 11 (a + 18 + 1) = h20 at NO_h20 LO_h20 I8_h20 I10_h20 I13_h20 I16_h20 I20_h20 N21_h20 N22_h20 Z1_h20 N0_h20 Z2_h20 N1_h20 Z3_h20 N2_h20 Z5_h20 Z6_h20 Z7_h20 Z8_h20 Z9_h20 Z10_h20 Z11_h20 Z12_h20 N3_h20 Z13_h20 N4_h20 Z14_h20 N5_h20 Z15_h20 N6_h20 Z16_h20 N7_h20 Z17_h20 N9_h20 Z18_h20 K_h20 N11_h20 ⊢
  have len_h20 : (xK h20).length = a + 19 := by rw [K_h20, List.length_append, hlen]; rfl
  refine r_aload_n C (dx dX7_init 43 rfl) rfl ?_
  refine r_bipush (v := nI 12) C (dx dX7_init 44 rfl) rfl ?_
  refine r_newa (kk := 20) (t := 0) (n := 12) (ty := .int) (S := "[" ++ (.int : FieldType).toString) (a0 := (12, .inl (fun _ => 0))) C X rfl rfl (by decide) (by rw [K_h20]; exact ⟨[21, 21, 34, 27, 27, 27, 27, 27, 27, 27, 27, 20], by rw [List.append_assoc, List.append_assoc]; rfl⟩) NO_h20 (by rw [len_h20]; exact oa4 hb (by decide)) rfl q_ac_int (fun _ => rfl) (fun _ _ q => q) (fun _ => rfl) (fun dA f h9 a9 e1 e2 => by rw [ent_arr (q := (0, 12, 0)) rfl rfl]; simp [entA, e1, e2]) (by decide) (by decide) (dx dX7_init 45 rfl) ?_
  rw [len_h20]
  have NO_h21 : NOk (nw h20 20) := NO_h20.nw
  have LO_h21 : Lo a h (nw h20 20) := LO_h20.tr (Lo.nw (by rw [len_h20]; exact Nat.le_add_right _ _))
  have I8_h21 : xI (nw h20 20) a 8 = 0 := by rw [(nw_ne (h := h20) (k := 20) (b := a) (by rw [len_h20]; exact oa3 (by decide))).1]; exact I8_h20
  have I10_h21 : xI (nw h20 20) a 10 = 0 := by rw [(nw_ne (h := h20) (k := 20) (b := a) (by rw [len_h20]; exact oa3 (by decide))).1]; exact I10_h20
  have I13_h21 : xI (nw h20 20) a 13 = 0 := by rw [(nw_ne (h := h20) (k := 20) (b := a) (by rw [len_h20]; exact oa3 (by decide))).1]; exact I13_h20
  have I16_h21 : xI (nw h20 20) a 16 = 0 := by rw [(nw_ne (h := h20) (k := 20) (b := a) (by rw [len_h20]; exact oa3 (by decide))).1]; exact I16_h20
  have I20_h21 : xI (nw h20 20) a 20 = 0 := by rw [(nw_ne (h := h20) (k := 20) (b := a) (by rw [len_h20]; exact oa3 (by decide))).1]; exact I20_h20
  have N21_h21 : xN (nw h20 20) a 21 = 0 := by rw [(nw_ne (h := h20) (k := 20) (b := a) (by rw [len_h20]; exact oa3 (by decide))).2.2]; exact N21_h20
  have N22_h21 : xN (nw h20 20) a 22 = 0 := by rw [(nw_ne (h := h20) (k := 20) (b := a) (by rw [len_h20]; exact oa3 (by decide))).2.2]; exact N22_h20
  have Z1_h21 : xI (nw h20 20) (a + 1) = fun _ => 0 := by rw [(nw_ne (h := h20) (k := 20) (b := a + 1) (by rw [len_h20]; exact oa2 (by decide))).1]; exact Z1_h20
  have N0_h21 : xN (nw h20 20) a 0 = a + 1 + 1 := by rw [(nw_ne (h := h20) (k := 20) (b := a) (by rw [len_h20]; exact oa3 (by decide))).2.2]; exact N0_h20
  have Z2_h21 : xI (nw h20 20) (a + 2) = fun _ => 0 := by rw [(nw_ne (h := h20) (k := 20) (b := a + 2) (by rw [len_h20]; exact oa2 (by decide))).1]; exact Z2_h20
  have N1_h21 : xN (nw h20 20) a 1 = a + 2 + 1 := by rw [(nw_ne (h := h20) (k := 20) (b := a) (by rw [len_h20]; exact oa3 (by decide))).2.2]; exact N1_h20
  have Z3_h21 : xI (nw h20 20) (a + 3) = fun _ => 0 := by rw [(nw_ne (h := h20) (k := 20) (b := a + 3) (by rw [len_h20]; exact oa2 (by decide))).1]; exact Z3_h20
  have N2_h21 : xN (nw h20 20) a 2 = a + 3 + 1 := by rw [(nw_ne (h := h20) (k := 20) (b := a) (by rw [len_h20]; exact oa3 (by decide))).2.2]; exact N2_h20
  have Z5_h21 : xL (nw h20 20) (a + 5) = fun _ => 0 := by rw [(nw_ne (h := h20) (k := 20) (b := a + 5) (by rw [len_h20]; exact oa2 (by decide))).2.1]; exact Z5_h20
  have Z6_h21 : xL (nw h20 20) (a + 6) = fun _ => 0 := by rw [(nw_ne (h := h20) (k := 20) (b := a + 6) (by rw [len_h20]; exact oa2 (by decide))).2.1]; exact Z6_h20
  have Z7_h21 : xL (nw h20 20) (a + 7) = fun _ => 0 := by rw [(nw_ne (h := h20) (k := 20) (b := a + 7) (by rw [len_h20]; exact oa2 (by decide))).2.1]; exact Z7_h20
  have Z8_h21 : xL (nw h20 20) (a + 8) = fun _ => 0 := by rw [(nw_ne (h := h20) (k := 20) (b := a + 8) (by rw [len_h20]; exact oa2 (by decide))).2.1]; exact Z8_h20
  have Z9_h21 : xL (nw h20 20) (a + 9) = fun _ => 0 := by rw [(nw_ne (h := h20) (k := 20) (b := a + 9) (by rw [len_h20]; exact oa2 (by decide))).2.1]; exact Z9_h20
  have Z10_h21 : xL (nw h20 20) (a + 10) = fun _ => 0 := by rw [(nw_ne (h := h20) (k := 20) (b := a + 10) (by rw [len_h20]; exact oa2 (by decide))).2.1]; exact Z10_h20
  have Z11_h21 : xL (nw h20 20) (a + 11) = fun _ => 0 := by rw [(nw_ne (h := h20) (k := 20) (b := a + 11) (by rw [len_h20]; exact oa2 (by decide))).2.1]; exact Z11_h20
  have Z12_h21 : xL (nw h20 20) (a + 12) = fun _ => 0 := by rw [(nw_ne (h := h20) (k := 20) (b := a + 12) (by rw [len_h20]; exact oa2 (by decide))).2.1]; exact Z12_h20
  have N3_h21 : xN (nw h20 20) a 3 = a + 4 + 1 := by rw [(nw_ne (h := h20) (k := 20) (b := a) (by rw [len_h20]; exact oa3 (by decide))).2.2]; exact N3_h20
  have Z13_h21 : xL (nw h20 20) (a + 13) = fun _ => 0 := by rw [(nw_ne (h := h20) (k := 20) (b := a + 13) (by rw [len_h20]; exact oa2 (by decide))).2.1]; exact Z13_h20
  have N4_h21 : xN (nw h20 20) a 4 = a + 13 + 1 := by rw [(nw_ne (h := h20) (k := 20) (b := a) (by rw [len_h20]; exact oa3 (by decide))).2.2]; exact N4_h20
  have Z14_h21 : xI (nw h20 20) (a + 14) = fun _ => 0 := by rw [(nw_ne (h := h20) (k := 20) (b := a + 14) (by rw [len_h20]; exact oa2 (by decide))).1]; exact Z14_h20
  have N5_h21 : xN (nw h20 20) a 5 = a + 14 + 1 := by rw [(nw_ne (h := h20) (k := 20) (b := a) (by rw [len_h20]; exact oa3 (by decide))).2.2]; exact N5_h20
  have Z15_h21 : xI (nw h20 20) (a + 15) = fun _ => 0 := by rw [(nw_ne (h := h20) (k := 20) (b := a + 15) (by rw [len_h20]; exact oa2 (by decide))).1]; exact Z15_h20
  have N6_h21 : xN (nw h20 20) a 6 = a + 15 + 1 := by rw [(nw_ne (h := h20) (k := 20) (b := a) (by rw [len_h20]; exact oa3 (by decide))).2.2]; exact N6_h20
  have Z16_h21 : xI (nw h20 20) (a + 16) = fun _ => 0 := by rw [(nw_ne (h := h20) (k := 20) (b := a + 16) (by rw [len_h20]; exact oa2 (by decide))).1]; exact Z16_h20
  have N7_h21 : xN (nw h20 20) a 7 = a + 16 + 1 := by rw [(nw_ne (h := h20) (k := 20) (b := a) (by rw [len_h20]; exact oa3 (by decide))).2.2]; exact N7_h20
  have Z17_h21 : xI (nw h20 20) (a + 17) = fun _ => 0 := by rw [(nw_ne (h := h20) (k := 20) (b := a + 17) (by rw [len_h20]; exact oa2 (by decide))).1]; exact Z17_h20
  have N9_h21 : xN (nw h20 20) a 9 = a + 17 + 1 := by rw [(nw_ne (h := h20) (k := 20) (b := a) (by rw [len_h20]; exact oa3 (by decide))).2.2]; exact N9_h20
  have Z18_h21 : xI (nw h20 20) (a + 18) = fun _ => 0 := by rw [(nw_ne (h := h20) (k := 20) (b := a + 18) (by rw [len_h20]; exact oa2 (by decide))).1]; exact Z18_h20
  have N11_h21 : xN (nw h20 20) a 11 = a + 18 + 1 := by rw [(nw_ne (h := h20) (k := 20) (b := a) (by rw [len_h20]; exact oa3 (by decide))).2.2]; exact N11_h20
  have Z19_h21 : xI (nw h20 20) (a + 19) = fun _ => 0 := by have q9 := nw_I (h := h20) (k := 20); rw [len_h20] at q9; exact q9
  have K_h21 : xK (nw h20 20) = xK h ++ [22, 22, 22, 33, 31, 31, 31, 31, 31, 31, 31, 31, 31, 22, 22, 30, 22, 20, 20] := by show xK h20 ++ _ = _; rw [K_h20, List.append_assoc]; rfl
  generalize nw h20 20 = h21 at NO_h21 LO_h21 I8_h21 I10_h21 I13_h21 I16_h21 I20_h21 N21_h21 N22_h21 Z1_h21 N0_h21 Z2_h21 N1_h21 Z3_h21 N2_h21 Z5_h21 Z6_h21 Z7_h21 Z8_h21 Z9_h21 Z10_h21 Z11_h21 Z12_h21 N3_h21 Z13_h21 N4_h21 Z14_h21 N5_h21 Z15_h21 N6_h21 Z16_h21 N7_h21 Z17_h21 N9_h21 Z18_h21 N11_h21 Z19_h21 K_h21 ⊢
  have len_h21 : (xK h21).length = a + 20 := by rw [K_h21, List.length_append, hlen]; rfl
  refine r_putNF (k := 15) (j := 12) (t := 0) C hI rfl rfl rfl (by decide) f_X7_43 rfl rfl (fun _ => rfl) (fun _ => rfl) (dx dX7_init 46 rfl) ?_
  have NO_h22 : NOk (sN h21 a 12 (a + 19 + 1)) := NO_h21.sN (by rw [len_h21]; exact oa6 (by decide))
  have LO_h22 : Lo a h (sN h21 a 12 (a + 19 + 1)) := LO_h21.tr (Lo.sN (Nat.le_refl _))
  have I8_h22 : xI (sN h21 a 12 (a + 19 + 1)) a 8 = 0 := I8_h21
  have I10_h22 : xI (sN h21 a 12 (a + 19 + 1)) a 10 = 0 := I10_h21
  have I13_h22 : xI (sN h21 a 12 (a + 19 + 1)) a 13 = 0 := I13_h21
  have I16_h22 : xI (sN h21 a 12 (a + 19 + 1)) a 16 = 0 := I16_h21
  have I20_h22 : xI (sN h21 a 12 (a + 19 + 1)) a 20 = 0 := I20_h21
  have N21_h22 : xN (sN h21 a 12 (a + 19 + 1)) a 21 = 0 := (sN_ne (by decide)).trans N21_h21
  have N22_h22 : xN (sN h21 a 12 (a + 19 + 1)) a 22 = 0 := (sN_ne (by decide)).trans N22_h21
  have Z1_h22 : xI (sN h21 a 12 (a + 19 + 1)) (a + 1) = fun _ => 0 := Z1_h21
  have N0_h22 : xN (sN h21 a 12 (a + 19 + 1)) a 0 = a + 1 + 1 := (sN_ne (by decide)).trans N0_h21
  have Z2_h22 : xI (sN h21 a 12 (a + 19 + 1)) (a + 2) = fun _ => 0 := Z2_h21
  have N1_h22 : xN (sN h21 a 12 (a + 19 + 1)) a 1 = a + 2 + 1 := (sN_ne (by decide)).trans N1_h21
  have Z3_h22 : xI (sN h21 a 12 (a + 19 + 1)) (a + 3) = fun _ => 0 := Z3_h21
  have N2_h22 : xN (sN h21 a 12 (a + 19 + 1)) a 2 = a + 3 + 1 := (sN_ne (by decide)).trans N2_h21
  have Z5_h22 : xL (sN h21 a 12 (a + 19 + 1)) (a + 5) = fun _ => 0 := Z5_h21
  have Z6_h22 : xL (sN h21 a 12 (a + 19 + 1)) (a + 6) = fun _ => 0 := Z6_h21
  have Z7_h22 : xL (sN h21 a 12 (a + 19 + 1)) (a + 7) = fun _ => 0 := Z7_h21
  have Z8_h22 : xL (sN h21 a 12 (a + 19 + 1)) (a + 8) = fun _ => 0 := Z8_h21
  have Z9_h22 : xL (sN h21 a 12 (a + 19 + 1)) (a + 9) = fun _ => 0 := Z9_h21
  have Z10_h22 : xL (sN h21 a 12 (a + 19 + 1)) (a + 10) = fun _ => 0 := Z10_h21
  have Z11_h22 : xL (sN h21 a 12 (a + 19 + 1)) (a + 11) = fun _ => 0 := Z11_h21
  have Z12_h22 : xL (sN h21 a 12 (a + 19 + 1)) (a + 12) = fun _ => 0 := Z12_h21
  have N3_h22 : xN (sN h21 a 12 (a + 19 + 1)) a 3 = a + 4 + 1 := (sN_ne (by decide)).trans N3_h21
  have Z13_h22 : xL (sN h21 a 12 (a + 19 + 1)) (a + 13) = fun _ => 0 := Z13_h21
  have N4_h22 : xN (sN h21 a 12 (a + 19 + 1)) a 4 = a + 13 + 1 := (sN_ne (by decide)).trans N4_h21
  have Z14_h22 : xI (sN h21 a 12 (a + 19 + 1)) (a + 14) = fun _ => 0 := Z14_h21
  have N5_h22 : xN (sN h21 a 12 (a + 19 + 1)) a 5 = a + 14 + 1 := (sN_ne (by decide)).trans N5_h21
  have Z15_h22 : xI (sN h21 a 12 (a + 19 + 1)) (a + 15) = fun _ => 0 := Z15_h21
  have N6_h22 : xN (sN h21 a 12 (a + 19 + 1)) a 6 = a + 15 + 1 := (sN_ne (by decide)).trans N6_h21
  have Z16_h22 : xI (sN h21 a 12 (a + 19 + 1)) (a + 16) = fun _ => 0 := Z16_h21
  have N7_h22 : xN (sN h21 a 12 (a + 19 + 1)) a 7 = a + 16 + 1 := (sN_ne (by decide)).trans N7_h21
  have Z17_h22 : xI (sN h21 a 12 (a + 19 + 1)) (a + 17) = fun _ => 0 := Z17_h21
  have N9_h22 : xN (sN h21 a 12 (a + 19 + 1)) a 9 = a + 17 + 1 := (sN_ne (by decide)).trans N9_h21
  have Z18_h22 : xI (sN h21 a 12 (a + 19 + 1)) (a + 18) = fun _ => 0 := Z18_h21
  have N11_h22 : xN (sN h21 a 12 (a + 19 + 1)) a 11 = a + 18 + 1 := (sN_ne (by decide)).trans N11_h21
  have Z19_h22 : xI (sN h21 a 12 (a + 19 + 1)) (a + 19) = fun _ => 0 := Z19_h21
  have K_h22 : xK (sN h21 a 12 (a + 19 + 1)) = xK h ++ [22, 22, 22, 33, 31, 31, 31, 31, 31, 31, 31, 31, 31, 22, 22, 30, 22, 20, 20] := K_h21
  have N12_h22 : xN (sN h21 a 12 (a + 19 + 1)) a 12 = a + 19 + 1 := sN_at
  generalize sN h21 a 12 (a + 19 + 1) = h22 at NO_h22 LO_h22 I8_h22 I10_h22 I13_h22 I16_h22 I20_h22 N21_h22 N22_h22 Z1_h22 N0_h22 Z2_h22 N1_h22 Z3_h22 N2_h22 Z5_h22 Z6_h22 Z7_h22 Z8_h22 Z9_h22 Z10_h22 Z11_h22 Z12_h22 N3_h22 Z13_h22 N4_h22 Z14_h22 N5_h22 Z15_h22 N6_h22 Z16_h22 N7_h22 Z17_h22 N9_h22 Z18_h22 N11_h22 Z19_h22 K_h22 N12_h22 ⊢
  have len_h22 : (xK h22).length = a + 20 := by rw [K_h22, List.length_append, hlen]; rfl
  refine r_aload_n C (dx dX7_init 47 rfl) rfl ?_
  refine r_bipush (v := nI 6) C (dx dX7_init 48 rfl) rfl ?_
  refine r_newa (kk := 21) (t := 0) (n := 6) (ty := .int) (S := "[" ++ (.int : FieldType).toString) (a0 := (6, .inl (fun _ => 0))) C X rfl rfl (by decide) (by rw [K_h22]; exact ⟨[21, 34, 27, 27, 27, 27, 27, 27, 27, 27, 20], by rw [List.append_assoc, List.append_assoc]; rfl⟩) NO_h22 (by rw [len_h22]; exact oa4 hb (by decide)) rfl q_ac_int (fun _ => rfl) (fun _ _ q => q) (fun _ => rfl) (fun dA f h9 a9 e1 e2 => by rw [ent_arr (q := (0, 6, 0)) rfl rfl]; simp [entA, e1, e2]) (by decide) (by decide) (dx dX7_init 49 rfl) ?_
  rw [len_h22]
  have NO_h23 : NOk (nw h22 21) := NO_h22.nw
  have LO_h23 : Lo a h (nw h22 21) := LO_h22.tr (Lo.nw (by rw [len_h22]; exact Nat.le_add_right _ _))
  have I8_h23 : xI (nw h22 21) a 8 = 0 := by rw [(nw_ne (h := h22) (k := 21) (b := a) (by rw [len_h22]; exact oa3 (by decide))).1]; exact I8_h22
  have I10_h23 : xI (nw h22 21) a 10 = 0 := by rw [(nw_ne (h := h22) (k := 21) (b := a) (by rw [len_h22]; exact oa3 (by decide))).1]; exact I10_h22
  have I13_h23 : xI (nw h22 21) a 13 = 0 := by rw [(nw_ne (h := h22) (k := 21) (b := a) (by rw [len_h22]; exact oa3 (by decide))).1]; exact I13_h22
  have I16_h23 : xI (nw h22 21) a 16 = 0 := by rw [(nw_ne (h := h22) (k := 21) (b := a) (by rw [len_h22]; exact oa3 (by decide))).1]; exact I16_h22
  have I20_h23 : xI (nw h22 21) a 20 = 0 := by rw [(nw_ne (h := h22) (k := 21) (b := a) (by rw [len_h22]; exact oa3 (by decide))).1]; exact I20_h22
  have N21_h23 : xN (nw h22 21) a 21 = 0 := by rw [(nw_ne (h := h22) (k := 21) (b := a) (by rw [len_h22]; exact oa3 (by decide))).2.2]; exact N21_h22
  have N22_h23 : xN (nw h22 21) a 22 = 0 := by rw [(nw_ne (h := h22) (k := 21) (b := a) (by rw [len_h22]; exact oa3 (by decide))).2.2]; exact N22_h22
  have Z1_h23 : xI (nw h22 21) (a + 1) = fun _ => 0 := by rw [(nw_ne (h := h22) (k := 21) (b := a + 1) (by rw [len_h22]; exact oa2 (by decide))).1]; exact Z1_h22
  have N0_h23 : xN (nw h22 21) a 0 = a + 1 + 1 := by rw [(nw_ne (h := h22) (k := 21) (b := a) (by rw [len_h22]; exact oa3 (by decide))).2.2]; exact N0_h22
  have Z2_h23 : xI (nw h22 21) (a + 2) = fun _ => 0 := by rw [(nw_ne (h := h22) (k := 21) (b := a + 2) (by rw [len_h22]; exact oa2 (by decide))).1]; exact Z2_h22
  have N1_h23 : xN (nw h22 21) a 1 = a + 2 + 1 := by rw [(nw_ne (h := h22) (k := 21) (b := a) (by rw [len_h22]; exact oa3 (by decide))).2.2]; exact N1_h22
  have Z3_h23 : xI (nw h22 21) (a + 3) = fun _ => 0 := by rw [(nw_ne (h := h22) (k := 21) (b := a + 3) (by rw [len_h22]; exact oa2 (by decide))).1]; exact Z3_h22
  have N2_h23 : xN (nw h22 21) a 2 = a + 3 + 1 := by rw [(nw_ne (h := h22) (k := 21) (b := a) (by rw [len_h22]; exact oa3 (by decide))).2.2]; exact N2_h22
  have Z5_h23 : xL (nw h22 21) (a + 5) = fun _ => 0 := by rw [(nw_ne (h := h22) (k := 21) (b := a + 5) (by rw [len_h22]; exact oa2 (by decide))).2.1]; exact Z5_h22
  have Z6_h23 : xL (nw h22 21) (a + 6) = fun _ => 0 := by rw [(nw_ne (h := h22) (k := 21) (b := a + 6) (by rw [len_h22]; exact oa2 (by decide))).2.1]; exact Z6_h22
  have Z7_h23 : xL (nw h22 21) (a + 7) = fun _ => 0 := by rw [(nw_ne (h := h22) (k := 21) (b := a + 7) (by rw [len_h22]; exact oa2 (by decide))).2.1]; exact Z7_h22
  have Z8_h23 : xL (nw h22 21) (a + 8) = fun _ => 0 := by rw [(nw_ne (h := h22) (k := 21) (b := a + 8) (by rw [len_h22]; exact oa2 (by decide))).2.1]; exact Z8_h22
  have Z9_h23 : xL (nw h22 21) (a + 9) = fun _ => 0 := by rw [(nw_ne (h := h22) (k := 21) (b := a + 9) (by rw [len_h22]; exact oa2 (by decide))).2.1]; exact Z9_h22
  have Z10_h23 : xL (nw h22 21) (a + 10) = fun _ => 0 := by rw [(nw_ne (h := h22) (k := 21) (b := a + 10) (by rw [len_h22]; exact oa2 (by decide))).2.1]; exact Z10_h22
  have Z11_h23 : xL (nw h22 21) (a + 11) = fun _ => 0 := by rw [(nw_ne (h := h22) (k := 21) (b := a + 11) (by rw [len_h22]; exact oa2 (by decide))).2.1]; exact Z11_h22
  have Z12_h23 : xL (nw h22 21) (a + 12) = fun _ => 0 := by rw [(nw_ne (h := h22) (k := 21) (b := a + 12) (by rw [len_h22]; exact oa2 (by decide))).2.1]; exact Z12_h22
  have N3_h23 : xN (nw h22 21) a 3 = a + 4 + 1 := by rw [(nw_ne (h := h22) (k := 21) (b := a) (by rw [len_h22]; exact oa3 (by decide))).2.2]; exact N3_h22
  have Z13_h23 : xL (nw h22 21) (a + 13) = fun _ => 0 := by rw [(nw_ne (h := h22) (k := 21) (b := a + 13) (by rw [len_h22]; exact oa2 (by decide))).2.1]; exact Z13_h22
  have N4_h23 : xN (nw h22 21) a 4 = a + 13 + 1 := by rw [(nw_ne (h := h22) (k := 21) (b := a) (by rw [len_h22]; exact oa3 (by decide))).2.2]; exact N4_h22
  have Z14_h23 : xI (nw h22 21) (a + 14) = fun _ => 0 := by rw [(nw_ne (h := h22) (k := 21) (b := a + 14) (by rw [len_h22]; exact oa2 (by decide))).1]; exact Z14_h22
  have N5_h23 : xN (nw h22 21) a 5 = a + 14 + 1 := by rw [(nw_ne (h := h22) (k := 21) (b := a) (by rw [len_h22]; exact oa3 (by decide))).2.2]; exact N5_h22
  have Z15_h23 : xI (nw h22 21) (a + 15) = fun _ => 0 := by rw [(nw_ne (h := h22) (k := 21) (b := a + 15) (by rw [len_h22]; exact oa2 (by decide))).1]; exact Z15_h22
  have N6_h23 : xN (nw h22 21) a 6 = a + 15 + 1 := by rw [(nw_ne (h := h22) (k := 21) (b := a) (by rw [len_h22]; exact oa3 (by decide))).2.2]; exact N6_h22
  have Z16_h23 : xI (nw h22 21) (a + 16) = fun _ => 0 := by rw [(nw_ne (h := h22) (k := 21) (b := a + 16) (by rw [len_h22]; exact oa2 (by decide))).1]; exact Z16_h22
  have N7_h23 : xN (nw h22 21) a 7 = a + 16 + 1 := by rw [(nw_ne (h := h22) (k := 21) (b := a) (by rw [len_h22]; exact oa3 (by decide))).2.2]; exact N7_h22
  have Z17_h23 : xI (nw h22 21) (a + 17) = fun _ => 0 := by rw [(nw_ne (h := h22) (k := 21) (b := a + 17) (by rw [len_h22]; exact oa2 (by decide))).1]; exact Z17_h22
  have N9_h23 : xN (nw h22 21) a 9 = a + 17 + 1 := by rw [(nw_ne (h := h22) (k := 21) (b := a) (by rw [len_h22]; exact oa3 (by decide))).2.2]; exact N9_h22
  have Z18_h23 : xI (nw h22 21) (a + 18) = fun _ => 0 := by rw [(nw_ne (h := h22) (k := 21) (b := a + 18) (by rw [len_h22]; exact oa2 (by decide))).1]; exact Z18_h22
  have N11_h23 : xN (nw h22 21) a 11 = a + 18 + 1 := by rw [(nw_ne (h := h22) (k := 21) (b := a) (by rw [len_h22]; exact oa3 (by decide))).2.2]; exact N11_h22
  have Z19_h23 : xI (nw h22 21) (a + 19) = fun _ => 0 := by rw [(nw_ne (h := h22) (k := 21) (b := a + 19) (by rw [len_h22]; exact oa2 (by decide))).1]; exact Z19_h22
  have N12_h23 : xN (nw h22 21) a 12 = a + 19 + 1 := by rw [(nw_ne (h := h22) (k := 21) (b := a) (by rw [len_h22]; exact oa3 (by decide))).2.2]; exact N12_h22
  have Z20_h23 : xI (nw h22 21) (a + 20) = fun _ => 0 := by have q9 := nw_I (h := h22) (k := 21); rw [len_h22] at q9; exact q9
  have K_h23 : xK (nw h22 21) = xK h ++ [22, 22, 22, 33, 31, 31, 31, 31, 31, 31, 31, 31, 31, 22, 22, 30, 22, 20, 20, 21] := by show xK h22 ++ _ = _; rw [K_h22, List.append_assoc]; rfl
  generalize nw h22 21 = h23 at NO_h23 LO_h23 I8_h23 I10_h23 I13_h23 I16_h23 I20_h23 N21_h23 N22_h23 Z1_h23 N0_h23 Z2_h23 N1_h23 Z3_h23 N2_h23 Z5_h23 Z6_h23 Z7_h23 Z8_h23 Z9_h23 Z10_h23 Z11_h23 Z12_h23 N3_h23 Z13_h23 N4_h23 Z14_h23 N5_h23 Z15_h23 N6_h23 Z16_h23 N7_h23 Z17_h23 N9_h23 Z18_h23 N11_h23 Z19_h23 N12_h23 Z20_h23 K_h23 ⊢
  have len_h23 : (xK h23).length = a + 21 := by rw [K_h23, List.length_append, hlen]; rfl
  refine r_putNF (k := 15) (j := 14) (t := 0) C hI rfl rfl rfl (by decide) f_X7_46 rfl rfl (fun _ => rfl) (fun _ => rfl) (dx dX7_init 50 rfl) ?_
  have NO_h24 : NOk (sN h23 a 14 (a + 20 + 1)) := NO_h23.sN (by rw [len_h23]; exact oa6 (by decide))
  have LO_h24 : Lo a h (sN h23 a 14 (a + 20 + 1)) := LO_h23.tr (Lo.sN (Nat.le_refl _))
  have I8_h24 : xI (sN h23 a 14 (a + 20 + 1)) a 8 = 0 := I8_h23
  have I10_h24 : xI (sN h23 a 14 (a + 20 + 1)) a 10 = 0 := I10_h23
  have I13_h24 : xI (sN h23 a 14 (a + 20 + 1)) a 13 = 0 := I13_h23
  have I16_h24 : xI (sN h23 a 14 (a + 20 + 1)) a 16 = 0 := I16_h23
  have I20_h24 : xI (sN h23 a 14 (a + 20 + 1)) a 20 = 0 := I20_h23
  have N21_h24 : xN (sN h23 a 14 (a + 20 + 1)) a 21 = 0 := (sN_ne (by decide)).trans N21_h23
  have N22_h24 : xN (sN h23 a 14 (a + 20 + 1)) a 22 = 0 := (sN_ne (by decide)).trans N22_h23
  have Z1_h24 : xI (sN h23 a 14 (a + 20 + 1)) (a + 1) = fun _ => 0 := Z1_h23
  have N0_h24 : xN (sN h23 a 14 (a + 20 + 1)) a 0 = a + 1 + 1 := (sN_ne (by decide)).trans N0_h23
  have Z2_h24 : xI (sN h23 a 14 (a + 20 + 1)) (a + 2) = fun _ => 0 := Z2_h23
  have N1_h24 : xN (sN h23 a 14 (a + 20 + 1)) a 1 = a + 2 + 1 := (sN_ne (by decide)).trans N1_h23
  have Z3_h24 : xI (sN h23 a 14 (a + 20 + 1)) (a + 3) = fun _ => 0 := Z3_h23
  have N2_h24 : xN (sN h23 a 14 (a + 20 + 1)) a 2 = a + 3 + 1 := (sN_ne (by decide)).trans N2_h23
  have Z5_h24 : xL (sN h23 a 14 (a + 20 + 1)) (a + 5) = fun _ => 0 := Z5_h23
  have Z6_h24 : xL (sN h23 a 14 (a + 20 + 1)) (a + 6) = fun _ => 0 := Z6_h23
  have Z7_h24 : xL (sN h23 a 14 (a + 20 + 1)) (a + 7) = fun _ => 0 := Z7_h23
  have Z8_h24 : xL (sN h23 a 14 (a + 20 + 1)) (a + 8) = fun _ => 0 := Z8_h23
  have Z9_h24 : xL (sN h23 a 14 (a + 20 + 1)) (a + 9) = fun _ => 0 := Z9_h23
  have Z10_h24 : xL (sN h23 a 14 (a + 20 + 1)) (a + 10) = fun _ => 0 := Z10_h23
  have Z11_h24 : xL (sN h23 a 14 (a + 20 + 1)) (a + 11) = fun _ => 0 := Z11_h23
  have Z12_h24 : xL (sN h23 a 14 (a + 20 + 1)) (a + 12) = fun _ => 0 := Z12_h23
  have N3_h24 : xN (sN h23 a 14 (a + 20 + 1)) a 3 = a + 4 + 1 := (sN_ne (by decide)).trans N3_h23
  have Z13_h24 : xL (sN h23 a 14 (a + 20 + 1)) (a + 13) = fun _ => 0 := Z13_h23
  have N4_h24 : xN (sN h23 a 14 (a + 20 + 1)) a 4 = a + 13 + 1 := (sN_ne (by decide)).trans N4_h23
  have Z14_h24 : xI (sN h23 a 14 (a + 20 + 1)) (a + 14) = fun _ => 0 := Z14_h23
  have N5_h24 : xN (sN h23 a 14 (a + 20 + 1)) a 5 = a + 14 + 1 := (sN_ne (by decide)).trans N5_h23
  have Z15_h24 : xI (sN h23 a 14 (a + 20 + 1)) (a + 15) = fun _ => 0 := Z15_h23
  have N6_h24 : xN (sN h23 a 14 (a + 20 + 1)) a 6 = a + 15 + 1 := (sN_ne (by decide)).trans N6_h23
  have Z16_h24 : xI (sN h23 a 14 (a + 20 + 1)) (a + 16) = fun _ => 0 := Z16_h23
  have N7_h24 : xN (sN h23 a 14 (a + 20 + 1)) a 7 = a + 16 + 1 := (sN_ne (by decide)).trans N7_h23
  have Z17_h24 : xI (sN h23 a 14 (a + 20 + 1)) (a + 17) = fun _ => 0 := Z17_h23
  have N9_h24 : xN (sN h23 a 14 (a + 20 + 1)) a 9 = a + 17 + 1 := (sN_ne (by decide)).trans N9_h23
  have Z18_h24 : xI (sN h23 a 14 (a + 20 + 1)) (a + 18) = fun _ => 0 := Z18_h23
  have N11_h24 : xN (sN h23 a 14 (a + 20 + 1)) a 11 = a + 18 + 1 := (sN_ne (by decide)).trans N11_h23
  have Z19_h24 : xI (sN h23 a 14 (a + 20 + 1)) (a + 19) = fun _ => 0 := Z19_h23
  have N12_h24 : xN (sN h23 a 14 (a + 20 + 1)) a 12 = a + 19 + 1 := (sN_ne (by decide)).trans N12_h23
  have Z20_h24 : xI (sN h23 a 14 (a + 20 + 1)) (a + 20) = fun _ => 0 := Z20_h23
  have K_h24 : xK (sN h23 a 14 (a + 20 + 1)) = xK h ++ [22, 22, 22, 33, 31, 31, 31, 31, 31, 31, 31, 31, 31, 22, 22, 30, 22, 20, 20, 21] := K_h23
  have N14_h24 : xN (sN h23 a 14 (a + 20 + 1)) a 14 = a + 20 + 1 := sN_at
  generalize sN h23 a 14 (a + 20 + 1) = h24 at NO_h24 LO_h24 I8_h24 I10_h24 I13_h24 I16_h24 I20_h24 N21_h24 N22_h24 Z1_h24 N0_h24 Z2_h24 N1_h24 Z3_h24 N2_h24 Z5_h24 Z6_h24 Z7_h24 Z8_h24 Z9_h24 Z10_h24 Z11_h24 Z12_h24 N3_h24 Z13_h24 N4_h24 Z14_h24 N5_h24 Z15_h24 N6_h24 Z16_h24 N7_h24 Z17_h24 N9_h24 Z18_h24 N11_h24 Z19_h24 N12_h24 Z20_h24 K_h24 N14_h24 ⊢
  have len_h24 : (xK h24).length = a + 21 := by rw [K_h24, List.length_append, hlen]; rfl
  refine r_aload_n C (dx dX7_init 51 rfl) rfl ?_
  refine r_bipush (v := nI 6) C (dx dX7_init 52 rfl) rfl ?_
  refine r_newa (kk := 21) (t := 0) (n := 6) (ty := .int) (S := "[" ++ (.int : FieldType).toString) (a0 := (6, .inl (fun _ => 0))) C X rfl rfl (by decide) (by rw [K_h24]; exact ⟨[34, 27, 27, 27, 27, 27, 27, 27, 27, 20], by rw [List.append_assoc, List.append_assoc]; rfl⟩) NO_h24 (by rw [len_h24]; exact oa4 hb (by decide)) rfl q_ac_int (fun _ => rfl) (fun _ _ q => q) (fun _ => rfl) (fun dA f h9 a9 e1 e2 => by rw [ent_arr (q := (0, 6, 0)) rfl rfl]; simp [entA, e1, e2]) (by decide) (by decide) (dx dX7_init 53 rfl) ?_
  rw [len_h24]
  have NO_h25 : NOk (nw h24 21) := NO_h24.nw
  have LO_h25 : Lo a h (nw h24 21) := LO_h24.tr (Lo.nw (by rw [len_h24]; exact Nat.le_add_right _ _))
  have I8_h25 : xI (nw h24 21) a 8 = 0 := by rw [(nw_ne (h := h24) (k := 21) (b := a) (by rw [len_h24]; exact oa3 (by decide))).1]; exact I8_h24
  have I10_h25 : xI (nw h24 21) a 10 = 0 := by rw [(nw_ne (h := h24) (k := 21) (b := a) (by rw [len_h24]; exact oa3 (by decide))).1]; exact I10_h24
  have I13_h25 : xI (nw h24 21) a 13 = 0 := by rw [(nw_ne (h := h24) (k := 21) (b := a) (by rw [len_h24]; exact oa3 (by decide))).1]; exact I13_h24
  have I16_h25 : xI (nw h24 21) a 16 = 0 := by rw [(nw_ne (h := h24) (k := 21) (b := a) (by rw [len_h24]; exact oa3 (by decide))).1]; exact I16_h24
  have I20_h25 : xI (nw h24 21) a 20 = 0 := by rw [(nw_ne (h := h24) (k := 21) (b := a) (by rw [len_h24]; exact oa3 (by decide))).1]; exact I20_h24
  have N21_h25 : xN (nw h24 21) a 21 = 0 := by rw [(nw_ne (h := h24) (k := 21) (b := a) (by rw [len_h24]; exact oa3 (by decide))).2.2]; exact N21_h24
  have N22_h25 : xN (nw h24 21) a 22 = 0 := by rw [(nw_ne (h := h24) (k := 21) (b := a) (by rw [len_h24]; exact oa3 (by decide))).2.2]; exact N22_h24
  have Z1_h25 : xI (nw h24 21) (a + 1) = fun _ => 0 := by rw [(nw_ne (h := h24) (k := 21) (b := a + 1) (by rw [len_h24]; exact oa2 (by decide))).1]; exact Z1_h24
  have N0_h25 : xN (nw h24 21) a 0 = a + 1 + 1 := by rw [(nw_ne (h := h24) (k := 21) (b := a) (by rw [len_h24]; exact oa3 (by decide))).2.2]; exact N0_h24
  have Z2_h25 : xI (nw h24 21) (a + 2) = fun _ => 0 := by rw [(nw_ne (h := h24) (k := 21) (b := a + 2) (by rw [len_h24]; exact oa2 (by decide))).1]; exact Z2_h24
  have N1_h25 : xN (nw h24 21) a 1 = a + 2 + 1 := by rw [(nw_ne (h := h24) (k := 21) (b := a) (by rw [len_h24]; exact oa3 (by decide))).2.2]; exact N1_h24
  have Z3_h25 : xI (nw h24 21) (a + 3) = fun _ => 0 := by rw [(nw_ne (h := h24) (k := 21) (b := a + 3) (by rw [len_h24]; exact oa2 (by decide))).1]; exact Z3_h24
  have N2_h25 : xN (nw h24 21) a 2 = a + 3 + 1 := by rw [(nw_ne (h := h24) (k := 21) (b := a) (by rw [len_h24]; exact oa3 (by decide))).2.2]; exact N2_h24
  have Z5_h25 : xL (nw h24 21) (a + 5) = fun _ => 0 := by rw [(nw_ne (h := h24) (k := 21) (b := a + 5) (by rw [len_h24]; exact oa2 (by decide))).2.1]; exact Z5_h24
  have Z6_h25 : xL (nw h24 21) (a + 6) = fun _ => 0 := by rw [(nw_ne (h := h24) (k := 21) (b := a + 6) (by rw [len_h24]; exact oa2 (by decide))).2.1]; exact Z6_h24
  have Z7_h25 : xL (nw h24 21) (a + 7) = fun _ => 0 := by rw [(nw_ne (h := h24) (k := 21) (b := a + 7) (by rw [len_h24]; exact oa2 (by decide))).2.1]; exact Z7_h24
  have Z8_h25 : xL (nw h24 21) (a + 8) = fun _ => 0 := by rw [(nw_ne (h := h24) (k := 21) (b := a + 8) (by rw [len_h24]; exact oa2 (by decide))).2.1]; exact Z8_h24
  have Z9_h25 : xL (nw h24 21) (a + 9) = fun _ => 0 := by rw [(nw_ne (h := h24) (k := 21) (b := a + 9) (by rw [len_h24]; exact oa2 (by decide))).2.1]; exact Z9_h24
  have Z10_h25 : xL (nw h24 21) (a + 10) = fun _ => 0 := by rw [(nw_ne (h := h24) (k := 21) (b := a + 10) (by rw [len_h24]; exact oa2 (by decide))).2.1]; exact Z10_h24
  have Z11_h25 : xL (nw h24 21) (a + 11) = fun _ => 0 := by rw [(nw_ne (h := h24) (k := 21) (b := a + 11) (by rw [len_h24]; exact oa2 (by decide))).2.1]; exact Z11_h24
  have Z12_h25 : xL (nw h24 21) (a + 12) = fun _ => 0 := by rw [(nw_ne (h := h24) (k := 21) (b := a + 12) (by rw [len_h24]; exact oa2 (by decide))).2.1]; exact Z12_h24
  have N3_h25 : xN (nw h24 21) a 3 = a + 4 + 1 := by rw [(nw_ne (h := h24) (k := 21) (b := a) (by rw [len_h24]; exact oa3 (by decide))).2.2]; exact N3_h24
  have Z13_h25 : xL (nw h24 21) (a + 13) = fun _ => 0 := by rw [(nw_ne (h := h24) (k := 21) (b := a + 13) (by rw [len_h24]; exact oa2 (by decide))).2.1]; exact Z13_h24
  have N4_h25 : xN (nw h24 21) a 4 = a + 13 + 1 := by rw [(nw_ne (h := h24) (k := 21) (b := a) (by rw [len_h24]; exact oa3 (by decide))).2.2]; exact N4_h24
  have Z14_h25 : xI (nw h24 21) (a + 14) = fun _ => 0 := by rw [(nw_ne (h := h24) (k := 21) (b := a + 14) (by rw [len_h24]; exact oa2 (by decide))).1]; exact Z14_h24
  have N5_h25 : xN (nw h24 21) a 5 = a + 14 + 1 := by rw [(nw_ne (h := h24) (k := 21) (b := a) (by rw [len_h24]; exact oa3 (by decide))).2.2]; exact N5_h24
  have Z15_h25 : xI (nw h24 21) (a + 15) = fun _ => 0 := by rw [(nw_ne (h := h24) (k := 21) (b := a + 15) (by rw [len_h24]; exact oa2 (by decide))).1]; exact Z15_h24
  have N6_h25 : xN (nw h24 21) a 6 = a + 15 + 1 := by rw [(nw_ne (h := h24) (k := 21) (b := a) (by rw [len_h24]; exact oa3 (by decide))).2.2]; exact N6_h24
  have Z16_h25 : xI (nw h24 21) (a + 16) = fun _ => 0 := by rw [(nw_ne (h := h24) (k := 21) (b := a + 16) (by rw [len_h24]; exact oa2 (by decide))).1]; exact Z16_h24
  have N7_h25 : xN (nw h24 21) a 7 = a + 16 + 1 := by rw [(nw_ne (h := h24) (k := 21) (b := a) (by rw [len_h24]; exact oa3 (by decide))).2.2]; exact N7_h24
  have Z17_h25 : xI (nw h24 21) (a + 17) = fun _ => 0 := by rw [(nw_ne (h := h24) (k := 21) (b := a + 17) (by rw [len_h24]; exact oa2 (by decide))).1]; exact Z17_h24
  have N9_h25 : xN (nw h24 21) a 9 = a + 17 + 1 := by rw [(nw_ne (h := h24) (k := 21) (b := a) (by rw [len_h24]; exact oa3 (by decide))).2.2]; exact N9_h24
  have Z18_h25 : xI (nw h24 21) (a + 18) = fun _ => 0 := by rw [(nw_ne (h := h24) (k := 21) (b := a + 18) (by rw [len_h24]; exact oa2 (by decide))).1]; exact Z18_h24
  have N11_h25 : xN (nw h24 21) a 11 = a + 18 + 1 := by rw [(nw_ne (h := h24) (k := 21) (b := a) (by rw [len_h24]; exact oa3 (by decide))).2.2]; exact N11_h24
  have Z19_h25 : xI (nw h24 21) (a + 19) = fun _ => 0 := by rw [(nw_ne (h := h24) (k := 21) (b := a + 19) (by rw [len_h24]; exact oa2 (by decide))).1]; exact Z19_h24
  have N12_h25 : xN (nw h24 21) a 12 = a + 19 + 1 := by rw [(nw_ne (h := h24) (k := 21) (b := a) (by rw [len_h24]; exact oa3 (by decide))).2.2]; exact N12_h24
  have Z20_h25 : xI (nw h24 21) (a + 20) = fun _ => 0 := by rw [(nw_ne (h := h24) (k := 21) (b := a + 20) (by rw [len_h24]; exact oa2 (by decide))).1]; exact Z20_h24
  have N14_h25 : xN (nw h24 21) a 14 = a + 20 + 1 := by rw [(nw_ne (h := h24) (k := 21) (b := a) (by rw [len_h24]; exact oa3 (by decide))).2.2]; exact N14_h24
  have Z21_h25 : xI (nw h24 21) (a + 21) = fun _ => 0 := by have q9 := nw_I (h := h24) (k := 21); rw [len_h24] at q9; exact q9
  have K_h25 : xK (nw h24 21) = xK h ++ [22, 22, 22, 33, 31, 31, 31, 31, 31, 31, 31, 31, 31, 22, 22, 30, 22, 20, 20, 21, 21] := by show xK h24 ++ _ = _; rw [K_h24, List.append_assoc]; rfl
  generalize nw h24 21 = h25 at NO_h25 LO_h25 I8_h25 I10_h25 I13_h25 I16_h25 I20_h25 N21_h25 N22_h25 Z1_h25 N0_h25 Z2_h25 N1_h25 Z3_h25 N2_h25 Z5_h25 Z6_h25 Z7_h25 Z8_h25 Z9_h25 Z10_h25 Z11_h25 Z12_h25 N3_h25 Z13_h25 N4_h25 Z14_h25 N5_h25 Z15_h25 N6_h25 Z16_h25 N7_h25 Z17_h25 N9_h25 Z18_h25 N11_h25 Z19_h25 N12_h25 Z20_h25 N14_h25 Z21_h25 K_h25 ⊢
  have len_h25 : (xK h25).length = a + 22 := by rw [K_h25, List.length_append, hlen]; rfl
  refine r_putNF (k := 15) (j := 15) (t := 0) C hI rfl rfl rfl (by decide) f_X7_49 rfl rfl (fun _ => rfl) (fun _ => rfl) (dx dX7_init 54 rfl) ?_
  have NO_h26 : NOk (sN h25 a 15 (a + 21 + 1)) := NO_h25.sN (by rw [len_h25]; exact oa6 (by decide))
  have LO_h26 : Lo a h (sN h25 a 15 (a + 21 + 1)) := LO_h25.tr (Lo.sN (Nat.le_refl _))
  have I8_h26 : xI (sN h25 a 15 (a + 21 + 1)) a 8 = 0 := I8_h25
  have I10_h26 : xI (sN h25 a 15 (a + 21 + 1)) a 10 = 0 := I10_h25
  have I13_h26 : xI (sN h25 a 15 (a + 21 + 1)) a 13 = 0 := I13_h25
  have I16_h26 : xI (sN h25 a 15 (a + 21 + 1)) a 16 = 0 := I16_h25
  have I20_h26 : xI (sN h25 a 15 (a + 21 + 1)) a 20 = 0 := I20_h25
  have N21_h26 : xN (sN h25 a 15 (a + 21 + 1)) a 21 = 0 := (sN_ne (by decide)).trans N21_h25
  have N22_h26 : xN (sN h25 a 15 (a + 21 + 1)) a 22 = 0 := (sN_ne (by decide)).trans N22_h25
  have Z1_h26 : xI (sN h25 a 15 (a + 21 + 1)) (a + 1) = fun _ => 0 := Z1_h25
  have N0_h26 : xN (sN h25 a 15 (a + 21 + 1)) a 0 = a + 1 + 1 := (sN_ne (by decide)).trans N0_h25
  have Z2_h26 : xI (sN h25 a 15 (a + 21 + 1)) (a + 2) = fun _ => 0 := Z2_h25
  have N1_h26 : xN (sN h25 a 15 (a + 21 + 1)) a 1 = a + 2 + 1 := (sN_ne (by decide)).trans N1_h25
  have Z3_h26 : xI (sN h25 a 15 (a + 21 + 1)) (a + 3) = fun _ => 0 := Z3_h25
  have N2_h26 : xN (sN h25 a 15 (a + 21 + 1)) a 2 = a + 3 + 1 := (sN_ne (by decide)).trans N2_h25
  have Z5_h26 : xL (sN h25 a 15 (a + 21 + 1)) (a + 5) = fun _ => 0 := Z5_h25
  have Z6_h26 : xL (sN h25 a 15 (a + 21 + 1)) (a + 6) = fun _ => 0 := Z6_h25
  have Z7_h26 : xL (sN h25 a 15 (a + 21 + 1)) (a + 7) = fun _ => 0 := Z7_h25
  have Z8_h26 : xL (sN h25 a 15 (a + 21 + 1)) (a + 8) = fun _ => 0 := Z8_h25
  have Z9_h26 : xL (sN h25 a 15 (a + 21 + 1)) (a + 9) = fun _ => 0 := Z9_h25
  have Z10_h26 : xL (sN h25 a 15 (a + 21 + 1)) (a + 10) = fun _ => 0 := Z10_h25
  have Z11_h26 : xL (sN h25 a 15 (a + 21 + 1)) (a + 11) = fun _ => 0 := Z11_h25
  have Z12_h26 : xL (sN h25 a 15 (a + 21 + 1)) (a + 12) = fun _ => 0 := Z12_h25
  have N3_h26 : xN (sN h25 a 15 (a + 21 + 1)) a 3 = a + 4 + 1 := (sN_ne (by decide)).trans N3_h25
  have Z13_h26 : xL (sN h25 a 15 (a + 21 + 1)) (a + 13) = fun _ => 0 := Z13_h25
  have N4_h26 : xN (sN h25 a 15 (a + 21 + 1)) a 4 = a + 13 + 1 := (sN_ne (by decide)).trans N4_h25
  have Z14_h26 : xI (sN h25 a 15 (a + 21 + 1)) (a + 14) = fun _ => 0 := Z14_h25
  have N5_h26 : xN (sN h25 a 15 (a + 21 + 1)) a 5 = a + 14 + 1 := (sN_ne (by decide)).trans N5_h25
  have Z15_h26 : xI (sN h25 a 15 (a + 21 + 1)) (a + 15) = fun _ => 0 := Z15_h25
  have N6_h26 : xN (sN h25 a 15 (a + 21 + 1)) a 6 = a + 15 + 1 := (sN_ne (by decide)).trans N6_h25
  have Z16_h26 : xI (sN h25 a 15 (a + 21 + 1)) (a + 16) = fun _ => 0 := Z16_h25
  have N7_h26 : xN (sN h25 a 15 (a + 21 + 1)) a 7 = a + 16 + 1 := (sN_ne (by decide)).trans N7_h25
  have Z17_h26 : xI (sN h25 a 15 (a + 21 + 1)) (a + 17) = fun _ => 0 := Z17_h25
  have N9_h26 : xN (sN h25 a 15 (a + 21 + 1)) a 9 = a + 17 + 1 := (sN_ne (by decide)).trans N9_h25
  have Z18_h26 : xI (sN h25 a 15 (a + 21 + 1)) (a + 18) = fun _ => 0 := Z18_h25
  have N11_h26 : xN (sN h25 a 15 (a + 21 + 1)) a 11 = a + 18 + 1 := (sN_ne (by decide)).trans N11_h25
  have Z19_h26 : xI (sN h25 a 15 (a + 21 + 1)) (a + 19) = fun _ => 0 := Z19_h25
  have N12_h26 : xN (sN h25 a 15 (a + 21 + 1)) a 12 = a + 19 + 1 := (sN_ne (by decide)).trans N12_h25
  have Z20_h26 : xI (sN h25 a 15 (a + 21 + 1)) (a + 20) = fun _ => 0 := Z20_h25
  have N14_h26 : xN (sN h25 a 15 (a + 21 + 1)) a 14 = a + 20 + 1 := (sN_ne (by decide)).trans N14_h25
  have Z21_h26 : xI (sN h25 a 15 (a + 21 + 1)) (a + 21) = fun _ => 0 := Z21_h25
  have K_h26 : xK (sN h25 a 15 (a + 21 + 1)) = xK h ++ [22, 22, 22, 33, 31, 31, 31, 31, 31, 31, 31, 31, 31, 22, 22, 30, 22, 20, 20, 21, 21] := K_h25
  have N15_h26 : xN (sN h25 a 15 (a + 21 + 1)) a 15 = a + 21 + 1 := sN_at
  generalize sN h25 a 15 (a + 21 + 1) = h26 at NO_h26 LO_h26 I8_h26 I10_h26 I13_h26 I16_h26 I20_h26 N21_h26 N22_h26 Z1_h26 N0_h26 Z2_h26 N1_h26 Z3_h26 N2_h26 Z5_h26 Z6_h26 Z7_h26 Z8_h26 Z9_h26 Z10_h26 Z11_h26 Z12_h26 N3_h26 Z13_h26 N4_h26 Z14_h26 N5_h26 Z15_h26 N6_h26 Z16_h26 N7_h26 Z17_h26 N9_h26 Z18_h26 N11_h26 Z19_h26 N12_h26 Z20_h26 N14_h26 Z21_h26 K_h26 N15_h26 ⊢
  have len_h26 : (xK h26).length = a + 22 := by rw [K_h26, List.length_append, hlen]; rfl
  refine r_aload_n C (dx dX7_init 55 rfl) rfl ?_
  refine r_bipush (v := nI 8) C (dx dX7_init 56 rfl) rfl ?_
  refine r_iconst (v := nI 4) C (dx dX7_init 57 rfl) rfl ?_
  refine r_mna (S2 := "") (ko := 34) (ki := 27) (n := 8) (m9 := 4) (to := 4) (ti := 0) (ty := .int) (z := (4, .inl (fun _ => 0))) C X rfl rfl rfl rfl (by decide) (fun dA f h9 a9 => by rw [ent_arr (q := (4, 8, 27)) rfl rfl]; rfl) (by rw [K_h26]; exact ⟨[20], by rw [List.append_assoc, List.append_assoc]; rfl⟩) NO_h26 (by rw [len_h26]; exact oa5 (a := a) (c := 22) (n := 8) hb (by decide)) cl_RX7_52 q_ao_int q_ac2_int rfl (fun _ => rfl) (fun _ => rfl) (fun _ _ q => q) (fun _ _ q => q) (by decide) (by decide) (by decide) rfl rfl (fun c => by first | rfl | (show _ = arrV _ _ _; rw [← arrV_new]; rfl)) (fun dA f h9 a9 e1 e2 => by rw [ent_arr (q := (0, 4, 0)) rfl rfl]; simp [entA, e1, e2]) (by decide) (by decide) (dx dX7_init 58 rfl) ?_
  rw [len_h26]
  have NO_h27 : NOk (nwR h26 34 27 8) := NO_h26.nwR
  have LO_h27 : Lo a h (nwR h26 34 27 8) := LO_h26.tr (Lo.nwR (by rw [len_h26]; exact Nat.le_add_right _ _))
  have I8_h27 : xI (nwR h26 34 27 8) a 8 = 0 := by rw [(nwR_ne (h := h26) (k := 34) (k2 := 27) (n := 8) (a := a) (by rw [len_h26]; exact oa8 (by decide))).1]; exact I8_h26
  have I10_h27 : xI (nwR h26 34 27 8) a 10 = 0 := by rw [(nwR_ne (h := h26) (k := 34) (k2 := 27) (n := 8) (a := a) (by rw [len_h26]; exact oa8 (by decide))).1]; exact I10_h26
  have I13_h27 : xI (nwR h26 34 27 8) a 13 = 0 := by rw [(nwR_ne (h := h26) (k := 34) (k2 := 27) (n := 8) (a := a) (by rw [len_h26]; exact oa8 (by decide))).1]; exact I13_h26
  have I16_h27 : xI (nwR h26 34 27 8) a 16 = 0 := by rw [(nwR_ne (h := h26) (k := 34) (k2 := 27) (n := 8) (a := a) (by rw [len_h26]; exact oa8 (by decide))).1]; exact I16_h26
  have I20_h27 : xI (nwR h26 34 27 8) a 20 = 0 := by rw [(nwR_ne (h := h26) (k := 34) (k2 := 27) (n := 8) (a := a) (by rw [len_h26]; exact oa8 (by decide))).1]; exact I20_h26
  have N21_h27 : xN (nwR h26 34 27 8) a 21 = 0 := by rw [(nwR_ne (h := h26) (k := 34) (k2 := 27) (n := 8) (a := a) (by rw [len_h26]; exact oa8 (by decide))).2.2]; exact N21_h26
  have N22_h27 : xN (nwR h26 34 27 8) a 22 = 0 := by rw [(nwR_ne (h := h26) (k := 34) (k2 := 27) (n := 8) (a := a) (by rw [len_h26]; exact oa8 (by decide))).2.2]; exact N22_h26
  have Z1_h27 : xI (nwR h26 34 27 8) (a + 1) = fun _ => 0 := by rw [(nwR_ne (h := h26) (k := 34) (k2 := 27) (n := 8) (a := a + 1) (by rw [len_h26]; exact Nat.add_lt_add_left (by decide) a)).1]; exact Z1_h26
  have N0_h27 : xN (nwR h26 34 27 8) a 0 = a + 1 + 1 := by rw [(nwR_ne (h := h26) (k := 34) (k2 := 27) (n := 8) (a := a) (by rw [len_h26]; exact oa8 (by decide))).2.2]; exact N0_h26
  have Z2_h27 : xI (nwR h26 34 27 8) (a + 2) = fun _ => 0 := by rw [(nwR_ne (h := h26) (k := 34) (k2 := 27) (n := 8) (a := a + 2) (by rw [len_h26]; exact Nat.add_lt_add_left (by decide) a)).1]; exact Z2_h26
  have N1_h27 : xN (nwR h26 34 27 8) a 1 = a + 2 + 1 := by rw [(nwR_ne (h := h26) (k := 34) (k2 := 27) (n := 8) (a := a) (by rw [len_h26]; exact oa8 (by decide))).2.2]; exact N1_h26
  have Z3_h27 : xI (nwR h26 34 27 8) (a + 3) = fun _ => 0 := by rw [(nwR_ne (h := h26) (k := 34) (k2 := 27) (n := 8) (a := a + 3) (by rw [len_h26]; exact Nat.add_lt_add_left (by decide) a)).1]; exact Z3_h26
  have N2_h27 : xN (nwR h26 34 27 8) a 2 = a + 3 + 1 := by rw [(nwR_ne (h := h26) (k := 34) (k2 := 27) (n := 8) (a := a) (by rw [len_h26]; exact oa8 (by decide))).2.2]; exact N2_h26
  have Z5_h27 : xL (nwR h26 34 27 8) (a + 5) = fun _ => 0 := by rw [(nwR_ne (h := h26) (k := 34) (k2 := 27) (n := 8) (a := a + 5) (by rw [len_h26]; exact Nat.add_lt_add_left (by decide) a)).2.1]; exact Z5_h26
  have Z6_h27 : xL (nwR h26 34 27 8) (a + 6) = fun _ => 0 := by rw [(nwR_ne (h := h26) (k := 34) (k2 := 27) (n := 8) (a := a + 6) (by rw [len_h26]; exact Nat.add_lt_add_left (by decide) a)).2.1]; exact Z6_h26
  have Z7_h27 : xL (nwR h26 34 27 8) (a + 7) = fun _ => 0 := by rw [(nwR_ne (h := h26) (k := 34) (k2 := 27) (n := 8) (a := a + 7) (by rw [len_h26]; exact Nat.add_lt_add_left (by decide) a)).2.1]; exact Z7_h26
  have Z8_h27 : xL (nwR h26 34 27 8) (a + 8) = fun _ => 0 := by rw [(nwR_ne (h := h26) (k := 34) (k2 := 27) (n := 8) (a := a + 8) (by rw [len_h26]; exact Nat.add_lt_add_left (by decide) a)).2.1]; exact Z8_h26
  have Z9_h27 : xL (nwR h26 34 27 8) (a + 9) = fun _ => 0 := by rw [(nwR_ne (h := h26) (k := 34) (k2 := 27) (n := 8) (a := a + 9) (by rw [len_h26]; exact Nat.add_lt_add_left (by decide) a)).2.1]; exact Z9_h26
  have Z10_h27 : xL (nwR h26 34 27 8) (a + 10) = fun _ => 0 := by rw [(nwR_ne (h := h26) (k := 34) (k2 := 27) (n := 8) (a := a + 10) (by rw [len_h26]; exact Nat.add_lt_add_left (by decide) a)).2.1]; exact Z10_h26
  have Z11_h27 : xL (nwR h26 34 27 8) (a + 11) = fun _ => 0 := by rw [(nwR_ne (h := h26) (k := 34) (k2 := 27) (n := 8) (a := a + 11) (by rw [len_h26]; exact Nat.add_lt_add_left (by decide) a)).2.1]; exact Z11_h26
  have Z12_h27 : xL (nwR h26 34 27 8) (a + 12) = fun _ => 0 := by rw [(nwR_ne (h := h26) (k := 34) (k2 := 27) (n := 8) (a := a + 12) (by rw [len_h26]; exact Nat.add_lt_add_left (by decide) a)).2.1]; exact Z12_h26
  have N3_h27 : xN (nwR h26 34 27 8) a 3 = a + 4 + 1 := by rw [(nwR_ne (h := h26) (k := 34) (k2 := 27) (n := 8) (a := a) (by rw [len_h26]; exact oa8 (by decide))).2.2]; exact N3_h26
  have Z13_h27 : xL (nwR h26 34 27 8) (a + 13) = fun _ => 0 := by rw [(nwR_ne (h := h26) (k := 34) (k2 := 27) (n := 8) (a := a + 13) (by rw [len_h26]; exact Nat.add_lt_add_left (by decide) a)).2.1]; exact Z13_h26
  have N4_h27 : xN (nwR h26 34 27 8) a 4 = a + 13 + 1 := by rw [(nwR_ne (h := h26) (k := 34) (k2 := 27) (n := 8) (a := a) (by rw [len_h26]; exact oa8 (by decide))).2.2]; exact N4_h26
  have Z14_h27 : xI (nwR h26 34 27 8) (a + 14) = fun _ => 0 := by rw [(nwR_ne (h := h26) (k := 34) (k2 := 27) (n := 8) (a := a + 14) (by rw [len_h26]; exact Nat.add_lt_add_left (by decide) a)).1]; exact Z14_h26
  have N5_h27 : xN (nwR h26 34 27 8) a 5 = a + 14 + 1 := by rw [(nwR_ne (h := h26) (k := 34) (k2 := 27) (n := 8) (a := a) (by rw [len_h26]; exact oa8 (by decide))).2.2]; exact N5_h26
  have Z15_h27 : xI (nwR h26 34 27 8) (a + 15) = fun _ => 0 := by rw [(nwR_ne (h := h26) (k := 34) (k2 := 27) (n := 8) (a := a + 15) (by rw [len_h26]; exact Nat.add_lt_add_left (by decide) a)).1]; exact Z15_h26
  have N6_h27 : xN (nwR h26 34 27 8) a 6 = a + 15 + 1 := by rw [(nwR_ne (h := h26) (k := 34) (k2 := 27) (n := 8) (a := a) (by rw [len_h26]; exact oa8 (by decide))).2.2]; exact N6_h26
  have Z16_h27 : xI (nwR h26 34 27 8) (a + 16) = fun _ => 0 := by rw [(nwR_ne (h := h26) (k := 34) (k2 := 27) (n := 8) (a := a + 16) (by rw [len_h26]; exact Nat.add_lt_add_left (by decide) a)).1]; exact Z16_h26
  have N7_h27 : xN (nwR h26 34 27 8) a 7 = a + 16 + 1 := by rw [(nwR_ne (h := h26) (k := 34) (k2 := 27) (n := 8) (a := a) (by rw [len_h26]; exact oa8 (by decide))).2.2]; exact N7_h26
  have Z17_h27 : xI (nwR h26 34 27 8) (a + 17) = fun _ => 0 := by rw [(nwR_ne (h := h26) (k := 34) (k2 := 27) (n := 8) (a := a + 17) (by rw [len_h26]; exact Nat.add_lt_add_left (by decide) a)).1]; exact Z17_h26
  have N9_h27 : xN (nwR h26 34 27 8) a 9 = a + 17 + 1 := by rw [(nwR_ne (h := h26) (k := 34) (k2 := 27) (n := 8) (a := a) (by rw [len_h26]; exact oa8 (by decide))).2.2]; exact N9_h26
  have Z18_h27 : xI (nwR h26 34 27 8) (a + 18) = fun _ => 0 := by rw [(nwR_ne (h := h26) (k := 34) (k2 := 27) (n := 8) (a := a + 18) (by rw [len_h26]; exact Nat.add_lt_add_left (by decide) a)).1]; exact Z18_h26
  have N11_h27 : xN (nwR h26 34 27 8) a 11 = a + 18 + 1 := by rw [(nwR_ne (h := h26) (k := 34) (k2 := 27) (n := 8) (a := a) (by rw [len_h26]; exact oa8 (by decide))).2.2]; exact N11_h26
  have Z19_h27 : xI (nwR h26 34 27 8) (a + 19) = fun _ => 0 := by rw [(nwR_ne (h := h26) (k := 34) (k2 := 27) (n := 8) (a := a + 19) (by rw [len_h26]; exact Nat.add_lt_add_left (by decide) a)).1]; exact Z19_h26
  have N12_h27 : xN (nwR h26 34 27 8) a 12 = a + 19 + 1 := by rw [(nwR_ne (h := h26) (k := 34) (k2 := 27) (n := 8) (a := a) (by rw [len_h26]; exact oa8 (by decide))).2.2]; exact N12_h26
  have Z20_h27 : xI (nwR h26 34 27 8) (a + 20) = fun _ => 0 := by rw [(nwR_ne (h := h26) (k := 34) (k2 := 27) (n := 8) (a := a + 20) (by rw [len_h26]; exact Nat.add_lt_add_left (by decide) a)).1]; exact Z20_h26
  have N14_h27 : xN (nwR h26 34 27 8) a 14 = a + 20 + 1 := by rw [(nwR_ne (h := h26) (k := 34) (k2 := 27) (n := 8) (a := a) (by rw [len_h26]; exact oa8 (by decide))).2.2]; exact N14_h26
  have Z21_h27 : xI (nwR h26 34 27 8) (a + 21) = fun _ => 0 := by rw [(nwR_ne (h := h26) (k := 34) (k2 := 27) (n := 8) (a := a + 21) (by rw [len_h26]; exact Nat.add_lt_add_left (by decide) a)).1]; exact Z21_h26
  have N15_h27 : xN (nwR h26 34 27 8) a 15 = a + 21 + 1 := by rw [(nwR_ne (h := h26) (k := 34) (k2 := 27) (n := 8) (a := a) (by rw [len_h26]; exact oa8 (by decide))).2.2]; exact N15_h26
  have Z23_h27 : xI (nwR h26 34 27 8) (a + 23) = fun _ => 0 := (nwR_at (by rw [len_h26]; exact Nat.add_le_add_left (by decide) a)).1
  have Z24_h27 : xI (nwR h26 34 27 8) (a + 24) = fun _ => 0 := (nwR_at (by rw [len_h26]; exact Nat.add_le_add_left (by decide) a)).1
  have Z25_h27 : xI (nwR h26 34 27 8) (a + 25) = fun _ => 0 := (nwR_at (by rw [len_h26]; exact Nat.add_le_add_left (by decide) a)).1
  have Z26_h27 : xI (nwR h26 34 27 8) (a + 26) = fun _ => 0 := (nwR_at (by rw [len_h26]; exact Nat.add_le_add_left (by decide) a)).1
  have Z27_h27 : xI (nwR h26 34 27 8) (a + 27) = fun _ => 0 := (nwR_at (by rw [len_h26]; exact Nat.add_le_add_left (by decide) a)).1
  have Z28_h27 : xI (nwR h26 34 27 8) (a + 28) = fun _ => 0 := (nwR_at (by rw [len_h26]; exact Nat.add_le_add_left (by decide) a)).1
  have Z29_h27 : xI (nwR h26 34 27 8) (a + 29) = fun _ => 0 := (nwR_at (by rw [len_h26]; exact Nat.add_le_add_left (by decide) a)).1
  have Z30_h27 : xI (nwR h26 34 27 8) (a + 30) = fun _ => 0 := (nwR_at (by rw [len_h26]; exact Nat.add_le_add_left (by decide) a)).1
  have K_h27 : xK (nwR h26 34 27 8) = xK h ++ [22, 22, 22, 33, 31, 31, 31, 31, 31, 31, 31, 31, 31, 22, 22, 30, 22, 20, 20, 21, 21, 34, 27, 27, 27, 27, 27, 27, 27, 27] := by show xK h26 ++ _ = _; rw [K_h26, List.append_assoc]; rfl
  generalize nwR h26 34 27 8 = h27 at NO_h27 LO_h27 I8_h27 I10_h27 I13_h27 I16_h27 I20_h27 N21_h27 N22_h27 Z1_h27 N0_h27 Z2_h27 N1_h27 Z3_h27 N2_h27 Z5_h27 Z6_h27 Z7_h27 Z8_h27 Z9_h27 Z10_h27 Z11_h27 Z12_h27 N3_h27 Z13_h27 N4_h27 Z14_h27 N5_h27 Z15_h27 N6_h27 Z16_h27 N7_h27 Z17_h27 N9_h27 Z18_h27 N11_h27 Z19_h27 N12_h27 Z20_h27 N14_h27 Z21_h27 N15_h27 Z23_h27 Z24_h27 Z25_h27 Z26_h27 Z27_h27 Z28_h27 Z29_h27 Z30_h27 K_h27 ⊢
  have len_h27 : (xK h27).length = a + 31 := by rw [K_h27, List.length_append, hlen]; rfl
  refine r_putNF (k := 15) (j := 17) (t := 0) C hI rfl rfl rfl (by decide) f_X7_54 rfl rfl (fun _ => rfl) (fun _ => rfl) (dx dX7_init 59 rfl) ?_
  have NO_h28 : NOk (sN h27 a 17 (a + 22 + 1)) := NO_h27.sN (by rw [len_h27]; exact oa6 (by decide))
  have LO_h28 : Lo a h (sN h27 a 17 (a + 22 + 1)) := LO_h27.tr (Lo.sN (Nat.le_refl _))
  have I8_h28 : xI (sN h27 a 17 (a + 22 + 1)) a 8 = 0 := I8_h27
  have I10_h28 : xI (sN h27 a 17 (a + 22 + 1)) a 10 = 0 := I10_h27
  have I13_h28 : xI (sN h27 a 17 (a + 22 + 1)) a 13 = 0 := I13_h27
  have I16_h28 : xI (sN h27 a 17 (a + 22 + 1)) a 16 = 0 := I16_h27
  have I20_h28 : xI (sN h27 a 17 (a + 22 + 1)) a 20 = 0 := I20_h27
  have N21_h28 : xN (sN h27 a 17 (a + 22 + 1)) a 21 = 0 := (sN_ne (by decide)).trans N21_h27
  have N22_h28 : xN (sN h27 a 17 (a + 22 + 1)) a 22 = 0 := (sN_ne (by decide)).trans N22_h27
  have Z1_h28 : xI (sN h27 a 17 (a + 22 + 1)) (a + 1) = fun _ => 0 := Z1_h27
  have N0_h28 : xN (sN h27 a 17 (a + 22 + 1)) a 0 = a + 1 + 1 := (sN_ne (by decide)).trans N0_h27
  have Z2_h28 : xI (sN h27 a 17 (a + 22 + 1)) (a + 2) = fun _ => 0 := Z2_h27
  have N1_h28 : xN (sN h27 a 17 (a + 22 + 1)) a 1 = a + 2 + 1 := (sN_ne (by decide)).trans N1_h27
  have Z3_h28 : xI (sN h27 a 17 (a + 22 + 1)) (a + 3) = fun _ => 0 := Z3_h27
  have N2_h28 : xN (sN h27 a 17 (a + 22 + 1)) a 2 = a + 3 + 1 := (sN_ne (by decide)).trans N2_h27
  have Z5_h28 : xL (sN h27 a 17 (a + 22 + 1)) (a + 5) = fun _ => 0 := Z5_h27
  have Z6_h28 : xL (sN h27 a 17 (a + 22 + 1)) (a + 6) = fun _ => 0 := Z6_h27
  have Z7_h28 : xL (sN h27 a 17 (a + 22 + 1)) (a + 7) = fun _ => 0 := Z7_h27
  have Z8_h28 : xL (sN h27 a 17 (a + 22 + 1)) (a + 8) = fun _ => 0 := Z8_h27
  have Z9_h28 : xL (sN h27 a 17 (a + 22 + 1)) (a + 9) = fun _ => 0 := Z9_h27
  have Z10_h28 : xL (sN h27 a 17 (a + 22 + 1)) (a + 10) = fun _ => 0 := Z10_h27
  have Z11_h28 : xL (sN h27 a 17 (a + 22 + 1)) (a + 11) = fun _ => 0 := Z11_h27
  have Z12_h28 : xL (sN h27 a 17 (a + 22 + 1)) (a + 12) = fun _ => 0 := Z12_h27
  have N3_h28 : xN (sN h27 a 17 (a + 22 + 1)) a 3 = a + 4 + 1 := (sN_ne (by decide)).trans N3_h27
  have Z13_h28 : xL (sN h27 a 17 (a + 22 + 1)) (a + 13) = fun _ => 0 := Z13_h27
  have N4_h28 : xN (sN h27 a 17 (a + 22 + 1)) a 4 = a + 13 + 1 := (sN_ne (by decide)).trans N4_h27
  have Z14_h28 : xI (sN h27 a 17 (a + 22 + 1)) (a + 14) = fun _ => 0 := Z14_h27
  have N5_h28 : xN (sN h27 a 17 (a + 22 + 1)) a 5 = a + 14 + 1 := (sN_ne (by decide)).trans N5_h27
  have Z15_h28 : xI (sN h27 a 17 (a + 22 + 1)) (a + 15) = fun _ => 0 := Z15_h27
  have N6_h28 : xN (sN h27 a 17 (a + 22 + 1)) a 6 = a + 15 + 1 := (sN_ne (by decide)).trans N6_h27
  have Z16_h28 : xI (sN h27 a 17 (a + 22 + 1)) (a + 16) = fun _ => 0 := Z16_h27
  have N7_h28 : xN (sN h27 a 17 (a + 22 + 1)) a 7 = a + 16 + 1 := (sN_ne (by decide)).trans N7_h27
  have Z17_h28 : xI (sN h27 a 17 (a + 22 + 1)) (a + 17) = fun _ => 0 := Z17_h27
  have N9_h28 : xN (sN h27 a 17 (a + 22 + 1)) a 9 = a + 17 + 1 := (sN_ne (by decide)).trans N9_h27
  have Z18_h28 : xI (sN h27 a 17 (a + 22 + 1)) (a + 18) = fun _ => 0 := Z18_h27
  have N11_h28 : xN (sN h27 a 17 (a + 22 + 1)) a 11 = a + 18 + 1 := (sN_ne (by decide)).trans N11_h27
  have Z19_h28 : xI (sN h27 a 17 (a + 22 + 1)) (a + 19) = fun _ => 0 := Z19_h27
  have N12_h28 : xN (sN h27 a 17 (a + 22 + 1)) a 12 = a + 19 + 1 := (sN_ne (by decide)).trans N12_h27
  have Z20_h28 : xI (sN h27 a 17 (a + 22 + 1)) (a + 20) = fun _ => 0 := Z20_h27
  have N14_h28 : xN (sN h27 a 17 (a + 22 + 1)) a 14 = a + 20 + 1 := (sN_ne (by decide)).trans N14_h27
  have Z21_h28 : xI (sN h27 a 17 (a + 22 + 1)) (a + 21) = fun _ => 0 := Z21_h27
  have N15_h28 : xN (sN h27 a 17 (a + 22 + 1)) a 15 = a + 21 + 1 := (sN_ne (by decide)).trans N15_h27
  have Z23_h28 : xI (sN h27 a 17 (a + 22 + 1)) (a + 23) = fun _ => 0 := Z23_h27
  have Z24_h28 : xI (sN h27 a 17 (a + 22 + 1)) (a + 24) = fun _ => 0 := Z24_h27
  have Z25_h28 : xI (sN h27 a 17 (a + 22 + 1)) (a + 25) = fun _ => 0 := Z25_h27
  have Z26_h28 : xI (sN h27 a 17 (a + 22 + 1)) (a + 26) = fun _ => 0 := Z26_h27
  have Z27_h28 : xI (sN h27 a 17 (a + 22 + 1)) (a + 27) = fun _ => 0 := Z27_h27
  have Z28_h28 : xI (sN h27 a 17 (a + 22 + 1)) (a + 28) = fun _ => 0 := Z28_h27
  have Z29_h28 : xI (sN h27 a 17 (a + 22 + 1)) (a + 29) = fun _ => 0 := Z29_h27
  have Z30_h28 : xI (sN h27 a 17 (a + 22 + 1)) (a + 30) = fun _ => 0 := Z30_h27
  have K_h28 : xK (sN h27 a 17 (a + 22 + 1)) = xK h ++ [22, 22, 22, 33, 31, 31, 31, 31, 31, 31, 31, 31, 31, 22, 22, 30, 22, 20, 20, 21, 21, 34, 27, 27, 27, 27, 27, 27, 27, 27] := K_h27
  have N17_h28 : xN (sN h27 a 17 (a + 22 + 1)) a 17 = a + 22 + 1 := sN_at
  generalize sN h27 a 17 (a + 22 + 1) = h28 at NO_h28 LO_h28 I8_h28 I10_h28 I13_h28 I16_h28 I20_h28 N21_h28 N22_h28 Z1_h28 N0_h28 Z2_h28 N1_h28 Z3_h28 N2_h28 Z5_h28 Z6_h28 Z7_h28 Z8_h28 Z9_h28 Z10_h28 Z11_h28 Z12_h28 N3_h28 Z13_h28 N4_h28 Z14_h28 N5_h28 Z15_h28 N6_h28 Z16_h28 N7_h28 Z17_h28 N9_h28 Z18_h28 N11_h28 Z19_h28 N12_h28 Z20_h28 N14_h28 Z21_h28 N15_h28 Z23_h28 Z24_h28 Z25_h28 Z26_h28 Z27_h28 Z28_h28 Z29_h28 Z30_h28 K_h28 N17_h28 ⊢
  have len_h28 : (xK h28).length = a + 31 := by rw [K_h28, List.length_append, hlen]; rfl
  refine r_aload_n C (dx dX7_init 60 rfl) rfl ?_
  refine r_iconst (v := nI 1) C (dx dX7_init 61 rfl) rfl ?_
  refine r_putI (k := 15) (j := 20) (T := TX7) C rfl rfl rfl (by decide) f_X7_57 rfl rfl rfl (dx dX7_init 62 rfl) ?_
  have NO_h29 : NOk (sI h28 a 20 (nI 1)) := NO_h28
  have LO_h29 : Lo a h (sI h28 a 20 (nI 1)) := LO_h28.tr (Lo.sI (Nat.le_refl _))
  have I8_h29 : xI (sI h28 a 20 (nI 1)) a 8 = 0 := by rw [sI_at, if_neg (by decide)]; exact I8_h28
  have I10_h29 : xI (sI h28 a 20 (nI 1)) a 10 = 0 := by rw [sI_at, if_neg (by decide)]; exact I10_h28
  have I13_h29 : xI (sI h28 a 20 (nI 1)) a 13 = 0 := by rw [sI_at, if_neg (by decide)]; exact I13_h28
  have I16_h29 : xI (sI h28 a 20 (nI 1)) a 16 = 0 := by rw [sI_at, if_neg (by decide)]; exact I16_h28
  have N21_h29 : xN (sI h28 a 20 (nI 1)) a 21 = 0 := N21_h28
  have N22_h29 : xN (sI h28 a 20 (nI 1)) a 22 = 0 := N22_h28
  have Z1_h29 : xI (sI h28 a 20 (nI 1)) (a + 1) = fun _ => 0 := by funext i; rw [sI_ne (oa7 (by decide))]; exact congrFun Z1_h28 i
  have N0_h29 : xN (sI h28 a 20 (nI 1)) a 0 = a + 1 + 1 := N0_h28
  have Z2_h29 : xI (sI h28 a 20 (nI 1)) (a + 2) = fun _ => 0 := by funext i; rw [sI_ne (oa7 (by decide))]; exact congrFun Z2_h28 i
  have N1_h29 : xN (sI h28 a 20 (nI 1)) a 1 = a + 2 + 1 := N1_h28
  have Z3_h29 : xI (sI h28 a 20 (nI 1)) (a + 3) = fun _ => 0 := by funext i; rw [sI_ne (oa7 (by decide))]; exact congrFun Z3_h28 i
  have N2_h29 : xN (sI h28 a 20 (nI 1)) a 2 = a + 3 + 1 := N2_h28
  have Z5_h29 : xL (sI h28 a 20 (nI 1)) (a + 5) = fun _ => 0 := Z5_h28
  have Z6_h29 : xL (sI h28 a 20 (nI 1)) (a + 6) = fun _ => 0 := Z6_h28
  have Z7_h29 : xL (sI h28 a 20 (nI 1)) (a + 7) = fun _ => 0 := Z7_h28
  have Z8_h29 : xL (sI h28 a 20 (nI 1)) (a + 8) = fun _ => 0 := Z8_h28
  have Z9_h29 : xL (sI h28 a 20 (nI 1)) (a + 9) = fun _ => 0 := Z9_h28
  have Z10_h29 : xL (sI h28 a 20 (nI 1)) (a + 10) = fun _ => 0 := Z10_h28
  have Z11_h29 : xL (sI h28 a 20 (nI 1)) (a + 11) = fun _ => 0 := Z11_h28
  have Z12_h29 : xL (sI h28 a 20 (nI 1)) (a + 12) = fun _ => 0 := Z12_h28
  have N3_h29 : xN (sI h28 a 20 (nI 1)) a 3 = a + 4 + 1 := N3_h28
  have Z13_h29 : xL (sI h28 a 20 (nI 1)) (a + 13) = fun _ => 0 := Z13_h28
  have N4_h29 : xN (sI h28 a 20 (nI 1)) a 4 = a + 13 + 1 := N4_h28
  have Z14_h29 : xI (sI h28 a 20 (nI 1)) (a + 14) = fun _ => 0 := by funext i; rw [sI_ne (oa7 (by decide))]; exact congrFun Z14_h28 i
  have N5_h29 : xN (sI h28 a 20 (nI 1)) a 5 = a + 14 + 1 := N5_h28
  have Z15_h29 : xI (sI h28 a 20 (nI 1)) (a + 15) = fun _ => 0 := by funext i; rw [sI_ne (oa7 (by decide))]; exact congrFun Z15_h28 i
  have N6_h29 : xN (sI h28 a 20 (nI 1)) a 6 = a + 15 + 1 := N6_h28
  have Z16_h29 : xI (sI h28 a 20 (nI 1)) (a + 16) = fun _ => 0 := by funext i; rw [sI_ne (oa7 (by decide))]; exact congrFun Z16_h28 i
  have N7_h29 : xN (sI h28 a 20 (nI 1)) a 7 = a + 16 + 1 := N7_h28
  have Z17_h29 : xI (sI h28 a 20 (nI 1)) (a + 17) = fun _ => 0 := by funext i; rw [sI_ne (oa7 (by decide))]; exact congrFun Z17_h28 i
  have N9_h29 : xN (sI h28 a 20 (nI 1)) a 9 = a + 17 + 1 := N9_h28
  have Z18_h29 : xI (sI h28 a 20 (nI 1)) (a + 18) = fun _ => 0 := by funext i; rw [sI_ne (oa7 (by decide))]; exact congrFun Z18_h28 i
  have N11_h29 : xN (sI h28 a 20 (nI 1)) a 11 = a + 18 + 1 := N11_h28
  have Z19_h29 : xI (sI h28 a 20 (nI 1)) (a + 19) = fun _ => 0 := by funext i; rw [sI_ne (oa7 (by decide))]; exact congrFun Z19_h28 i
  have N12_h29 : xN (sI h28 a 20 (nI 1)) a 12 = a + 19 + 1 := N12_h28
  have Z20_h29 : xI (sI h28 a 20 (nI 1)) (a + 20) = fun _ => 0 := by funext i; rw [sI_ne (oa7 (by decide))]; exact congrFun Z20_h28 i
  have N14_h29 : xN (sI h28 a 20 (nI 1)) a 14 = a + 20 + 1 := N14_h28
  have Z21_h29 : xI (sI h28 a 20 (nI 1)) (a + 21) = fun _ => 0 := by funext i; rw [sI_ne (oa7 (by decide))]; exact congrFun Z21_h28 i
  have N15_h29 : xN (sI h28 a 20 (nI 1)) a 15 = a + 21 + 1 := N15_h28
  have Z23_h29 : xI (sI h28 a 20 (nI 1)) (a + 23) = fun _ => 0 := by funext i; rw [sI_ne (oa7 (by decide))]; exact congrFun Z23_h28 i
  have Z24_h29 : xI (sI h28 a 20 (nI 1)) (a + 24) = fun _ => 0 := by funext i; rw [sI_ne (oa7 (by decide))]; exact congrFun Z24_h28 i
  have Z25_h29 : xI (sI h28 a 20 (nI 1)) (a + 25) = fun _ => 0 := by funext i; rw [sI_ne (oa7 (by decide))]; exact congrFun Z25_h28 i
  have Z26_h29 : xI (sI h28 a 20 (nI 1)) (a + 26) = fun _ => 0 := by funext i; rw [sI_ne (oa7 (by decide))]; exact congrFun Z26_h28 i
  have Z27_h29 : xI (sI h28 a 20 (nI 1)) (a + 27) = fun _ => 0 := by funext i; rw [sI_ne (oa7 (by decide))]; exact congrFun Z27_h28 i
  have Z28_h29 : xI (sI h28 a 20 (nI 1)) (a + 28) = fun _ => 0 := by funext i; rw [sI_ne (oa7 (by decide))]; exact congrFun Z28_h28 i
  have Z29_h29 : xI (sI h28 a 20 (nI 1)) (a + 29) = fun _ => 0 := by funext i; rw [sI_ne (oa7 (by decide))]; exact congrFun Z29_h28 i
  have Z30_h29 : xI (sI h28 a 20 (nI 1)) (a + 30) = fun _ => 0 := by funext i; rw [sI_ne (oa7 (by decide))]; exact congrFun Z30_h28 i
  have K_h29 : xK (sI h28 a 20 (nI 1)) = xK h ++ [22, 22, 22, 33, 31, 31, 31, 31, 31, 31, 31, 31, 31, 22, 22, 30, 22, 20, 20, 21, 21, 34, 27, 27, 27, 27, 27, 27, 27, 27] := K_h28
  have N17_h29 : xN (sI h28 a 20 (nI 1)) a 17 = a + 22 + 1 := N17_h28
  have I20_h29 : xI (sI h28 a 20 (nI 1)) a 20 = nI 1 := by rw [sI_at, if_pos rfl]
  generalize sI h28 a 20 (nI 1) = h29 at NO_h29 LO_h29 I8_h29 I10_h29 I13_h29 I16_h29 N21_h29 N22_h29 Z1_h29 N0_h29 Z2_h29 N1_h29 Z3_h29 N2_h29 Z5_h29 Z6_h29 Z7_h29 Z8_h29 Z9_h29 Z10_h29 Z11_h29 Z12_h29 N3_h29 Z13_h29 N4_h29 Z14_h29 N5_h29 Z15_h29 N6_h29 Z16_h29 N7_h29 Z17_h29 N9_h29 Z18_h29 N11_h29 Z19_h29 N12_h29 Z20_h29 N14_h29 Z21_h29 N15_h29 Z23_h29 Z24_h29 Z25_h29 Z26_h29 Z27_h29 Z28_h29 Z29_h29 Z30_h29 K_h29 N17_h29 I20_h29 ⊢
  have len_h29 : (xK h29).length = a + 31 := by rw [K_h29, List.length_append, hlen]; rfl
  refine r_aload_n C (dx dX7_init 63 rfl) rfl ?_
  refine r_bipush (v := nI 12) C (dx dX7_init 64 rfl) rfl ?_
  refine r_newa (kk := 20) (t := 0) (n := 12) (ty := .int) (S := "[" ++ (.int : FieldType).toString) (a0 := (12, .inl (fun _ => 0))) C X rfl rfl (by decide) (by rw [K_h29]; exact ⟨[], by rw [List.append_assoc, List.append_assoc]; rfl⟩) NO_h29 (by rw [len_h29]; exact oa4 hb (by decide)) rfl q_ac_int (fun _ => rfl) (fun _ _ q => q) (fun _ => rfl) (fun dA f h9 a9 e1 e2 => by rw [ent_arr (q := (0, 12, 0)) rfl rfl]; simp [entA, e1, e2]) (by decide) (by decide) (dx dX7_init 65 rfl) ?_
  rw [len_h29]
  have NO_h30 : NOk (nw h29 20) := NO_h29.nw
  have LO_h30 : Lo a h (nw h29 20) := LO_h29.tr (Lo.nw (by rw [len_h29]; exact Nat.le_add_right _ _))
  have I8_h30 : xI (nw h29 20) a 8 = 0 := by rw [(nw_ne (h := h29) (k := 20) (b := a) (by rw [len_h29]; exact oa3 (by decide))).1]; exact I8_h29
  have I10_h30 : xI (nw h29 20) a 10 = 0 := by rw [(nw_ne (h := h29) (k := 20) (b := a) (by rw [len_h29]; exact oa3 (by decide))).1]; exact I10_h29
  have I13_h30 : xI (nw h29 20) a 13 = 0 := by rw [(nw_ne (h := h29) (k := 20) (b := a) (by rw [len_h29]; exact oa3 (by decide))).1]; exact I13_h29
  have I16_h30 : xI (nw h29 20) a 16 = 0 := by rw [(nw_ne (h := h29) (k := 20) (b := a) (by rw [len_h29]; exact oa3 (by decide))).1]; exact I16_h29
  have N21_h30 : xN (nw h29 20) a 21 = 0 := by rw [(nw_ne (h := h29) (k := 20) (b := a) (by rw [len_h29]; exact oa3 (by decide))).2.2]; exact N21_h29
  have N22_h30 : xN (nw h29 20) a 22 = 0 := by rw [(nw_ne (h := h29) (k := 20) (b := a) (by rw [len_h29]; exact oa3 (by decide))).2.2]; exact N22_h29
  have Z1_h30 : xI (nw h29 20) (a + 1) = fun _ => 0 := by rw [(nw_ne (h := h29) (k := 20) (b := a + 1) (by rw [len_h29]; exact oa2 (by decide))).1]; exact Z1_h29
  have N0_h30 : xN (nw h29 20) a 0 = a + 1 + 1 := by rw [(nw_ne (h := h29) (k := 20) (b := a) (by rw [len_h29]; exact oa3 (by decide))).2.2]; exact N0_h29
  have Z2_h30 : xI (nw h29 20) (a + 2) = fun _ => 0 := by rw [(nw_ne (h := h29) (k := 20) (b := a + 2) (by rw [len_h29]; exact oa2 (by decide))).1]; exact Z2_h29
  have N1_h30 : xN (nw h29 20) a 1 = a + 2 + 1 := by rw [(nw_ne (h := h29) (k := 20) (b := a) (by rw [len_h29]; exact oa3 (by decide))).2.2]; exact N1_h29
  have Z3_h30 : xI (nw h29 20) (a + 3) = fun _ => 0 := by rw [(nw_ne (h := h29) (k := 20) (b := a + 3) (by rw [len_h29]; exact oa2 (by decide))).1]; exact Z3_h29
  have N2_h30 : xN (nw h29 20) a 2 = a + 3 + 1 := by rw [(nw_ne (h := h29) (k := 20) (b := a) (by rw [len_h29]; exact oa3 (by decide))).2.2]; exact N2_h29
  have Z5_h30 : xL (nw h29 20) (a + 5) = fun _ => 0 := by rw [(nw_ne (h := h29) (k := 20) (b := a + 5) (by rw [len_h29]; exact oa2 (by decide))).2.1]; exact Z5_h29
  have Z6_h30 : xL (nw h29 20) (a + 6) = fun _ => 0 := by rw [(nw_ne (h := h29) (k := 20) (b := a + 6) (by rw [len_h29]; exact oa2 (by decide))).2.1]; exact Z6_h29
  have Z7_h30 : xL (nw h29 20) (a + 7) = fun _ => 0 := by rw [(nw_ne (h := h29) (k := 20) (b := a + 7) (by rw [len_h29]; exact oa2 (by decide))).2.1]; exact Z7_h29
  have Z8_h30 : xL (nw h29 20) (a + 8) = fun _ => 0 := by rw [(nw_ne (h := h29) (k := 20) (b := a + 8) (by rw [len_h29]; exact oa2 (by decide))).2.1]; exact Z8_h29
  have Z9_h30 : xL (nw h29 20) (a + 9) = fun _ => 0 := by rw [(nw_ne (h := h29) (k := 20) (b := a + 9) (by rw [len_h29]; exact oa2 (by decide))).2.1]; exact Z9_h29
  have Z10_h30 : xL (nw h29 20) (a + 10) = fun _ => 0 := by rw [(nw_ne (h := h29) (k := 20) (b := a + 10) (by rw [len_h29]; exact oa2 (by decide))).2.1]; exact Z10_h29
  have Z11_h30 : xL (nw h29 20) (a + 11) = fun _ => 0 := by rw [(nw_ne (h := h29) (k := 20) (b := a + 11) (by rw [len_h29]; exact oa2 (by decide))).2.1]; exact Z11_h29
  have Z12_h30 : xL (nw h29 20) (a + 12) = fun _ => 0 := by rw [(nw_ne (h := h29) (k := 20) (b := a + 12) (by rw [len_h29]; exact oa2 (by decide))).2.1]; exact Z12_h29
  have N3_h30 : xN (nw h29 20) a 3 = a + 4 + 1 := by rw [(nw_ne (h := h29) (k := 20) (b := a) (by rw [len_h29]; exact oa3 (by decide))).2.2]; exact N3_h29
  have Z13_h30 : xL (nw h29 20) (a + 13) = fun _ => 0 := by rw [(nw_ne (h := h29) (k := 20) (b := a + 13) (by rw [len_h29]; exact oa2 (by decide))).2.1]; exact Z13_h29
  have N4_h30 : xN (nw h29 20) a 4 = a + 13 + 1 := by rw [(nw_ne (h := h29) (k := 20) (b := a) (by rw [len_h29]; exact oa3 (by decide))).2.2]; exact N4_h29
  have Z14_h30 : xI (nw h29 20) (a + 14) = fun _ => 0 := by rw [(nw_ne (h := h29) (k := 20) (b := a + 14) (by rw [len_h29]; exact oa2 (by decide))).1]; exact Z14_h29
  have N5_h30 : xN (nw h29 20) a 5 = a + 14 + 1 := by rw [(nw_ne (h := h29) (k := 20) (b := a) (by rw [len_h29]; exact oa3 (by decide))).2.2]; exact N5_h29
  have Z15_h30 : xI (nw h29 20) (a + 15) = fun _ => 0 := by rw [(nw_ne (h := h29) (k := 20) (b := a + 15) (by rw [len_h29]; exact oa2 (by decide))).1]; exact Z15_h29
  have N6_h30 : xN (nw h29 20) a 6 = a + 15 + 1 := by rw [(nw_ne (h := h29) (k := 20) (b := a) (by rw [len_h29]; exact oa3 (by decide))).2.2]; exact N6_h29
  have Z16_h30 : xI (nw h29 20) (a + 16) = fun _ => 0 := by rw [(nw_ne (h := h29) (k := 20) (b := a + 16) (by rw [len_h29]; exact oa2 (by decide))).1]; exact Z16_h29
  have N7_h30 : xN (nw h29 20) a 7 = a + 16 + 1 := by rw [(nw_ne (h := h29) (k := 20) (b := a) (by rw [len_h29]; exact oa3 (by decide))).2.2]; exact N7_h29
  have Z17_h30 : xI (nw h29 20) (a + 17) = fun _ => 0 := by rw [(nw_ne (h := h29) (k := 20) (b := a + 17) (by rw [len_h29]; exact oa2 (by decide))).1]; exact Z17_h29
  have N9_h30 : xN (nw h29 20) a 9 = a + 17 + 1 := by rw [(nw_ne (h := h29) (k := 20) (b := a) (by rw [len_h29]; exact oa3 (by decide))).2.2]; exact N9_h29
  have Z18_h30 : xI (nw h29 20) (a + 18) = fun _ => 0 := by rw [(nw_ne (h := h29) (k := 20) (b := a + 18) (by rw [len_h29]; exact oa2 (by decide))).1]; exact Z18_h29
  have N11_h30 : xN (nw h29 20) a 11 = a + 18 + 1 := by rw [(nw_ne (h := h29) (k := 20) (b := a) (by rw [len_h29]; exact oa3 (by decide))).2.2]; exact N11_h29
  have Z19_h30 : xI (nw h29 20) (a + 19) = fun _ => 0 := by rw [(nw_ne (h := h29) (k := 20) (b := a + 19) (by rw [len_h29]; exact oa2 (by decide))).1]; exact Z19_h29
  have N12_h30 : xN (nw h29 20) a 12 = a + 19 + 1 := by rw [(nw_ne (h := h29) (k := 20) (b := a) (by rw [len_h29]; exact oa3 (by decide))).2.2]; exact N12_h29
  have Z20_h30 : xI (nw h29 20) (a + 20) = fun _ => 0 := by rw [(nw_ne (h := h29) (k := 20) (b := a + 20) (by rw [len_h29]; exact oa2 (by decide))).1]; exact Z20_h29
  have N14_h30 : xN (nw h29 20) a 14 = a + 20 + 1 := by rw [(nw_ne (h := h29) (k := 20) (b := a) (by rw [len_h29]; exact oa3 (by decide))).2.2]; exact N14_h29
  have Z21_h30 : xI (nw h29 20) (a + 21) = fun _ => 0 := by rw [(nw_ne (h := h29) (k := 20) (b := a + 21) (by rw [len_h29]; exact oa2 (by decide))).1]; exact Z21_h29
  have N15_h30 : xN (nw h29 20) a 15 = a + 21 + 1 := by rw [(nw_ne (h := h29) (k := 20) (b := a) (by rw [len_h29]; exact oa3 (by decide))).2.2]; exact N15_h29
  have Z23_h30 : xI (nw h29 20) (a + 23) = fun _ => 0 := by rw [(nw_ne (h := h29) (k := 20) (b := a + 23) (by rw [len_h29]; exact oa2 (by decide))).1]; exact Z23_h29
  have Z24_h30 : xI (nw h29 20) (a + 24) = fun _ => 0 := by rw [(nw_ne (h := h29) (k := 20) (b := a + 24) (by rw [len_h29]; exact oa2 (by decide))).1]; exact Z24_h29
  have Z25_h30 : xI (nw h29 20) (a + 25) = fun _ => 0 := by rw [(nw_ne (h := h29) (k := 20) (b := a + 25) (by rw [len_h29]; exact oa2 (by decide))).1]; exact Z25_h29
  have Z26_h30 : xI (nw h29 20) (a + 26) = fun _ => 0 := by rw [(nw_ne (h := h29) (k := 20) (b := a + 26) (by rw [len_h29]; exact oa2 (by decide))).1]; exact Z26_h29
  have Z27_h30 : xI (nw h29 20) (a + 27) = fun _ => 0 := by rw [(nw_ne (h := h29) (k := 20) (b := a + 27) (by rw [len_h29]; exact oa2 (by decide))).1]; exact Z27_h29
  have Z28_h30 : xI (nw h29 20) (a + 28) = fun _ => 0 := by rw [(nw_ne (h := h29) (k := 20) (b := a + 28) (by rw [len_h29]; exact oa2 (by decide))).1]; exact Z28_h29
  have Z29_h30 : xI (nw h29 20) (a + 29) = fun _ => 0 := by rw [(nw_ne (h := h29) (k := 20) (b := a + 29) (by rw [len_h29]; exact oa2 (by decide))).1]; exact Z29_h29
  have Z30_h30 : xI (nw h29 20) (a + 30) = fun _ => 0 := by rw [(nw_ne (h := h29) (k := 20) (b := a + 30) (by rw [len_h29]; exact oa2 (by decide))).1]; exact Z30_h29
  have N17_h30 : xN (nw h29 20) a 17 = a + 22 + 1 := by rw [(nw_ne (h := h29) (k := 20) (b := a) (by rw [len_h29]; exact oa3 (by decide))).2.2]; exact N17_h29
  have I20_h30 : xI (nw h29 20) a 20 = nI 1 := by rw [(nw_ne (h := h29) (k := 20) (b := a) (by rw [len_h29]; exact oa3 (by decide))).1]; exact I20_h29
  have Z31_h30 : xI (nw h29 20) (a + 31) = fun _ => 0 := by have q9 := nw_I (h := h29) (k := 20); rw [len_h29] at q9; exact q9
  have K_h30 : xK (nw h29 20) = xK h ++ [22, 22, 22, 33, 31, 31, 31, 31, 31, 31, 31, 31, 31, 22, 22, 30, 22, 20, 20, 21, 21, 34, 27, 27, 27, 27, 27, 27, 27, 27, 20] := by show xK h29 ++ _ = _; rw [K_h29, List.append_assoc]; rfl
  generalize nw h29 20 = h30 at NO_h30 LO_h30 I8_h30 I10_h30 I13_h30 I16_h30 N21_h30 N22_h30 Z1_h30 N0_h30 Z2_h30 N1_h30 Z3_h30 N2_h30 Z5_h30 Z6_h30 Z7_h30 Z8_h30 Z9_h30 Z10_h30 Z11_h30 Z12_h30 N3_h30 Z13_h30 N4_h30 Z14_h30 N5_h30 Z15_h30 N6_h30 Z16_h30 N7_h30 Z17_h30 N9_h30 Z18_h30 N11_h30 Z19_h30 N12_h30 Z20_h30 N14_h30 Z21_h30 N15_h30 Z23_h30 Z24_h30 Z25_h30 Z26_h30 Z27_h30 Z28_h30 Z29_h30 Z30_h30 N17_h30 I20_h30 Z31_h30 K_h30 ⊢
  have len_h30 : (xK h30).length = a + 32 := by rw [K_h30, List.length_append, hlen]; rfl
  refine r_putNF (k := 15) (j := 30) (t := 0) C hI rfl rfl rfl (by decide) f_X7_61 rfl rfl (fun _ => rfl) (fun _ => rfl) (dx dX7_init 66 rfl) ?_
  have NO_h31 : NOk (sN h30 a 30 (a + 31 + 1)) := NO_h30.sN (by rw [len_h30]; exact oa6 (by decide))
  have LO_h31 : Lo a h (sN h30 a 30 (a + 31 + 1)) := LO_h30.tr (Lo.sN (Nat.le_refl _))
  have I8_h31 : xI (sN h30 a 30 (a + 31 + 1)) a 8 = 0 := I8_h30
  have I10_h31 : xI (sN h30 a 30 (a + 31 + 1)) a 10 = 0 := I10_h30
  have I13_h31 : xI (sN h30 a 30 (a + 31 + 1)) a 13 = 0 := I13_h30
  have I16_h31 : xI (sN h30 a 30 (a + 31 + 1)) a 16 = 0 := I16_h30
  have N21_h31 : xN (sN h30 a 30 (a + 31 + 1)) a 21 = 0 := (sN_ne (by decide)).trans N21_h30
  have N22_h31 : xN (sN h30 a 30 (a + 31 + 1)) a 22 = 0 := (sN_ne (by decide)).trans N22_h30
  have Z1_h31 : xI (sN h30 a 30 (a + 31 + 1)) (a + 1) = fun _ => 0 := Z1_h30
  have N0_h31 : xN (sN h30 a 30 (a + 31 + 1)) a 0 = a + 1 + 1 := (sN_ne (by decide)).trans N0_h30
  have Z2_h31 : xI (sN h30 a 30 (a + 31 + 1)) (a + 2) = fun _ => 0 := Z2_h30
  have N1_h31 : xN (sN h30 a 30 (a + 31 + 1)) a 1 = a + 2 + 1 := (sN_ne (by decide)).trans N1_h30
  have Z3_h31 : xI (sN h30 a 30 (a + 31 + 1)) (a + 3) = fun _ => 0 := Z3_h30
  have N2_h31 : xN (sN h30 a 30 (a + 31 + 1)) a 2 = a + 3 + 1 := (sN_ne (by decide)).trans N2_h30
  have Z5_h31 : xL (sN h30 a 30 (a + 31 + 1)) (a + 5) = fun _ => 0 := Z5_h30
  have Z6_h31 : xL (sN h30 a 30 (a + 31 + 1)) (a + 6) = fun _ => 0 := Z6_h30
  have Z7_h31 : xL (sN h30 a 30 (a + 31 + 1)) (a + 7) = fun _ => 0 := Z7_h30
  have Z8_h31 : xL (sN h30 a 30 (a + 31 + 1)) (a + 8) = fun _ => 0 := Z8_h30
  have Z9_h31 : xL (sN h30 a 30 (a + 31 + 1)) (a + 9) = fun _ => 0 := Z9_h30
  have Z10_h31 : xL (sN h30 a 30 (a + 31 + 1)) (a + 10) = fun _ => 0 := Z10_h30
  have Z11_h31 : xL (sN h30 a 30 (a + 31 + 1)) (a + 11) = fun _ => 0 := Z11_h30
  have Z12_h31 : xL (sN h30 a 30 (a + 31 + 1)) (a + 12) = fun _ => 0 := Z12_h30
  have N3_h31 : xN (sN h30 a 30 (a + 31 + 1)) a 3 = a + 4 + 1 := (sN_ne (by decide)).trans N3_h30
  have Z13_h31 : xL (sN h30 a 30 (a + 31 + 1)) (a + 13) = fun _ => 0 := Z13_h30
  have N4_h31 : xN (sN h30 a 30 (a + 31 + 1)) a 4 = a + 13 + 1 := (sN_ne (by decide)).trans N4_h30
  have Z14_h31 : xI (sN h30 a 30 (a + 31 + 1)) (a + 14) = fun _ => 0 := Z14_h30
  have N5_h31 : xN (sN h30 a 30 (a + 31 + 1)) a 5 = a + 14 + 1 := (sN_ne (by decide)).trans N5_h30
  have Z15_h31 : xI (sN h30 a 30 (a + 31 + 1)) (a + 15) = fun _ => 0 := Z15_h30
  have N6_h31 : xN (sN h30 a 30 (a + 31 + 1)) a 6 = a + 15 + 1 := (sN_ne (by decide)).trans N6_h30
  have Z16_h31 : xI (sN h30 a 30 (a + 31 + 1)) (a + 16) = fun _ => 0 := Z16_h30
  have N7_h31 : xN (sN h30 a 30 (a + 31 + 1)) a 7 = a + 16 + 1 := (sN_ne (by decide)).trans N7_h30
  have Z17_h31 : xI (sN h30 a 30 (a + 31 + 1)) (a + 17) = fun _ => 0 := Z17_h30
  have N9_h31 : xN (sN h30 a 30 (a + 31 + 1)) a 9 = a + 17 + 1 := (sN_ne (by decide)).trans N9_h30
  have Z18_h31 : xI (sN h30 a 30 (a + 31 + 1)) (a + 18) = fun _ => 0 := Z18_h30
  have N11_h31 : xN (sN h30 a 30 (a + 31 + 1)) a 11 = a + 18 + 1 := (sN_ne (by decide)).trans N11_h30
  have Z19_h31 : xI (sN h30 a 30 (a + 31 + 1)) (a + 19) = fun _ => 0 := Z19_h30
  have N12_h31 : xN (sN h30 a 30 (a + 31 + 1)) a 12 = a + 19 + 1 := (sN_ne (by decide)).trans N12_h30
  have Z20_h31 : xI (sN h30 a 30 (a + 31 + 1)) (a + 20) = fun _ => 0 := Z20_h30
  have N14_h31 : xN (sN h30 a 30 (a + 31 + 1)) a 14 = a + 20 + 1 := (sN_ne (by decide)).trans N14_h30
  have Z21_h31 : xI (sN h30 a 30 (a + 31 + 1)) (a + 21) = fun _ => 0 := Z21_h30
  have N15_h31 : xN (sN h30 a 30 (a + 31 + 1)) a 15 = a + 21 + 1 := (sN_ne (by decide)).trans N15_h30
  have Z23_h31 : xI (sN h30 a 30 (a + 31 + 1)) (a + 23) = fun _ => 0 := Z23_h30
  have Z24_h31 : xI (sN h30 a 30 (a + 31 + 1)) (a + 24) = fun _ => 0 := Z24_h30
  have Z25_h31 : xI (sN h30 a 30 (a + 31 + 1)) (a + 25) = fun _ => 0 := Z25_h30
  have Z26_h31 : xI (sN h30 a 30 (a + 31 + 1)) (a + 26) = fun _ => 0 := Z26_h30
  have Z27_h31 : xI (sN h30 a 30 (a + 31 + 1)) (a + 27) = fun _ => 0 := Z27_h30
  have Z28_h31 : xI (sN h30 a 30 (a + 31 + 1)) (a + 28) = fun _ => 0 := Z28_h30
  have Z29_h31 : xI (sN h30 a 30 (a + 31 + 1)) (a + 29) = fun _ => 0 := Z29_h30
  have Z30_h31 : xI (sN h30 a 30 (a + 31 + 1)) (a + 30) = fun _ => 0 := Z30_h30
  have N17_h31 : xN (sN h30 a 30 (a + 31 + 1)) a 17 = a + 22 + 1 := (sN_ne (by decide)).trans N17_h30
  have I20_h31 : xI (sN h30 a 30 (a + 31 + 1)) a 20 = nI 1 := I20_h30
  have Z31_h31 : xI (sN h30 a 30 (a + 31 + 1)) (a + 31) = fun _ => 0 := Z31_h30
  have K_h31 : xK (sN h30 a 30 (a + 31 + 1)) = xK h ++ [22, 22, 22, 33, 31, 31, 31, 31, 31, 31, 31, 31, 31, 22, 22, 30, 22, 20, 20, 21, 21, 34, 27, 27, 27, 27, 27, 27, 27, 27, 20] := K_h30
  have N30_h31 : xN (sN h30 a 30 (a + 31 + 1)) a 30 = a + 31 + 1 := sN_at
  generalize sN h30 a 30 (a + 31 + 1) = h31 at NO_h31 LO_h31 I8_h31 I10_h31 I13_h31 I16_h31 N21_h31 N22_h31 Z1_h31 N0_h31 Z2_h31 N1_h31 Z3_h31 N2_h31 Z5_h31 Z6_h31 Z7_h31 Z8_h31 Z9_h31 Z10_h31 Z11_h31 Z12_h31 N3_h31 Z13_h31 N4_h31 Z14_h31 N5_h31 Z15_h31 N6_h31 Z16_h31 N7_h31 Z17_h31 N9_h31 Z18_h31 N11_h31 Z19_h31 N12_h31 Z20_h31 N14_h31 Z21_h31 N15_h31 Z23_h31 Z24_h31 Z25_h31 Z26_h31 Z27_h31 Z28_h31 Z29_h31 Z30_h31 N17_h31 I20_h31 Z31_h31 K_h31 N30_h31 ⊢
  have len_h31 : (xK h31).length = a + 32 := by rw [K_h31, List.length_append, hlen]; rfl
  exact F.2.2.1 _ _ _ rfl (dx dX7_init 67 rfl) K_h31 ⟨rfl, NO_h31, LO_h31, N0_h31, N1_h31, N2_h31, N3_h31, N4_h31, N5_h31, N6_h31, N7_h31, N9_h31, N11_h31, N12_h31, N14_h31, N15_h31, N17_h31, N30_h31, ⟨I10_h31, I13_h31, I16_h31, I20_h31, fun i hi => congrFun Z18_h31 i, fun i hi => congrFun Z19_h31 i, fun i hi => congrFun Z20_h31 i, fun i hi => congrFun Z21_h31 i, c8 (P := fun o => ∀ c, c < 4 → xI h31 (a + 23 + o) c = vF v00 (4 + c) o) (fun c _ => congrFun Z23_h31 c) (fun c _ => congrFun Z24_h31 c) (fun c _ => congrFun Z25_h31 c) (fun c _ => congrFun Z26_h31 c) (fun c _ => congrFun Z27_h31 c) (fun c _ => congrFun Z28_h31 c) (fun c _ => congrFun Z29_h31 c) (fun c _ => congrFun Z30_h31 c), by decide, by decide, by decide⟩, (fun s hs => Or.inl ⟨congrFun Z1_h31 s, rfl⟩), I8_h31, N21_h31, N22_h31⟩
set_option maxHeartbeats 4000000 in
theorem c_X4_init {l : Launch} {h : Hp} {a : Nat} (hlen : (xK h).length = a + 1) (hb : a + 5 < 900) (hN : NOk h) (hz1 : xI h a = fun _ => 0) (hz2 : xL h a = fun _ => 0) (hz3 : xN h a = fun _ => 0) : Ms l yX4_init cX4_init 3 none 2 [vr 12 a] h (xK h ++ [24, 25, 22]) (fun r h' => r = none ∧ NOk h' ∧ Lo a h h' ∧ xN h' a 0 = a + 1 + 1 ∧ xN h' a 1 = a + 2 + 1 ∧ xN h' a 2 = a + 3 + 1 ∧ (∀ i, i < 8 → xI h' (a + 3) i = nI (fct i))) := by
  refine Ms.of2 (by decide) (Nat.le_of_ble_eq_true rfl) (fun G C NM E0 X F => ?_)
  have C : Cx G cX4_init 3 RX4 := C
  have hI : CI G := NM
  show Rr G 0 [(0, vr 12 a)] [] h
  have K0 : xK h = xK h ++ [] := (List.append_nil _).symm
  have L0 : Lo a h h := Lo.rf
  have len_h : (xK h).length = a + 1 := hlen
  refine r_aload_n C (dx dX4_init 0 rfl) rfl ?_
  refine r_obj C X (by decide) l_X4_3 q_oi q_oc (dx dX4_init 1 rfl) ?_
  refine r_aload_n C (dx dX4_init 2 rfl) rfl ?_
  refine r_sipush (v := nI 256) C (dx dX4_init 3 rfl) rfl ?_
  refine r_newa (kk := 24) (t := 1) (n := 256) (ty := .long) (S := "[" ++ (.long : FieldType).toString) (a0 := (256, .inr (.inl (fun _ => 0)))) C X rfl rfl (by decide) ⟨[25, 22], by simp⟩ hN (by rw [len_h]; exact oa4 hb (by decide)) rfl q_ac_long (fun _ => rfl) (fun _ _ q => q) (fun _ => rfl) (fun dA f h9 a9 e1 e2 => by rw [ent_arr (q := (1, 256, 0)) rfl rfl]; simp [entA, e1, e2]) (by decide) (by decide) (dx dX4_init 4 rfl) ?_
  rw [len_h]
  have NO_h1 : NOk (nw h 24) := hN.nw
  have LO_h1 : Lo a h (nw h 24) := L0.tr (Lo.nw (by rw [len_h]; exact Nat.le_add_right _ _))
  have Z1_h1 : xL (nw h 24) (a + 1) = fun _ => 0 := by have q9 := nw_L (h := h) (k := 24); rw [len_h] at q9; exact q9
  have K_h1 : xK (nw h 24) = xK h ++ [24] := rfl
  generalize nw h 24 = h1 at NO_h1 LO_h1 Z1_h1 K_h1 ⊢
  have len_h1 : (xK h1).length = a + 2 := by rw [K_h1, List.length_append, hlen]; rfl
  refine r_putNF (k := 12) (j := 0) (t := 0) C hI rfl rfl rfl (by decide) f_X4_9 rfl rfl (fun _ => rfl) (fun _ => rfl) (dx dX4_init 5 rfl) ?_
  have NO_h2 : NOk (sN h1 a 0 (a + 1 + 1)) := NO_h1.sN (by rw [len_h1]; exact oa6 (by decide))
  have LO_h2 : Lo a h (sN h1 a 0 (a + 1 + 1)) := LO_h1.tr (Lo.sN (Nat.le_refl _))
  have Z1_h2 : xL (sN h1 a 0 (a + 1 + 1)) (a + 1) = fun _ => 0 := Z1_h1
  have K_h2 : xK (sN h1 a 0 (a + 1 + 1)) = xK h ++ [24] := K_h1
  have N0_h2 : xN (sN h1 a 0 (a + 1 + 1)) a 0 = a + 1 + 1 := sN_at
  generalize sN h1 a 0 (a + 1 + 1) = h2 at NO_h2 LO_h2 Z1_h2 K_h2 N0_h2 ⊢
  have len_h2 : (xK h2).length = a + 2 := by rw [K_h2, List.length_append, hlen]; rfl
  refine r_aload_n C (dx dX4_init 6 rfl) rfl ?_
  refine r_sipush (v := nI 256) C (dx dX4_init 7 rfl) rfl ?_
  refine r_newa (kk := 25) (t := 0) (n := 256) (ty := .int) (S := "[" ++ (.int : FieldType).toString) (a0 := (256, .inl (fun _ => 0))) C X rfl rfl (by decide) (by rw [K_h2]; exact ⟨[22], by rw [List.append_assoc, List.append_assoc]; rfl⟩) NO_h2 (by rw [len_h2]; exact oa4 hb (by decide)) rfl q_ac_int (fun _ => rfl) (fun _ _ q => q) (fun _ => rfl) (fun dA f h9 a9 e1 e2 => by rw [ent_arr (q := (0, 256, 0)) rfl rfl]; simp [entA, e1, e2]) (by decide) (by decide) (dx dX4_init 8 rfl) ?_
  rw [len_h2]
  have NO_h3 : NOk (nw h2 25) := NO_h2.nw
  have LO_h3 : Lo a h (nw h2 25) := LO_h2.tr (Lo.nw (by rw [len_h2]; exact Nat.le_add_right _ _))
  have Z1_h3 : xL (nw h2 25) (a + 1) = fun _ => 0 := by rw [(nw_ne (h := h2) (k := 25) (b := a + 1) (by rw [len_h2]; exact oa2 (by decide))).2.1]; exact Z1_h2
  have N0_h3 : xN (nw h2 25) a 0 = a + 1 + 1 := by rw [(nw_ne (h := h2) (k := 25) (b := a) (by rw [len_h2]; exact oa3 (by decide))).2.2]; exact N0_h2
  have Z2_h3 : xI (nw h2 25) (a + 2) = fun _ => 0 := by have q9 := nw_I (h := h2) (k := 25); rw [len_h2] at q9; exact q9
  have K_h3 : xK (nw h2 25) = xK h ++ [24, 25] := by show xK h2 ++ _ = _; rw [K_h2, List.append_assoc]; rfl
  generalize nw h2 25 = h3 at NO_h3 LO_h3 Z1_h3 N0_h3 Z2_h3 K_h3 ⊢
  have len_h3 : (xK h3).length = a + 3 := by rw [K_h3, List.length_append, hlen]; rfl
  refine r_putNF (k := 12) (j := 1) (t := 0) C hI rfl rfl rfl (by decide) f_X4_15 rfl rfl (fun _ => rfl) (fun _ => rfl) (dx dX4_init 9 rfl) ?_
  have NO_h4 : NOk (sN h3 a 1 (a + 2 + 1)) := NO_h3.sN (by rw [len_h3]; exact oa6 (by decide))
  have LO_h4 : Lo a h (sN h3 a 1 (a + 2 + 1)) := LO_h3.tr (Lo.sN (Nat.le_refl _))
  have Z1_h4 : xL (sN h3 a 1 (a + 2 + 1)) (a + 1) = fun _ => 0 := Z1_h3
  have N0_h4 : xN (sN h3 a 1 (a + 2 + 1)) a 0 = a + 1 + 1 := (sN_ne (by decide)).trans N0_h3
  have Z2_h4 : xI (sN h3 a 1 (a + 2 + 1)) (a + 2) = fun _ => 0 := Z2_h3
  have K_h4 : xK (sN h3 a 1 (a + 2 + 1)) = xK h ++ [24, 25] := K_h3
  have N1_h4 : xN (sN h3 a 1 (a + 2 + 1)) a 1 = a + 2 + 1 := sN_at
  generalize sN h3 a 1 (a + 2 + 1) = h4 at NO_h4 LO_h4 Z1_h4 N0_h4 Z2_h4 K_h4 N1_h4 ⊢
  have len_h4 : (xK h4).length = a + 3 := by rw [K_h4, List.length_append, hlen]; rfl
  refine r_aload_n C (dx dX4_init 10 rfl) rfl ?_
  refine r_bipush (v := nI 8) C (dx dX4_init 11 rfl) rfl ?_
  refine r_newa (kk := 22) (t := 0) (n := 8) (ty := .int) (S := "[" ++ (.int : FieldType).toString) (a0 := (8, .inl (fun _ => 0))) C X rfl rfl (by decide) (by rw [K_h4]; exact ⟨[], by rw [List.append_assoc, List.append_assoc]; rfl⟩) NO_h4 (by rw [len_h4]; exact oa4 hb (by decide)) rfl q_ac_int (fun _ => rfl) (fun _ _ q => q) (fun _ => rfl) (fun dA f h9 a9 e1 e2 => by rw [ent_arr (q := (0, 8, 0)) rfl rfl]; simp [entA, e1, e2]) (by decide) (by decide) (dx dX4_init 12 rfl) ?_
  rw [len_h4]
  have NO_h5 : NOk (nw h4 22) := NO_h4.nw
  have LO_h5 : Lo a h (nw h4 22) := LO_h4.tr (Lo.nw (by rw [len_h4]; exact Nat.le_add_right _ _))
  have Z1_h5 : xL (nw h4 22) (a + 1) = fun _ => 0 := by rw [(nw_ne (h := h4) (k := 22) (b := a + 1) (by rw [len_h4]; exact oa2 (by decide))).2.1]; exact Z1_h4
  have N0_h5 : xN (nw h4 22) a 0 = a + 1 + 1 := by rw [(nw_ne (h := h4) (k := 22) (b := a) (by rw [len_h4]; exact oa3 (by decide))).2.2]; exact N0_h4
  have Z2_h5 : xI (nw h4 22) (a + 2) = fun _ => 0 := by rw [(nw_ne (h := h4) (k := 22) (b := a + 2) (by rw [len_h4]; exact oa2 (by decide))).1]; exact Z2_h4
  have N1_h5 : xN (nw h4 22) a 1 = a + 2 + 1 := by rw [(nw_ne (h := h4) (k := 22) (b := a) (by rw [len_h4]; exact oa3 (by decide))).2.2]; exact N1_h4
  have Z3_h5 : xI (nw h4 22) (a + 3) = fun _ => 0 := by have q9 := nw_I (h := h4) (k := 22); rw [len_h4] at q9; exact q9
  have K_h5 : xK (nw h4 22) = xK h ++ [24, 25, 22] := by show xK h4 ++ _ = _; rw [K_h4, List.append_assoc]; rfl
  generalize nw h4 22 = h5 at NO_h5 LO_h5 Z1_h5 N0_h5 Z2_h5 N1_h5 Z3_h5 K_h5 ⊢
  have len_h5 : (xK h5).length = a + 4 := by rw [K_h5, List.length_append, hlen]; rfl
  refine r_putNF (k := 12) (j := 2) (t := 0) C hI rfl rfl rfl (by decide) f_X4_19 rfl rfl (fun _ => rfl) (fun _ => rfl) (dx dX4_init 13 rfl) ?_
  have NO_h6 : NOk (sN h5 a 2 (a + 3 + 1)) := NO_h5.sN (by rw [len_h5]; exact oa6 (by decide))
  have LO_h6 : Lo a h (sN h5 a 2 (a + 3 + 1)) := LO_h5.tr (Lo.sN (Nat.le_refl _))
  have Z1_h6 : xL (sN h5 a 2 (a + 3 + 1)) (a + 1) = fun _ => 0 := Z1_h5
  have N0_h6 : xN (sN h5 a 2 (a + 3 + 1)) a 0 = a + 1 + 1 := (sN_ne (by decide)).trans N0_h5
  have Z2_h6 : xI (sN h5 a 2 (a + 3 + 1)) (a + 2) = fun _ => 0 := Z2_h5
  have N1_h6 : xN (sN h5 a 2 (a + 3 + 1)) a 1 = a + 2 + 1 := (sN_ne (by decide)).trans N1_h5
  have Z3_h6 : xI (sN h5 a 2 (a + 3 + 1)) (a + 3) = fun _ => 0 := Z3_h5
  have K_h6 : xK (sN h5 a 2 (a + 3 + 1)) = xK h ++ [24, 25, 22] := K_h5
  have N2_h6 : xN (sN h5 a 2 (a + 3 + 1)) a 2 = a + 3 + 1 := sN_at
  generalize sN h5 a 2 (a + 3 + 1) = h6 at NO_h6 LO_h6 Z1_h6 N0_h6 Z2_h6 N1_h6 Z3_h6 K_h6 N2_h6 ⊢
  have len_h6 : (xK h6).length = a + 4 := by rw [K_h6, List.length_append, hlen]; rfl
  refine r_iconst (v := nI 1) C (dx dX4_init 14 rfl) rfl ?_
  refine r_istore_n (ls' := [(0, vr 12 a), (1, vi (nI 1))]) C (dx dX4_init 15 rfl) (by decide) [1, 0] rfl ?_
  refine r_iconst (v := nI 0) C (dx dX4_init 16 rfl) rfl ?_
  refine r_istore_n (ls' := [(0, vr 12 a), (1, vi (nI 1)), (2, vi (nI 0))]) C (dx dX4_init 17 rfl) (by decide) [1, 2, 0] rfl ?_
  refine loopU (Φ := fun p => ∀ (x1 : Int32) (h9 : Hp), (p = 0 ∧ x1 = nI 1 ∨ ∃ q, p = q + 1 ∧ x1 = nI (fct q)) → (∀ i, i < p → xI h9 (a + 3) i = nI (fct i)) → xK h9 = xK h6 → NOk h9 → Lo a h h9 → (∀ j, j < 3 → xN h9 a j = xN h6 a j) → Rr G 34 [(0, vr 12 a), (1, vi x1), (2, vi (nI p))] [] h9) (N := 8) ?_ ?_ 0 (by omega) _ _ (Or.inl ⟨rfl, rfl⟩) (fun i hi => absurd hi (by omega)) rfl NO_h6 LO_h6 (fun _ _ => rfl)
  ·
    intro x1 h9 hx q9 k9 n9 l9 p9
    refine r_iload_n C (dx dX4_init 18 rfl) rfl ?_
    refine r_bipush (v := nI 8) C (dx dX4_init 19 rfl) rfl ?_
    refine rn_ge (a := 8) (b := 8) (tgt := 65) C (by omega) (by omega) (dx dX4_init 20 rfl) (by decide) (fun c1 => ?_) (fun c1 => absurd c1 (by omega))
    exact F.2.2.1 _ _ _ rfl (dx dX4_init 36 rfl) (k9.trans K_h6) ⟨rfl, n9, l9, (p9 0 (by omega)).trans N0_h6, (p9 1 (by omega)).trans N1_h6, (p9 2 (by omega)).trans N2_h6, q9⟩
  ·
    intro p hp ih x1 h9 hx q9 k9 n9 l9 p9
    refine r_iload_n C (dx dX4_init 18 rfl) rfl ?_
    refine r_bipush (v := nI 8) C (dx dX4_init 19 rfl) rfl ?_
    refine rn_ge (a := p) (b := 8) (tgt := 65) C (by omega) (by omega) (dx dX4_init 20 rfl) (by decide) (fun c1 => absurd c1 (by omega)) (fun c1 => ?_)
    have tail : ∀ y : Int32, y = nI (fct p) → Rr G 51 [(0, vr 12 a), (1, vi x1), (2, vi (nI p))] [vi y] h9 := fun y hy => by
      refine r_istore_n (ls' := [(0, vr 12 a), (1, vi y), (2, vi (nI p))]) C (dx dX4_init 28 rfl) (by decide) [1, 0, 2] rfl ?_
      refine r_aload_n C (dx dX4_init 29 rfl) rfl ?_
      have e2 : xN h9 a 2 = a + 3 + 1 := (p9 2 (by omega)).trans N2_h6
      refine r_getN (k := 12) (j := 2) (T := TX4) (N := 3) C rfl rfl rfl (by decide) f_X4_19 (dx dX4_init 30 rfl) e2 (Or.inr (by rw [k9, K_h6, Nat.add_sub_cancel, List.getElem?_append_right (by omega), show a + 3 - (xK h).length = 2 by omega]; rfl)) ?_
      refine r_some C ?_
      refine r_iload_n C (dx dX4_init 31 rfl) rfl ?_
      refine r_iload_n C (dx dX4_init 32 rfl) rfl ?_
      refine r_iast (j := p) C rfl rfl (by decide) rfl (by omega) (dx dX4_init 33 rfl) ?_
      refine rn_iinc (a := p) (k := 1) (ls' := [(0, vr 12 a), (1, vi y), (2, vi (nI (p + 1)))]) C (dx dX4_init 34 rfl) rfl rfl (by decide) [1, 2, 0] rfl ?_
      refine r_goto (tgt := 34) C (dx dX4_init 35 rfl) (by decide) ?_
      exact ih y _ (Or.inr ⟨p, rfl, hy⟩) (fun i hi => by rw [sI_at]; split; (next e => rw [e]; exact hy); exact q9 i (by omega)) k9 n9 (l9.tr (Lo.sI (by omega))) p9
    refine r_iload_n C (dx dX4_init 21 rfl) rfl ?_
    refine r_if_ne (tgt := 48) C (dx dX4_init 22 rfl) (by decide) (fun c2 => ?_) (fun c2 => ?_)
    ·
      refine r_iload_n C (dx dX4_init 25 rfl) rfl ?_
      refine r_iload_n C (dx dX4_init 26 rfl) rfl ?_
      refine r_imul C (dx dX4_init 27 rfl) ?_
      rcases hx with ⟨rfl, rfl⟩ | ⟨q, rfl, rfl⟩
      · exact absurd rfl c2
      · exact tail _ (by rw [pk_mul, Nat.mul_comm]; rfl)
    ·
      refine r_iconst (v := nI 1) C (dx dX4_init 23 rfl) rfl ?_
      refine r_goto (tgt := 51) C (dx dX4_init 24 rfl) (by decide) ?_
      rcases hx with ⟨rfl, rfl⟩ | ⟨q, rfl, rfl⟩
      · exact tail _ rfl
      · exact absurd c2 (fun z => by have := (nI_eq (by omega) (by omega)).mp (z.trans nI_0.symm); omega)
theorem g00T {s : Nat} : gT g00 s = -1 := by unfold gT g00; rfl
theorem g00Z {s : Nat} : gZ g00 s = 0 := by unfold gZ g00; rfl
theorem g00Y {s : Nat} : gY g00 s = 0 := by unfold gY g00; rfl
theorem g00E {s i : Nat} : gE g00 s i = 0 := by unfold gE g00; rfl
theorem lofr {a : Nat} {h h8 h9 : Hp} (p : Lo a h h8) (l9 : Fr (a + 1) (a + 2) h8 h9) : Lo a h h9 := fun b hb => by
  obtain ⟨e1, e2, e3⟩ := l9 b (by omega)
  obtain ⟨f1, f2, f3⟩ := p b hb
  exact ⟨e1.trans f1, e2.trans f2, e3.trans f3⟩
theorem frN {a j x : Nat} {h8 h9 : Hp} (p : xN h8 a j = x) (l9 : Fr (a + 1) (a + 2) h8 h9) : xN h9 a j = x := (l9.N (by omega) j).trans p
theorem sh00 {h8 h9 : Hp} {a : Nat} (l9 : Fr (a + 1) (a + 2) h8 h9) (q9 : ∀ i, i < 8 → xI h9 (a + 1) i = -1) (z2 : xI h8 (a + 2) = fun _ => 0) (z12 : xI h8 (a + 12) = fun _ => 0) (z : ∀ s, s < 8 → xL h8 (a + 4 + s) = fun _ => 0) : ShAt h9 a g00 := by
  refine ⟨fun s hs => ?_, fun s hs => ?_, fun s hs => ?_, fun s hs i hi => ?_⟩
  · rw [g00T]; exact q9 s hs
  · rw [g00Z, l9.I (by omega), z2]
  · rw [g00Y, l9.I (by omega), z12]
  · rw [g00E, l9.L (by omega), z s hs]
set_option maxHeartbeats 4000000 in
theorem c_X2_init {l : Launch} {h : Hp} {a : Nat} (hlen : (xK h).length = a + 1) (hb : a + 14 < 900) (hN : NOk h) (hz1 : xI h a = fun _ => 0) (hz2 : xL h a = fun _ => 0) (hz3 : xN h a = fun _ => 0) : Ms l yX2_init cX2_init 2 none 2 [vr 10 a] h (xK h ++ [22, 22, 33, 31, 31, 31, 31, 31, 31, 31, 31, 22]) (fun r h' => r = none ∧ NOk h' ∧ Lo a h h' ∧ xN h' a 0 = a + 1 + 1 ∧ xN h' a 1 = a + 2 + 1 ∧ xN h' a 2 = a + 3 + 1 ∧ xN h' a 3 = a + 12 + 1 ∧ ShAt h' a g00) := by
  refine Ms.of2 (by decide) (Nat.le_of_ble_eq_true rfl) (fun G C NM E0 X F => ?_)
  have C : Cx G cX2_init 2 RX2 := C
  have hI : CI G := NM
  show Rr G 0 [(0, vr 10 a)] [] h
  have K0 : xK h = xK h ++ [] := (List.append_nil _).symm
  have L0 : Lo a h h := Lo.rf
  have len_h : (xK h).length = a + 1 := hlen
  refine r_aload_n C (dx dX2_init 0 rfl) rfl ?_
  refine r_obj C X (by decide) l_X2_3 q_oi q_oc (dx dX2_init 1 rfl) ?_
  refine r_aload_n C (dx dX2_init 2 rfl) rfl ?_
  refine r_bipush (v := nI 8) C (dx dX2_init 3 rfl) rfl ?_
  refine r_newa (kk := 22) (t := 0) (n := 8) (ty := .int) (S := "[" ++ (.int : FieldType).toString) (a0 := (8, .inl (fun _ => 0))) C X rfl rfl (by decide) ⟨[22, 33, 31, 31, 31, 31, 31, 31, 31, 31, 22], by simp⟩ hN (by rw [len_h]; exact oa4 hb (by decide)) rfl q_ac_int (fun _ => rfl) (fun _ _ q => q) (fun _ => rfl) (fun dA f h9 a9 e1 e2 => by rw [ent_arr (q := (0, 8, 0)) rfl rfl]; simp [entA, e1, e2]) (by decide) (by decide) (dx dX2_init 4 rfl) ?_
  rw [len_h]
  have NO_h1 : NOk (nw h 22) := hN.nw
  have LO_h1 : Lo a h (nw h 22) := L0.tr (Lo.nw (by rw [len_h]; exact Nat.le_add_right _ _))
  have Z1_h1 : xI (nw h 22) (a + 1) = fun _ => 0 := by have q9 := nw_I (h := h) (k := 22); rw [len_h] at q9; exact q9
  have K_h1 : xK (nw h 22) = xK h ++ [22] := rfl
  generalize nw h 22 = h1 at NO_h1 LO_h1 Z1_h1 K_h1 ⊢
  have len_h1 : (xK h1).length = a + 2 := by rw [K_h1, List.length_append, hlen]; rfl
  refine r_putNF (k := 10) (j := 0) (t := 0) C hI rfl rfl rfl (by decide) f_X2_9 rfl rfl (fun _ => rfl) (fun _ => rfl) (dx dX2_init 5 rfl) ?_
  have NO_h2 : NOk (sN h1 a 0 (a + 1 + 1)) := NO_h1.sN (by rw [len_h1]; exact oa6 (by decide))
  have LO_h2 : Lo a h (sN h1 a 0 (a + 1 + 1)) := LO_h1.tr (Lo.sN (Nat.le_refl _))
  have Z1_h2 : xI (sN h1 a 0 (a + 1 + 1)) (a + 1) = fun _ => 0 := Z1_h1
  have K_h2 : xK (sN h1 a 0 (a + 1 + 1)) = xK h ++ [22] := K_h1
  have N0_h2 : xN (sN h1 a 0 (a + 1 + 1)) a 0 = a + 1 + 1 := sN_at
  generalize sN h1 a 0 (a + 1 + 1) = h2 at NO_h2 LO_h2 Z1_h2 K_h2 N0_h2 ⊢
  have len_h2 : (xK h2).length = a + 2 := by rw [K_h2, List.length_append, hlen]; rfl
  refine r_aload_n C (dx dX2_init 6 rfl) rfl ?_
  refine r_bipush (v := nI 8) C (dx dX2_init 7 rfl) rfl ?_
  refine r_newa (kk := 22) (t := 0) (n := 8) (ty := .int) (S := "[" ++ (.int : FieldType).toString) (a0 := (8, .inl (fun _ => 0))) C X rfl rfl (by decide) (by rw [K_h2]; exact ⟨[33, 31, 31, 31, 31, 31, 31, 31, 31, 22], by rw [List.append_assoc, List.append_assoc]; rfl⟩) NO_h2 (by rw [len_h2]; exact oa4 hb (by decide)) rfl q_ac_int (fun _ => rfl) (fun _ _ q => q) (fun _ => rfl) (fun dA f h9 a9 e1 e2 => by rw [ent_arr (q := (0, 8, 0)) rfl rfl]; simp [entA, e1, e2]) (by decide) (by decide) (dx dX2_init 8 rfl) ?_
  rw [len_h2]
  have NO_h3 : NOk (nw h2 22) := NO_h2.nw
  have LO_h3 : Lo a h (nw h2 22) := LO_h2.tr (Lo.nw (by rw [len_h2]; exact Nat.le_add_right _ _))
  have Z1_h3 : xI (nw h2 22) (a + 1) = fun _ => 0 := by rw [(nw_ne (h := h2) (k := 22) (b := a + 1) (by rw [len_h2]; exact oa2 (by decide))).1]; exact Z1_h2
  have N0_h3 : xN (nw h2 22) a 0 = a + 1 + 1 := by rw [(nw_ne (h := h2) (k := 22) (b := a) (by rw [len_h2]; exact oa3 (by decide))).2.2]; exact N0_h2
  have Z2_h3 : xI (nw h2 22) (a + 2) = fun _ => 0 := by have q9 := nw_I (h := h2) (k := 22); rw [len_h2] at q9; exact q9
  have K_h3 : xK (nw h2 22) = xK h ++ [22, 22] := by show xK h2 ++ _ = _; rw [K_h2, List.append_assoc]; rfl
  generalize nw h2 22 = h3 at NO_h3 LO_h3 Z1_h3 N0_h3 Z2_h3 K_h3 ⊢
  have len_h3 : (xK h3).length = a + 3 := by rw [K_h3, List.length_append, hlen]; rfl
  refine r_putNF (k := 10) (j := 1) (t := 0) C hI rfl rfl rfl (by decide) f_X2_15 rfl rfl (fun _ => rfl) (fun _ => rfl) (dx dX2_init 9 rfl) ?_
  have NO_h4 : NOk (sN h3 a 1 (a + 2 + 1)) := NO_h3.sN (by rw [len_h3]; exact oa6 (by decide))
  have LO_h4 : Lo a h (sN h3 a 1 (a + 2 + 1)) := LO_h3.tr (Lo.sN (Nat.le_refl _))
  have Z1_h4 : xI (sN h3 a 1 (a + 2 + 1)) (a + 1) = fun _ => 0 := Z1_h3
  have N0_h4 : xN (sN h3 a 1 (a + 2 + 1)) a 0 = a + 1 + 1 := (sN_ne (by decide)).trans N0_h3
  have Z2_h4 : xI (sN h3 a 1 (a + 2 + 1)) (a + 2) = fun _ => 0 := Z2_h3
  have K_h4 : xK (sN h3 a 1 (a + 2 + 1)) = xK h ++ [22, 22] := K_h3
  have N1_h4 : xN (sN h3 a 1 (a + 2 + 1)) a 1 = a + 2 + 1 := sN_at
  generalize sN h3 a 1 (a + 2 + 1) = h4 at NO_h4 LO_h4 Z1_h4 N0_h4 Z2_h4 K_h4 N1_h4 ⊢
  have len_h4 : (xK h4).length = a + 3 := by rw [K_h4, List.length_append, hlen]; rfl
  refine r_aload_n C (dx dX2_init 10 rfl) rfl ?_
  refine r_bipush (v := nI 8) C (dx dX2_init 11 rfl) rfl ?_
  refine r_bipush (v := nI 40) C (dx dX2_init 12 rfl) rfl ?_
  refine r_mna (S2 := "") (ko := 33) (ki := 31) (n := 8) (m9 := 40) (to := 5) (ti := 1) (ty := .long) (z := (40, .inr (.inl (fun _ => 0)))) C X rfl rfl rfl rfl (by decide) (fun dA f h9 a9 => by rw [ent_arr (q := (5, 8, 31)) rfl rfl]; rfl) (by rw [K_h4]; exact ⟨[22], by rw [List.append_assoc, List.append_assoc]; rfl⟩) NO_h4 (by rw [len_h4]; exact oa5 (a := a) (c := 3) (n := 8) hb (by decide)) cl_RX2_18 q_ao_long q_ac2_long rfl (fun _ => rfl) (fun _ => rfl) (fun _ _ q => q) (fun _ _ q => q) (by decide) (by decide) (by decide) rfl rfl (fun c => by first | rfl | (show _ = arrV _ _ _; rw [← arrV_new]; rfl)) (fun dA f h9 a9 e1 e2 => by rw [ent_arr (q := (1, 40, 0)) rfl rfl]; simp [entA, e1, e2]) (by decide) (by decide) (dx dX2_init 13 rfl) ?_
  rw [len_h4]
  have NO_h5 : NOk (nwR h4 33 31 8) := NO_h4.nwR
  have LO_h5 : Lo a h (nwR h4 33 31 8) := LO_h4.tr (Lo.nwR (by rw [len_h4]; exact Nat.le_add_right _ _))
  have Z1_h5 : xI (nwR h4 33 31 8) (a + 1) = fun _ => 0 := by rw [(nwR_ne (h := h4) (k := 33) (k2 := 31) (n := 8) (a := a + 1) (by rw [len_h4]; exact Nat.add_lt_add_left (by decide) a)).1]; exact Z1_h4
  have N0_h5 : xN (nwR h4 33 31 8) a 0 = a + 1 + 1 := by rw [(nwR_ne (h := h4) (k := 33) (k2 := 31) (n := 8) (a := a) (by rw [len_h4]; exact oa8 (by decide))).2.2]; exact N0_h4
  have Z2_h5 : xI (nwR h4 33 31 8) (a + 2) = fun _ => 0 := by rw [(nwR_ne (h := h4) (k := 33) (k2 := 31) (n := 8) (a := a + 2) (by rw [len_h4]; exact Nat.add_lt_add_left (by decide) a)).1]; exact Z2_h4
  have N1_h5 : xN (nwR h4 33 31 8) a 1 = a + 2 + 1 := by rw [(nwR_ne (h := h4) (k := 33) (k2 := 31) (n := 8) (a := a) (by rw [len_h4]; exact oa8 (by decide))).2.2]; exact N1_h4
  have Z4_h5 : xL (nwR h4 33 31 8) (a + 4) = fun _ => 0 := (nwR_at (by rw [len_h4]; exact Nat.add_le_add_left (by decide) a)).2.1
  have Z5_h5 : xL (nwR h4 33 31 8) (a + 5) = fun _ => 0 := (nwR_at (by rw [len_h4]; exact Nat.add_le_add_left (by decide) a)).2.1
  have Z6_h5 : xL (nwR h4 33 31 8) (a + 6) = fun _ => 0 := (nwR_at (by rw [len_h4]; exact Nat.add_le_add_left (by decide) a)).2.1
  have Z7_h5 : xL (nwR h4 33 31 8) (a + 7) = fun _ => 0 := (nwR_at (by rw [len_h4]; exact Nat.add_le_add_left (by decide) a)).2.1
  have Z8_h5 : xL (nwR h4 33 31 8) (a + 8) = fun _ => 0 := (nwR_at (by rw [len_h4]; exact Nat.add_le_add_left (by decide) a)).2.1
  have Z9_h5 : xL (nwR h4 33 31 8) (a + 9) = fun _ => 0 := (nwR_at (by rw [len_h4]; exact Nat.add_le_add_left (by decide) a)).2.1
  have Z10_h5 : xL (nwR h4 33 31 8) (a + 10) = fun _ => 0 := (nwR_at (by rw [len_h4]; exact Nat.add_le_add_left (by decide) a)).2.1
  have Z11_h5 : xL (nwR h4 33 31 8) (a + 11) = fun _ => 0 := (nwR_at (by rw [len_h4]; exact Nat.add_le_add_left (by decide) a)).2.1
  have K_h5 : xK (nwR h4 33 31 8) = xK h ++ [22, 22, 33, 31, 31, 31, 31, 31, 31, 31, 31] := by show xK h4 ++ _ = _; rw [K_h4, List.append_assoc]; rfl
  generalize nwR h4 33 31 8 = h5 at NO_h5 LO_h5 Z1_h5 N0_h5 Z2_h5 N1_h5 Z4_h5 Z5_h5 Z6_h5 Z7_h5 Z8_h5 Z9_h5 Z10_h5 Z11_h5 K_h5 ⊢
  have len_h5 : (xK h5).length = a + 12 := by rw [K_h5, List.length_append, hlen]; rfl
  refine r_putNF (k := 10) (j := 2) (t := 0) C hI rfl rfl rfl (by decide) f_X2_20 rfl rfl (fun _ => rfl) (fun _ => rfl) (dx dX2_init 14 rfl) ?_
  have NO_h6 : NOk (sN h5 a 2 (a + 3 + 1)) := NO_h5.sN (by rw [len_h5]; exact oa6 (by decide))
  have LO_h6 : Lo a h (sN h5 a 2 (a + 3 + 1)) := LO_h5.tr (Lo.sN (Nat.le_refl _))
  have Z1_h6 : xI (sN h5 a 2 (a + 3 + 1)) (a + 1) = fun _ => 0 := Z1_h5
  have N0_h6 : xN (sN h5 a 2 (a + 3 + 1)) a 0 = a + 1 + 1 := (sN_ne (by decide)).trans N0_h5
  have Z2_h6 : xI (sN h5 a 2 (a + 3 + 1)) (a + 2) = fun _ => 0 := Z2_h5
  have N1_h6 : xN (sN h5 a 2 (a + 3 + 1)) a 1 = a + 2 + 1 := (sN_ne (by decide)).trans N1_h5
  have Z4_h6 : xL (sN h5 a 2 (a + 3 + 1)) (a + 4) = fun _ => 0 := Z4_h5
  have Z5_h6 : xL (sN h5 a 2 (a + 3 + 1)) (a + 5) = fun _ => 0 := Z5_h5
  have Z6_h6 : xL (sN h5 a 2 (a + 3 + 1)) (a + 6) = fun _ => 0 := Z6_h5
  have Z7_h6 : xL (sN h5 a 2 (a + 3 + 1)) (a + 7) = fun _ => 0 := Z7_h5
  have Z8_h6 : xL (sN h5 a 2 (a + 3 + 1)) (a + 8) = fun _ => 0 := Z8_h5
  have Z9_h6 : xL (sN h5 a 2 (a + 3 + 1)) (a + 9) = fun _ => 0 := Z9_h5
  have Z10_h6 : xL (sN h5 a 2 (a + 3 + 1)) (a + 10) = fun _ => 0 := Z10_h5
  have Z11_h6 : xL (sN h5 a 2 (a + 3 + 1)) (a + 11) = fun _ => 0 := Z11_h5
  have K_h6 : xK (sN h5 a 2 (a + 3 + 1)) = xK h ++ [22, 22, 33, 31, 31, 31, 31, 31, 31, 31, 31] := K_h5
  have N2_h6 : xN (sN h5 a 2 (a + 3 + 1)) a 2 = a + 3 + 1 := sN_at
  generalize sN h5 a 2 (a + 3 + 1) = h6 at NO_h6 LO_h6 Z1_h6 N0_h6 Z2_h6 N1_h6 Z4_h6 Z5_h6 Z6_h6 Z7_h6 Z8_h6 Z9_h6 Z10_h6 Z11_h6 K_h6 N2_h6 ⊢
  have len_h6 : (xK h6).length = a + 12 := by rw [K_h6, List.length_append, hlen]; rfl
  refine r_aload_n C (dx dX2_init 15 rfl) rfl ?_
  refine r_bipush (v := nI 8) C (dx dX2_init 16 rfl) rfl ?_
  refine r_newa (kk := 22) (t := 0) (n := 8) (ty := .int) (S := "[" ++ (.int : FieldType).toString) (a0 := (8, .inl (fun _ => 0))) C X rfl rfl (by decide) (by rw [K_h6]; exact ⟨[], by rw [List.append_assoc, List.append_assoc]; rfl⟩) NO_h6 (by rw [len_h6]; exact oa4 hb (by decide)) rfl q_ac_int (fun _ => rfl) (fun _ _ q => q) (fun _ => rfl) (fun dA f h9 a9 e1 e2 => by rw [ent_arr (q := (0, 8, 0)) rfl rfl]; simp [entA, e1, e2]) (by decide) (by decide) (dx dX2_init 17 rfl) ?_
  rw [len_h6]
  have NO_h7 : NOk (nw h6 22) := NO_h6.nw
  have LO_h7 : Lo a h (nw h6 22) := LO_h6.tr (Lo.nw (by rw [len_h6]; exact Nat.le_add_right _ _))
  have Z1_h7 : xI (nw h6 22) (a + 1) = fun _ => 0 := by rw [(nw_ne (h := h6) (k := 22) (b := a + 1) (by rw [len_h6]; exact oa2 (by decide))).1]; exact Z1_h6
  have N0_h7 : xN (nw h6 22) a 0 = a + 1 + 1 := by rw [(nw_ne (h := h6) (k := 22) (b := a) (by rw [len_h6]; exact oa3 (by decide))).2.2]; exact N0_h6
  have Z2_h7 : xI (nw h6 22) (a + 2) = fun _ => 0 := by rw [(nw_ne (h := h6) (k := 22) (b := a + 2) (by rw [len_h6]; exact oa2 (by decide))).1]; exact Z2_h6
  have N1_h7 : xN (nw h6 22) a 1 = a + 2 + 1 := by rw [(nw_ne (h := h6) (k := 22) (b := a) (by rw [len_h6]; exact oa3 (by decide))).2.2]; exact N1_h6
  have Z4_h7 : xL (nw h6 22) (a + 4) = fun _ => 0 := by rw [(nw_ne (h := h6) (k := 22) (b := a + 4) (by rw [len_h6]; exact oa2 (by decide))).2.1]; exact Z4_h6
  have Z5_h7 : xL (nw h6 22) (a + 5) = fun _ => 0 := by rw [(nw_ne (h := h6) (k := 22) (b := a + 5) (by rw [len_h6]; exact oa2 (by decide))).2.1]; exact Z5_h6
  have Z6_h7 : xL (nw h6 22) (a + 6) = fun _ => 0 := by rw [(nw_ne (h := h6) (k := 22) (b := a + 6) (by rw [len_h6]; exact oa2 (by decide))).2.1]; exact Z6_h6
  have Z7_h7 : xL (nw h6 22) (a + 7) = fun _ => 0 := by rw [(nw_ne (h := h6) (k := 22) (b := a + 7) (by rw [len_h6]; exact oa2 (by decide))).2.1]; exact Z7_h6
  have Z8_h7 : xL (nw h6 22) (a + 8) = fun _ => 0 := by rw [(nw_ne (h := h6) (k := 22) (b := a + 8) (by rw [len_h6]; exact oa2 (by decide))).2.1]; exact Z8_h6
  have Z9_h7 : xL (nw h6 22) (a + 9) = fun _ => 0 := by rw [(nw_ne (h := h6) (k := 22) (b := a + 9) (by rw [len_h6]; exact oa2 (by decide))).2.1]; exact Z9_h6
  have Z10_h7 : xL (nw h6 22) (a + 10) = fun _ => 0 := by rw [(nw_ne (h := h6) (k := 22) (b := a + 10) (by rw [len_h6]; exact oa2 (by decide))).2.1]; exact Z10_h6
  have Z11_h7 : xL (nw h6 22) (a + 11) = fun _ => 0 := by rw [(nw_ne (h := h6) (k := 22) (b := a + 11) (by rw [len_h6]; exact oa2 (by decide))).2.1]; exact Z11_h6
  have N2_h7 : xN (nw h6 22) a 2 = a + 3 + 1 := by rw [(nw_ne (h := h6) (k := 22) (b := a) (by rw [len_h6]; exact oa3 (by decide))).2.2]; exact N2_h6
  have Z12_h7 : xI (nw h6 22) (a + 12) = fun _ => 0 := by have q9 := nw_I (h := h6) (k := 22); rw [len_h6] at q9; exact q9
  have K_h7 : xK (nw h6 22) = xK h ++ [22, 22, 33, 31, 31, 31, 31, 31, 31, 31, 31, 22] := by show xK h6 ++ _ = _; rw [K_h6, List.append_assoc]; rfl
  generalize nw h6 22 = h7 at NO_h7 LO_h7 Z1_h7 N0_h7 Z2_h7 N1_h7 Z4_h7 Z5_h7 Z6_h7 Z7_h7 Z8_h7 Z9_h7 Z10_h7 Z11_h7 N2_h7 Z12_h7 K_h7 ⊢
  have len_h7 : (xK h7).length = a + 13 := by rw [K_h7, List.length_append, hlen]; rfl
  refine r_putNF (k := 10) (j := 3) (t := 0) C hI rfl rfl rfl (by decide) f_X2_23 rfl rfl (fun _ => rfl) (fun _ => rfl) (dx dX2_init 18 rfl) ?_
  have NO_h8 : NOk (sN h7 a 3 (a + 12 + 1)) := NO_h7.sN (by rw [len_h7]; exact oa6 (by decide))
  have LO_h8 : Lo a h (sN h7 a 3 (a + 12 + 1)) := LO_h7.tr (Lo.sN (Nat.le_refl _))
  have Z1_h8 : xI (sN h7 a 3 (a + 12 + 1)) (a + 1) = fun _ => 0 := Z1_h7
  have N0_h8 : xN (sN h7 a 3 (a + 12 + 1)) a 0 = a + 1 + 1 := (sN_ne (by decide)).trans N0_h7
  have Z2_h8 : xI (sN h7 a 3 (a + 12 + 1)) (a + 2) = fun _ => 0 := Z2_h7
  have N1_h8 : xN (sN h7 a 3 (a + 12 + 1)) a 1 = a + 2 + 1 := (sN_ne (by decide)).trans N1_h7
  have Z4_h8 : xL (sN h7 a 3 (a + 12 + 1)) (a + 4) = fun _ => 0 := Z4_h7
  have Z5_h8 : xL (sN h7 a 3 (a + 12 + 1)) (a + 5) = fun _ => 0 := Z5_h7
  have Z6_h8 : xL (sN h7 a 3 (a + 12 + 1)) (a + 6) = fun _ => 0 := Z6_h7
  have Z7_h8 : xL (sN h7 a 3 (a + 12 + 1)) (a + 7) = fun _ => 0 := Z7_h7
  have Z8_h8 : xL (sN h7 a 3 (a + 12 + 1)) (a + 8) = fun _ => 0 := Z8_h7
  have Z9_h8 : xL (sN h7 a 3 (a + 12 + 1)) (a + 9) = fun _ => 0 := Z9_h7
  have Z10_h8 : xL (sN h7 a 3 (a + 12 + 1)) (a + 10) = fun _ => 0 := Z10_h7
  have Z11_h8 : xL (sN h7 a 3 (a + 12 + 1)) (a + 11) = fun _ => 0 := Z11_h7
  have N2_h8 : xN (sN h7 a 3 (a + 12 + 1)) a 2 = a + 3 + 1 := (sN_ne (by decide)).trans N2_h7
  have Z12_h8 : xI (sN h7 a 3 (a + 12 + 1)) (a + 12) = fun _ => 0 := Z12_h7
  have K_h8 : xK (sN h7 a 3 (a + 12 + 1)) = xK h ++ [22, 22, 33, 31, 31, 31, 31, 31, 31, 31, 31, 22] := K_h7
  have N3_h8 : xN (sN h7 a 3 (a + 12 + 1)) a 3 = a + 12 + 1 := sN_at
  generalize sN h7 a 3 (a + 12 + 1) = h8 at NO_h8 LO_h8 Z1_h8 N0_h8 Z2_h8 N1_h8 Z4_h8 Z5_h8 Z6_h8 Z7_h8 Z8_h8 Z9_h8 Z10_h8 Z11_h8 N2_h8 Z12_h8 K_h8 N3_h8 ⊢
  have len_h8 : (xK h8).length = a + 13 := by rw [K_h8, List.length_append, hlen]; rfl
  refine r_iconst (v := nI 0) C (dx dX2_init 19 rfl) rfl ?_
  refine r_istore_n (ls' := [(0, vr 10 a), (1, vi (nI 0))]) C (dx dX2_init 20 rfl) (by decide) [1, 0] rfl ?_
  refine loopU (Φ := fun p => ∀ (h9 : Hp), (∀ i, i < p → xI h9 (a + 1) i = -1) → xK h9 = xK h8 → NOk h9 → Fr (a + 1) (a + 2) h8 h9 → Rr G 42 [(0, vr 10 a), (1, vi (nI p))] [] h9) (N := 8) ?_ ?_ 0 (by omega) _ (fun i hi => absurd hi (by omega)) rfl NO_h8 Fr.rf
  ·
    intro h9 q9 k9 n9 l9
    refine r_iload_n C (dx dX2_init 21 rfl) rfl ?_
    refine r_bipush (v := nI 8) C (dx dX2_init 22 rfl) rfl ?_
    refine rn_ge (a := 8) (b := 8) (tgt := 61) C (by omega) (by omega) (dx dX2_init 23 rfl) (by decide) (fun c1 => ?_) (fun c1 => absurd c1 (by omega))
    have lo9 : Lo a h h9 := lofr LO_h8 l9
    have pn0 : xN h9 a 0 = a + 1 + 1 := (frN N0_h8 l9)
    have pn1 : xN h9 a 1 = a + 2 + 1 := (frN N1_h8 l9)
    have pn2 : xN h9 a 2 = a + 3 + 1 := (frN N2_h8 l9)
    have pn3 : xN h9 a 3 = a + 12 + 1 := (frN N3_h8 l9)
    have zz : ∀ s, s < 8 → xL h8 (a + 4 + s) = fun _ => 0 := c8 (P := fun s => xL h8 (a + 4 + s) = fun _ => 0) Z4_h8 Z5_h8 Z6_h8 Z7_h8 Z8_h8 Z9_h8 Z10_h8 Z11_h8
    have sh9 : ShAt h9 a g00 := sh00 l9 q9 Z2_h8 Z12_h8 zz
    have k10 := k9.trans K_h8
    exact F.2.2.1 _ _ _ rfl (dx dX2_init 31 rfl) k10 ⟨rfl, n9, lo9, pn0, pn1, pn2, pn3, sh9⟩
  ·
    intro p hp ih h9 q9 k9 n9 l9
    refine r_iload_n C (dx dX2_init 21 rfl) rfl ?_
    refine r_bipush (v := nI 8) C (dx dX2_init 22 rfl) rfl ?_
    refine rn_ge (a := p) (b := 8) (tgt := 61) C (by omega) (by omega) (dx dX2_init 23 rfl) (by decide) (fun c1 => absurd c1 (by omega)) (fun c1 => ?_)
    refine r_aload_n C (dx dX2_init 24 rfl) rfl ?_
    have e0 : xN h9 a 0 = a + 1 + 1 := frN N0_h8 l9
    refine r_getN (k := 10) (j := 0) (T := TX2) (N := 4) C rfl rfl rfl (by decide) f_X2_9 (dx dX2_init 25 rfl) e0 (Or.inr (by rw [k9, K_h8, Nat.add_sub_cancel, List.getElem?_append_right (by omega), show a + 1 - (xK h).length = 0 by omega]; rfl)) ?_
    refine r_some C ?_
    refine r_iload_n C (dx dX2_init 26 rfl) rfl ?_
    refine r_iconst (v := -1) C (dx dX2_init 27 rfl) rfl ?_
    refine r_iast (j := p) C rfl rfl (by decide) rfl (by omega) (dx dX2_init 28 rfl) ?_
    refine rn_iinc (a := p) (k := 1) (ls' := [(0, vr 10 a), (1, vi (nI (p + 1)))]) C (dx dX2_init 29 rfl) rfl rfl (by decide) [1, 0] rfl ?_
    refine r_goto (tgt := 42) C (dx dX2_init 30 rfl) (by decide) ?_
    exact ih _ (fun i hi => by rw [sI_at]; split; rfl; exact q9 i (by omega)) k9 n9 (l9.tr (Fr.sI (by omega) (by omega)))
end
