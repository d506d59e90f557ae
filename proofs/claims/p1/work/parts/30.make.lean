/-! PART 30: making cells -/
/-! ===== BEGIN new T[n][m]: the outer array a place, the inner ones among the pooled ===== -/
/-- f, but v at every address of l -/
def vr_up {α : Type} (f : Nat → α) (l : List Nat) (v : α) : Nat → α := fun a => if a ∈ l then v else f a
theorem vr_up_in {α : Type} {f : Nat → α} {l : List Nat} {v : α} {a : Nat} (h : a ∈ l) : vr_up f l v a = v := if_pos h
theorem vr_up_ne {α : Type} {f : Nat → α} {l : List Nat} {v : α} {a : Nat} (h : a ∉ l) : vr_up f l v a = f a := if_neg h
theorem vr_rows {L l : List Nat} {f : Nat → va_E} {e : va_E} (h : ∀ a, a ∈ l → a ∉ L) : va_pl L f ++ l.map (fun a => (a, e)) = va_pl (L ++ l) (vr_up f l e) := by
  unfold va_pl
  rw [List.map_append]
  congr 1
  · apply List.map_congr_left
    intro a ha
    rw [vr_up_ne (fun q => h a q ha)]
  · apply List.map_congr_left
    intro a ha
    rw [vr_up_in ha]
theorem vr_lay {X rows : va_W} {x : Nat × va_E} {pl : va_W} {D : va_G} {cl : List vw_C} {H : Heap} (hP : va_P D cl (((X ++ pl) ++ [x]) ++ rows) H) : va_P D cl ((X ++ [x]) ++ (pl ++ rows)) H := by
  rw [List.append_assoc (X ++ pl)] at hP
  have h := va_P.swap hP
  rw [← List.append_assoc X] at h
  have h2 := va_P.swap h
  rw [List.append_assoc (X ++ [x])] at h2
  exact h2
theorem vr_layD {X rows : va_W} {x : Nat × va_E} {pl : va_W} {A : Nat → Prop} (hD : va_D A (((X ++ pl) ++ [x]) ++ rows)) : va_D A ((X ++ [x]) ++ (pl ++ rows)) := by
  rw [List.append_assoc (X ++ pl)] at hD
  have h := va_D.swap hD
  rw [← List.append_assoc X] at h
  have h2 := va_D.swap h
  rw [List.append_assoc (X ++ [x])] at h2
  exact h2
theorem vr_outer (c : ClassId) (N h0 : Nat) : ∀ i : Nat, Jvm.Free.Multi.outerC c N h0 i = arrV c N (fun j => va_rf (if j < i then some (h0 + 1 + j) else none))
  | 0 => by
    show ({ cls := c, slots := Array.replicate N .null, vm := .none } : Cell) = _
    rw [arrV_new]
    refine congrArg (arrV c N) (funext fun j => ?_)
    simp [va_rf]
  | i + 1 => by
    show (Jvm.Free.Multi.outerC c N h0 i).setSlot i (.ref (h0 + 1 + i)) = _
    rw [vr_outer c N h0 i, arrV_store]
    refine congrArg (arrV c N) (funext fun j => ?_)
    by_cases e : j = i
    · subst e
      simp [updV, va_rf]
    · by_cases h : j < i
      · simp [updV, e, h, Nat.lt_succ_of_lt h]
      · simp [updV, e, h, show ¬ j < i + 1 by omega]
section VGM
variable {p : Program} {l : Launch} {e : Env} {R : Room} {s : State} {m : MethodId} {args : Array Value} {below : List Frame} {meth : Method} {c : Code} {H : Heap} {locs : List Loc} {cells slots : Nat} {Q : State → Prop}
variable {cc : ByteArray} {pc : Nat} {ls : Array Slot} {rest : List Value} {D : va_G} {cl : List vw_C} {A : Nat → Prop} {a : Nat} {tys : List (ClassId × FieldType)} {ws : va_W} {H0 : Heap}
theorem va_mna {X : va_W} {L : List Nat} {f : Nat → va_E} {cc : ByteArray} (hexec : p.tables.exec = Jvm.exec) (hb : c.code = cc) {own : String} {index : Nat} {ty : FieldType} {cy : ClassId} (hown : s.vm.findClass own = some m.cls) (hclink : (Cond.classLink own index ("[" ++ (FieldType.array ty).toString)).before args s = true) (hover : (Cond.arrayOver (.array ty)).before args s = true) (harr : (Cond.arrayClass ty).before args s = true) (hcy : s.vm.findClass (FieldType.array ty).toString = some cy)
    (hK : va_K D cl tys s) (hP : va_P D cl (X ++ va_pl L f) H) (hD : va_D A (X ++ va_pl L f)) (hS : va_S A H0 H locs) (hA : ∀ q, H0.size ≤ q → A q) {n k : Int32} {N' K' : Nat} {z : vp_A} (hn : ¬ n < 0) (hk : ¬ k < 0) (hN : n.toNatClampNeg = N') (hM : k.toNatClampNeg = K')
    (hb1 : N' * 4 ≤ 536870912) (hb2 : K' * componentBytes ty ≤ 536870912) (hb3 : K' ≤ 536870912) (hdf : fits ty (defaultValue ty) = true) (hdd : (defaultValue ty).isDefault = true) (hcells : cells + (1 + N') ≤ R.cells) (hslots : slots + (N' + N' * K') ≤ R.slots) (hz : ∀ c : ClassId, Jvm.Free.Multi.innerC c K' (defaultValue ty) = vp_cell c z) (hdg : decode cc pc = .ok (.multianewarray index 2, 4))
    (kk : ∀ (q : Nat) (r : Nat → Nat) (cA : ClassId) (H1 : Heap), (∀ i j : Nat, i < N' → j < N' → r i = r j → i = j) → (∀ i : Nat, i < N' → r i ∉ L) → va_K D cl (tys ++ [(cA, .array ty)]) s →
      va_P D cl ((X ++ [(q, .inl (cA, N', .inr (.inr (.inr (.inr (fun i => if i < N' then some (r i) else none))))))]) ++ va_pl (L ++ (List.range N').map r) (vr_up f ((List.range N').map r) (.inl (cy, z)))) H1 → va_D A ((X ++ [(q, .inl (cA, N', .inr (.inr (.inr (.inr (fun i => if i < N' then some (r i) else none))))))]) ++ va_pl (L ++ (List.range N').map r) (vr_up f ((List.range N').map r) (.inl (cy, z)))) → va_S A H0 H1 locs →
      W p l e R s m args below meth c H1 locs (cells + 1 + N') (slots + N' + N' * K') Q (F0 m (pc + 4) ls (.ref q :: rest))) : W p l e R s m args below meth c H locs cells slots Q (F0 m pc ls (.int k :: .int n :: rest)) := by
  subst hN
  subst hM
  intro T hT Xs
  obtain ⟨vm₁, cA, comp, -, fA, fC, hO, -, X', step⟩ := Xs.multianewarray2F hexec hown hclink hover harr (g := F0 m pc ls (.int k :: .int n :: rest)) rfl (by rw [hb]; exact hdg) rfl hn hk hb1 hb2 hb3 hdf hdd hcells hslots
  have ec : some cy = some comp := hcy.symm.trans fC
  cases ec
  generalize hF : Jvm.Free.Multi.fill (T.setVm vm₁) cA cy n.toNatClampNeg k.toNatClampNeg (defaultValue ty) n.toNatClampNeg = F at X' step
  have hTh : (T.setVm vm₁).heap = H := hT
  obtain ⟨f1, f2, -, -⟩ := Jvm.Free.Multi.fill_facts (T.setVm vm₁) cA cy n.toNatClampNeg k.toNatClampNeg (defaultValue ty) n.toNatClampNeg
  rw [hF, hTh] at f1 f2
  have hold : ∀ x : Nat, x < H.size → F.heap[x]? = H[x]? := fun x hx => by
    have := Jvm.Free.Multi.fill_old (T.setVm vm₁) cA cy n.toNatClampNeg k.toNatClampNeg (defaultValue ty) (a := x) (by rw [hTh]; exact hx) n.toNatClampNeg
    rw [hF, hTh] at this
    exact this
  have hrow : ∀ j : Nat, j < n.toNatClampNeg → F.heap[H.size + 1 + j]? = some (vp_cell cy z) := fun j hj => by
    have := Jvm.Free.Multi.fill_inner (T.setVm vm₁) cA cy n.toNatClampNeg k.toNatClampNeg (defaultValue ty) n.toNatClampNeg j hj
    rw [hF, hTh, hz] at this
    exact this
  have hout : Jvm.Free.Multi.outerC cA n.toNatClampNeg H.size n.toNatClampNeg = vp_cell cA (n.toNatClampNeg, .inr (.inr (.inr (.inr (fun i => if i < n.toNatClampNeg then some (H.size + 1 + i) else none))))) := by
    rw [vp_cell_q]
    exact vr_outer cA n.toNatClampNeg H.size n.toNatClampNeg
  rw [hout] at f2
  have hlt : ∀ a, a ∈ L → a < H.size := fun a ha => by
    obtain ⟨k9, hk9⟩ := va_pl_get (X := X) (f := f) ha
    exact (hP k9 _ hk9).lt
  have hnl : ∀ i : Nat, i < n.toNatClampNeg → H.size + 1 + i ∉ L := fun i _ h => by
    have := hlt _ h
    omega
  have hnm : ∀ a, a ∈ (List.range n.toNatClampNeg).map (fun i => H.size + 1 + i) → a ∉ L := fun a ha h => by
    obtain ⟨i, -, rfl⟩ := List.mem_map.mp ha
    have := hlt _ h
    omega
  have hP0 : va_P D cl (X ++ va_pl L f) F.heap := hP.kept (fun k9 x hx => hold x.1 ((hP k9 x hx).lt))
  have hP1 : va_P D cl ((X ++ va_pl L f) ++ [(H.size, .inl (cA, n.toNatClampNeg, .inr (.inr (.inr (.inr (fun i => if i < n.toNatClampNeg then some (H.size + 1 + i) else none))))))]) F.heap := hP0.app (fun k9 x hx => by
    have h0 : k9 < 1 := (List.getElem?_eq_some_iff.mp hx).1
    rw [show k9 = 0 by omega] at hx
    cases hx
    exact f2)
  have hP2 : va_P D cl (((X ++ va_pl L f) ++ [(H.size, .inl (cA, n.toNatClampNeg, .inr (.inr (.inr (.inr (fun i => if i < n.toNatClampNeg then some (H.size + 1 + i) else none))))))]) ++ ((List.range n.toNatClampNeg).map (fun i => H.size + 1 + i)).map (fun a => (a, .inl (cy, z)))) F.heap := hP1.app (fun k9 x hx => by
    obtain ⟨a, ha, rfl⟩ := List.mem_map.mp (List.mem_of_getElem? hx)
    obtain ⟨i, hi, rfl⟩ := List.mem_map.mp ha
    exact hrow i (List.mem_range.mp hi))
  have hD2 : va_D A (((X ++ va_pl L f) ++ [(H.size, .inl (cA, n.toNatClampNeg, .inr (.inr (.inr (.inr (fun i => if i < n.toNatClampNeg then some (H.size + 1 + i) else none))))))]) ++ ((List.range n.toNatClampNeg).map (fun i => H.size + 1 + i)).map (fun a => (a, .inl (cy, z)))) := by
    have hD1 := hD.push (e := .inl (cA, n.toNatClampNeg, .inr (.inr (.inr (.inr (fun i => if i < n.toNatClampNeg then some (H.size + 1 + i) else none)))))) hP rfl (hA _ hS.1)
    generalize hW1 : (X ++ va_pl L f) ++ [(H.size, .inl (cA, n.toNatClampNeg, .inr (.inr (.inr (.inr (fun i => if i < n.toNatClampNeg then some (H.size + 1 + i) else none))))))] = W1 at hD1 hP1 ⊢
    have hle : ∀ (k9 : Nat) (x : Nat × va_E), W1[k9]? = some x → x.1 ≤ H.size := fun k9 x hx => by
      rw [← hW1] at hx
      by_cases hl : k9 < (X ++ va_pl L f).length
      · rw [List.getElem?_append_left hl] at hx
        exact Nat.le_of_lt ((hP k9 x hx).lt)
      · rw [List.getElem?_append_right (by omega)] at hx
        have h0 : k9 - (X ++ va_pl L f).length < 1 := (List.getElem?_eq_some_iff.mp hx).1
        rw [show k9 - (X ++ va_pl L f).length = 0 by omega] at hx
        cases hx
        exact Nat.le_refl _
    have hr : ∀ (k9 : Nat) (x : Nat × va_E), (((List.range n.toNatClampNeg).map (fun i => H.size + 1 + i)).map (fun a => ((a, .inl (cy, z)) : Nat × va_E)))[k9]? = some x → x.1 = H.size + 1 + k9 := fun k9 x hx => by
      rw [List.getElem?_map, List.getElem?_map] at hx
      by_cases h9 : k9 < n.toNatClampNeg
      · rw [List.getElem?_range h9] at hx
        cases hx
        rfl
      · have hn0 : (List.range n.toNatClampNeg)[k9]? = none := List.getElem?_eq_none (by rw [List.length_range]; omega)
        rw [hn0] at hx
        cases hx
    refine ⟨fun i j x y hi hj hxy => ?_, fun k9 x hx => ?_⟩
    · by_cases h1 : i < W1.length <;> by_cases h2 : j < W1.length
      · rw [List.getElem?_append_left h1] at hi
        rw [List.getElem?_append_left h2] at hj
        exact hD1.1 i j x y hi hj hxy
      · rw [List.getElem?_append_left h1] at hi
        rw [List.getElem?_append_right (by omega)] at hj
        have := hle _ _ hi
        have := hr _ _ hj
        omega
      · rw [List.getElem?_append_right (by omega)] at hi
        rw [List.getElem?_append_left h2] at hj
        have := hle _ _ hj
        have := hr _ _ hi
        omega
      · rw [List.getElem?_append_right (by omega)] at hi hj
        have := hr _ _ hi
        have := hr _ _ hj
        omega
    · by_cases h1 : k9 < W1.length
      · rw [List.getElem?_append_left h1] at hx
        exact hD1.2 k9 x hx
      · rw [List.getElem?_append_right (by omega)] at hx
        have := hr _ _ hx
        exact hA _ (by have := hS.1; omega)
  have hAr : ArrOfT s cA (.array ty) := fun N9 z9 => by
    obtain ⟨-, k9, hk9, cm9, hkk9⟩ := (hO 0 0 0).1
    exact ⟨(fun q hq => by cases hq), k9, hk9, cm9, hkk9⟩
  have hK2 : va_K D cl (tys ++ [(cA, .array ty)]) s := ⟨hK.1, fun k9 x hx => by
    by_cases hl : k9 < tys.length
    · rw [List.getElem?_append_left hl] at hx
      exact hK.2 k9 x hx
    · rw [List.getElem?_append_right (by omega)] at hx
      have h0 : k9 - tys.length < 1 := (List.getElem?_eq_some_iff.mp hx).1
      rw [show k9 - tys.length = 0 by omega] at hx
      cases hx
      exact ⟨hAr, fA⟩⟩
  obtain ⟨t, a1, b1⟩ := kk H.size (fun i => H.size + 1 + i) cA F.heap (fun i j _ _ h => by have h9 : H.size + 1 + i = H.size + 1 + j := h; omega) hnl hK2 (by rw [← vr_rows hnm]; exact vr_lay hP2) (by rw [← vr_rows hnm]; exact vr_layD hD2) ⟨by rw [f1]; have := hS.1; omega, fun x h1 h2 => (hold x (Nat.lt_of_lt_of_le h1 hS.1)).trans (hS.2.1 x h1 h2), hS.2.2⟩ F rfl X'
  refine ⟨t, step t ?_, b1⟩
  have e : T.heap.size = H.size := by rw [hT]
  rw [e]
  exact a1
end VGM
/-- a new cell of a kind: all zero -/
def nw (h : Hp) (k : Nat) : Hp := (fun b => if b = (xK h).length then fun _ => 0 else xI h b, fun b => if b = (xK h).length then fun _ => 0 else xL h b, fun b => if b = (xK h).length then fun _ => 0 else xN h b, xK h ++ [k])
/-- .. several: one, and n of another kind -/
def nwR (h : Hp) (k k2 n : Nat) : Hp := (fun b => if (xK h).length ≤ b then fun _ => 0 else xI h b, fun b => if (xK h).length ≤ b then fun _ => 0 else xL h b, fun b => if (xK h).length ≤ b then fun _ => 0 else xN h b, xK h ++ (k :: List.replicate n k2))
/-- cells that may be null are cells that there are -/
def NOk (h : Hp) : Prop := ∀ (a k : Nat) (L : List Fd3) (j t o k' : Nat), (xK h)[a]? = some k → fkL[k]? = some L → L[j]? = some (t, o, k') → 3 ≤ t → xN h a j ≤ (xK h).length
theorem arrV_cg {c : ClassId} {n : Nat} {f g : Nat → Value} (h : ∀ j, j < n → f j = g j) : arrV c n f = arrV c n g := by
  unfold arrV
  congr 1
  apply Array.ext
  · simp
  · intro j h1 h2
    simp only [Array.size_ofFn] at h1
    simp only [Array.getElem_ofFn]
    exact h j h1
theorem fval_grow {f f' : Nat → Nat} {h h2 : Hp} {i k : Nat} {L : List Fd3} (hf : ∀ b, b < (xK h).length → f' b = f b) (e : xI h2 i = xI h i ∧ xL h2 i = xL h i ∧ xN h2 i = xN h i) (hG : GoodAl (xK h)) (hN : NOk h) (hk : (xK h)[i]? = some k) (hL : fkL[k]? = some L) {j : Nat} {d : Fd3} (hj : L[j]? = some d) : fval f' h2 i j d = fval f h i j d := by
  obtain ⟨t, o, k'⟩ := d
  unfold fval
  rw [e.1, e.2.1, e.2.2]
  match t, hj with
  | 0, _ => rfl
  | 1, _ => rfl
  | 2, hj =>
    have q := (hG i k hk).1 L hL j o k' hj
    have hl : i + o < (xK h).length := (List.getElem?_eq_some_iff.mp q).1
    show Value.ref (f' (i + o)) = .ref (f (i + o))
    rw [hf _ hl]
  | n + 3, hj =>
    have q := hN i k L j (n + 3) o k' hk hL hj (by omega)
    show (if xN h i j = 0 then Value.null else .ref (f' (xN h i j - 1))) = (if xN h i j = 0 then Value.null else .ref (f (xN h i j - 1)))
    by_cases z : xN h i j = 0
    · rw [if_pos z, if_pos z]
    · rw [if_neg z, if_neg z, hf _ (by omega)]
theorem at_grow {D : va_G} {dA : Nat → ClassId} {f f' : Nat → Nat} {h h2 : Hp} {H : Heap} {i k : Nat} (hf : ∀ b, b < (xK h).length → f' b = f b) (e : xI h2 i = xI h i ∧ xL h2 i = xL h i ∧ xN h2 i = xN h i) (hG : GoodAl (xK h)) (hN : NOk h) (hk : (xK h)[i]? = some k) (H0 : va_at D vwCl (f i, ent dA f h k i) H) : va_at D vwCl (f' i, ent dA f' h2 k i) H := by
  have hl : i < (xK h).length := (List.getElem?_eq_some_iff.mp hk).1
  rw [hf i hl]
  cases hL : fkL[k]? with
  | some L =>
    rw [ent_obj hL] at H0 ⊢
    have e9 : fvals f' h2 i 0 L = fvals f h i 0 L := by
      apply List.ext_getElem?
      intro j
      rw [fvals_get, fvals_get]
      cases hj : L[j]? with
      | none => rfl
      | some d =>
        show some _ = some _
        rw [Nat.zero_add]
        exact congrArg some (fval_grow hf e hG hN hk hL hj)
    rw [e9]
    exact H0
  | none =>
    cases hq : akL[k - 20]? with
    | none =>
      have e1 : akL.getD (k - 20) (0, 0, 0) = (0, 0, 0) := by rw [List.getD_eq_getElem?_getD, hq]; rfl
      unfold ent at H0 ⊢
      rw [hL] at H0 ⊢
      simp only [e1, entA] at H0 ⊢
      rw [e.1]
      exact H0
    | some q =>
      rw [ent_arr hL hq] at H0 ⊢
      obtain ⟨t, n, k'⟩ := q
      have hg := (hG i k hk).2 hL t n k' hq
      have cell : ∀ (c : ClassId), 4 ≤ t → vp_cell c (n, .inr (.inr (.inr (.inr (fun j => some (f' (i + 1 + j))))))) = vp_cell c (n, .inr (.inr (.inr (.inr (fun j => some (f (i + 1 + j))))))) := fun c h4 => by
        rw [vp_cell_q, vp_cell_q]
        refine arrV_cg (fun j hj => ?_)
        have hl2 : i + 1 + j < (xK h).length := (List.getElem?_eq_some_iff.mp (hg h4 j hj)).1
        rw [hf _ hl2]
      match t, hq, cell with
      | 0, _, _ => simp only [entA] at H0 ⊢; rw [e.1]; exact H0
      | 1, _, _ => simp only [entA] at H0 ⊢; rw [e.2.1]; exact H0
      | 2, _, _ => simp only [entA] at H0 ⊢; rw [e.1]; exact H0
      | 3, _, _ => simp only [entA] at H0 ⊢; rw [e.1]; exact H0
      | 4, _, cell =>
        show H[f i]? = some (vp_cell (dA 4) _)
        rw [cell _ (Nat.le_refl _)]
        exact H0
      | m + 5, _, cell =>
        show H[f i]? = some (vp_cell (dA 5) _)
        rw [cell _ (by omega)]
        exact H0
theorem P_grow {D : va_G} {dA : Nat → ClassId} {f f' : Nat → Nat} {h h2 : Hp} {H : Heap} {t : List Nat} (hP : va_P D vwCl (wd dA f h) H) (pre : xK h2 = xK h ++ t) (hf : ∀ b, b < (xK h).length → f' b = f b) (e : ∀ i, i < (xK h).length → xI h2 i = xI h i ∧ xL h2 i = xL h i ∧ xN h2 i = xN h i) (hG : GoodAl (xK h)) (hN : NOk h)
    (hnew : ∀ a k, (xK h).length ≤ a → (xK h2)[a]? = some k → va_at D vwCl (f' a, ent dA f' h2 k a) H) : va_P D vwCl (wd dA f' h2) H := by
  intro a q hq
  obtain ⟨k, hk, rfl⟩ := wd_inv dA f' h2 hq
  by_cases hl : a < (xK h).length
  · have hk0 : (xK h)[a]? = some k := by rw [pre, List.getElem?_append_left hl] at hk; exact hk
    exact at_grow hf (e a hl) hG hN hk0 (hP a _ (wd_get dA f h hk0))
  · exact hnew a k (by omega) hk
theorem D_addr {A : Nat → Prop} {w1 w2 : va_W} (e : w1.map (fun q => q.1) = w2.map (fun q => q.1)) (h : va_D A w1) : va_D A w2 := by
  have g : ∀ (i : Nat) (q : Nat × va_E), w2[i]? = some q → ∃ q', w1[i]? = some q' ∧ q'.1 = q.1 := fun i q hq => by
    have h2 : (w2.map (fun q => q.1))[i]? = some q.1 := by rw [List.getElem?_map, hq]; rfl
    rw [← e, List.getElem?_map] at h2
    cases h3 : w1[i]? with
    | none => rw [h3] at h2; cases h2
    | some q' => rw [h3] at h2; exact ⟨q', rfl, Option.some.inj h2⟩
  refine ⟨fun i j p q hp hq hpq => ?_, fun i q hq => ?_⟩
  · obtain ⟨p', hp', ep⟩ := g i p hp
    obtain ⟨q', hq', eq⟩ := g j q hq
    exact h.1 i j p' q' hp' hq' (by rw [ep, eq]; exact hpq)
  · obtain ⟨q', hq', eq⟩ := g i q hq
    rw [← eq]; exact h.2 i q' hq'
theorem GoodAl.app {al t : List Nat} (h : GoodAl al) (ht : ∀ a k, al.length ≤ a → (al ++ t)[a]? = some k → okK (al ++ t) a k) : GoodAl (al ++ t) := by
  intro a k hk
  by_cases hl : a < al.length
  · have hk0 : al[a]? = some k := by rw [List.getElem?_append_left hl] at hk; exact hk
    obtain ⟨g1, g2⟩ := h a k hk0
    have up : ∀ (b : Nat) (x : Nat), al[b]? = some x → (al ++ t)[b]? = some x := fun b x hb => by
      rw [List.getElem?_append_left (List.getElem?_eq_some_iff.mp hb).1]; exact hb
    exact ⟨fun L hL j o k' hj => up _ _ (g1 L hL j o k' hj), fun hL t' n k' hq h4 i hi => up _ _ (g2 hL t' n k' hq h4 i hi)⟩
  · exact ht a k (by omega) hk
theorem wv.app {al : List Nat} {v : V} (t : List Nat) (h : wv al v) : wv (al ++ t) v := by
  have up : ∀ (b : Nat) (x : Nat), al[b]? = some x → (al ++ t)[b]? = some x := fun b x hb => by
    rw [List.getElem?_append_left (List.getElem?_eq_some_iff.mp hb).1]; exact hb
  rcases v with x | x | q | q | a
  · trivial
  · trivial
  · exact up _ _ h
  · exact h.imp_right (up _ _)
  · exact h
theorem rep_grow {f f' : Nat → Nat} {al : List Nat} {v : V} (hf : ∀ b, b < al.length ∨ 1000 ≤ b → f' b = f b) (h : wv al v) : rep f' v = rep f v := by
  have lt : ∀ (b : Nat) (x : Nat), al[b]? = some x → b < al.length := fun b x hb => (List.getElem?_eq_some_iff.mp hb).1
  rcases v with x | x | q | q | a
  · rfl
  · rfl
  · show Value.ref (f' q.2) = .ref (f q.2)
    rw [hf _ (Or.inl (lt _ _ h))]
  · show (if q.2 = 0 then Value.null else .ref (f' (q.2 - 1))) = (if q.2 = 0 then Value.null else .ref (f (q.2 - 1)))
    rcases h with h | h
    · rw [if_pos h, if_pos h]
    · rw [hf _ (Or.inl (lt _ _ h))]
  · show Value.ref (f' a) = .ref (f a)
    rw [hf _ (Or.inr h)]
theorem lrep_grow {f f' : Nat → Nat} {al : List Nat} {ls : List (Nat × V)} (hf : ∀ b, b < al.length ∨ 1000 ≤ b → f' b = f b) (h : wl al ls) : lrep f' ls = lrep f ls := by
  unfold lrep
  exact List.map_congr_left (fun q hq => by rw [rep_grow hf (h q hq)])
theorem srep_grow {f f' : Nat → Nat} {al : List Nat} {st : List V} (hf : ∀ b, b < al.length ∨ 1000 ≤ b → f' b = f b) (h : ws9 al st) : st.map (rep f') = st.map (rep f) :=
  List.map_congr_left (fun q hq => rep_grow hf (h q hq))
section MK
variable {G : Gt} {cc : ByteArray} {nL pc : Nat} {own : String} {ls : List (Nat × V)} {st st2 : List V} {h : Hp} {l : Launch} {d : Nat} {alX : List Nat}
/-- a row that makes one cell -/
theorem r_make {kk pc2 : Nat} (C : Cx G cc nL own) (X : Rmx l G d alX) (hal : xK h ++ [kk] <+: alX) (hN : NOk h) (hlen : (xK h).length < 1000) (hok : okK (xK h ++ [kk]) (xK h).length kk) (hw : ∀ al, ws9 al st2 → ws9 al st)
    (run : ∀ (f : Nat → Nat) (H : Heap) (locs : List Loc) (LS : Array Slot) (cells slots : Nat), match G with
      | (p, l', e, R, s, m, args, below, meth, c, D, dA, A, f0, al0, Q, nL) => p.tables.exec = Jvm.exec → c.code = cc → s.vm.findClass own = some m.cls → (∀ w ∈ lw_g, w.before args s = true) → va_K D vwCl (tysD dA) s → va_P D vwCl (wd dA f h) H → va_D A (wd dA f h) → va_S A s.heap H locs → (∀ q : Nat, s.heap.size ≤ q → A q) → cells + 1 ≤ R.cells → slots + slk kk ≤ R.slots →
        (∀ (q : Nat) (H1 : Heap) (E : va_E), va_P D vwCl (wd dA f h) H1 → (∀ f', va_at D vwCl (q, ent dA f' (nw h kk) kk (xK h).length) H1) → va_D A (wd dA f h ++ [(q, E)]) → va_S A s.heap H1 locs → W p l' e R s m args below meth c H1 locs (cells + 1) (slots + slk kk) Q (F0 m pc2 LS (.ref q :: st.map (rep f)))) →
        W p l' e R s m args below meth c H locs cells slots Q (F0 m pc LS (st2.map (rep f))))
    (kk9 : Rr G pc2 ls (vr kk (xK h).length :: st) (nw h kk)) : Rr G pc ls st2 h := by
  obtain ⟨p, l', e, R, s, m, args, below, meth, c, D, dA, A, f0, al0, Q, nL'⟩ := G
  obtain ⟨rfl, hx, hb, hml, hown, hts, hlk, hK, hAz, hSF⟩ := C
  obtain ⟨rfl, X1, X2, X3, X4⟩ := X
  intro f H locs LS h1 h2 h3 hP hD hS hl w1 w2
  have p1 := pfx_len hal
  have p2 := pfx_slo hal
  have p3 := pfx_len h2
  have p4 := pfx_slo h2
  rw [List.length_append, List.length_singleton] at p1
  rw [slo_app] at p2
  have s1 : slo [kk] = slk kk := rfl
  rw [s1] at p2
  have w3 := hw _ w2
  refine run f H locs LS _ _ hx hb hown hts hK hP hD hS hAz (by omega) (by omega) (fun q H1 E hP1 hE hD1 hS1 => ?_)
  have hf : ∀ b, b < (xK h).length ∨ 1000 ≤ b → (fun a => if a = (xK h).length then q else f a) b = f b := fun b hb => if_neg (by omega)
  have hf1 : ∀ b, b < (xK h).length → (fun a => if a = (xK h).length then q else f a) b = f b := fun b hb => hf b (Or.inl hb)
  have eK : xK (nw h kk) = xK h ++ [kk] := rfl
  have g := kk9 (fun a => if a = (xK h).length then q else f a) H1 locs LS (fun a ha => (hf a (by omega)).trans (h1 a ha)) (h2.trans (List.prefix_append _ _)) ?_ ?_ ?_ hS1 ?_ ?_ ?_
  · have e1 : (vr kk (xK h).length :: st).map (rep (fun a => if a = (xK h).length then q else f a)) = .ref q :: st.map (rep f) := by
      rw [List.map_cons, srep_grow hf w3]
      show Value.ref (if (xK h).length = (xK h).length then q else f (xK h).length) :: _ = _
      rw [if_pos rfl]
    rw [e1, eK, List.length_append, List.length_singleton, slo_app, s1, show (xK h).length + 1 - al0.length = (xK h).length - al0.length + 1 by omega, show slo (xK h) + slk kk - slo al0 = slo (xK h) - slo al0 + slk kk by omega] at g
    exact g
  · rw [eK]
    refine h3.app (fun a k ha hk => ?_)
    have : a = (xK h).length := by
      have := (List.getElem?_eq_some_iff.mp hk).1
      rw [List.length_append, List.length_singleton] at this
      omega
    subst this
    rw [List.getElem?_append_right (Nat.le_refl _), Nat.sub_self] at hk
    cases hk
    exact hok
  · refine P_grow hP1 eK hf1 (fun i hi => ?_) h3 hN (fun a k ha hk => ?_)
    · have : ¬ i = (xK h).length := by omega
      exact ⟨if_neg this, if_neg this, if_neg this⟩
    · have : a = (xK h).length := by
        have := (List.getElem?_eq_some_iff.mp hk).1
        rw [eK, List.length_append, List.length_singleton] at this
        omega
      subst this
      rw [eK, List.getElem?_append_right (Nat.le_refl _), Nat.sub_self] at hk
      cases hk
      show va_at D vwCl ((if (xK h).length = (xK h).length then q else f (xK h).length), _) H1
      rw [if_pos rfl]
      exact hE _
  · refine D_addr ?_ hD1
    unfold wd
    rw [eK, List.length_append, List.length_singleton, List.range_succ, List.map_append, List.map_append, List.map_append, List.map_map, List.map_map]
    congr 1
    · exact List.map_congr_left (fun a ha => (hf1 a (List.mem_range.mp ha)).symm)
    · show [q] = [if (xK h).length = (xK h).length then q else f (xK h).length]
      rw [if_pos rfl]
  · rw [lrep_grow hf w1]; exact hl
  · exact fun q hq => (w1 q hq).app _
  · exact w_c (by show (xK h ++ [kk])[(xK h).length]? = some kk; rw [List.getElem?_append_right (Nat.le_refl _), Nat.sub_self]; rfl) (fun q hq => (w3 q hq).app _)
theorem slk_arr {kk t n o : Nat} (hL : fkL[kk]? = none) (hq : akL[kk - 20]? = some (t, n, o)) : slk kk = n := by
  unfold slk; rw [hL, List.getD_eq_getElem?_getD, hq]; rfl
theorem slk_obj {kk : Nat} {L : List Fd3} (hL : fkL[kk]? = some L) : slk kk = L.length := by unfold slk; rw [hL]
theorem nw_I {h : Hp} {k : Nat} : xI (nw h k) (xK h).length = fun _ => 0 := if_pos rfl
theorem nw_L {h : Hp} {k : Nat} : xL (nw h k) (xK h).length = fun _ => 0 := if_pos rfl
theorem nw_N {h : Hp} {k : Nat} : xN (nw h k) (xK h).length = fun _ => 0 := if_pos rfl
/-- a new row of numbers -/
theorem r_newa {kk t n o : Nat} {at_ : ArrayType} {ty : FieldType} {S : String} {a0 : vp_A} (C : Cx G cc nL own) (X : Rmx l G d alX) (hL : fkL[kk]? = none) (hq : akL[kk - 20]? = some (t, n, o)) (ht : t < 4) (hal : xK h ++ [kk] <+: alX) (hN : NOk h) (hlen : (xK h).length < 1000) (hty : newarray.typeOf at_ = ty) (harr : Cond.arrayClass (newarray.typeOf at_) ∈ lw_g)
    (hT : ∀ dA, (tysD dA)[t]? = some (dA t, ty)) (hS9 : ∀ (U : State) (c : ClassId), va_RA U c ty → U.vm.findClass S = some c) (ha : ∀ cA : ClassId, vp_cell cA a0 = arrV cA n (fun _ => defaultValue ty)) (hz : ∀ (dA : Nat → ClassId) (f : Nat → Nat) (h' : Hp) (a : Nat), xI h' a = (fun _ => 0) → xL h' a = (fun _ => 0) → ent dA f h' kk a = .inl (dA t, a0)) (hb : n * componentBytes ty ≤ 536870912) (hn31 : n < 2 ^ 31)
    (dd : decode cc pc = .ok (.newarray at_, 2)) (kk9 : Rr G (pc + 2) ls (vr kk (xK h).length :: st) (nw h kk)) : Rr G pc ls (vi (nI n) :: st) h := by
  refine r_make C X hal hN hlen ⟨fun L h9 => by rw [hL] at h9; (cases h9), fun _ t' n' k' h9 h4 => by rw [hq] at h9; (cases h9); omega⟩ (fun al hw => w_t hw) ?_ kk9
  intro f H locs LS cells slots
  obtain ⟨p, l', e, R, s, m, args, below, meth, c, D, dA, A, f0, al0, Q, nL'⟩ := G
  intro hx hb9 hown hts hK hP hD hS hAz c1 c2 k
  have es := slk_arr hL hq
  rw [es] at c2 k
  refine va_newa hx hb9 (atype := at_) (hts _ harr) hty hK hP hD hS hAz ha (nI_pos hn31) (nI_clamp hn31) hb c1 c2 dd (fun q cA H1 hK1 hP1 hD1 hS1 => ?_)
  have ecA : cA = dA t := by
    have e1 := (hK1.2 (tysD dA).length (cA, ty) (by rw [List.getElem?_append_right (Nat.le_refl _), Nat.sub_self]; rfl)).2
    have e2 := (hK.2 t (dA t, ty) (hT dA)).2
    exact Option.some.inj ((hS9 _ _ e1).symm.trans (hS9 _ _ e2))
  refine k q H1 _ (fun i x hx => hP1 i x (by rw [List.getElem?_append_left (List.getElem?_eq_some_iff.mp hx).1]; exact hx)) (fun f' => ?_) hD1 hS1
  have g := hP1 (wd dA f h).length _ (by rw [List.getElem?_append_right (Nat.le_refl _), Nat.sub_self]; rfl)
  rw [hz dA f' _ _ nw_I nw_L, ← ecA]
  exact g
/-- all fields zero -/
def zf (L : List Fd3) : List Value := L.map (fun d => match d.1 with | 0 => .int 0 | 1 => .long 0 | _ => .null)
theorem fvals_zero {f : Nat → Nat} {h : Hp} {a : Nat} {L : List Fd3} (e1 : xI h a = fun _ => 0) (e2 : xL h a = fun _ => 0) (e3 : xN h a = fun _ => 0) (hL : L.all (fun d => d.1 != 2) = true) : fvals f h a 0 L = zf L := by
  apply List.ext_getElem?
  intro j
  rw [fvals_get]
  unfold zf
  rw [List.getElem?_map]
  cases hj : L[j]? with
  | none => rfl
  | some d =>
    have hd := List.all_eq_true.mp hL d (List.mem_of_getElem? hj)
    obtain ⟨t, o, k⟩ := d
    show some (fval f h a (0 + j) (t, o, k)) = some _
    unfold fval
    rw [e1, e2, e3]
    match t, hd with
    | 0, _ => rfl
    | 1, _ => rfl
    | 2, hd => exact absurd hd (by simp)
    | n + 3, _ => rfl
/-- a new object, not yet made -/
theorem r_new {kk N index : Nat} {C0 : String} {T : u_T} {L : List Fd3} (C : Cx G cc nL own) (X : Rmx l G d alX) (hc : vwCl[kk]? = some (C0, T, N)) (hL : fkL[kk]? = some L) (hLN : L.length = N) (hL2 : L.all (fun d => d.1 != 2) = true) (hfs : ∀ j, j < N → defaultValue (clTy kk j) = vp_V (zf L) j) (hal : xK h ++ [kk] <+: alX) (hN : NOk h) (hlen : (xK h).length < 1000)
    (q1 : Cond.classLink own index C0 ∈ lw_g) (q2 : Cond.instantiable C0 N ∈ lw_g) (q3 : Cond.initialized C0 ∈ lw_g) (dd : decode cc pc = .ok (.new index, 3)) (kk9 : Rr G (pc + 3) ls (vr kk (xK h).length :: st) (nw h kk)) : Rr G pc ls st h := by
  refine r_make C X hal hN hlen ⟨fun L' h9 j o k' hj => by
    rw [hL] at h9; cases h9
    have := List.all_eq_true.mp hL2 _ (List.mem_of_getElem? hj)
    exact absurd this (by simp), fun h9 => by rw [hL] at h9; cases h9⟩ (fun al hw => hw) ?_ kk9
  intro f H locs LS cells slots
  obtain ⟨p, l', e, R, s, m, args, below, meth, c, D, dA, A, f0, al0, Q, nL'⟩ := G
  intro hx hb9 hown hts hK hP hD hS hAz c1 c2 k
  have es : slk kk = N := (slk_obj hL).trans hLN
  rw [es] at c2 k
  refine va_new hx hb9 hts (cl_in hc) (clTy kk) (cl_ty hc) hown (hts _ q1) (hts _ q2) (hts _ q3) hK hP hD hS hAz hc hfs c1 c2 dd (fun q H1 hP1 hD1 hS1 => ?_)
  refine k q H1 _ (fun i x hx => hP1 i x (by rw [List.getElem?_append_left (List.getElem?_eq_some_iff.mp hx).1]; exact hx)) (fun f' => ?_) hD1 hS1
  have g := hP1 (wd dA f h).length _ (by rw [List.getElem?_append_right (Nat.le_refl _), Nat.sub_self]; rfl)
  rw [ent_obj hL, fvals_zero nw_I nw_L nw_N hL2]
  exact g
theorem oth_sN {h : Hp} {a j : Nat} {x : Nat} : ∀ b, b ≠ a → xI (sN h a j x) b = xI h b ∧ xL (sN h a j x) b = xL h b ∧ xN (sN h a j x) b = xN h b := fun b hb => ⟨rfl, rfl, by simp [sN, xN, hb]⟩
theorem fvals_sN {f : Nat → Nat} {h : Hp} {a j b : Nat} {L : List Fd3} {t o k' : Nat} (hj : L[j]? = some (t + 3, o, k')) : fvals f (sN h a j (b + 1)) a 0 L = (fvals f h a 0 L).set j (.ref (f b)) := by
  apply List.ext_getElem?
  intro i
  by_cases hi : i = j
  · subst hi
    rw [List.getElem?_set_self (by rw [fvals_len]; exact (List.getElem?_eq_some_iff.mp hj).1), fvals_get, hj]
    show some (if xN (sN h a i (b + 1)) a (0 + i) = 0 then Value.null else .ref (f (xN (sN h a i (b + 1)) a (0 + i) - 1))) = _
    have e : xN (sN h a i (b + 1)) a (0 + i) = b + 1 := by simp [sN, xN]
    rw [e, if_neg (by omega)]; rfl
  · rw [List.getElem?_set_ne (Ne.symm hi), fvals_get, fvals_get]
    congr 1
    funext d
    simp [fval, sN, xI, xL, xN, hi]
def CI (G : Gt) : Prop := match G with
  | (p, l, e, R, s, m, args, below, meth, c, D, dA, A, f0, al0, Q, nL) => meth.name = "<init>"
/-- a cell put into a field that may be null -/
theorem r_putN {k a j t o k' N index b kb : Nat} {C0 : String} {T : u_T} {L : List Fd3} (C : Cx G cc nL own) (hc : vwCl[k]? = some (C0, T, N)) (hL : fkL[k]? = some L) (hj : L[j]? = some (t + 3, o, k')) (hjN : j < N) (hlk : Cond.fieldLink own index (T j).1 (T j).2.1 (T j).2.2.1 ∈ lw_g)
    (hfin : (T j).2.2.2 = false) (hn : ∀ x : Nat, narrow (clTy k j) (.ref x) = .ref x) (hfit : ∀ x : Nat, fits (clTy k j) (.ref x) = true)
    (dd : decode cc pc = .ok (.putfield index, 3)) (kk : Rr G (pc + 3) ls st (sN h a j (b + 1))) : Rr G pc ls (vr kb b :: vr k a :: st) h := by
  refine r_put (h2 := sN h a j (b + 1)) (a := a) (k := k) (st2 := st) C rfl oth_sN (fun al hw => w_t (w_t hw)) (fun al hw => w_h (w_t hw)) ?_ kk
  intro f H locs LS cells slots
  obtain ⟨p, l, e, R, s, m, args, below, meth, c, D, dA, A, f0, al0, Q, nL'⟩ := G
  intro hP hD hS hx hb hown hts hK hg kk
  rw [ent_obj hL] at hg
  have hl9 : j < (fvals f h a 0 L).length := by rw [fvals_len]; exact (List.getElem?_eq_some_iff.mp hj).1
  refine va_put hx hb hts (cl_in hc) (clTy k) (cl_ty hc) (cl_nm hc) hown hK hP hD hS a hg hc j hjN (hts _ hlk) (fun _ h9 => h9) hfin (cl_ty hc j hjN) (hn (f b)) (hfit (f b)) hl9 dd (fun H1 locs1 a1 a2 a3 => kk H1 locs1 ?_ ?_ a3)
  · rw [ent_obj hL, fvals_sN hj]; exact a1
  · rw [ent_obj hL, fvals_sN hj]; exact a2
theorem r_putNF {k a j t o k' N index b kb : Nat} {T : u_T} {L : List Fd3} (C : Cx G cc nL own) (hI : CI G) (hc : vwCl[k]? = some (own, T, N)) (hL : fkL[k]? = some L) (hj : L[j]? = some (t + 3, o, k')) (hjN : j < N) (hlk : Cond.fieldLink own index (T j).1 (T j).2.1 (T j).2.2.1 ∈ lw_g)
    (hfin : (T j).2.2.2 = true) (hdecl : (T j).1 = own) (hn : ∀ x : Nat, narrow (clTy k j) (.ref x) = .ref x) (hfit : ∀ x : Nat, fits (clTy k j) (.ref x) = true)
    (dd : decode cc pc = .ok (.putfield index, 3)) (kk : Rr G (pc + 3) ls st (sN h a j (b + 1))) : Rr G pc ls (vr kb b :: vr k a :: st) h := by
  refine r_put (h2 := sN h a j (b + 1)) (a := a) (k := k) (st2 := st) C rfl oth_sN (fun al hw => w_t (w_t hw)) (fun al hw => w_h (w_t hw)) ?_ kk
  intro f H locs LS cells slots
  obtain ⟨p, l, e, R, s, m, args, below, meth, c, D, dA, A, f0, al0, Q, nL'⟩ := G
  intro hP hD hS hx hb hown hts hK hg kk
  rw [ent_obj hL] at hg
  have hl9 : j < (fvals f h a 0 L).length := by rw [fvals_len]; exact (List.getElem?_eq_some_iff.mp hj).1
  refine va_putF hx hb hts (cl_in hc) (clTy k) (cl_ty hc) (cl_nm hc) hown hK hP hD hS a hg hc j hjN (hts _ hlk) (fun _ h9 => h9) hfin hI hdecl (cl_ty hc j hjN) (hn (f b)) (hfit (f b)) hl9 dd (fun H1 locs1 a1 a2 a3 => kk H1 locs1 ?_ ?_ a3)
  · rw [ent_obj hL, fvals_sN hj]; exact a1
  · rw [ent_obj hL, fvals_sN hj]; exact a2
theorem slo_rep (k : Nat) : ∀ n, slo (List.replicate n k) = n * slk k
  | 0 => by simp [slo]
  | n + 1 => by rw [List.replicate_succ, slo, slo_rep k n, Nat.succ_mul, Nat.add_comm]
theorem nwR_at {h : Hp} {k k2 n a : Nat} (ha : (xK h).length ≤ a) : xI (nwR h k k2 n) a = (fun _ => 0) ∧ xL (nwR h k k2 n) a = (fun _ => 0) ∧ xN (nwR h k k2 n) a = (fun _ => 0) := ⟨if_pos ha, if_pos ha, if_pos ha⟩
theorem nwR_ne {h : Hp} {k k2 n a : Nat} (ha : a < (xK h).length) : xI (nwR h k k2 n) a = xI h a ∧ xL (nwR h k k2 n) a = xL h a ∧ xN (nwR h k k2 n) a = xN h a := ⟨if_neg (by omega), if_neg (by omega), if_neg (by omega)⟩
/-- a row of rows -/
theorem r_mna {ko ki n m9 to ti oi index : Nat} {ty : FieldType} {S1 S2 : String} {z : vp_A} (C : Cx G cc nL own) (X : Rmx l G d alX) (hLo : fkL[ko]? = none) (hqo : akL[ko - 20]? = some (to, n, ki)) (hLi : fkL[ki]? = none) (hqi : akL[ki - 20]? = some (ti, m9, oi)) (hti : ti < 4) (hto : ∀ (dA : Nat → ClassId) (f : Nat → Nat) (h' : Hp) (a : Nat), ent dA f h' ko a = .inl (dA to, n, .inr (.inr (.inr (.inr (fun i => some (f (a + 1 + i)))))))) (hal : xK h ++ (ko :: List.replicate n ki) <+: alX) (hN : NOk h) (hlen : (xK h).length + n + 1 ≤ 1000)
    (q1 : Cond.classLink own index S1 ∈ lw_g) (q2 : ∀ U, SX U → (Cond.arrayOver (.array ty)).before #[] U = true) (q3 : Cond.arrayClass ty ∈ lw_g) (e1 : S1 = "[" ++ (FieldType.array ty).toString) (hTo : ∀ dA, (tysD dA)[to]? = some (dA to, .array ty)) (hTi : ∀ dA, (tysD dA)[ti]? = some (dA ti, ty)) (hRo : ∀ (U : State) (c : ClassId), va_RA U c (.array ty) → U.vm.findClass S1 = some c) (hRi : ∀ (U : State) (c : ClassId), va_RA U c ty → U.vm.findClass (FieldType.array ty).toString = some c)
    (hb1 : n * 4 ≤ 536870912) (hb2 : m9 * componentBytes ty ≤ 536870912) (hb3 : m9 ≤ 536870912) (hdf : fits ty (defaultValue ty) = true) (hdd : (defaultValue ty).isDefault = true) (hz : ∀ c : ClassId, Jvm.Free.Multi.innerC c m9 (defaultValue ty) = vp_cell c z) (hzi : ∀ (dA : Nat → ClassId) (f : Nat → Nat) (h' : Hp) (a : Nat), xI h' a = (fun _ => 0) → xL h' a = (fun _ => 0) → ent dA f h' ki a = .inl (dA ti, z)) (hn31 : n < 2 ^ 31) (hm31 : m9 < 2 ^ 31)
    (dd : decode cc pc = .ok (.multianewarray index 2, 4)) (kk9 : Rr G (pc + 4) ls (vr ko (xK h).length :: st) (nwR h ko ki n)) : Rr G pc ls (vi (nI m9) :: vi (nI n) :: st) h := by
  obtain ⟨p, l', e, R, s, m, args, below, meth, c, D, dA, A, f0, al0, Q, nL'⟩ := G
  obtain ⟨rfl, hx, hb, hml, hown, hts, hlk, hK, hAz, hSF⟩ := C
  obtain ⟨rfl, X1, X2, X3, X4⟩ := X
  intro f H locs LS h1 h2 h3 hP hD hS hl w1 w2
  have p1 := pfx_len hal
  have p2 := pfx_slo hal
  have p3 := pfx_len h2
  have p4 := pfx_slo h2
  rw [List.length_append, List.length_cons, List.length_replicate] at p1
  have so : slk ko = n := slk_arr hLo hqo
  have si : slk ki = m9 := slk_arr hLi hqi
  have s1 : slo (ko :: List.replicate n ki) = n + n * m9 := by rw [slo, slo_rep, so, si]
  rw [slo_app, s1] at p2
  have w3 := w_t (w_t w2)
  have hcy : s.vm.findClass (FieldType.array ty).toString = some (dA ti) := hRi _ _ (hK.2 ti _ (hTi dA)).2
  refine va_mna (X := wd dA f h) (L := []) (f := fun _ => .inl (dA 0, 0, .inl (fun _ => 0))) hx hb hown (by rw [← e1]; exact hts _ q1) (over_moved (Vm.Alike.refl _) (q2 s hSF.2.2.2.2)) (hts _ q3) hcy hK (by unfold va_pl; rw [List.map_nil, List.append_nil]; exact hP) (by unfold va_pl; rw [List.map_nil, List.append_nil]; exact hD) hS hAz (nI_pos hn31) (nI_pos hm31) (nI_clamp hn31) (nI_clamp hm31) hb1 hb2 hb3 hdf hdd (by omega) (by omega) hz dd (fun q r cA H1 hr1 _ hK1 hP1 hD1 hS1 => ?_)
  have ecA : cA = dA to := by
    have g1 := (hK1.2 (tysD dA).length (cA, .array ty) (by rw [List.getElem?_append_right (Nat.le_refl _), Nat.sub_self]; rfl)).2
    have g2 := (hK.2 to (dA to, .array ty) (hTo dA)).2
    exact Option.some.inj ((hRo _ _ g1).symm.trans (hRo _ _ g2))
  generalize hF : (fun a => if a = (xK h).length then q else if (xK h).length < a ∧ a ≤ (xK h).length + n then r (a - (xK h).length - 1) else f a) = f'
  have hf : ∀ b, b < (xK h).length ∨ 1000 ≤ b → f' b = f b := fun b hb => by rw [← hF]; show (if _ then _ else if _ then _ else _) = _; rw [if_neg (by omega), if_neg (by omega)]
  have fq : f' (xK h).length = q := by rw [← hF]; exact if_pos rfl
  have fr : ∀ i, i < n → f' ((xK h).length + 1 + i) = r i := fun i hi => by
    rw [← hF]; show (if _ then _ else if _ then _ else _) = _
    rw [if_neg (by omega), if_pos (by omega), show (xK h).length + 1 + i - (xK h).length - 1 = i by omega]
  have eK : xK (nwR h ko ki n) = xK h ++ (ko :: List.replicate n ki) := rfl
  have eKl : (xK (nwR h ko ki n)).length = (xK h).length + 1 + n := by rw [eK, List.length_append, List.length_cons, List.length_replicate]; omega
  have kd : ∀ a k, (xK h).length ≤ a → (xK h ++ (ko :: List.replicate n ki))[a]? = some k → (a = (xK h).length ∧ k = ko) ∨ (∃ i, i < n ∧ a = (xK h).length + 1 + i ∧ k = ki) := fun a k ha hk => by
    have hl9 := (List.getElem?_eq_some_iff.mp hk).1
    rw [List.length_append, List.length_cons, List.length_replicate] at hl9
    rw [List.getElem?_append_right ha] at hk
    by_cases e0 : a = (xK h).length
    · subst e0; rw [Nat.sub_self] at hk; cases hk; exact Or.inl ⟨rfl, rfl⟩
    · right
      refine ⟨a - (xK h).length - 1, by omega, by omega, ?_⟩
      rw [show a - (xK h).length = (a - (xK h).length - 1) + 1 by omega, List.getElem?_cons_succ, List.getElem?_replicate] at hk
      rw [if_pos (by omega)] at hk
      exact (Option.some.inj hk).symm
  have get1 : ∀ (i : Nat) (x : Nat × va_E), (wd dA f h)[i]? = some x → va_at D vwCl x H1 := fun i x hx => by
    have hl9 := (List.getElem?_eq_some_iff.mp hx).1
    exact hP1 i x (by rw [List.getElem?_append_left (by rw [List.length_append]; omega), List.getElem?_append_left hl9]; exact hx)
  have getq : va_at D vwCl (q, .inl (cA, n, .inr (.inr (.inr (.inr (fun i => if i < n then some (r i) else none)))))) H1 := hP1 (wd dA f h).length _ (by
    rw [List.getElem?_append_left (by rw [List.length_append, List.length_singleton]; omega), List.getElem?_append_right (Nat.le_refl _), Nat.sub_self]; rfl)
  have getr : ∀ i, i < n → va_at D vwCl (r i, .inl (dA ti, z)) H1 := fun i hi => by
    refine hP1 ((wd dA f h).length + 1 + i) _ ?_
    rw [List.getElem?_append_right (by rw [List.length_append, List.length_singleton]; omega), List.length_append, List.length_singleton, show (wd dA f h).length + 1 + i - ((wd dA f h).length + 1) = i by omega]
    unfold va_pl
    rw [List.nil_append, List.getElem?_map, List.getElem?_map, List.getElem?_range hi]
    show some (r i, vr_up _ _ _ (r i)) = _
    rw [vr_up_in (List.mem_map.mpr ⟨i, List.mem_range.mpr hi, rfl⟩)]
  have g := kk9 f' H1 locs LS (fun a ha => by rw [hf a (by omega)]; exact h1 a ha) (h2.trans (List.prefix_append _ _)) ?_ ?_ ?_ hS1 ?_ ?_ ?_
  · have e9 : (vr ko (xK h).length :: st).map (rep f') = .ref q :: st.map (rep f) := by
      rw [List.map_cons, srep_grow hf w3]
      show Value.ref (f' (xK h).length) :: _ = _
      rw [fq]
    rw [e9, eKl, eK, slo_app, s1, show (xK h).length + 1 + n - al0.length = (xK h).length - al0.length + 1 + n by omega, show slo (xK h) + (n + n * m9) - slo al0 = slo (xK h) - slo al0 + n + n * m9 by omega] at g
    exact g
  · rw [eK]
    refine h3.app (fun a k ha hk => ?_)
    rcases kd a k ha hk with ⟨rfl, rfl⟩ | ⟨i, hi, rfl, rfl⟩
    · refine ⟨fun L h9 => by rw [hLo] at h9; (cases h9), fun _ t' n' k' h9 h4 i hi => ?_⟩
      rw [hqo] at h9; cases h9
      rw [List.getElem?_append_right (by omega), show (xK h).length + 1 + i - (xK h).length = i + 1 by omega, List.getElem?_cons_succ, List.getElem?_replicate, if_pos hi]
    · exact ⟨fun L h9 => by rw [hLi] at h9; (cases h9), fun _ t' n' k' h9 h4 => by rw [hqi] at h9; (cases h9); omega⟩
  · refine P_grow (fun i x hx => get1 i x hx) eK (fun b hb => hf b (Or.inl hb)) (fun i hi => nwR_ne hi) h3 hN (fun a k ha hk => ?_)
    rw [eK] at hk
    rcases kd a k ha hk with ⟨rfl, rfl⟩ | ⟨i, hi, rfl, rfl⟩
    · rw [fq, hto]
      show H1[q]? = some (vp_cell (dA to) _)
      have g9 : H1[q]? = some (vp_cell cA _) := getq
      rw [g9, ecA, vp_cell_q, vp_cell_q]
      refine congrArg some (arrV_cg (fun j hj => ?_))
      rw [fr j hj, if_pos hj]
    · rw [fr i hi, hzi dA f' _ _ (nwR_at (by omega)).1 (nwR_at (by omega)).2.1]
      exact getr i hi
  · refine D_addr ?_ hD1
    unfold wd va_pl
    rw [eKl, show List.range ((xK h).length + 1 + n) = List.range (xK h).length ++ (0 :: (List.range n).map (1 + ·)).map ((xK h).length + ·) from by rw [Nat.add_assoc, List.range_add, List.range_add (n := 1)]; rfl]
    simp only [List.map_append, List.map_map, List.nil_append, List.append_assoc, List.map_cons, List.map_nil]
    have cg2 : ∀ (A1 A2 B1 B2 : List Nat), A1 = A2 → B1 = B2 → A1 ++ B1 = A2 ++ B2 := fun _ _ _ _ e1 e2 => by rw [e1, e2]
    have cg3 : ∀ (x y : Nat) (B1 B2 : List Nat), x = y → B1 = B2 → x :: B1 = y :: B2 := fun _ _ _ _ e1 e2 => by rw [e1, e2]
    refine cg2 _ _ _ _ (List.map_congr_left (fun a ha => (hf a (Or.inl (List.mem_range.mp ha))).symm)) ?_
    refine cg3 _ _ _ _ (show q = f' ((xK h).length + 0) by rw [Nat.add_zero, fq]) (List.map_congr_left (fun i hi => ?_))
    show r i = f' ((xK h).length + (1 + i))
    rw [← Nat.add_assoc, fr i (List.mem_range.mp hi)]
  · rw [lrep_grow hf w1]; exact hl
  · exact fun q hq => (w1 q hq).app _
  · exact w_c (by show (xK h ++ (ko :: List.replicate n ki))[(xK h).length]? = some ko; rw [List.getElem?_append_right (Nat.le_refl _), Nat.sub_self]; rfl) (fun q hq => (w3 q hq).app _)
end MK

