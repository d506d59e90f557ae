/-! PART 50: the same statements from both sides' bytes -/
section TR
variable {B : Nat → Int32} {z : Nat}
theorem TkR.le {q : Tkn} (h : TkR B z q) : q.2.2 ≤ z := by obtain ⟨a, ha, e⟩ := h; rw [e]; exact (stp_le ha).2
theorem stp_tr {q : Tkn} (h : TkR B z q) : TkR B z (stp B z q.2.2) := ⟨_, h.le, rfl⟩
theorem stp_tr0 {e : Nat} (h : e ≤ z) : TkR B z (stp B z e) := ⟨_, h, rfl⟩
theorem byS_tr {c i p : Nat} {q : Tkn} {v : Vg} (h : TkR B z q) : TkR B z (byS B z c i p q v).2.1 := by
  unfold byS
  split
  · split
    · exact stp_tr (stp_tr h)
    · exact stp_tr h
  · exact h
theorem ptW_tr {q : Tkn} {v : Vg} (h : TkR B z q) : TkR B z (ptW B z q v).2.1 := by
  unfold ptW
  split
  · split
    · exact byS_tr (byS_tr (stp_tr h))
    · exact byS_tr (stp_tr h)
  · exact h
theorem oneE_tr {q : Tkn} {v : Vg} {x y : Int32} (h : TkR B z q) : TkR B z (oneE B z q v x y).2.1 := by
  unfold oneE
  split
  · exact stp_tr h
  · exact h
theorem oneA_tr {q : Tkn} {v : Vg} {x : Int32} (h : TkR B z q) : TkR B z (oneA B z q v x).2.1 := by
  unfold oneA
  split
  · split
    · exact stp_tr h
    · exact oneE_tr (stp_tr (stp_tr h))
  · exact oneE_tr h
theorem oneW_tr {q : Tkn} {v : Vg} (h : TkR B z q) : TkR B z (oneW B z q v).2.1 := by
  unfold oneW
  split
  · split
    · exact stp_tr h
    · exact oneA_tr (stp_tr (stp_tr h))
  · exact h
theorem gvW_tr {e : Nat} {v : Vg} (h : e ≤ z) : TkR B z (gvW B z e v).2.1 := by
  unfold gvW
  split
  · exact stp_tr0 h
  · split
    · exact stp_tr (stp_tr0 h)
    · exact stp_tr (stp_tr (stp_tr0 h))
theorem ndR_tr {v : Vg} : ∀ (n : Nat) (q : Tkn) (nd : Int32), TkR B z q → TkR B z (ndR B z v n q nd).2.1
  | 0, _, _, h => h
  | n + 1, q, nd, h => by
    simp only [ndR]
    split
    · exact stp_tr h
    · split
      · exact ndR_tr n _ _ (stp_tr (stp_tr h))
      · exact stp_tr (stp_tr h)
theorem mcW_tr {q : Tkn} {v : Vg} (h : TkR B z q) : TkR B z (mcW B z q v).2.1 := by
  have hm : TkR B z (mcR B z q.2.2 v).2.1 := ndR_tr _ _ _ (stp_tr (stp_tr h))
  unfold mcW
  split
  · split
    · exact stp_tr h
    · split
      · split
        · exact hm
        · exact hm
      · exact stp_tr (stp_tr h)
  · exact h
theorem stW_tr {q : Tkn} {v : Vg} (h : TkR B z q) : TkR B z (stW B z q v).2.1 := by
  unfold stW
  split
  · exact ptW_tr h
  · split
    · exact mcW_tr h
    · split
      · exact oneW_tr h
      · split
        · exact gvW_tr h.le
        · exact h
end TR
section TIE2
variable {B B' : Nat → Int32} {z : Nat}
theorem ByT.wq (h : ByT B B' z) {i : Nat} {q : Tkn} (hq : TkR B' z q) : wdB i B z q.1 q.2.1 q.2.2 = wdB i B' z q.1 q.2.1 q.2.2 := by
  obtain ⟨a, ha, e⟩ := hq
  exact h.w (t := q.1) (s := q.2.1) (e := q.2.2) ha e
theorem ByT.nq (h : ByT B B' z) {lo hi : Int32} {q : Tkn} (hq : TkR B' z q) : nmQ B z q lo hi = nmQ B' z q lo hi := by
  obtain ⟨a, ha, e⟩ := hq
  exact h.n (t := q.1) (s := q.2.1) (e := q.2.2) ha e
theorem ByT.tBy (h : ByT B B' z) {c i p : Nat} {q : Tkn} {v : Vg} (hq : TkR B' z q) : byS B z c i p q v = byS B' z c i p q v := by
  have e1 := h.s hq.le
  have t1 := stp_tr hq
  have e2 := h.s t1.le
  unfold byS
  rw [h.wq hq, e1, e2, h.nq t1]
theorem ByT.tPt (h : ByT B B' z) {q : Tkn} {v : Vg} (hq : TkR B' z q) : ptW B z q v = ptW B' z q v := by
  have e1 := h.s hq.le
  have t1 := stp_tr hq
  unfold ptW
  rw [e1, h.tBy t1, h.tBy (byS_tr t1)]
theorem ByT.tOe (h : ByT B B' z) {q : Tkn} {v : Vg} {x y : Int32} (hq : TkR B' z q) : oneE B z q v x y = oneE B' z q v x y := by
  unfold oneE
  rw [h.wq hq, h.s hq.le]
theorem ByT.tOa (h : ByT B B' z) {q : Tkn} {v : Vg} {x : Int32} (hq : TkR B' z q) : oneA B z q v x = oneA B' z q v x := by
  have t1 := stp_tr hq
  have t2 := stp_tr t1
  unfold oneA
  rw [h.wq hq, h.s hq.le, h.s t1.le, h.nq t1, h.tOe t2, h.tOe hq]
theorem ByT.tOn (h : ByT B B' z) {q : Tkn} {v : Vg} (hq : TkR B' z q) : oneW B z q v = oneW B' z q v := by
  have t1 := stp_tr hq
  have t2 := stp_tr t1
  unfold oneW
  rw [h.s hq.le, h.s t1.le, h.nq t1, h.tOa t2]
theorem ByT.tGv (h : ByT B B' z) {e : Nat} {v : Vg} (he : e ≤ z) : gvW B z e v = gvW B' z e v := by
  have t1 : TkR B' z (stp B' z e) := stp_tr0 he
  have t2 := stp_tr t1
  unfold gvW gvP gvO
  rw [h.s he, h.s t1.le, h.s t2.le, h.nq t1, h.nq t2]
theorem ByT.tNd (h : ByT B B' z) {v : Vg} : ∀ (n : Nat) (q : Tkn) (nd : Int32), TkR B' z q → ndR B z v n q nd = ndR B' z v n q nd
  | 0, _, _, _ => rfl
  | n + 1, q, nd, hq => by
    have t1 := stp_tr hq
    have t2 := stp_tr t1
    simp only [ndR]
    rw [h.s hq.le, h.s t1.le, h.nq t1, h.wq t2, h.tNd n _ _ t2]
theorem ByT.tMc (h : ByT B B' z) {q : Tkn} {v : Vg} (hq : TkR B' z q) : mcW B z q v = mcW B' z q v := by
  have t1 := stp_tr hq
  have t2 := stp_tr t1
  unfold mcW mcR
  rw [h.s hq.le, h.s t1.le, h.nq t1, h.wq t2, h.tNd _ _ _ t2]
theorem ByT.tSt (h : ByT B B' z) {q : Tkn} {v : Vg} (hq : TkR B' z q) : stW B z q v = stW B' z q v := by
  unfold stW
  rw [h.wq hq, h.wq hq, h.wq hq, h.wq hq, h.tPt hq, h.tMc hq, h.tOn hq, h.tGv hq.le]
theorem ByT.tRi (h : ByT B B' z) : ∀ (f n : Nat) (q : Tkn) (v : Vg), TkR B' z q → riS B z f n q v = riS B' z f n q v
  | 0, _, _, _, _ => rfl
  | f + 1, n, q, v, hq => by
    have t1 := stW_tr (v := v) hq
    simp only [riS]
    rw [h.tSt hq, h.s t1.le, h.tRi f (n + 1) _ _ (stp_tr t1)]
/-- all read alike -/
theorem ByT.tAll (h : ByT B B' z) (v : Vg) : riS B z 250 1 (stp B z 0) v = riS B' z 250 1 (stp B' z 0) v := by
  rw [h.s (Nat.zero_le z)]
  exact h.tRi _ _ _ _ (stp_tr0 (Nat.zero_le z))
end TIE2

