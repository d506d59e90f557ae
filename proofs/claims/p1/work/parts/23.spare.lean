/-! PART 23: the class: spare -/
theorem c_worthOfDayW {l : Launch} {h : Hp} {k kv : Nat} {v : Vg} (hv : VilAt h kv v) (hd : kv + 9 ≤ k ∨ k + 4 ≤ kv)  : Ms l yX4_worthOfDay cX4_worthOfDay 2 (some .long) 4 [vr 4 k, vr 5 kv] h (xK h) (fun r h' => r = some (vl (dayC v)) ∧ (∀ s, s < 2 ^ vN v → xL h' (k + 1) s = wgt v s (vN v)) ∧ Fr (k + 1) (k + 3) h h') := by
  refine Ms.of (by decide) (Nat.le_of_ble_eq_true rfl) (fun G C X F => ?_)
  have C : Cx G cX4_worthOfDay 2 RX4 := C
  show Rr G 0 [(0, vr 4 k), (1, vr 5 kv)] [] h
  have bN := hv.bN
  have p8 := pow8 bN
  refine r_aload_n C (dx dX4_worthOfDay 0 rfl) rfl ?_
  refine r_aload_n C (dx dX4_worthOfDay 1 rfl) rfl ?_
  refine r_cv (as := [vr 5 kv]) (st := []) C X I_X4_weigh l_X4_39 (c_X4_weigh hv hd) (by decide) (Nat.le_of_ble_eq_true rfl) List.prefix_rfl List.prefix_rfl rfl rfl (Nat.le_of_ble_eq_true rfl) rfl (dx dX4_worthOfDay 2 rfl) ?_
  intro rh1 h1 hph1 kkh1
  obtain ⟨rfl, qh1, gh1⟩ := hph1
  have fh1 : Fr (k + 1) (k + 3) h h1 := (gh1.mono (by omega) (by omega))
  have kh1 : xK h1 = xK h := kkh1
  have uh1 : VilAt h1 kv v := hv.fr fh1 (by omega)
  refine r_aload_n C (dx dX4_worthOfDay 3 rfl) rfl ?_
  refine r_aload_n C (dx dX4_worthOfDay 4 rfl) rfl ?_
  refine r_cv (as := [vr 5 kv]) (st := []) C X I_X4_worthAsWeighed l_X4_58 (c_X4_worthAsWeighed uh1 hd qh1) (by decide) (Nat.le_of_ble_eq_true rfl) List.prefix_rfl (pfx_eq kh1) rfl rfl (Nat.le_of_ble_eq_true rfl) rfl (dx dX4_worthOfDay 5 rfl) ?_
  intro rh2 h2 hph2 kkh2
  obtain ⟨rfl, gh2⟩ := hph2
  have fh2 : Fr (k + 1) (k + 3) h h2 := fh1.tr (gh2.mono (by omega) (by omega))
  have kh2 : xK h2 = xK h := kkh2.trans kh1
  exact F.2.1 _ _ _ _ rfl (dx dX4_worthOfDay 6 rfl) kh2 ⟨rfl, fun s hs => (gh2.L (by omega) s).trans (qh1 s hs), fh2⟩
/-- the village tried differs in its pieces alone, and it is weighed -/
def SpI (v u : Vg) (h : Hp) : Prop := vN u = vN v ∧ (∀ i, vF u 5 i = vF v 5 i) ∧ (∀ i, vF u 6 i = vF v 6 i) ∧ ∀ s, s < 2 ^ vN v → xL h (28 + 1) s = wgt v s (vN v)
theorem SpI.st {v u : Vg} {h : Hp} {a c j i : Nat} {x y : Int32} (q : SpI v u h) (hc : c < 2) : SpI v (vset u c i x) (sI h a j y) :=
  ⟨q.1, fun i9 => by rw [← q.2.1 i9]; simp [vset, vF, show ¬ 5 = c by omega], fun i9 => by rw [← q.2.2.1 i9]; simp [vset, vF, show ¬ 6 = c by omega], fun s hs => q.2.2.2 s hs⟩
theorem SpI.fr {v u : Vg} {h h1 : Hp} (q : SpI v u h) (f : Fr (28 + 2) (28 + 3) h h1) : SpI v u h1 := ⟨q.1, q.2.1, q.2.2.1, fun s hs => (f.L (by omega) s).trans (q.2.2.2 s hs)⟩
theorem SpI.w {v u : Vg} {h : Hp} (q : SpI v u h) : ∀ s, s < 2 ^ vN u → xL h (28 + 1) s = wgt u s (vN u) := fun s hs => by
  rw [wgt_c q.2.1 q.2.2.1, q.1]; exact q.2.2.2 s (by rw [← q.1]; exact hs)
