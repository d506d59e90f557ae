/-! PART 57: the reference, exactly: what tries a village on another model -/
def MxF (l : Launch) (y : MethodName) (cc : ByteArray) (nL : Nat) (ret : Option FieldType) (d : Nat) (as : List V) (h : Hp) (P : List Nat) (k : Nat) (v : Vg) (g : Sg) (z : Nat) (κ : Bool) (ω : Vg) (Bt : Nat → Int32) (Q : Option V → Prop) : Prop :=
  ∃ τ, xK h <+: AL P κ τ ∧ Ms l y cc nL ret d as h (AL P κ τ) (fun r h' => Q r ∧ Md h' P k v g z κ τ ∧ Lo k h h' ∧ XT h' k κ ω Bt)
section MXF
variable {l : Launch} {y : MethodName} {cc : ByteArray} {nL : Nat} {ret : Option FieldType} {d : Nat} {as : List V} {h : Hp} {P : List Nat} {k z z' : Nat} {v v' ω ω' : Vg} {g g' : Sg} {κ τ : Bool} {Bt Bt' : Nat → Int32} {Q : Option V → Prop}
theorem MxF.kp (M : Md h P k v g z κ τ) (x0 : XT h k κ ω Bt) (c : Ms l y cc nL ret d as h (xK h) (fun r h' => Q r ∧ MilAt h' k v' ∧ Kp k h h')) : MxF l y cc nL ret d as h P k v' g z κ ω Bt Q :=
  ⟨τ, by rw [M.al]; exact List.prefix_rfl, by rw [← M.al]; exact c.mono (fun r h' ⟨q, m', kp⟩ e => ⟨q, M.kp m' kp e, Lo.fr (Fr.vc kp) (Nat.le_refl _), x0.kp M kp⟩)⟩
theorem MxF.kt (M : Md h P k v g z κ τ) (x0 : XT h k κ ω Bt) (c : Ms l y cc nL ret d as h (xK h) (fun r h' => Q r ∧ MilAt h' k v' ∧ MshAt h' k g' ∧ Kt k h h')) : MxF l y cc nL ret d as h P k v' g' z κ ω Bt Q :=
  ⟨τ, by rw [M.al]; exact List.prefix_rfl, by rw [← M.al]; exact c.mono (fun r h' ⟨q, m', s, kp⟩ e => ⟨q, M.gen m' s (kp.1.1.trans M.e8) M.bz kp.1.2.1 kp.1.2.2 e, Lo.fr kp.1.2.2 (Nat.le_refl _), x0.kt M kp⟩)⟩
theorem MxF.md (M : Md h P k v g z κ τ) (c : Ms l y cc nL ret d as h (AL P κ true) (fun r h' => Q r ∧ Md h' P k v' g' z' κ true ∧ Lo k h h' ∧ XT h' k κ ω' Bt')) : MxF l y cc nL ret d as h P k v' g' z' κ ω' Bt' Q :=
  ⟨true, by rw [M.al]; exact AL_pre id (fun _ => rfl), c⟩
theorem MxF.sm (M : Md h P k v g z κ τ) (c : Ms l y cc nL ret d as h (xK h) (fun r h' => Q r ∧ Md h' P k v' g' z' κ τ ∧ Lo k h h' ∧ XT h' k κ ω' Bt')) : MxF l y cc nL ret d as h P k v' g' z' κ ω' Bt' Q :=
  ⟨τ, by rw [M.al]; exact List.prefix_rfl, by rw [← M.al]; exact c⟩
end MXF
