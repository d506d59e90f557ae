/-! PART 57o: the reference's search, exactly -/
def AcA (h : Hp) (k : Nat) (v : Vg) (a : Int64 × (Nat → Int32)) : Prop := xL h k 31 = a.1 ∧ ∀ i, i < vP v → xI h (k + 31) i = a.2 i
theorem AcA.to {h h1 : Hp} {k : Nat} {v : Vg} {a : Int64 × (Nat → Int32)} (A : AcA h k v a) (e1 : xL h1 k = xL h k) (e2 : xI h1 (k + 31) = xI h (k + 31)) : AcA h1 k v a :=
  ⟨by rw [e1]; exact A.1, fun i hi => by rw [e2]; exact A.2 i hi⟩
