/-! PART 03: the instructions of each method -/
abbrev U1 (c : ByteArray) (p : Nat) : Except DecodeError (Nat × Nat) := Reader.u1 (ε := DecodeError) c p
theorem u1_ok {c : ByteArray} {p : Nat} {x : UInt8} (h : c.data.toList[p]? = some x) : U1 c p = .ok (x.toNat, p + 1) := by
  obtain ⟨hl, hx⟩ := List.getElem?_eq_some_iff.mp h
  have hs : p < c.size := by rw [Array.length_toList] at hl; exact hl
  have e : c[p] = x := by rw [← hx]; rfl
  show (dite (p < c.size) (fun h => (do set (p + 1); pure c[p].toNat : Reader DecodeError Nat)) (fun _ => throw (HasTruncated.truncated p))) c p = _
  rw [dif_pos hs]
  show Except.ok (c[p].toNat, p + 1) = _
  rw [e]
section DEC
variable {c : ByteArray} {p a b : Nat}
theorem u2_ok (h1 : U1 c p = .ok (a, p + 1)) (h2 : U1 c (p + 1) = .ok (b, p + 1 + 1)) : Reader.u2 (ε := DecodeError) c p = .ok (a * 256 + b, p + 1 + 1) := by
  show Except.bind (U1 c p) _ = _
  rw [h1]
  show Except.bind (U1 c (p + 1)) _ = _
  rw [h2]
  rfl
theorem s1_ok (h1 : U1 c p = .ok (a, p + 1)) : Reader.s1 (ε := DecodeError) c p = .ok (Reader.signed 8 a, p + 1) := by
  show Except.bind (U1 c p) _ = _
  rw [h1]
  rfl
theorem s2_ok (h1 : U1 c p = .ok (a, p + 1)) (h2 : U1 c (p + 1) = .ok (b, p + 1 + 1)) : Reader.s2 (ε := DecodeError) c p = .ok (Reader.signed 16 (a * 256 + b), p + 1 + 1) := by
  show Except.bind (Reader.u2 (ε := DecodeError) c p) _ = _
  rw [u2_ok h1 h2]
  rfl
theorem D1 (h : U1 c p = .ok (1, p + 1)) : decode c p = .ok (.aconst_null, 1) := by
  show Except.bind (Except.bind (U1 c p) _) _ = _
  rw [h]
  show Except.ok (_, p + 1 - p) = _
  rw [Nat.add_sub_cancel_left]
theorem D2 (h : U1 c p = .ok (2, p + 1)) : decode c p = .ok (.iconst (-1), 1) := by
  show Except.bind (Except.bind (U1 c p) _) _ = _
  rw [h]
  show Except.ok (_, p + 1 - p) = _
  rw [Nat.add_sub_cancel_left]
theorem D3 (h : U1 c p = .ok (3, p + 1)) : decode c p = .ok (.iconst 0, 1) := by
  show Except.bind (Except.bind (U1 c p) _) _ = _
  rw [h]
  show Except.ok (_, p + 1 - p) = _
  rw [Nat.add_sub_cancel_left]
theorem D4 (h : U1 c p = .ok (4, p + 1)) : decode c p = .ok (.iconst 1, 1) := by
  show Except.bind (Except.bind (U1 c p) _) _ = _
  rw [h]
  show Except.ok (_, p + 1 - p) = _
  rw [Nat.add_sub_cancel_left]
theorem D5 (h : U1 c p = .ok (5, p + 1)) : decode c p = .ok (.iconst 2, 1) := by
  show Except.bind (Except.bind (U1 c p) _) _ = _
  rw [h]
  show Except.ok (_, p + 1 - p) = _
  rw [Nat.add_sub_cancel_left]
theorem D6 (h : U1 c p = .ok (6, p + 1)) : decode c p = .ok (.iconst 3, 1) := by
  show Except.bind (Except.bind (U1 c p) _) _ = _
  rw [h]
  show Except.ok (_, p + 1 - p) = _
  rw [Nat.add_sub_cancel_left]
theorem D7 (h : U1 c p = .ok (7, p + 1)) : decode c p = .ok (.iconst 4, 1) := by
  show Except.bind (Except.bind (U1 c p) _) _ = _
  rw [h]
  show Except.ok (_, p + 1 - p) = _
  rw [Nat.add_sub_cancel_left]
theorem D8 (h : U1 c p = .ok (8, p + 1)) : decode c p = .ok (.iconst 5, 1) := by
  show Except.bind (Except.bind (U1 c p) _) _ = _
  rw [h]
  show Except.ok (_, p + 1 - p) = _
  rw [Nat.add_sub_cancel_left]
theorem D9 (h : U1 c p = .ok (9, p + 1)) : decode c p = .ok (.lconst 0, 1) := by
  show Except.bind (Except.bind (U1 c p) _) _ = _
  rw [h]
  show Except.ok (_, p + 1 - p) = _
  rw [Nat.add_sub_cancel_left]
theorem D10 (h : U1 c p = .ok (10, p + 1)) : decode c p = .ok (.lconst 1, 1) := by
  show Except.bind (Except.bind (U1 c p) _) _ = _
  rw [h]
  show Except.ok (_, p + 1 - p) = _
  rw [Nat.add_sub_cancel_left]
theorem D26 (h : U1 c p = .ok (26, p + 1)) : decode c p = .ok (.iload_n 0, 1) := by
  show Except.bind (Except.bind (U1 c p) _) _ = _
  rw [h]
  show Except.ok (_, p + 1 - p) = _
  rw [Nat.add_sub_cancel_left]
theorem D27 (h : U1 c p = .ok (27, p + 1)) : decode c p = .ok (.iload_n 1, 1) := by
  show Except.bind (Except.bind (U1 c p) _) _ = _
  rw [h]
  show Except.ok (_, p + 1 - p) = _
  rw [Nat.add_sub_cancel_left]
theorem D28 (h : U1 c p = .ok (28, p + 1)) : decode c p = .ok (.iload_n 2, 1) := by
  show Except.bind (Except.bind (U1 c p) _) _ = _
  rw [h]
  show Except.ok (_, p + 1 - p) = _
  rw [Nat.add_sub_cancel_left]
theorem D29 (h : U1 c p = .ok (29, p + 1)) : decode c p = .ok (.iload_n 3, 1) := by
  show Except.bind (Except.bind (U1 c p) _) _ = _
  rw [h]
  show Except.ok (_, p + 1 - p) = _
  rw [Nat.add_sub_cancel_left]
theorem D30 (h : U1 c p = .ok (30, p + 1)) : decode c p = .ok (.lload_n 0, 1) := by
  show Except.bind (Except.bind (U1 c p) _) _ = _
  rw [h]
  show Except.ok (_, p + 1 - p) = _
  rw [Nat.add_sub_cancel_left]
theorem D31 (h : U1 c p = .ok (31, p + 1)) : decode c p = .ok (.lload_n 1, 1) := by
  show Except.bind (Except.bind (U1 c p) _) _ = _
  rw [h]
  show Except.ok (_, p + 1 - p) = _
  rw [Nat.add_sub_cancel_left]
theorem D32 (h : U1 c p = .ok (32, p + 1)) : decode c p = .ok (.lload_n 2, 1) := by
  show Except.bind (Except.bind (U1 c p) _) _ = _
  rw [h]
  show Except.ok (_, p + 1 - p) = _
  rw [Nat.add_sub_cancel_left]
theorem D33 (h : U1 c p = .ok (33, p + 1)) : decode c p = .ok (.lload_n 3, 1) := by
  show Except.bind (Except.bind (U1 c p) _) _ = _
  rw [h]
  show Except.ok (_, p + 1 - p) = _
  rw [Nat.add_sub_cancel_left]
theorem D42 (h : U1 c p = .ok (42, p + 1)) : decode c p = .ok (.aload_n 0, 1) := by
  show Except.bind (Except.bind (U1 c p) _) _ = _
  rw [h]
  show Except.ok (_, p + 1 - p) = _
  rw [Nat.add_sub_cancel_left]
theorem D43 (h : U1 c p = .ok (43, p + 1)) : decode c p = .ok (.aload_n 1, 1) := by
  show Except.bind (Except.bind (U1 c p) _) _ = _
  rw [h]
  show Except.ok (_, p + 1 - p) = _
  rw [Nat.add_sub_cancel_left]
theorem D44 (h : U1 c p = .ok (44, p + 1)) : decode c p = .ok (.aload_n 2, 1) := by
  show Except.bind (Except.bind (U1 c p) _) _ = _
  rw [h]
  show Except.ok (_, p + 1 - p) = _
  rw [Nat.add_sub_cancel_left]
theorem D45 (h : U1 c p = .ok (45, p + 1)) : decode c p = .ok (.aload_n 3, 1) := by
  show Except.bind (Except.bind (U1 c p) _) _ = _
  rw [h]
  show Except.ok (_, p + 1 - p) = _
  rw [Nat.add_sub_cancel_left]
theorem D59 (h : U1 c p = .ok (59, p + 1)) : decode c p = .ok (.istore_n 0, 1) := by
  show Except.bind (Except.bind (U1 c p) _) _ = _
  rw [h]
  show Except.ok (_, p + 1 - p) = _
  rw [Nat.add_sub_cancel_left]
theorem D60 (h : U1 c p = .ok (60, p + 1)) : decode c p = .ok (.istore_n 1, 1) := by
  show Except.bind (Except.bind (U1 c p) _) _ = _
  rw [h]
  show Except.ok (_, p + 1 - p) = _
  rw [Nat.add_sub_cancel_left]
theorem D61 (h : U1 c p = .ok (61, p + 1)) : decode c p = .ok (.istore_n 2, 1) := by
  show Except.bind (Except.bind (U1 c p) _) _ = _
  rw [h]
  show Except.ok (_, p + 1 - p) = _
  rw [Nat.add_sub_cancel_left]
theorem D62 (h : U1 c p = .ok (62, p + 1)) : decode c p = .ok (.istore_n 3, 1) := by
  show Except.bind (Except.bind (U1 c p) _) _ = _
  rw [h]
  show Except.ok (_, p + 1 - p) = _
  rw [Nat.add_sub_cancel_left]
theorem D63 (h : U1 c p = .ok (63, p + 1)) : decode c p = .ok (.lstore_n 0, 1) := by
  show Except.bind (Except.bind (U1 c p) _) _ = _
  rw [h]
  show Except.ok (_, p + 1 - p) = _
  rw [Nat.add_sub_cancel_left]
theorem D64 (h : U1 c p = .ok (64, p + 1)) : decode c p = .ok (.lstore_n 1, 1) := by
  show Except.bind (Except.bind (U1 c p) _) _ = _
  rw [h]
  show Except.ok (_, p + 1 - p) = _
  rw [Nat.add_sub_cancel_left]
theorem D65 (h : U1 c p = .ok (65, p + 1)) : decode c p = .ok (.lstore_n 2, 1) := by
  show Except.bind (Except.bind (U1 c p) _) _ = _
  rw [h]
  show Except.ok (_, p + 1 - p) = _
  rw [Nat.add_sub_cancel_left]
theorem D66 (h : U1 c p = .ok (66, p + 1)) : decode c p = .ok (.lstore_n 3, 1) := by
  show Except.bind (Except.bind (U1 c p) _) _ = _
  rw [h]
  show Except.ok (_, p + 1 - p) = _
  rw [Nat.add_sub_cancel_left]
theorem D75 (h : U1 c p = .ok (75, p + 1)) : decode c p = .ok (.astore_n 0, 1) := by
  show Except.bind (Except.bind (U1 c p) _) _ = _
  rw [h]
  show Except.ok (_, p + 1 - p) = _
  rw [Nat.add_sub_cancel_left]
theorem D76 (h : U1 c p = .ok (76, p + 1)) : decode c p = .ok (.astore_n 1, 1) := by
  show Except.bind (Except.bind (U1 c p) _) _ = _
  rw [h]
  show Except.ok (_, p + 1 - p) = _
  rw [Nat.add_sub_cancel_left]
theorem D77 (h : U1 c p = .ok (77, p + 1)) : decode c p = .ok (.astore_n 2, 1) := by
  show Except.bind (Except.bind (U1 c p) _) _ = _
  rw [h]
  show Except.ok (_, p + 1 - p) = _
  rw [Nat.add_sub_cancel_left]
theorem D78 (h : U1 c p = .ok (78, p + 1)) : decode c p = .ok (.astore_n 3, 1) := by
  show Except.bind (Except.bind (U1 c p) _) _ = _
  rw [h]
  show Except.ok (_, p + 1 - p) = _
  rw [Nat.add_sub_cancel_left]
theorem D46 (h : U1 c p = .ok (46, p + 1)) : decode c p = .ok (.iaload, 1) := by
  show Except.bind (Except.bind (U1 c p) _) _ = _
  rw [h]
  show Except.ok (_, p + 1 - p) = _
  rw [Nat.add_sub_cancel_left]
theorem D47 (h : U1 c p = .ok (47, p + 1)) : decode c p = .ok (.laload, 1) := by
  show Except.bind (Except.bind (U1 c p) _) _ = _
  rw [h]
  show Except.ok (_, p + 1 - p) = _
  rw [Nat.add_sub_cancel_left]
theorem D50 (h : U1 c p = .ok (50, p + 1)) : decode c p = .ok (.aaload, 1) := by
  show Except.bind (Except.bind (U1 c p) _) _ = _
  rw [h]
  show Except.ok (_, p + 1 - p) = _
  rw [Nat.add_sub_cancel_left]
theorem D51 (h : U1 c p = .ok (51, p + 1)) : decode c p = .ok (.baload, 1) := by
  show Except.bind (Except.bind (U1 c p) _) _ = _
  rw [h]
  show Except.ok (_, p + 1 - p) = _
  rw [Nat.add_sub_cancel_left]
theorem D79 (h : U1 c p = .ok (79, p + 1)) : decode c p = .ok (.iastore, 1) := by
  show Except.bind (Except.bind (U1 c p) _) _ = _
  rw [h]
  show Except.ok (_, p + 1 - p) = _
  rw [Nat.add_sub_cancel_left]
theorem D80 (h : U1 c p = .ok (80, p + 1)) : decode c p = .ok (.lastore, 1) := by
  show Except.bind (Except.bind (U1 c p) _) _ = _
  rw [h]
  show Except.ok (_, p + 1 - p) = _
  rw [Nat.add_sub_cancel_left]
theorem D84 (h : U1 c p = .ok (84, p + 1)) : decode c p = .ok (.bastore, 1) := by
  show Except.bind (Except.bind (U1 c p) _) _ = _
  rw [h]
  show Except.ok (_, p + 1 - p) = _
  rw [Nat.add_sub_cancel_left]
theorem D87 (h : U1 c p = .ok (87, p + 1)) : decode c p = .ok (.pop, 1) := by
  show Except.bind (Except.bind (U1 c p) _) _ = _
  rw [h]
  show Except.ok (_, p + 1 - p) = _
  rw [Nat.add_sub_cancel_left]
theorem D88 (h : U1 c p = .ok (88, p + 1)) : decode c p = .ok (.pop2, 1) := by
  show Except.bind (Except.bind (U1 c p) _) _ = _
  rw [h]
  show Except.ok (_, p + 1 - p) = _
  rw [Nat.add_sub_cancel_left]
theorem D89 (h : U1 c p = .ok (89, p + 1)) : decode c p = .ok (.dup, 1) := by
  show Except.bind (Except.bind (U1 c p) _) _ = _
  rw [h]
  show Except.ok (_, p + 1 - p) = _
  rw [Nat.add_sub_cancel_left]
theorem D90 (h : U1 c p = .ok (90, p + 1)) : decode c p = .ok (.dup_x1, 1) := by
  show Except.bind (Except.bind (U1 c p) _) _ = _
  rw [h]
  show Except.ok (_, p + 1 - p) = _
  rw [Nat.add_sub_cancel_left]
theorem D92 (h : U1 c p = .ok (92, p + 1)) : decode c p = .ok (.dup2, 1) := by
  show Except.bind (Except.bind (U1 c p) _) _ = _
  rw [h]
  show Except.ok (_, p + 1 - p) = _
  rw [Nat.add_sub_cancel_left]
theorem D96 (h : U1 c p = .ok (96, p + 1)) : decode c p = .ok (.iadd, 1) := by
  show Except.bind (Except.bind (U1 c p) _) _ = _
  rw [h]
  show Except.ok (_, p + 1 - p) = _
  rw [Nat.add_sub_cancel_left]
theorem D97 (h : U1 c p = .ok (97, p + 1)) : decode c p = .ok (.ladd, 1) := by
  show Except.bind (Except.bind (U1 c p) _) _ = _
  rw [h]
  show Except.ok (_, p + 1 - p) = _
  rw [Nat.add_sub_cancel_left]
theorem D100 (h : U1 c p = .ok (100, p + 1)) : decode c p = .ok (.isub, 1) := by
  show Except.bind (Except.bind (U1 c p) _) _ = _
  rw [h]
  show Except.ok (_, p + 1 - p) = _
  rw [Nat.add_sub_cancel_left]
theorem D101 (h : U1 c p = .ok (101, p + 1)) : decode c p = .ok (.lsub, 1) := by
  show Except.bind (Except.bind (U1 c p) _) _ = _
  rw [h]
  show Except.ok (_, p + 1 - p) = _
  rw [Nat.add_sub_cancel_left]
theorem D104 (h : U1 c p = .ok (104, p + 1)) : decode c p = .ok (.imul, 1) := by
  show Except.bind (Except.bind (U1 c p) _) _ = _
  rw [h]
  show Except.ok (_, p + 1 - p) = _
  rw [Nat.add_sub_cancel_left]
theorem D105 (h : U1 c p = .ok (105, p + 1)) : decode c p = .ok (.lmul, 1) := by
  show Except.bind (Except.bind (U1 c p) _) _ = _
  rw [h]
  show Except.ok (_, p + 1 - p) = _
  rw [Nat.add_sub_cancel_left]
theorem D112 (h : U1 c p = .ok (112, p + 1)) : decode c p = .ok (.irem, 1) := by
  show Except.bind (Except.bind (U1 c p) _) _ = _
  rw [h]
  show Except.ok (_, p + 1 - p) = _
  rw [Nat.add_sub_cancel_left]
theorem D116 (h : U1 c p = .ok (116, p + 1)) : decode c p = .ok (.ineg, 1) := by
  show Except.bind (Except.bind (U1 c p) _) _ = _
  rw [h]
  show Except.ok (_, p + 1 - p) = _
  rw [Nat.add_sub_cancel_left]
theorem D120 (h : U1 c p = .ok (120, p + 1)) : decode c p = .ok (.ishl, 1) := by
  show Except.bind (Except.bind (U1 c p) _) _ = _
  rw [h]
  show Except.ok (_, p + 1 - p) = _
  rw [Nat.add_sub_cancel_left]
theorem D121 (h : U1 c p = .ok (121, p + 1)) : decode c p = .ok (.lshl, 1) := by
  show Except.bind (Except.bind (U1 c p) _) _ = _
  rw [h]
  show Except.ok (_, p + 1 - p) = _
  rw [Nat.add_sub_cancel_left]
theorem D122 (h : U1 c p = .ok (122, p + 1)) : decode c p = .ok (.ishr, 1) := by
  show Except.bind (Except.bind (U1 c p) _) _ = _
  rw [h]
  show Except.ok (_, p + 1 - p) = _
  rw [Nat.add_sub_cancel_left]
theorem D124 (h : U1 c p = .ok (124, p + 1)) : decode c p = .ok (.iushr, 1) := by
  show Except.bind (Except.bind (U1 c p) _) _ = _
  rw [h]
  show Except.ok (_, p + 1 - p) = _
  rw [Nat.add_sub_cancel_left]
theorem D126 (h : U1 c p = .ok (126, p + 1)) : decode c p = .ok (.iand, 1) := by
  show Except.bind (Except.bind (U1 c p) _) _ = _
  rw [h]
  show Except.ok (_, p + 1 - p) = _
  rw [Nat.add_sub_cancel_left]
theorem D127 (h : U1 c p = .ok (127, p + 1)) : decode c p = .ok (.land, 1) := by
  show Except.bind (Except.bind (U1 c p) _) _ = _
  rw [h]
  show Except.ok (_, p + 1 - p) = _
  rw [Nat.add_sub_cancel_left]
theorem D128 (h : U1 c p = .ok (128, p + 1)) : decode c p = .ok (.ior, 1) := by
  show Except.bind (Except.bind (U1 c p) _) _ = _
  rw [h]
  show Except.ok (_, p + 1 - p) = _
  rw [Nat.add_sub_cancel_left]
theorem D129 (h : U1 c p = .ok (129, p + 1)) : decode c p = .ok (.lor, 1) := by
  show Except.bind (Except.bind (U1 c p) _) _ = _
  rw [h]
  show Except.ok (_, p + 1 - p) = _
  rw [Nat.add_sub_cancel_left]
theorem D130 (h : U1 c p = .ok (130, p + 1)) : decode c p = .ok (.ixor, 1) := by
  show Except.bind (Except.bind (U1 c p) _) _ = _
  rw [h]
  show Except.ok (_, p + 1 - p) = _
  rw [Nat.add_sub_cancel_left]
theorem D133 (h : U1 c p = .ok (133, p + 1)) : decode c p = .ok (.i2l, 1) := by
  show Except.bind (Except.bind (U1 c p) _) _ = _
  rw [h]
  show Except.ok (_, p + 1 - p) = _
  rw [Nat.add_sub_cancel_left]
theorem D136 (h : U1 c p = .ok (136, p + 1)) : decode c p = .ok (.l2i, 1) := by
  show Except.bind (Except.bind (U1 c p) _) _ = _
  rw [h]
  show Except.ok (_, p + 1 - p) = _
  rw [Nat.add_sub_cancel_left]
theorem D145 (h : U1 c p = .ok (145, p + 1)) : decode c p = .ok (.i2b, 1) := by
  show Except.bind (Except.bind (U1 c p) _) _ = _
  rw [h]
  show Except.ok (_, p + 1 - p) = _
  rw [Nat.add_sub_cancel_left]
theorem D146 (h : U1 c p = .ok (146, p + 1)) : decode c p = .ok (.i2c, 1) := by
  show Except.bind (Except.bind (U1 c p) _) _ = _
  rw [h]
  show Except.ok (_, p + 1 - p) = _
  rw [Nat.add_sub_cancel_left]
theorem D147 (h : U1 c p = .ok (147, p + 1)) : decode c p = .ok (.i2s, 1) := by
  show Except.bind (Except.bind (U1 c p) _) _ = _
  rw [h]
  show Except.ok (_, p + 1 - p) = _
  rw [Nat.add_sub_cancel_left]
theorem D148 (h : U1 c p = .ok (148, p + 1)) : decode c p = .ok (.lcmp, 1) := by
  show Except.bind (Except.bind (U1 c p) _) _ = _
  rw [h]
  show Except.ok (_, p + 1 - p) = _
  rw [Nat.add_sub_cancel_left]
theorem D172 (h : U1 c p = .ok (172, p + 1)) : decode c p = .ok (.ireturn, 1) := by
  show Except.bind (Except.bind (U1 c p) _) _ = _
  rw [h]
  show Except.ok (_, p + 1 - p) = _
  rw [Nat.add_sub_cancel_left]
theorem D173 (h : U1 c p = .ok (173, p + 1)) : decode c p = .ok (.lreturn, 1) := by
  show Except.bind (Except.bind (U1 c p) _) _ = _
  rw [h]
  show Except.ok (_, p + 1 - p) = _
  rw [Nat.add_sub_cancel_left]
theorem D176 (h : U1 c p = .ok (176, p + 1)) : decode c p = .ok (.areturn, 1) := by
  show Except.bind (Except.bind (U1 c p) _) _ = _
  rw [h]
  show Except.ok (_, p + 1 - p) = _
  rw [Nat.add_sub_cancel_left]
theorem D177 (h : U1 c p = .ok (177, p + 1)) : decode c p = .ok (.return_, 1) := by
  show Except.bind (Except.bind (U1 c p) _) _ = _
  rw [h]
  show Except.ok (_, p + 1 - p) = _
  rw [Nat.add_sub_cancel_left]
theorem D190 (h : U1 c p = .ok (190, p + 1)) : decode c p = .ok (.arraylength, 1) := by
  show Except.bind (Except.bind (U1 c p) _) _ = _
  rw [h]
  show Except.ok (_, p + 1 - p) = _
  rw [Nat.add_sub_cancel_left]
theorem D191 (h : U1 c p = .ok (191, p + 1)) : decode c p = .ok (.athrow, 1) := by
  show Except.bind (Except.bind (U1 c p) _) _ = _
  rw [h]
  show Except.ok (_, p + 1 - p) = _
  rw [Nat.add_sub_cancel_left]
theorem D18 (h : U1 c p = .ok (18, p + 1)) (h1 : U1 c (p + 1) = .ok (a, p + 1 + 1)) : decode c p = .ok (.ldc a, 2) := by
  show Except.bind (Except.bind (U1 c p) _) _ = _
  rw [h]
  show Except.bind (Except.bind (U1 c (p + 1)) _) _ = _
  rw [h1]
  show Except.ok (_, p + 1 + 1 - p) = _
  rw [show p + 1 + 1 - p = 2 by omega]
theorem D21 (h : U1 c p = .ok (21, p + 1)) (h1 : U1 c (p + 1) = .ok (a, p + 1 + 1)) : decode c p = .ok (.iload a, 2) := by
  show Except.bind (Except.bind (U1 c p) _) _ = _
  rw [h]
  show Except.bind (Except.bind (U1 c (p + 1)) _) _ = _
  rw [h1]
  show Except.ok (_, p + 1 + 1 - p) = _
  rw [show p + 1 + 1 - p = 2 by omega]
theorem D22 (h : U1 c p = .ok (22, p + 1)) (h1 : U1 c (p + 1) = .ok (a, p + 1 + 1)) : decode c p = .ok (.lload a, 2) := by
  show Except.bind (Except.bind (U1 c p) _) _ = _
  rw [h]
  show Except.bind (Except.bind (U1 c (p + 1)) _) _ = _
  rw [h1]
  show Except.ok (_, p + 1 + 1 - p) = _
  rw [show p + 1 + 1 - p = 2 by omega]
theorem D25 (h : U1 c p = .ok (25, p + 1)) (h1 : U1 c (p + 1) = .ok (a, p + 1 + 1)) : decode c p = .ok (.aload a, 2) := by
  show Except.bind (Except.bind (U1 c p) _) _ = _
  rw [h]
  show Except.bind (Except.bind (U1 c (p + 1)) _) _ = _
  rw [h1]
  show Except.ok (_, p + 1 + 1 - p) = _
  rw [show p + 1 + 1 - p = 2 by omega]
theorem D54 (h : U1 c p = .ok (54, p + 1)) (h1 : U1 c (p + 1) = .ok (a, p + 1 + 1)) : decode c p = .ok (.istore a, 2) := by
  show Except.bind (Except.bind (U1 c p) _) _ = _
  rw [h]
  show Except.bind (Except.bind (U1 c (p + 1)) _) _ = _
  rw [h1]
  show Except.ok (_, p + 1 + 1 - p) = _
  rw [show p + 1 + 1 - p = 2 by omega]
theorem D55 (h : U1 c p = .ok (55, p + 1)) (h1 : U1 c (p + 1) = .ok (a, p + 1 + 1)) : decode c p = .ok (.lstore a, 2) := by
  show Except.bind (Except.bind (U1 c p) _) _ = _
  rw [h]
  show Except.bind (Except.bind (U1 c (p + 1)) _) _ = _
  rw [h1]
  show Except.ok (_, p + 1 + 1 - p) = _
  rw [show p + 1 + 1 - p = 2 by omega]
theorem D58 (h : U1 c p = .ok (58, p + 1)) (h1 : U1 c (p + 1) = .ok (a, p + 1 + 1)) : decode c p = .ok (.astore a, 2) := by
  show Except.bind (Except.bind (U1 c p) _) _ = _
  rw [h]
  show Except.bind (Except.bind (U1 c (p + 1)) _) _ = _
  rw [h1]
  show Except.ok (_, p + 1 + 1 - p) = _
  rw [show p + 1 + 1 - p = 2 by omega]
theorem D16 (h : U1 c p = .ok (16, p + 1)) (h1 : U1 c (p + 1) = .ok (a, p + 1 + 1)) : decode c p = .ok (.bipush (Reader.signed 8 a), 2) := by
  show Except.bind (Except.bind (U1 c p) _) _ = _
  rw [h]
  show Except.bind (Except.bind (Reader.s1 (ε := DecodeError) c (p + 1)) _) _ = _
  rw [s1_ok h1]
  show Except.ok (_, p + 1 + 1 - p) = _
  rw [show p + 1 + 1 - p = 2 by omega]
theorem D180 (h : U1 c p = .ok (180, p + 1)) (h1 : U1 c (p + 1) = .ok (a, p + 1 + 1)) (h2 : U1 c (p + 1 + 1) = .ok (b, p + 1 + 1 + 1)) : decode c p = .ok (.getfield (a * 256 + b), 3) := by
  show Except.bind (Except.bind (U1 c p) _) _ = _
  rw [h]
  show Except.bind (Except.bind (Reader.u2 (ε := DecodeError) c (p + 1)) _) _ = _
  rw [u2_ok h1 h2]
  show Except.ok (_, p + 1 + 1 + 1 - p) = _
  rw [show p + 1 + 1 + 1 - p = 3 by omega]
theorem D182 (h : U1 c p = .ok (182, p + 1)) (h1 : U1 c (p + 1) = .ok (a, p + 1 + 1)) (h2 : U1 c (p + 1 + 1) = .ok (b, p + 1 + 1 + 1)) : decode c p = .ok (.invokevirtual (a * 256 + b), 3) := by
  show Except.bind (Except.bind (U1 c p) _) _ = _
  rw [h]
  show Except.bind (Except.bind (Reader.u2 (ε := DecodeError) c (p + 1)) _) _ = _
  rw [u2_ok h1 h2]
  show Except.ok (_, p + 1 + 1 + 1 - p) = _
  rw [show p + 1 + 1 + 1 - p = 3 by omega]
theorem D181 (h : U1 c p = .ok (181, p + 1)) (h1 : U1 c (p + 1) = .ok (a, p + 1 + 1)) (h2 : U1 c (p + 1 + 1) = .ok (b, p + 1 + 1 + 1)) : decode c p = .ok (.putfield (a * 256 + b), 3) := by
  show Except.bind (Except.bind (U1 c p) _) _ = _
  rw [h]
  show Except.bind (Except.bind (Reader.u2 (ε := DecodeError) c (p + 1)) _) _ = _
  rw [u2_ok h1 h2]
  show Except.ok (_, p + 1 + 1 + 1 - p) = _
  rw [show p + 1 + 1 + 1 - p = 3 by omega]
theorem D184 (h : U1 c p = .ok (184, p + 1)) (h1 : U1 c (p + 1) = .ok (a, p + 1 + 1)) (h2 : U1 c (p + 1 + 1) = .ok (b, p + 1 + 1 + 1)) : decode c p = .ok (.invokestatic (a * 256 + b), 3) := by
  show Except.bind (Except.bind (U1 c p) _) _ = _
  rw [h]
  show Except.bind (Except.bind (Reader.u2 (ε := DecodeError) c (p + 1)) _) _ = _
  rw [u2_ok h1 h2]
  show Except.ok (_, p + 1 + 1 + 1 - p) = _
  rw [show p + 1 + 1 + 1 - p = 3 by omega]
theorem D178 (h : U1 c p = .ok (178, p + 1)) (h1 : U1 c (p + 1) = .ok (a, p + 1 + 1)) (h2 : U1 c (p + 1 + 1) = .ok (b, p + 1 + 1 + 1)) : decode c p = .ok (.getstatic (a * 256 + b), 3) := by
  show Except.bind (Except.bind (U1 c p) _) _ = _
  rw [h]
  show Except.bind (Except.bind (Reader.u2 (ε := DecodeError) c (p + 1)) _) _ = _
  rw [u2_ok h1 h2]
  show Except.ok (_, p + 1 + 1 + 1 - p) = _
  rw [show p + 1 + 1 + 1 - p = 3 by omega]
theorem D183 (h : U1 c p = .ok (183, p + 1)) (h1 : U1 c (p + 1) = .ok (a, p + 1 + 1)) (h2 : U1 c (p + 1 + 1) = .ok (b, p + 1 + 1 + 1)) : decode c p = .ok (.invokespecial (a * 256 + b), 3) := by
  show Except.bind (Except.bind (U1 c p) _) _ = _
  rw [h]
  show Except.bind (Except.bind (Reader.u2 (ε := DecodeError) c (p + 1)) _) _ = _
  rw [u2_ok h1 h2]
  show Except.ok (_, p + 1 + 1 + 1 - p) = _
  rw [show p + 1 + 1 + 1 - p = 3 by omega]
theorem D187 (h : U1 c p = .ok (187, p + 1)) (h1 : U1 c (p + 1) = .ok (a, p + 1 + 1)) (h2 : U1 c (p + 1 + 1) = .ok (b, p + 1 + 1 + 1)) : decode c p = .ok (.new (a * 256 + b), 3) := by
  show Except.bind (Except.bind (U1 c p) _) _ = _
  rw [h]
  show Except.bind (Except.bind (Reader.u2 (ε := DecodeError) c (p + 1)) _) _ = _
  rw [u2_ok h1 h2]
  show Except.ok (_, p + 1 + 1 + 1 - p) = _
  rw [show p + 1 + 1 + 1 - p = 3 by omega]
theorem D20 (h : U1 c p = .ok (20, p + 1)) (h1 : U1 c (p + 1) = .ok (a, p + 1 + 1)) (h2 : U1 c (p + 1 + 1) = .ok (b, p + 1 + 1 + 1)) : decode c p = .ok (.ldc2_w (a * 256 + b), 3) := by
  show Except.bind (Except.bind (U1 c p) _) _ = _
  rw [h]
  show Except.bind (Except.bind (Reader.u2 (ε := DecodeError) c (p + 1)) _) _ = _
  rw [u2_ok h1 h2]
  show Except.ok (_, p + 1 + 1 + 1 - p) = _
  rw [show p + 1 + 1 + 1 - p = 3 by omega]
theorem D19 (h : U1 c p = .ok (19, p + 1)) (h1 : U1 c (p + 1) = .ok (a, p + 1 + 1)) (h2 : U1 c (p + 1 + 1) = .ok (b, p + 1 + 1 + 1)) : decode c p = .ok (.ldc_w (a * 256 + b), 3) := by
  show Except.bind (Except.bind (U1 c p) _) _ = _
  rw [h]
  show Except.bind (Except.bind (Reader.u2 (ε := DecodeError) c (p + 1)) _) _ = _
  rw [u2_ok h1 h2]
  show Except.ok (_, p + 1 + 1 + 1 - p) = _
  rw [show p + 1 + 1 + 1 - p = 3 by omega]
theorem D179 (h : U1 c p = .ok (179, p + 1)) (h1 : U1 c (p + 1) = .ok (a, p + 1 + 1)) (h2 : U1 c (p + 1 + 1) = .ok (b, p + 1 + 1 + 1)) : decode c p = .ok (.putstatic (a * 256 + b), 3) := by
  show Except.bind (Except.bind (U1 c p) _) _ = _
  rw [h]
  show Except.bind (Except.bind (Reader.u2 (ε := DecodeError) c (p + 1)) _) _ = _
  rw [u2_ok h1 h2]
  show Except.ok (_, p + 1 + 1 + 1 - p) = _
  rw [show p + 1 + 1 + 1 - p = 3 by omega]
theorem D153 (h : U1 c p = .ok (153, p + 1)) (h1 : U1 c (p + 1) = .ok (a, p + 1 + 1)) (h2 : U1 c (p + 1 + 1) = .ok (b, p + 1 + 1 + 1)) : decode c p = .ok (.ifCond .eq (Reader.signed 16 (a * 256 + b)), 3) := by
  show Except.bind (Except.bind (U1 c p) _) _ = _
  rw [h]
  show Except.bind (Except.bind (Reader.s2 (ε := DecodeError) c (p + 1)) _) _ = _
  rw [s2_ok h1 h2]
  show Except.ok (_, p + 1 + 1 + 1 - p) = _
  rw [show p + 1 + 1 + 1 - p = 3 by omega]
theorem D154 (h : U1 c p = .ok (154, p + 1)) (h1 : U1 c (p + 1) = .ok (a, p + 1 + 1)) (h2 : U1 c (p + 1 + 1) = .ok (b, p + 1 + 1 + 1)) : decode c p = .ok (.ifCond .ne (Reader.signed 16 (a * 256 + b)), 3) := by
  show Except.bind (Except.bind (U1 c p) _) _ = _
  rw [h]
  show Except.bind (Except.bind (Reader.s2 (ε := DecodeError) c (p + 1)) _) _ = _
  rw [s2_ok h1 h2]
  show Except.ok (_, p + 1 + 1 + 1 - p) = _
  rw [show p + 1 + 1 + 1 - p = 3 by omega]
theorem D155 (h : U1 c p = .ok (155, p + 1)) (h1 : U1 c (p + 1) = .ok (a, p + 1 + 1)) (h2 : U1 c (p + 1 + 1) = .ok (b, p + 1 + 1 + 1)) : decode c p = .ok (.ifCond .lt (Reader.signed 16 (a * 256 + b)), 3) := by
  show Except.bind (Except.bind (U1 c p) _) _ = _
  rw [h]
  show Except.bind (Except.bind (Reader.s2 (ε := DecodeError) c (p + 1)) _) _ = _
  rw [s2_ok h1 h2]
  show Except.ok (_, p + 1 + 1 + 1 - p) = _
  rw [show p + 1 + 1 + 1 - p = 3 by omega]
theorem D156 (h : U1 c p = .ok (156, p + 1)) (h1 : U1 c (p + 1) = .ok (a, p + 1 + 1)) (h2 : U1 c (p + 1 + 1) = .ok (b, p + 1 + 1 + 1)) : decode c p = .ok (.ifCond .ge (Reader.signed 16 (a * 256 + b)), 3) := by
  show Except.bind (Except.bind (U1 c p) _) _ = _
  rw [h]
  show Except.bind (Except.bind (Reader.s2 (ε := DecodeError) c (p + 1)) _) _ = _
  rw [s2_ok h1 h2]
  show Except.ok (_, p + 1 + 1 + 1 - p) = _
  rw [show p + 1 + 1 + 1 - p = 3 by omega]
theorem D157 (h : U1 c p = .ok (157, p + 1)) (h1 : U1 c (p + 1) = .ok (a, p + 1 + 1)) (h2 : U1 c (p + 1 + 1) = .ok (b, p + 1 + 1 + 1)) : decode c p = .ok (.ifCond .gt (Reader.signed 16 (a * 256 + b)), 3) := by
  show Except.bind (Except.bind (U1 c p) _) _ = _
  rw [h]
  show Except.bind (Except.bind (Reader.s2 (ε := DecodeError) c (p + 1)) _) _ = _
  rw [s2_ok h1 h2]
  show Except.ok (_, p + 1 + 1 + 1 - p) = _
  rw [show p + 1 + 1 + 1 - p = 3 by omega]
theorem D158 (h : U1 c p = .ok (158, p + 1)) (h1 : U1 c (p + 1) = .ok (a, p + 1 + 1)) (h2 : U1 c (p + 1 + 1) = .ok (b, p + 1 + 1 + 1)) : decode c p = .ok (.ifCond .le (Reader.signed 16 (a * 256 + b)), 3) := by
  show Except.bind (Except.bind (U1 c p) _) _ = _
  rw [h]
  show Except.bind (Except.bind (Reader.s2 (ε := DecodeError) c (p + 1)) _) _ = _
  rw [s2_ok h1 h2]
  show Except.ok (_, p + 1 + 1 + 1 - p) = _
  rw [show p + 1 + 1 + 1 - p = 3 by omega]
theorem D159 (h : U1 c p = .ok (159, p + 1)) (h1 : U1 c (p + 1) = .ok (a, p + 1 + 1)) (h2 : U1 c (p + 1 + 1) = .ok (b, p + 1 + 1 + 1)) : decode c p = .ok (.if_icmp .eq (Reader.signed 16 (a * 256 + b)), 3) := by
  show Except.bind (Except.bind (U1 c p) _) _ = _
  rw [h]
  show Except.bind (Except.bind (Reader.s2 (ε := DecodeError) c (p + 1)) _) _ = _
  rw [s2_ok h1 h2]
  show Except.ok (_, p + 1 + 1 + 1 - p) = _
  rw [show p + 1 + 1 + 1 - p = 3 by omega]
theorem D160 (h : U1 c p = .ok (160, p + 1)) (h1 : U1 c (p + 1) = .ok (a, p + 1 + 1)) (h2 : U1 c (p + 1 + 1) = .ok (b, p + 1 + 1 + 1)) : decode c p = .ok (.if_icmp .ne (Reader.signed 16 (a * 256 + b)), 3) := by
  show Except.bind (Except.bind (U1 c p) _) _ = _
  rw [h]
  show Except.bind (Except.bind (Reader.s2 (ε := DecodeError) c (p + 1)) _) _ = _
  rw [s2_ok h1 h2]
  show Except.ok (_, p + 1 + 1 + 1 - p) = _
  rw [show p + 1 + 1 + 1 - p = 3 by omega]
theorem D161 (h : U1 c p = .ok (161, p + 1)) (h1 : U1 c (p + 1) = .ok (a, p + 1 + 1)) (h2 : U1 c (p + 1 + 1) = .ok (b, p + 1 + 1 + 1)) : decode c p = .ok (.if_icmp .lt (Reader.signed 16 (a * 256 + b)), 3) := by
  show Except.bind (Except.bind (U1 c p) _) _ = _
  rw [h]
  show Except.bind (Except.bind (Reader.s2 (ε := DecodeError) c (p + 1)) _) _ = _
  rw [s2_ok h1 h2]
  show Except.ok (_, p + 1 + 1 + 1 - p) = _
  rw [show p + 1 + 1 + 1 - p = 3 by omega]
theorem D162 (h : U1 c p = .ok (162, p + 1)) (h1 : U1 c (p + 1) = .ok (a, p + 1 + 1)) (h2 : U1 c (p + 1 + 1) = .ok (b, p + 1 + 1 + 1)) : decode c p = .ok (.if_icmp .ge (Reader.signed 16 (a * 256 + b)), 3) := by
  show Except.bind (Except.bind (U1 c p) _) _ = _
  rw [h]
  show Except.bind (Except.bind (Reader.s2 (ε := DecodeError) c (p + 1)) _) _ = _
  rw [s2_ok h1 h2]
  show Except.ok (_, p + 1 + 1 + 1 - p) = _
  rw [show p + 1 + 1 + 1 - p = 3 by omega]
theorem D163 (h : U1 c p = .ok (163, p + 1)) (h1 : U1 c (p + 1) = .ok (a, p + 1 + 1)) (h2 : U1 c (p + 1 + 1) = .ok (b, p + 1 + 1 + 1)) : decode c p = .ok (.if_icmp .gt (Reader.signed 16 (a * 256 + b)), 3) := by
  show Except.bind (Except.bind (U1 c p) _) _ = _
  rw [h]
  show Except.bind (Except.bind (Reader.s2 (ε := DecodeError) c (p + 1)) _) _ = _
  rw [s2_ok h1 h2]
  show Except.ok (_, p + 1 + 1 + 1 - p) = _
  rw [show p + 1 + 1 + 1 - p = 3 by omega]
theorem D164 (h : U1 c p = .ok (164, p + 1)) (h1 : U1 c (p + 1) = .ok (a, p + 1 + 1)) (h2 : U1 c (p + 1 + 1) = .ok (b, p + 1 + 1 + 1)) : decode c p = .ok (.if_icmp .le (Reader.signed 16 (a * 256 + b)), 3) := by
  show Except.bind (Except.bind (U1 c p) _) _ = _
  rw [h]
  show Except.bind (Except.bind (Reader.s2 (ε := DecodeError) c (p + 1)) _) _ = _
  rw [s2_ok h1 h2]
  show Except.ok (_, p + 1 + 1 + 1 - p) = _
  rw [show p + 1 + 1 + 1 - p = 3 by omega]
theorem D167 (h : U1 c p = .ok (167, p + 1)) (h1 : U1 c (p + 1) = .ok (a, p + 1 + 1)) (h2 : U1 c (p + 1 + 1) = .ok (b, p + 1 + 1 + 1)) : decode c p = .ok (.goto (Reader.signed 16 (a * 256 + b)), 3) := by
  show Except.bind (Except.bind (U1 c p) _) _ = _
  rw [h]
  show Except.bind (Except.bind (Reader.s2 (ε := DecodeError) c (p + 1)) _) _ = _
  rw [s2_ok h1 h2]
  show Except.ok (_, p + 1 + 1 + 1 - p) = _
  rw [show p + 1 + 1 + 1 - p = 3 by omega]
theorem D17 (h : U1 c p = .ok (17, p + 1)) (h1 : U1 c (p + 1) = .ok (a, p + 1 + 1)) (h2 : U1 c (p + 1 + 1) = .ok (b, p + 1 + 1 + 1)) : decode c p = .ok (.sipush (Reader.signed 16 (a * 256 + b)), 3) := by
  show Except.bind (Except.bind (U1 c p) _) _ = _
  rw [h]
  show Except.bind (Except.bind (Reader.s2 (ε := DecodeError) c (p + 1)) _) _ = _
  rw [s2_ok h1 h2]
  show Except.ok (_, p + 1 + 1 + 1 - p) = _
  rw [show p + 1 + 1 + 1 - p = 3 by omega]
theorem D198 (h : U1 c p = .ok (198, p + 1)) (h1 : U1 c (p + 1) = .ok (a, p + 1 + 1)) (h2 : U1 c (p + 1 + 1) = .ok (b, p + 1 + 1 + 1)) : decode c p = .ok (.ifnull (Reader.signed 16 (a * 256 + b)), 3) := by
  show Except.bind (Except.bind (U1 c p) _) _ = _
  rw [h]
  show Except.bind (Except.bind (Reader.s2 (ε := DecodeError) c (p + 1)) _) _ = _
  rw [s2_ok h1 h2]
  show Except.ok (_, p + 1 + 1 + 1 - p) = _
  rw [show p + 1 + 1 + 1 - p = 3 by omega]
theorem D199 (h : U1 c p = .ok (199, p + 1)) (h1 : U1 c (p + 1) = .ok (a, p + 1 + 1)) (h2 : U1 c (p + 1 + 1) = .ok (b, p + 1 + 1 + 1)) : decode c p = .ok (.ifnonnull (Reader.signed 16 (a * 256 + b)), 3) := by
  show Except.bind (Except.bind (U1 c p) _) _ = _
  rw [h]
  show Except.bind (Except.bind (Reader.s2 (ε := DecodeError) c (p + 1)) _) _ = _
  rw [s2_ok h1 h2]
  show Except.ok (_, p + 1 + 1 + 1 - p) = _
  rw [show p + 1 + 1 + 1 - p = 3 by omega]
theorem D132 (h : U1 c p = .ok (132, p + 1)) (h1 : U1 c (p + 1) = .ok (a, p + 1 + 1)) (h2 : U1 c (p + 1 + 1) = .ok (b, p + 1 + 1 + 1)) : decode c p = .ok (.iinc a (Reader.signed 8 b), 3) := by
  show Except.bind (Except.bind (U1 c p) _) _ = _
  rw [h]
  show Except.bind (Except.bind (U1 c (p + 1)) _) _ = _
  rw [h1]
  show Except.bind (Except.bind (Reader.s1 (ε := DecodeError) c (p + 1 + 1)) _) _ = _
  rw [s1_ok h2]
  show Except.ok (_, p + 1 + 1 + 1 - p) = _
  rw [show p + 1 + 1 + 1 - p = 3 by omega]
theorem D188_10 (h : U1 c p = .ok (188, p + 1)) (h1 : U1 c (p + 1) = .ok (10, p + 1 + 1)) : decode c p = .ok (.newarray .int, 2) := by
  show Except.bind (Except.bind (U1 c p) _) _ = _
  rw [h]
  show Except.bind (Except.bind (U1 c (p + 1)) _) _ = _
  rw [h1]
  show Except.ok (_, p + 1 + 1 - p) = _
  rw [show p + 1 + 1 - p = 2 by omega]
theorem D188_11 (h : U1 c p = .ok (188, p + 1)) (h1 : U1 c (p + 1) = .ok (11, p + 1 + 1)) : decode c p = .ok (.newarray .long, 2) := by
  show Except.bind (Except.bind (U1 c p) _) _ = _
  rw [h]
  show Except.bind (Except.bind (U1 c (p + 1)) _) _ = _
  rw [h1]
  show Except.ok (_, p + 1 + 1 - p) = _
  rw [show p + 1 + 1 - p = 2 by omega]
theorem D188_8 (h : U1 c p = .ok (188, p + 1)) (h1 : U1 c (p + 1) = .ok (8, p + 1 + 1)) : decode c p = .ok (.newarray .byte, 2) := by
  show Except.bind (Except.bind (U1 c p) _) _ = _
  rw [h]
  show Except.bind (Except.bind (U1 c (p + 1)) _) _ = _
  rw [h1]
  show Except.ok (_, p + 1 + 1 - p) = _
  rw [show p + 1 + 1 - p = 2 by omega]
theorem D188_4 (h : U1 c p = .ok (188, p + 1)) (h1 : U1 c (p + 1) = .ok (4, p + 1 + 1)) : decode c p = .ok (.newarray .boolean, 2) := by
  show Except.bind (Except.bind (U1 c p) _) _ = _
  rw [h]
  show Except.bind (Except.bind (U1 c (p + 1)) _) _ = _
  rw [h1]
  show Except.ok (_, p + 1 + 1 - p) = _
  rw [show p + 1 + 1 - p = 2 by omega]
end DEC
def rec1 (x : Nat) : Option Instr :=
  if x = 42 then some (.aload_n 0)
  else if x = 26 then some (.iload_n 0)
  else if x = 43 then some (.aload_n 1)
  else if x = 27 then some (.iload_n 1)
  else if x = 28 then some (.iload_n 2)
  else if x = 3 then some (.iconst 0)
  else if x = 4 then some (.iconst 1)
  else if x = 29 then some (.iload_n 3)
  else if x = 44 then some (.aload_n 2)
  else if x = 46 then some (.iaload)
  else if x = 172 then some (.ireturn)
  else if x = 2 then some (.iconst (-1))
  else if x = 96 then some (.iadd)
  else if x = 87 then some (.pop)
  else if x = 45 then some (.aload_n 3)
  else if x = 79 then some (.iastore)
  else if x = 133 then some (.i2l)
  else if x = 5 then some (.iconst 2)
  else if x = 60 then some (.istore_n 1)
  else if x = 61 then some (.istore_n 2)
  else if x = 62 then some (.istore_n 3)
  else if x = 100 then some (.isub)
  else if x = 1 then some (.aconst_null)
  else if x = 6 then some (.iconst 3)
  else if x = 7 then some (.iconst 4)
  else if x = 8 then some (.iconst 5)
  else if x = 9 then some (.lconst 0)
  else if x = 10 then some (.lconst 1)
  else if x = 30 then some (.lload_n 0)
  else if x = 31 then some (.lload_n 1)
  else if x = 32 then some (.lload_n 2)
  else if x = 33 then some (.lload_n 3)
  else if x = 59 then some (.istore_n 0)
  else if x = 63 then some (.lstore_n 0)
  else if x = 64 then some (.lstore_n 1)
  else if x = 65 then some (.lstore_n 2)
  else if x = 66 then some (.lstore_n 3)
  else if x = 75 then some (.astore_n 0)
  else if x = 76 then some (.astore_n 1)
  else if x = 77 then some (.astore_n 2)
  else if x = 78 then some (.astore_n 3)
  else if x = 47 then some (.laload)
  else if x = 50 then some (.aaload)
  else if x = 51 then some (.baload)
  else if x = 80 then some (.lastore)
  else if x = 84 then some (.bastore)
  else if x = 88 then some (.pop2)
  else if x = 89 then some (.dup)
  else if x = 90 then some (.dup_x1)
  else if x = 92 then some (.dup2)
  else if x = 97 then some (.ladd)
  else if x = 101 then some (.lsub)
  else if x = 104 then some (.imul)
  else if x = 105 then some (.lmul)
  else if x = 112 then some (.irem)
  else if x = 116 then some (.ineg)
  else if x = 120 then some (.ishl)
  else if x = 121 then some (.lshl)
  else if x = 122 then some (.ishr)
  else if x = 124 then some (.iushr)
  else if x = 126 then some (.iand)
  else if x = 127 then some (.land)
  else if x = 128 then some (.ior)
  else if x = 129 then some (.lor)
  else if x = 130 then some (.ixor)
  else if x = 136 then some (.l2i)
  else if x = 145 then some (.i2b)
  else if x = 146 then some (.i2c)
  else if x = 147 then some (.i2s)
  else if x = 148 then some (.lcmp)
  else if x = 173 then some (.lreturn)
  else if x = 176 then some (.areturn)
  else if x = 177 then some (.return_)
  else if x = 190 then some (.arraylength)
  else if x = 191 then some (.athrow)
  else none
def rec2 (x a : Nat) : Option Instr :=
  if x = 16 then some (.bipush (Reader.signed 8 a))
  else if x = 21 then some (.iload a)
  else if x = 54 then some (.istore a)
  else if x = 18 then some (.ldc a)
  else if x = 22 then some (.lload a)
  else if x = 25 then some (.aload a)
  else if x = 55 then some (.lstore a)
  else if x = 58 then some (.astore a)
  else if x = 188 then (if a = 10 then some (.newarray .int) else if a = 11 then some (.newarray .long) else if a = 8 then some (.newarray .byte) else if a = 4 then some (.newarray .boolean) else none)
  else none
def rec3 (x a b : Nat) : Option Instr :=
  if x = 180 then some (.getfield (a * 256 + b))
  else if x = 182 then some (.invokevirtual (a * 256 + b))
  else if x = 167 then some (.goto (Reader.signed 16 (a * 256 + b)))
  else if x = 153 then some (.ifCond .eq (Reader.signed 16 (a * 256 + b)))
  else if x = 162 then some (.if_icmp .ge (Reader.signed 16 (a * 256 + b)))
  else if x = 132 then some (.iinc a (Reader.signed 8 b))
  else if x = 154 then some (.ifCond .ne (Reader.signed 16 (a * 256 + b)))
  else if x = 181 then some (.putfield (a * 256 + b))
  else if x = 184 then some (.invokestatic (a * 256 + b))
  else if x = 178 then some (.getstatic (a * 256 + b))
  else if x = 183 then some (.invokespecial (a * 256 + b))
  else if x = 187 then some (.new (a * 256 + b))
  else if x = 20 then some (.ldc2_w (a * 256 + b))
  else if x = 19 then some (.ldc_w (a * 256 + b))
  else if x = 179 then some (.putstatic (a * 256 + b))
  else if x = 155 then some (.ifCond .lt (Reader.signed 16 (a * 256 + b)))
  else if x = 156 then some (.ifCond .ge (Reader.signed 16 (a * 256 + b)))
  else if x = 157 then some (.ifCond .gt (Reader.signed 16 (a * 256 + b)))
  else if x = 158 then some (.ifCond .le (Reader.signed 16 (a * 256 + b)))
  else if x = 159 then some (.if_icmp .eq (Reader.signed 16 (a * 256 + b)))
  else if x = 160 then some (.if_icmp .ne (Reader.signed 16 (a * 256 + b)))
  else if x = 161 then some (.if_icmp .lt (Reader.signed 16 (a * 256 + b)))
  else if x = 163 then some (.if_icmp .gt (Reader.signed 16 (a * 256 + b)))
  else if x = 164 then some (.if_icmp .le (Reader.signed 16 (a * 256 + b)))
  else if x = 17 then some (.sipush (Reader.signed 16 (a * 256 + b)))
  else if x = 198 then some (.ifnull (Reader.signed 16 (a * 256 + b)))
  else if x = 199 then some (.ifnonnull (Reader.signed 16 (a * 256 + b)))
  else none
theorem rec1_ok {c : ByteArray} {p x : Nat} {i : Instr} (h0 : U1 c p = .ok (x, p + 1)) (h : rec1 x = some i) : decode c p = .ok (i, 1) := by
  unfold rec1 at h
  by_cases q : x = 42
  · subst q; rw [if_pos rfl] at h; cases h; exact D42 h0
  rw [if_neg q] at h
  by_cases q : x = 26
  · subst q; rw [if_pos rfl] at h; cases h; exact D26 h0
  rw [if_neg q] at h
  by_cases q : x = 43
  · subst q; rw [if_pos rfl] at h; cases h; exact D43 h0
  rw [if_neg q] at h
  by_cases q : x = 27
  · subst q; rw [if_pos rfl] at h; cases h; exact D27 h0
  rw [if_neg q] at h
  by_cases q : x = 28
  · subst q; rw [if_pos rfl] at h; cases h; exact D28 h0
  rw [if_neg q] at h
  by_cases q : x = 3
  · subst q; rw [if_pos rfl] at h; cases h; exact D3 h0
  rw [if_neg q] at h
  by_cases q : x = 4
  · subst q; rw [if_pos rfl] at h; cases h; exact D4 h0
  rw [if_neg q] at h
  by_cases q : x = 29
  · subst q; rw [if_pos rfl] at h; cases h; exact D29 h0
  rw [if_neg q] at h
  by_cases q : x = 44
  · subst q; rw [if_pos rfl] at h; cases h; exact D44 h0
  rw [if_neg q] at h
  by_cases q : x = 46
  · subst q; rw [if_pos rfl] at h; cases h; exact D46 h0
  rw [if_neg q] at h
  by_cases q : x = 172
  · subst q; rw [if_pos rfl] at h; cases h; exact D172 h0
  rw [if_neg q] at h
  by_cases q : x = 2
  · subst q; rw [if_pos rfl] at h; cases h; exact D2 h0
  rw [if_neg q] at h
  by_cases q : x = 96
  · subst q; rw [if_pos rfl] at h; cases h; exact D96 h0
  rw [if_neg q] at h
  by_cases q : x = 87
  · subst q; rw [if_pos rfl] at h; cases h; exact D87 h0
  rw [if_neg q] at h
  by_cases q : x = 45
  · subst q; rw [if_pos rfl] at h; cases h; exact D45 h0
  rw [if_neg q] at h
  by_cases q : x = 79
  · subst q; rw [if_pos rfl] at h; cases h; exact D79 h0
  rw [if_neg q] at h
  by_cases q : x = 133
  · subst q; rw [if_pos rfl] at h; cases h; exact D133 h0
  rw [if_neg q] at h
  by_cases q : x = 5
  · subst q; rw [if_pos rfl] at h; cases h; exact D5 h0
  rw [if_neg q] at h
  by_cases q : x = 60
  · subst q; rw [if_pos rfl] at h; cases h; exact D60 h0
  rw [if_neg q] at h
  by_cases q : x = 61
  · subst q; rw [if_pos rfl] at h; cases h; exact D61 h0
  rw [if_neg q] at h
  by_cases q : x = 62
  · subst q; rw [if_pos rfl] at h; cases h; exact D62 h0
  rw [if_neg q] at h
  by_cases q : x = 100
  · subst q; rw [if_pos rfl] at h; cases h; exact D100 h0
  rw [if_neg q] at h
  by_cases q : x = 1
  · subst q; rw [if_pos rfl] at h; cases h; exact D1 h0
  rw [if_neg q] at h
  by_cases q : x = 6
  · subst q; rw [if_pos rfl] at h; cases h; exact D6 h0
  rw [if_neg q] at h
  by_cases q : x = 7
  · subst q; rw [if_pos rfl] at h; cases h; exact D7 h0
  rw [if_neg q] at h
  by_cases q : x = 8
  · subst q; rw [if_pos rfl] at h; cases h; exact D8 h0
  rw [if_neg q] at h
  by_cases q : x = 9
  · subst q; rw [if_pos rfl] at h; cases h; exact D9 h0
  rw [if_neg q] at h
  by_cases q : x = 10
  · subst q; rw [if_pos rfl] at h; cases h; exact D10 h0
  rw [if_neg q] at h
  by_cases q : x = 30
  · subst q; rw [if_pos rfl] at h; cases h; exact D30 h0
  rw [if_neg q] at h
  by_cases q : x = 31
  · subst q; rw [if_pos rfl] at h; cases h; exact D31 h0
  rw [if_neg q] at h
  by_cases q : x = 32
  · subst q; rw [if_pos rfl] at h; cases h; exact D32 h0
  rw [if_neg q] at h
  by_cases q : x = 33
  · subst q; rw [if_pos rfl] at h; cases h; exact D33 h0
  rw [if_neg q] at h
  by_cases q : x = 59
  · subst q; rw [if_pos rfl] at h; cases h; exact D59 h0
  rw [if_neg q] at h
  by_cases q : x = 63
  · subst q; rw [if_pos rfl] at h; cases h; exact D63 h0
  rw [if_neg q] at h
  by_cases q : x = 64
  · subst q; rw [if_pos rfl] at h; cases h; exact D64 h0
  rw [if_neg q] at h
  by_cases q : x = 65
  · subst q; rw [if_pos rfl] at h; cases h; exact D65 h0
  rw [if_neg q] at h
  by_cases q : x = 66
  · subst q; rw [if_pos rfl] at h; cases h; exact D66 h0
  rw [if_neg q] at h
  by_cases q : x = 75
  · subst q; rw [if_pos rfl] at h; cases h; exact D75 h0
  rw [if_neg q] at h
  by_cases q : x = 76
  · subst q; rw [if_pos rfl] at h; cases h; exact D76 h0
  rw [if_neg q] at h
  by_cases q : x = 77
  · subst q; rw [if_pos rfl] at h; cases h; exact D77 h0
  rw [if_neg q] at h
  by_cases q : x = 78
  · subst q; rw [if_pos rfl] at h; cases h; exact D78 h0
  rw [if_neg q] at h
  by_cases q : x = 47
  · subst q; rw [if_pos rfl] at h; cases h; exact D47 h0
  rw [if_neg q] at h
  by_cases q : x = 50
  · subst q; rw [if_pos rfl] at h; cases h; exact D50 h0
  rw [if_neg q] at h
  by_cases q : x = 51
  · subst q; rw [if_pos rfl] at h; cases h; exact D51 h0
  rw [if_neg q] at h
  by_cases q : x = 80
  · subst q; rw [if_pos rfl] at h; cases h; exact D80 h0
  rw [if_neg q] at h
  by_cases q : x = 84
  · subst q; rw [if_pos rfl] at h; cases h; exact D84 h0
  rw [if_neg q] at h
  by_cases q : x = 88
  · subst q; rw [if_pos rfl] at h; cases h; exact D88 h0
  rw [if_neg q] at h
  by_cases q : x = 89
  · subst q; rw [if_pos rfl] at h; cases h; exact D89 h0
  rw [if_neg q] at h
  by_cases q : x = 90
  · subst q; rw [if_pos rfl] at h; cases h; exact D90 h0
  rw [if_neg q] at h
  by_cases q : x = 92
  · subst q; rw [if_pos rfl] at h; cases h; exact D92 h0
  rw [if_neg q] at h
  by_cases q : x = 97
  · subst q; rw [if_pos rfl] at h; cases h; exact D97 h0
  rw [if_neg q] at h
  by_cases q : x = 101
  · subst q; rw [if_pos rfl] at h; cases h; exact D101 h0
  rw [if_neg q] at h
  by_cases q : x = 104
  · subst q; rw [if_pos rfl] at h; cases h; exact D104 h0
  rw [if_neg q] at h
  by_cases q : x = 105
  · subst q; rw [if_pos rfl] at h; cases h; exact D105 h0
  rw [if_neg q] at h
  by_cases q : x = 112
  · subst q; rw [if_pos rfl] at h; cases h; exact D112 h0
  rw [if_neg q] at h
  by_cases q : x = 116
  · subst q; rw [if_pos rfl] at h; cases h; exact D116 h0
  rw [if_neg q] at h
  by_cases q : x = 120
  · subst q; rw [if_pos rfl] at h; cases h; exact D120 h0
  rw [if_neg q] at h
  by_cases q : x = 121
  · subst q; rw [if_pos rfl] at h; cases h; exact D121 h0
  rw [if_neg q] at h
  by_cases q : x = 122
  · subst q; rw [if_pos rfl] at h; cases h; exact D122 h0
  rw [if_neg q] at h
  by_cases q : x = 124
  · subst q; rw [if_pos rfl] at h; cases h; exact D124 h0
  rw [if_neg q] at h
  by_cases q : x = 126
  · subst q; rw [if_pos rfl] at h; cases h; exact D126 h0
  rw [if_neg q] at h
  by_cases q : x = 127
  · subst q; rw [if_pos rfl] at h; cases h; exact D127 h0
  rw [if_neg q] at h
  by_cases q : x = 128
  · subst q; rw [if_pos rfl] at h; cases h; exact D128 h0
  rw [if_neg q] at h
  by_cases q : x = 129
  · subst q; rw [if_pos rfl] at h; cases h; exact D129 h0
  rw [if_neg q] at h
  by_cases q : x = 130
  · subst q; rw [if_pos rfl] at h; cases h; exact D130 h0
  rw [if_neg q] at h
  by_cases q : x = 136
  · subst q; rw [if_pos rfl] at h; cases h; exact D136 h0
  rw [if_neg q] at h
  by_cases q : x = 145
  · subst q; rw [if_pos rfl] at h; cases h; exact D145 h0
  rw [if_neg q] at h
  by_cases q : x = 146
  · subst q; rw [if_pos rfl] at h; cases h; exact D146 h0
  rw [if_neg q] at h
  by_cases q : x = 147
  · subst q; rw [if_pos rfl] at h; cases h; exact D147 h0
  rw [if_neg q] at h
  by_cases q : x = 148
  · subst q; rw [if_pos rfl] at h; cases h; exact D148 h0
  rw [if_neg q] at h
  by_cases q : x = 173
  · subst q; rw [if_pos rfl] at h; cases h; exact D173 h0
  rw [if_neg q] at h
  by_cases q : x = 176
  · subst q; rw [if_pos rfl] at h; cases h; exact D176 h0
  rw [if_neg q] at h
  by_cases q : x = 177
  · subst q; rw [if_pos rfl] at h; cases h; exact D177 h0
  rw [if_neg q] at h
  by_cases q : x = 190
  · subst q; rw [if_pos rfl] at h; cases h; exact D190 h0
  rw [if_neg q] at h
  by_cases q : x = 191
  · subst q; rw [if_pos rfl] at h; cases h; exact D191 h0
  rw [if_neg q] at h
  cases h
theorem rec2_ok {c : ByteArray} {p x a : Nat} {i : Instr} (h0 : U1 c p = .ok (x, p + 1)) (h1 : U1 c (p + 1) = .ok (a, p + 1 + 1)) (h : rec2 x a = some i) : decode c p = .ok (i, 2) := by
  unfold rec2 at h
  by_cases q : x = 16
  · subst q; rw [if_pos rfl] at h; cases h; exact D16 h0 h1
  rw [if_neg q] at h
  by_cases q : x = 21
  · subst q; rw [if_pos rfl] at h; cases h; exact D21 h0 h1
  rw [if_neg q] at h
  by_cases q : x = 54
  · subst q; rw [if_pos rfl] at h; cases h; exact D54 h0 h1
  rw [if_neg q] at h
  by_cases q : x = 18
  · subst q; rw [if_pos rfl] at h; cases h; exact D18 h0 h1
  rw [if_neg q] at h
  by_cases q : x = 22
  · subst q; rw [if_pos rfl] at h; cases h; exact D22 h0 h1
  rw [if_neg q] at h
  by_cases q : x = 25
  · subst q; rw [if_pos rfl] at h; cases h; exact D25 h0 h1
  rw [if_neg q] at h
  by_cases q : x = 55
  · subst q; rw [if_pos rfl] at h; cases h; exact D55 h0 h1
  rw [if_neg q] at h
  by_cases q : x = 58
  · subst q; rw [if_pos rfl] at h; cases h; exact D58 h0 h1
  rw [if_neg q] at h
  by_cases q : x = 188
  · subst q; rw [if_pos rfl] at h
    by_cases q2 : a = 10
    · subst q2; rw [if_pos rfl] at h; cases h; exact D188_10 h0 h1
    rw [if_neg q2] at h
    by_cases q2 : a = 11
    · subst q2; rw [if_pos rfl] at h; cases h; exact D188_11 h0 h1
    rw [if_neg q2] at h
    by_cases q2 : a = 8
    · subst q2; rw [if_pos rfl] at h; cases h; exact D188_8 h0 h1
    rw [if_neg q2] at h
    by_cases q2 : a = 4
    · subst q2; rw [if_pos rfl] at h; cases h; exact D188_4 h0 h1
    rw [if_neg q2] at h
    cases h
  rw [if_neg q] at h
  cases h
theorem rec3_ok {c : ByteArray} {p x a b : Nat} {i : Instr} (h0 : U1 c p = .ok (x, p + 1)) (h1 : U1 c (p + 1) = .ok (a, p + 1 + 1)) (h2 : U1 c (p + 1 + 1) = .ok (b, p + 1 + 1 + 1)) (h : rec3 x a b = some i) : decode c p = .ok (i, 3) := by
  unfold rec3 at h
  by_cases q : x = 180
  · subst q; rw [if_pos rfl] at h; cases h; exact D180 h0 h1 h2
  rw [if_neg q] at h
  by_cases q : x = 182
  · subst q; rw [if_pos rfl] at h; cases h; exact D182 h0 h1 h2
  rw [if_neg q] at h
  by_cases q : x = 167
  · subst q; rw [if_pos rfl] at h; cases h; exact D167 h0 h1 h2
  rw [if_neg q] at h
  by_cases q : x = 153
  · subst q; rw [if_pos rfl] at h; cases h; exact D153 h0 h1 h2
  rw [if_neg q] at h
  by_cases q : x = 162
  · subst q; rw [if_pos rfl] at h; cases h; exact D162 h0 h1 h2
  rw [if_neg q] at h
  by_cases q : x = 132
  · subst q; rw [if_pos rfl] at h; cases h; exact D132 h0 h1 h2
  rw [if_neg q] at h
  by_cases q : x = 154
  · subst q; rw [if_pos rfl] at h; cases h; exact D154 h0 h1 h2
  rw [if_neg q] at h
  by_cases q : x = 181
  · subst q; rw [if_pos rfl] at h; cases h; exact D181 h0 h1 h2
  rw [if_neg q] at h
  by_cases q : x = 184
  · subst q; rw [if_pos rfl] at h; cases h; exact D184 h0 h1 h2
  rw [if_neg q] at h
  by_cases q : x = 178
  · subst q; rw [if_pos rfl] at h; cases h; exact D178 h0 h1 h2
  rw [if_neg q] at h
  by_cases q : x = 183
  · subst q; rw [if_pos rfl] at h; cases h; exact D183 h0 h1 h2
  rw [if_neg q] at h
  by_cases q : x = 187
  · subst q; rw [if_pos rfl] at h; cases h; exact D187 h0 h1 h2
  rw [if_neg q] at h
  by_cases q : x = 20
  · subst q; rw [if_pos rfl] at h; cases h; exact D20 h0 h1 h2
  rw [if_neg q] at h
  by_cases q : x = 19
  · subst q; rw [if_pos rfl] at h; cases h; exact D19 h0 h1 h2
  rw [if_neg q] at h
  by_cases q : x = 179
  · subst q; rw [if_pos rfl] at h; cases h; exact D179 h0 h1 h2
  rw [if_neg q] at h
  by_cases q : x = 155
  · subst q; rw [if_pos rfl] at h; cases h; exact D155 h0 h1 h2
  rw [if_neg q] at h
  by_cases q : x = 156
  · subst q; rw [if_pos rfl] at h; cases h; exact D156 h0 h1 h2
  rw [if_neg q] at h
  by_cases q : x = 157
  · subst q; rw [if_pos rfl] at h; cases h; exact D157 h0 h1 h2
  rw [if_neg q] at h
  by_cases q : x = 158
  · subst q; rw [if_pos rfl] at h; cases h; exact D158 h0 h1 h2
  rw [if_neg q] at h
  by_cases q : x = 159
  · subst q; rw [if_pos rfl] at h; cases h; exact D159 h0 h1 h2
  rw [if_neg q] at h
  by_cases q : x = 160
  · subst q; rw [if_pos rfl] at h; cases h; exact D160 h0 h1 h2
  rw [if_neg q] at h
  by_cases q : x = 161
  · subst q; rw [if_pos rfl] at h; cases h; exact D161 h0 h1 h2
  rw [if_neg q] at h
  by_cases q : x = 163
  · subst q; rw [if_pos rfl] at h; cases h; exact D163 h0 h1 h2
  rw [if_neg q] at h
  by_cases q : x = 164
  · subst q; rw [if_pos rfl] at h; cases h; exact D164 h0 h1 h2
  rw [if_neg q] at h
  by_cases q : x = 17
  · subst q; rw [if_pos rfl] at h; cases h; exact D17 h0 h1 h2
  rw [if_neg q] at h
  by_cases q : x = 198
  · subst q; rw [if_pos rfl] at h; cases h; exact D198 h0 h1 h2
  rw [if_neg q] at h
  by_cases q : x = 199
  · subst q; rw [if_pos rfl] at h; cases h; exact D199 h0 h1 h2
  rw [if_neg q] at h
  cases h
def ent9 (c : ByteArray) (p : Nat) (i : Instr) (len : Nat) (bs : List UInt8) : Bool :=
  match len with
  | 1 => match bs with
    | x :: _ => decide (rec1 x.toNat = some i)
    | _ => false
  | 2 => match bs with
    | x :: a :: _ => decide (rec2 x.toNat a.toNat = some i)
    | _ => false
  | 3 => match bs with
    | x :: a :: b :: _ => decide (rec3 x.toNat a.toNat b.toNat = some i)
    | _ => false
  | n => decide (decode c p = .ok (i, n))
theorem dr_at {c : ByteArray} {p k : Nat} {bs : List UInt8} {x : UInt8} (e : c.data.toList.drop p = bs) (h : bs[k]? = some x) : U1 c (p + k) = .ok (x.toNat, p + k + 1) := by
  refine u1_ok ?_
  rw [← e, List.getElem?_drop] at h
  exact h
theorem ent_ok {c : ByteArray} {p len : Nat} {i : Instr} {bs : List UInt8} (e : c.data.toList.drop p = bs) (h : ent9 c p i len bs = true) : decode c p = .ok (i, len) := by
  unfold ent9 at h
  split at h
  · split at h
    · next x r => exact rec1_ok (dr_at (k := 0) e rfl) (of_decide_eq_true h)
    · cases h
  · split at h
    · next x a r => exact rec2_ok (dr_at (k := 0) e rfl) (dr_at (k := 1) e rfl) (of_decide_eq_true h)
    · cases h
  · split at h
    · next x a b r => exact rec3_ok (dr_at (k := 0) e rfl) (dr_at (k := 1) e rfl) (dr_at (k := 2) e rfl) (of_decide_eq_true h)
    · cases h
  · exact of_decide_eq_true h
def dec_go (c : ByteArray) : List (Nat × Instr × Nat) → List UInt8 → Nat → Bool
  | [], _, _ => true
  | q :: t, bs, p => Nat.beq q.1 p && (ent9 c p q.2.1 q.2.2 bs && dec_go c t (bs.drop q.2.2) (p + q.2.2))
theorem go_ok {c : ByteArray} : ∀ (t : List (Nat × Instr × Nat)) (bs : List UInt8) (p : Nat), c.data.toList.drop p = bs → dec_go c t bs p = true → ∀ q ∈ t, decode c q.1 = .ok (q.2.1, q.2.2)
  | [], _, _, _, _, q, hq => by cases hq
  | q :: t, bs, p, e, h, q', hq => by
    simp only [dec_go, Bool.and_eq_true] at h
    obtain ⟨h1, h2, h3⟩ := h
    have h1 := Nat.eq_of_beq_eq_true h1
    rcases List.mem_cons.mp hq with rfl | hq
    · rw [h1]; exact ent_ok e h2
    · exact go_ok t _ _ (by rw [← e, List.drop_drop]) h3 q' hq
/-- a table of instructions, held against a method's code -/
def dec_ok (c : ByteArray) (t : List (Nat × Instr × Nat)) : Bool := match t with
  | [] => true
  | q :: t' => dec_go c (q :: t') (c.data.toList.drop q.1) q.1
theorem dec_all {c : ByteArray} {t : List (Nat × Instr × Nat)} (h : dec_ok c t = true) : ∀ q ∈ t, decode c q.1 = .ok (q.2.1, q.2.2) := by
  cases t with
  | nil => intro q hq; cases hq
  | cons a t => exact go_ok _ _ _ rfl h
theorem dx {c : ByteArray} {t : List (Nat × Instr × Nat)} (h : dec_ok c t = true) (k : Nat) {pc len : Nat} {i : Instr} (hk : t[k]? = some (pc, i, len)) : decode c pc = .ok (i, len) := by
  have q := dec_all h (pc, i, len) (List.mem_of_getElem? hk)
  exact q
noncomputable def tX0_init : List (Nat × Instr × Nat) := [(0, .aload_n 0, 1), (1, .invokespecial 3, 3), (4, .aload_n 0, 1), (5, .bipush 8, 2), (7, .newarray .int, 2), (9, .putfield 9, 3), (12, .return_, 1)]
theorem dX0_init : dec_ok cX0_init tX0_init = true := by decide +kernel
noncomputable def tX0_tellAnew : List (Nat × Instr × Nat) := [(0, .iconst 0, 1), (1, .istore 4, 2), (3, .iload 4, 2), (5, .aload_n 1, 1), (6, .getfield 15, 3), (9, .if_icmp .ge 25, 3), (12, .aload_n 1, 1), (13, .getfield 21, 3), (16, .iload 4, 2), (18, .iconst (-1), 1), (19, .iastore, 1), (20, .aload_n 1, 1), (21, .getfield 24, 3), (24, .iload 4, 2), (26, .iconst (-1), 1), (27, .iastore, 1), (28, .iinc 4 1, 3), (31, .goto (-28), 3), (34, .iconst 0, 1), (35, .istore 4, 2), (37, .iload 4, 2), (39, .aload_n 1, 1), (40, .getfield 27, 3), (43, .if_icmp .ge 23, 3), (46, .aload_n 0, 1), (47, .getfield 9, 3), (50, .iload 4, 2), (52, .aload_n 1, 1), (53, .getfield 30, 3), (56, .iload 4, 2), (58, .iaload, 1), (59, .iastore, 1), (60, .iinc 4 1, 3), (63, .goto (-26), 3), (66, .iload_n 2, 1), (67, .tableswitch 104 1 5 #[33, 45, 55, 69, 77], 33), (100, .aload_n 0, 1), (101, .aload_n 1, 1), (102, .aload_n 1, 1), (103, .getfield 27, 3), (106, .invokevirtual 33, 3), (109, .goto 62, 3), (112, .aload_n 0, 1), (113, .aload_n 1, 1), (114, .iload_n 3, 1), (115, .invokevirtual 37, 3), (118, .pop, 1), (119, .goto 52, 3), (122, .aload_n 0, 1), (123, .aload_n 1, 1), (124, .aload_n 0, 1), (125, .aload_n 1, 1), (126, .iload_n 3, 1), (127, .invokevirtual 37, 3), (130, .invokevirtual 41, 3), (133, .goto 38, 3), (136, .aload_n 0, 1), (137, .aload_n 1, 1), (138, .invokevirtual 44, 3), (141, .goto 30, 3), (144, .aload_n 0, 1), (145, .aload_n 1, 1), (146, .iload_n 3, 1), (147, .ifCond .ne 10, 3), (150, .aload_n 1, 1), (151, .getfield 27, 3), (154, .goto 11, 3), (157, .iload_n 3, 1), (158, .aload_n 1, 1), (159, .getfield 27, 3), (162, .invokestatic 48, 3), (165, .invokevirtual 33, 3), (168, .goto 3, 3), (171, .return_, 1)]
theorem dX0_tellAnew : dec_ok cX0_tellAnew tX0_tellAnew = true := by decide +kernel
noncomputable def tX0_giveWhole : List (Nat × Instr × Nat) := [(0, .iconst 0, 1), (1, .istore_n 3, 1), (2, .iconst 0, 1), (3, .istore 4, 2), (5, .iload 4, 2), (7, .aload_n 1, 1), (8, .getfield 54, 3), (11, .if_icmp .ge 43, 3), (14, .aload_n 0, 1), (15, .aload_n 1, 1), (16, .iload_n 3, 1), (17, .invokevirtual 57, 3), (20, .istore 5, 2), (22, .iload 5, 2), (24, .iconst (-1), 1), (25, .if_icmp .eq 23, 3), (28, .iload_n 3, 1), (29, .iconst 1, 1), (30, .iload 5, 2), (32, .ishl, 1), (33, .ior, 1), (34, .istore_n 3, 1), (35, .aload_n 0, 1), (36, .aload_n 1, 1), (37, .aload_n 1, 1), (38, .getfield 60, 3), (41, .iload 5, 2), (43, .iaload, 1), (44, .iload_n 2, 1), (45, .invokevirtual 63, 3), (48, .iinc 4 1, 3), (51, .goto (-46), 3), (54, .iconst 0, 1), (55, .istore 4, 2), (57, .iload 4, 2), (59, .aload_n 1, 1), (60, .getfield 15, 3), (63, .if_icmp .ge 40, 3), (66, .aload_n 1, 1), (67, .getfield 21, 3), (70, .iload 4, 2), (72, .iaload, 1), (73, .iconst (-1), 1), (74, .if_icmp .ne 23, 3), (77, .aload_n 1, 1), (78, .getfield 21, 3), (81, .iload 4, 2), (83, .aload_n 0, 1), (84, .aload_n 0, 1), (85, .aload_n 1, 1), (86, .invokevirtual 67, 3), (89, .iload_n 2, 1), (90, .invokevirtual 71, 3), (93, .invokevirtual 74, 3), (96, .iastore, 1), (97, .iinc 4 1, 3), (100, .goto (-43), 3), (103, .return_, 1)]
theorem dX0_giveWhole : dec_ok cX0_giveWhole tX0_giveWhole = true := by decide +kernel
noncomputable def tX0_worthiest : List (Nat × Instr × Nat) := [(0, .iconst (-1), 1), (1, .istore_n 3, 1), (2, .iconst 0, 1), (3, .istore 4, 2), (5, .iconst 0, 1), (6, .istore 5, 2), (8, .iload 5, 2), (10, .aload_n 1, 1), (11, .getfield 54, 3), (14, .if_icmp .ge 42, 3), (17, .iload_n 2, 1), (18, .iconst 1, 1), (19, .iload 5, 2), (21, .ishl, 1), (22, .iand, 1), (23, .ifCond .ne 27, 3), (26, .aload_n 1, 1), (27, .getfield 78, 3), (30, .iload 5, 2), (32, .iaload, 1), (33, .iload 4, 2), (35, .if_icmp .le 15, 3), (38, .aload_n 1, 1), (39, .getfield 78, 3), (42, .iload 5, 2), (44, .iaload, 1), (45, .istore 4, 2), (47, .iload 5, 2), (49, .istore_n 3, 1), (50, .iinc 5 1, 3), (53, .goto (-45), 3), (56, .iload_n 3, 1), (57, .ireturn, 1)]
theorem dX0_worthiest : dec_ok cX0_worthiest tX0_worthiest = true := by decide +kernel
noncomputable def tX0_giveNeeds : List (Nat × Instr × Nat) := [(0, .iconst 0, 1), (1, .istore 4, 2), (3, .iconst 0, 1), (4, .istore 5, 2), (6, .iload 5, 2), (8, .aload_n 1, 1), (9, .getfield 15, 3), (12, .if_icmp .ge 43, 3), (15, .iload_n 2, 1), (16, .iconst 1, 1), (17, .iload 5, 2), (19, .ishl, 1), (20, .iand, 1), (21, .ifCond .eq 28, 3), (24, .aload_n 1, 1), (25, .getfield 21, 3), (28, .iload 5, 2), (30, .iaload, 1), (31, .iconst (-1), 1), (32, .if_icmp .eq 17, 3), (35, .iload 4, 2), (37, .iconst 1, 1), (38, .aload_n 1, 1), (39, .getfield 21, 3), (42, .iload 5, 2), (44, .iaload, 1), (45, .ishl, 1), (46, .ior, 1), (47, .istore 4, 2), (49, .iinc 5 1, 3), (52, .goto (-46), 3), (55, .iconst 0, 1), (56, .istore 5, 2), (58, .iload 5, 2), (60, .aload_n 1, 1), (61, .getfield 15, 3), (64, .if_icmp .ge 83, 3), (67, .iload_n 2, 1), (68, .iconst 1, 1), (69, .iload 5, 2), (71, .ishl, 1), (72, .iand, 1), (73, .ifCond .eq 68, 3), (76, .aload_n 1, 1), (77, .getfield 21, 3), (80, .iload 5, 2), (82, .iaload, 1), (83, .iconst (-1), 1), (84, .if_icmp .ne 57, 3), (87, .aload_n 0, 1), (88, .iload 4, 2), (90, .iload_n 3, 1), (91, .invokevirtual 71, 3), (94, .istore 6, 2), (96, .iload 6, 2), (98, .iconst (-1), 1), (99, .if_icmp .ne 14, 3), (102, .aload_n 0, 1), (103, .aload_n 1, 1), (104, .invokevirtual 67, 3), (107, .iload_n 3, 1), (108, .invokevirtual 71, 3), (111, .istore 6, 2), (113, .iload 6, 2), (115, .iconst (-1), 1), (116, .if_icmp .eq 25, 3), (119, .aload_n 1, 1), (120, .getfield 21, 3), (123, .iload 5, 2), (125, .aload_n 0, 1), (126, .iload 6, 2), (128, .invokevirtual 74, 3), (131, .iastore, 1), (132, .iload 4, 2), (134, .iconst 1, 1), (135, .iload 6, 2), (137, .ishl, 1), (138, .ior, 1), (139, .istore 4, 2), (141, .iinc 5 1, 3), (144, .goto (-86), 3), (147, .return_, 1)]
theorem dX0_giveNeeds : dec_ok cX0_giveNeeds tX0_giveNeeds = true := by decide +kernel
noncomputable def tX0_firstWithRoom : List (Nat × Instr × Nat) := [(0, .iconst 0, 1), (1, .istore_n 3, 1), (2, .iload_n 3, 1), (3, .iload_n 2, 1), (4, .if_icmp .ge 34, 3), (7, .iload_n 3, 1), (8, .bipush 8, 2), (10, .if_icmp .ge 28, 3), (13, .iload_n 1, 1), (14, .iconst 1, 1), (15, .iload_n 3, 1), (16, .ishl, 1), (17, .iand, 1), (18, .ifCond .eq 14, 3), (21, .aload_n 0, 1), (22, .getfield 9, 3), (25, .iload_n 3, 1), (26, .iaload, 1), (27, .ifCond .le 5, 3), (30, .iload_n 3, 1), (31, .ireturn, 1), (32, .iinc 3 1, 3), (35, .goto (-33), 3), (38, .iconst (-1), 1), (39, .ireturn, 1)]
theorem dX0_firstWithRoom : dec_ok cX0_firstWithRoom tX0_firstWithRoom = true := by decide +kernel
noncomputable def tX0_taken : List (Nat × Instr × Nat) := [(0, .iload_n 1, 1), (1, .ifCond .lt 19, 3), (4, .iload_n 1, 1), (5, .bipush 8, 2), (7, .if_icmp .ge 13, 3), (10, .aload_n 0, 1), (11, .getfield 9, 3), (14, .iload_n 1, 1), (15, .dup2, 1), (16, .iaload, 1), (17, .iconst 1, 1), (18, .isub, 1), (19, .iastore, 1), (20, .iload_n 1, 1), (21, .ireturn, 1)]
theorem dX0_taken : dec_ok cX0_taken tX0_taken = true := by decide +kernel
noncomputable def tX0_giveRound : List (Nat × Instr × Nat) := [(0, .aload_n 1, 1), (1, .getfield 27, 3), (4, .ifCond .ne 7, 3), (7, .iconst 0, 1), (8, .goto 9, 3), (11, .iload_n 2, 1), (12, .aload_n 1, 1), (13, .getfield 27, 3), (16, .irem, 1), (17, .istore_n 3, 1), (18, .iconst 0, 1), (19, .istore 4, 2), (21, .iload 4, 2), (23, .aload_n 1, 1), (24, .getfield 15, 3), (27, .if_icmp .ge 46, 3), (30, .aload_n 0, 1), (31, .aload_n 1, 1), (32, .iload_n 3, 1), (33, .iconst (-1), 1), (34, .invokevirtual 81, 3), (37, .istore 5, 2), (39, .aload_n 1, 1), (40, .getfield 21, 3), (43, .iload 4, 2), (45, .aload_n 0, 1), (46, .iload 5, 2), (48, .invokevirtual 74, 3), (51, .iastore, 1), (52, .iload 5, 2), (54, .iconst (-1), 1), (55, .if_icmp .ne 7, 3), (58, .iload_n 3, 1), (59, .goto 7, 3), (62, .iload 5, 2), (64, .iconst 1, 1), (65, .iadd, 1), (66, .istore_n 3, 1), (67, .iinc 4 1, 3), (70, .goto (-49), 3), (73, .iload_n 3, 1), (74, .ireturn, 1)]
theorem dX0_giveRound : dec_ok cX0_giveRound tX0_giveRound = true := by decide +kernel
noncomputable def tX0_giveRoundAgain : List (Nat × Instr × Nat) := [(0, .iload_n 2, 1), (1, .istore_n 3, 1), (2, .iconst 0, 1), (3, .istore 4, 2), (5, .iload 4, 2), (7, .aload_n 1, 1), (8, .getfield 15, 3), (11, .if_icmp .ge 52, 3), (14, .aload_n 0, 1), (15, .aload_n 1, 1), (16, .iload_n 3, 1), (17, .aload_n 1, 1), (18, .getfield 21, 3), (21, .iload 4, 2), (23, .iaload, 1), (24, .invokevirtual 81, 3), (27, .istore 5, 2), (29, .aload_n 1, 1), (30, .getfield 24, 3), (33, .iload 4, 2), (35, .aload_n 0, 1), (36, .iload 5, 2), (38, .invokevirtual 74, 3), (41, .iastore, 1), (42, .iload 5, 2), (44, .iconst (-1), 1), (45, .if_icmp .ne 7, 3), (48, .iload_n 3, 1), (49, .goto 7, 3), (52, .iload 5, 2), (54, .iconst 1, 1), (55, .iadd, 1), (56, .istore_n 3, 1), (57, .iinc 4 1, 3), (60, .goto (-55), 3), (63, .return_, 1)]
theorem dX0_giveRoundAgain : dec_ok cX0_giveRoundAgain tX0_giveRoundAgain = true := by decide +kernel
noncomputable def tX0_nextWithRoom : List (Nat × Instr × Nat) := [(0, .iconst 0, 1), (1, .istore 4, 2), (3, .iload 4, 2), (5, .aload_n 1, 1), (6, .getfield 27, 3), (9, .if_icmp .ge 66, 3), (12, .iload_n 2, 1), (13, .iload 4, 2), (15, .iadd, 1), (16, .istore 5, 2), (18, .iload 5, 2), (20, .aload_n 1, 1), (21, .getfield 27, 3), (24, .if_icmp .lt 12, 3), (27, .iload 5, 2), (29, .aload_n 1, 1), (30, .getfield 27, 3), (33, .isub, 1), (34, .istore 5, 2), (36, .iload 5, 2), (38, .iload_n 3, 1), (39, .if_icmp .eq 30, 3), (42, .iload 5, 2), (44, .ifCond .lt 25, 3), (47, .iload 5, 2), (49, .aload_n 1, 1), (50, .getfield 27, 3), (53, .if_icmp .ge 16, 3), (56, .aload_n 0, 1), (57, .getfield 9, 3), (60, .iload 5, 2), (62, .iaload, 1), (63, .ifCond .le 6, 3), (66, .iload 5, 2), (68, .ireturn, 1), (69, .iinc 4 1, 3), (72, .goto (-69), 3), (75, .iconst (-1), 1), (76, .ireturn, 1)]
theorem dX0_nextWithRoom : dec_ok cX0_nextWithRoom tX0_nextWithRoom = true := by decide +kernel
noncomputable def tX0_giveSure : List (Nat × Instr × Nat) := [(0, .iconst 0, 1), (1, .istore_n 2, 1), (2, .iload_n 2, 1), (3, .aload_n 1, 1), (4, .getfield 15, 3), (7, .if_icmp .ge 78, 3), (10, .iconst (-1), 1), (11, .istore_n 3, 1), (12, .bipush 11, 2), (14, .istore 4, 2), (16, .iconst 0, 1), (17, .istore 5, 2), (19, .iload 5, 2), (21, .aload_n 1, 1), (22, .getfield 27, 3), (25, .if_icmp .ge 43, 3), (28, .aload_n 1, 1), (29, .getfield 85, 3), (32, .iload 5, 2), (34, .iaload, 1), (35, .iload 4, 2), (37, .if_icmp .ge 25, 3), (40, .aload_n 0, 1), (41, .getfield 9, 3), (44, .iload 5, 2), (46, .iaload, 1), (47, .ifCond .le 15, 3), (50, .aload_n 1, 1), (51, .getfield 85, 3), (54, .iload 5, 2), (56, .iaload, 1), (57, .istore 4, 2), (59, .iload 5, 2), (61, .istore_n 3, 1), (62, .iinc 5 1, 3), (65, .goto (-46), 3), (68, .aload_n 1, 1), (69, .getfield 21, 3), (72, .iload_n 2, 1), (73, .aload_n 0, 1), (74, .iload_n 3, 1), (75, .invokevirtual 74, 3), (78, .iastore, 1), (79, .iinc 2 1, 3), (82, .goto (-80), 3), (85, .return_, 1)]
theorem dX0_giveSure : dec_ok cX0_giveSure tX0_giveSure = true := by decide +kernel
noncomputable def tX1_init : List (Nat × Instr × Nat) := [(0, .aload_n 0, 1), (1, .invokespecial 3, 3), (4, .aload_n 0, 1), (5, .bipush 6, 2), (7, .newarray .int, 2), (9, .putfield 9, 3), (12, .aload_n 0, 1), (13, .bipush 6, 2), (15, .newarray .int, 2), (17, .putfield 15, 3), (20, .aload_n 0, 1), (21, .iconst 4, 1), (22, .newarray .int, 2), (24, .putfield 18, 3), (27, .aload_n 0, 1), (28, .bipush 7, 2), (30, .bipush 6, 2), (32, .multianewarray 21 2, 4), (36, .putfield 23, 3), (39, .aload_n 0, 1), (40, .bipush 32, 2), (42, .newarray .long, 2), (44, .putfield 26, 3), (47, .aload_n 0, 1), (48, .ldc2_w 30, 3), (51, .putfield 32, 3), (54, .return_, 1)]
theorem dX1_init : dec_ok cX1_init tX1_init = true := by decide +kernel
noncomputable def tX1_run : List (Nat × Instr × Nat) := [(0, .aload_n 0, 1), (1, .ldc2_w 30, 3), (4, .putfield 32, 3), (7, .aload_n 1, 1), (8, .getfield 36, 3), (11, .iconst 4, 1), (12, .if_icmp .gt 12, 3), (15, .aload_n 1, 1), (16, .getfield 42, 3), (19, .bipush 6, 2), (21, .if_icmp .le 4, 3), (24, .return_, 1), (25, .iconst 0, 1), (26, .istore_n 2, 1), (27, .iload_n 2, 1), (28, .bipush 16, 2), (30, .if_icmp .ge 21, 3), (33, .aload_n 0, 1), (34, .getfield 26, 3), (37, .iload_n 2, 1), (38, .aload_n 0, 1), (39, .aload_n 1, 1), (40, .iload_n 2, 1), (41, .invokevirtual 45, 3), (44, .lastore, 1), (45, .iinc 2 1, 3), (48, .goto (-21), 3), (51, .iconst 0, 1), (52, .istore_n 2, 1), (53, .iload_n 2, 1), (54, .aload_n 1, 1), (55, .getfield 36, 3), (58, .if_icmp .ge 21, 3), (61, .aload_n 0, 1), (62, .getfield 18, 3), (65, .iload_n 2, 1), (66, .aload_n 1, 1), (67, .getfield 49, 3), (70, .iload_n 2, 1), (71, .iaload, 1), (72, .iastore, 1), (73, .iinc 2 1, 3), (76, .goto (-23), 3), (79, .iconst 0, 1), (80, .istore_n 2, 1), (81, .iload_n 2, 1), (82, .aload_n 1, 1), (83, .getfield 52, 3), (86, .if_icmp .ge 18, 3), (89, .aload_n 0, 1), (90, .getfield 23, 3), (93, .iconst 0, 1), (94, .aaload, 1), (95, .iload_n 2, 1), (96, .iconst 0, 1), (97, .iastore, 1), (98, .iinc 2 1, 3), (101, .goto (-20), 3), (104, .aload_n 0, 1), (105, .aload_n 1, 1), (106, .iconst 0, 1), (107, .invokestatic 55, 3), (110, .return_, 1)]
theorem dX1_run : dec_ok cX1_run tX1_run = true := by decide +kernel
noncomputable def tX1_holderOf : List (Nat × Instr × Nat) := [(0, .iload_n 1, 1), (1, .ifCond .lt 21, 3), (4, .iload_n 1, 1), (5, .aload_n 0, 1), (6, .getfield 15, 3), (9, .arraylength, 1), (10, .if_icmp .ge 12, 3), (13, .aload_n 0, 1), (14, .getfield 15, 3), (17, .iload_n 1, 1), (18, .iaload, 1), (19, .goto 4, 3), (22, .iconst (-1), 1), (23, .ireturn, 1)]
theorem dX1_holderOf : dec_ok cX1_holderOf tX1_holderOf = true := by decide +kernel
noncomputable def tX1_greatestDay : List (Nat × Instr × Nat) := [(0, .aload_n 0, 1), (1, .getfield 32, 3), (4, .lreturn, 1)]
theorem dX1_greatestDay : dec_ok cX1_greatestDay tX1_greatestDay = true := by decide +kernel
noncomputable def tX1_oddsThatAllCome : List (Nat × Instr × Nat) := [(0, .lconst 1, 1), (1, .lstore_n 3, 1), (2, .iconst 0, 1), (3, .istore 5, 2), (5, .iload 5, 2), (7, .aload_n 1, 1), (8, .getfield 36, 3), (11, .if_icmp .ge 56, 3), (14, .aload_n 1, 1), (15, .getfield 59, 3), (18, .iload 5, 2), (20, .baload, 1), (21, .ifCond .eq 7, 3), (24, .iconst 0, 1), (25, .goto 13, 3), (28, .bipush 10, 2), (30, .aload_n 1, 1), (31, .getfield 63, 3), (34, .iload 5, 2), (36, .iaload, 1), (37, .isub, 1), (38, .istore 6, 2), (40, .lload_n 3, 1), (41, .iload_n 2, 1), (42, .iconst 1, 1), (43, .iload 5, 2), (45, .ishl, 1), (46, .iand, 1), (47, .ifCond .eq 9, 3), (50, .iload 6, 2), (52, .i2l, 1), (53, .goto 6, 3), (56, .ldc2_w 66, 3), (59, .lmul, 1), (60, .lstore_n 3, 1), (61, .iinc 5 1, 3), (64, .goto (-59), 3), (67, .lload_n 3, 1), (68, .lreturn, 1)]
theorem dX1_oddsThatAllCome : dec_ok cX1_oddsThatAllCome tX1_oddsThatAllCome = true := by decide +kernel
noncomputable def tX1_choose : List (Nat × Instr × Nat) := [(0, .iload_n 2, 1), (1, .aload_n 1, 1), (2, .getfield 42, 3), (5, .if_icmp .ge 9, 3), (8, .iload_n 2, 1), (9, .bipush 6, 2), (11, .if_icmp .lt 10, 3), (14, .aload_n 0, 1), (15, .aload_n 1, 1), (16, .iload_n 2, 1), (17, .invokevirtual 68, 3), (20, .return_, 1), (21, .iconst (-1), 1), (22, .istore_n 3, 1), (23, .iload_n 3, 1), (24, .aload_n 1, 1), (25, .getfield 36, 3), (28, .if_icmp .ge 93, 3), (31, .iload_n 3, 1), (32, .iconst (-1), 1), (33, .if_icmp .ne 29, 3), (36, .aload_n 0, 1), (37, .aload_n 1, 1), (38, .iload_n 2, 1), (39, .bipush 16, 2), (41, .invokevirtual 72, 3), (44, .aload_n 0, 1), (45, .getfield 9, 3), (48, .iload_n 2, 1), (49, .iconst (-1), 1), (50, .iastore, 1), (51, .aload_n 0, 1), (52, .aload_n 1, 1), (53, .iload_n 2, 1), (54, .iconst 1, 1), (55, .iadd, 1), (56, .invokestatic 55, 3), (59, .goto 56, 3), (62, .aload_n 0, 1), (63, .getfield 18, 3), (66, .iload_n 3, 1), (67, .iaload, 1), (68, .ifCond .le 47, 3), (71, .aload_n 0, 1), (72, .aload_n 1, 1), (73, .iload_n 2, 1), (74, .iconst 1, 1), (75, .iload_n 3, 1), (76, .ishl, 1), (77, .invokevirtual 72, 3), (80, .aload_n 0, 1), (81, .getfield 9, 3), (84, .iload_n 2, 1), (85, .iload_n 3, 1), (86, .iastore, 1), (87, .aload_n 0, 1), (88, .getfield 18, 3), (91, .iload_n 3, 1), (92, .dup2, 1), (93, .iaload, 1), (94, .iconst 1, 1), (95, .isub, 1), (96, .iastore, 1), (97, .aload_n 0, 1), (98, .aload_n 1, 1), (99, .iload_n 2, 1), (100, .iconst 1, 1), (101, .iadd, 1), (102, .invokestatic 55, 3), (105, .aload_n 0, 1), (106, .getfield 18, 3), (109, .iload_n 3, 1), (110, .dup2, 1), (111, .iaload, 1), (112, .iconst 1, 1), (113, .iadd, 1), (114, .iastore, 1), (115, .iinc 3 1, 3), (118, .goto (-95), 3), (121, .return_, 1)]
theorem dX1_choose : dec_ok cX1_choose tX1_choose = true := by decide +kernel
noncomputable def tX1_take : List (Nat × Instr × Nat) := [(0, .iconst 0, 1), (1, .istore 4, 2), (3, .iload 4, 2), (5, .aload_n 1, 1), (6, .getfield 52, 3), (9, .if_icmp .ge 69, 3), (12, .aload_n 1, 1), (13, .getfield 76, 3), (16, .iload 4, 2), (18, .iaload, 1), (19, .iconst 1, 1), (20, .iload_n 2, 1), (21, .ishl, 1), (22, .iand, 1), (23, .ifCond .eq 7, 3), (26, .iconst 1, 1), (27, .goto 4, 3), (30, .iconst 0, 1), (31, .istore 5, 2), (33, .aload_n 0, 1), (34, .getfield 23, 3), (37, .iload_n 2, 1), (38, .iconst 1, 1), (39, .iadd, 1), (40, .aaload, 1), (41, .iload 4, 2), (43, .iload 5, 2), (45, .ifCond .eq 17, 3), (48, .aload_n 0, 1), (49, .getfield 23, 3), (52, .iload_n 2, 1), (53, .aaload, 1), (54, .iload 4, 2), (56, .iaload, 1), (57, .iload_n 3, 1), (58, .ior, 1), (59, .goto 12, 3), (62, .aload_n 0, 1), (63, .getfield 23, 3), (66, .iload_n 2, 1), (67, .aaload, 1), (68, .iload 4, 2), (70, .iaload, 1), (71, .iastore, 1), (72, .iinc 4 1, 3), (75, .goto (-72), 3), (78, .return_, 1)]
theorem dX1_take : dec_ok cX1_take tX1_take = true := by decide +kernel
noncomputable def tX1_weigh : List (Nat × Instr × Nat) := [(0, .lconst 0, 1), (1, .lstore_n 3, 1), (2, .iconst 0, 1), (3, .istore 5, 2), (5, .iload 5, 2), (7, .aload_n 1, 1), (8, .getfield 52, 3), (11, .if_icmp .ge 35, 3), (14, .lload_n 3, 1), (15, .aload_n 1, 1), (16, .getfield 79, 3), (19, .iload 5, 2), (21, .iaload, 1), (22, .i2l, 1), (23, .aload_n 0, 1), (24, .getfield 26, 3), (27, .aload_n 0, 1), (28, .getfield 23, 3), (31, .iload_n 2, 1), (32, .aaload, 1), (33, .iload 5, 2), (35, .iaload, 1), (36, .laload, 1), (37, .lmul, 1), (38, .ladd, 1), (39, .lstore_n 3, 1), (40, .iinc 5 1, 3), (43, .goto (-38), 3), (46, .lload_n 3, 1), (47, .aload_n 0, 1), (48, .getfield 32, 3), (51, .lcmp, 1), (52, .ifCond .le 22, 3), (55, .aload_n 0, 1), (56, .lload_n 3, 1), (57, .putfield 32, 3), (60, .aload_n 0, 1), (61, .getfield 9, 3), (64, .iconst 0, 1), (65, .aload_n 0, 1), (66, .getfield 15, 3), (69, .iconst 0, 1), (70, .iload_n 2, 1), (71, .invokestatic 82, 3), (74, .return_, 1)]
theorem dX1_weigh : dec_ok cX1_weigh tX1_weigh = true := by decide +kernel
noncomputable def tX2_init : List (Nat × Instr × Nat) := [(0, .aload_n 0, 1), (1, .invokespecial 3, 3), (4, .aload_n 0, 1), (5, .bipush 8, 2), (7, .newarray .int, 2), (9, .putfield 9, 3), (12, .aload_n 0, 1), (13, .bipush 8, 2), (15, .newarray .int, 2), (17, .putfield 15, 3), (20, .aload_n 0, 1), (21, .bipush 8, 2), (23, .bipush 40, 2), (25, .multianewarray 18 2, 4), (29, .putfield 20, 3), (32, .aload_n 0, 1), (33, .bipush 8, 2), (35, .newarray .int, 2), (37, .putfield 23, 3), (40, .iconst 0, 1), (41, .istore_n 1, 1), (42, .iload_n 1, 1), (43, .bipush 8, 2), (45, .if_icmp .ge 16, 3), (48, .aload_n 0, 1), (49, .getfield 9, 3), (52, .iload_n 1, 1), (53, .iconst (-1), 1), (54, .iastore, 1), (55, .iinc 1 1, 3), (58, .goto (-16), 3), (61, .return_, 1)]
theorem dX2_init : dec_ok cX2_init tX2_init = true := by decide +kernel
noncomputable def tX2_isShelf : List (Nat × Instr × Nat) := [(0, .iload_n 1, 1), (1, .ifCond .lt 13, 3), (4, .iload_n 1, 1), (5, .bipush 8, 2), (7, .if_icmp .ge 7, 3), (10, .iconst 1, 1), (11, .goto 4, 3), (14, .iconst 0, 1), (15, .ireturn, 1)]
theorem dX2_isShelf : dec_ok cX2_isShelf tX2_isShelf = true := by decide +kernel
noncomputable def tX2_thingOn : List (Nat × Instr × Nat) := [(0, .aload_n 0, 1), (1, .iload_n 1, 1), (2, .invokevirtual 26, 3), (5, .ifCond .eq 12, 3), (8, .aload_n 0, 1), (9, .getfield 9, 3), (12, .iload_n 1, 1), (13, .iaload, 1), (14, .goto 4, 3), (17, .iconst (-1), 1), (18, .ireturn, 1)]
theorem dX2_thingOn : dec_ok cX2_thingOn tX2_thingOn = true := by decide +kernel
noncomputable def tX2_isBare : List (Nat × Instr × Nat) := [(0, .aload_n 0, 1), (1, .iload_n 1, 1), (2, .invokevirtual 30, 3), (5, .iconst (-1), 1), (6, .if_icmp .ne 7, 3), (9, .iconst 1, 1), (10, .goto 4, 3), (13, .iconst 0, 1), (14, .ireturn, 1)]
theorem dX2_isBare : dec_ok cX2_isBare tX2_isBare = true := by decide +kernel
noncomputable def tX2_isOfHolding : List (Nat × Instr × Nat) := [(0, .aload_n 0, 1), (1, .iload_n 1, 1), (2, .invokevirtual 30, 3), (5, .bipush 10, 2), (7, .if_icmp .lt 7, 3), (10, .iconst 1, 1), (11, .goto 4, 3), (14, .iconst 0, 1), (15, .ireturn, 1)]
theorem dX2_isOfHolding : dec_ok cX2_isOfHolding tX2_isOfHolding = true := by decide +kernel
noncomputable def tX2_isOfRow : List (Nat × Instr × Nat) := [(0, .aload_n 0, 1), (1, .iload_n 1, 1), (2, .invokevirtual 34, 3), (5, .ifCond .ne 15, 3), (8, .aload_n 0, 1), (9, .iload_n 1, 1), (10, .invokevirtual 37, 3), (13, .ifCond .ne 7, 3), (16, .iconst 1, 1), (17, .goto 4, 3), (20, .iconst 0, 1), (21, .ireturn, 1)]
theorem dX2_isOfRow : dec_ok cX2_isOfRow tX2_isOfRow = true := by decide +kernel
noncomputable def tX2_fullCount : List (Nat × Instr × Nat) := [(0, .iconst 0, 1), (1, .istore_n 1, 1), (2, .iconst 0, 1), (3, .istore_n 2, 1), (4, .iload_n 2, 1), (5, .bipush 8, 2), (7, .if_icmp .ge 20, 3), (10, .aload_n 0, 1), (11, .iload_n 2, 1), (12, .invokevirtual 34, 3), (15, .ifCond .ne 6, 3), (18, .iinc 1 1, 3), (21, .iinc 2 1, 3), (24, .goto (-20), 3), (27, .iload_n 1, 1), (28, .ireturn, 1)]
theorem dX2_fullCount : dec_ok cX2_fullCount tX2_fullCount = true := by decide +kernel
noncomputable def tX2_rowFault : List (Nat × Instr × Nat) := [(0, .aload_n 0, 1), (1, .iload_n 1, 1), (2, .invokevirtual 37, 3), (5, .ifCond .eq 6, 3), (8, .bipush (-3), 2), (10, .ireturn, 1), (11, .aload_n 0, 1), (12, .iload_n 1, 1), (13, .invokevirtual 34, 3), (16, .ifCond .eq 8, 3), (19, .bipush (-4), 2), (21, .goto 4, 3), (24, .iconst 0, 1), (25, .ireturn, 1)]
theorem dX2_rowFault : dec_ok cX2_rowFault tX2_rowFault = true := by decide +kernel
noncomputable def tX2_holdingFault : List (Nat × Instr × Nat) := [(0, .aload_n 0, 1), (1, .iload_n 1, 1), (2, .invokevirtual 40, 3), (5, .ifCond .eq 6, 3), (8, .bipush (-3), 2), (10, .ireturn, 1), (11, .aload_n 0, 1), (12, .iload_n 1, 1), (13, .invokevirtual 34, 3), (16, .ifCond .eq 8, 3), (19, .bipush (-4), 2), (21, .goto 4, 3), (24, .iconst 0, 1), (25, .ireturn, 1)]
theorem dX2_holdingFault : dec_ok cX2_holdingFault tX2_holdingFault = true := by decide +kernel
noncomputable def tX2_putRow : List (Nat × Instr × Nat) := [(0, .aload_n 0, 1), (1, .iload_n 1, 1), (2, .invokevirtual 26, 3), (5, .ifCond .eq 37, 3), (8, .iload_n 3, 1), (9, .ifCond .lt 33, 3), (12, .iload_n 3, 1), (13, .bipush 40, 2), (15, .if_icmp .gt 27, 3), (18, .aload_n 0, 1), (19, .getfield 9, 3), (22, .iload_n 1, 1), (23, .iload_n 2, 1), (24, .iastore, 1), (25, .aload_n 0, 1), (26, .getfield 15, 3), (29, .iload_n 1, 1), (30, .iload_n 3, 1), (31, .iastore, 1), (32, .aload_n 0, 1), (33, .getfield 20, 3), (36, .iload_n 1, 1), (37, .aaload, 1), (38, .lconst 0, 1), (39, .invokestatic 43, 3), (42, .return_, 1)]
theorem dX2_putRow : dec_ok cX2_putRow tX2_putRow = true := by decide +kernel
noncomputable def tX2_putHolding : List (Nat × Instr × Nat) := [(0, .aload_n 0, 1), (1, .iload_n 1, 1), (2, .invokevirtual 26, 3), (5, .ifCond .eq 27, 3), (8, .aload_n 0, 1), (9, .getfield 9, 3), (12, .iload_n 1, 1), (13, .bipush 10, 2), (15, .iload_n 2, 1), (16, .iadd, 1), (17, .iastore, 1), (18, .aload_n 0, 1), (19, .getfield 15, 3), (22, .iload_n 1, 1), (23, .iconst 0, 1), (24, .iastore, 1), (25, .aload_n 0, 1), (26, .getfield 23, 3), (29, .iload_n 1, 1), (30, .iload_n 3, 1), (31, .iastore, 1), (32, .return_, 1)]
theorem dX2_putHolding : dec_ok cX2_putHolding tX2_putHolding = true := by decide +kernel
noncomputable def tX2_kindOn : List (Nat × Instr × Nat) := [(0, .aload_n 0, 1), (1, .iload_n 1, 1), (2, .invokevirtual 37, 3), (5, .ifCond .eq 15, 3), (8, .aload_n 0, 1), (9, .getfield 9, 3), (12, .iload_n 1, 1), (13, .iaload, 1), (14, .bipush 10, 2), (16, .isub, 1), (17, .goto 4, 3), (20, .iconst 0, 1), (21, .ireturn, 1)]
theorem dX2_kindOn : dec_ok cX2_kindOn tX2_kindOn = true := by decide +kernel
noncomputable def tX2_byOn : List (Nat × Instr × Nat) := [(0, .aload_n 0, 1), (1, .iload_n 1, 1), (2, .invokevirtual 37, 3), (5, .ifCond .eq 12, 3), (8, .aload_n 0, 1), (9, .getfield 23, 3), (12, .iload_n 1, 1), (13, .iaload, 1), (14, .goto 4, 3), (17, .iconst 0, 1), (18, .ireturn, 1)]
theorem dX2_byOn : dec_ok cX2_byOn tX2_byOn = true := by decide +kernel
noncomputable def tX2_sizeOf : List (Nat × Instr × Nat) := [(0, .aload_n 0, 1), (1, .iload_n 1, 1), (2, .invokevirtual 40, 3), (5, .ifCond .eq 12, 3), (8, .aload_n 0, 1), (9, .getfield 15, 3), (12, .iload_n 1, 1), (13, .iaload, 1), (14, .goto 4, 3), (17, .iconst 0, 1), (18, .ireturn, 1)]
theorem dX2_sizeOf : dec_ok cX2_sizeOf tX2_sizeOf = true := by decide +kernel
noncomputable def tX2_elementAt : List (Nat × Instr × Nat) := [(0, .iload_n 2, 1), (1, .ifCond .lt 23, 3), (4, .iload_n 2, 1), (5, .aload_n 0, 1), (6, .iload_n 1, 1), (7, .invokevirtual 49, 3), (10, .if_icmp .ge 14, 3), (13, .aload_n 0, 1), (14, .getfield 20, 3), (17, .iload_n 1, 1), (18, .aaload, 1), (19, .iload_n 2, 1), (20, .laload, 1), (21, .goto 4, 3), (24, .lconst 0, 1), (25, .lreturn, 1)]
theorem dX2_elementAt : dec_ok cX2_elementAt tX2_elementAt = true := by decide +kernel
noncomputable def tX2_putElement : List (Nat × Instr × Nat) := [(0, .iload_n 2, 1), (1, .ifCond .lt 30, 3), (4, .iload_n 2, 1), (5, .aload_n 0, 1), (6, .iload_n 1, 1), (7, .invokevirtual 49, 3), (10, .if_icmp .ge 21, 3), (13, .aload_n 0, 1), (14, .getfield 20, 3), (17, .iload_n 1, 1), (18, .aaload, 1), (19, .iload_n 2, 1), (20, .aload_n 0, 1), (21, .getfield 9, 3), (24, .iload_n 1, 1), (25, .iaload, 1), (26, .lload_n 3, 1), (27, .invokestatic 52, 3), (30, .lastore, 1), (31, .return_, 1)]
theorem dX2_putElement : dec_ok cX2_putElement tX2_putElement = true := by decide +kernel
noncomputable def tX2_lowestBits : List (Nat × Instr × Nat) := [(0, .iload_n 0, 1), (1, .tableswitch 47 0 3 #[31, 36, 41, 45], 31), (32, .lload_n 1, 1), (33, .l2i, 1), (34, .i2b, 1), (35, .i2l, 1), (36, .lreturn, 1), (37, .lload_n 1, 1), (38, .l2i, 1), (39, .i2s, 1), (40, .i2l, 1), (41, .lreturn, 1), (42, .lload_n 1, 1), (43, .l2i, 1), (44, .i2l, 1), (45, .lreturn, 1), (46, .lload_n 1, 1), (47, .lreturn, 1), (48, .lload_n 1, 1), (49, .lconst 0, 1), (50, .lcmp, 1), (51, .ifCond .eq 7, 3), (54, .lconst 1, 1), (55, .goto 4, 3), (58, .lconst 0, 1), (59, .lreturn, 1)]
theorem dX2_lowestBits : dec_ok cX2_lowestBits tX2_lowestBits = true := by decide +kernel
noncomputable def tX2_copyElements : List (Nat × Instr × Nat) := [(0, .iload 5, 2), (2, .ifCond .lt 41, 3), (5, .iload_n 3, 1), (6, .ifCond .lt 37, 3), (9, .iload 4, 2), (11, .ifCond .lt 32, 3), (14, .iload_n 3, 1), (15, .aload_n 0, 1), (16, .iload_n 1, 1), (17, .invokevirtual 49, 3), (20, .iload 5, 2), (22, .isub, 1), (23, .if_icmp .gt 20, 3), (26, .iload 4, 2), (28, .aload_n 0, 1), (29, .iload_n 2, 1), (30, .invokevirtual 49, 3), (33, .iload 5, 2), (35, .isub, 1), (36, .if_icmp .gt 7, 3), (39, .iconst 1, 1), (40, .goto 4, 3), (43, .iconst 0, 1), (44, .istore 6, 2), (46, .iload 6, 2), (48, .ifCond .eq 39, 3), (51, .aload_n 0, 1), (52, .iload_n 1, 1), (53, .invokevirtual 40, 3), (56, .ifCond .eq 31, 3), (59, .aload_n 0, 1), (60, .iload_n 2, 1), (61, .invokevirtual 40, 3), (64, .ifCond .eq 23, 3), (67, .aload_n 0, 1), (68, .getfield 20, 3), (71, .iload_n 1, 1), (72, .aaload, 1), (73, .iload_n 3, 1), (74, .aload_n 0, 1), (75, .getfield 20, 3), (78, .iload_n 2, 1), (79, .aaload, 1), (80, .iload 4, 2), (82, .iload 5, 2), (84, .invokestatic 56, 3), (87, .return_, 1)]
theorem dX2_copyElements : dec_ok cX2_copyElements tX2_copyElements = true := by decide +kernel
noncomputable def tX3_init : List (Nat × Instr × Nat) := [(0, .aload_n 0, 1), (1, .invokespecial 3, 3), (4, .aload_n 0, 1), (5, .sipush 250, 3), (8, .newarray .byte, 2), (10, .putfield 9, 3), (13, .aload_n 0, 1), (14, .iconst 0, 1), (15, .putfield 15, 3), (18, .aload_n 0, 1), (19, .iconst 3, 1), (20, .putfield 19, 3), (23, .aload_n 0, 1), (24, .iconst 0, 1), (25, .putfield 22, 3), (28, .aload_n 0, 1), (29, .iconst 0, 1), (30, .putfield 25, 3), (33, .return_, 1)]
theorem dX3_init : dec_ok cX3_init tX3_init = true := by decide +kernel
noncomputable def tX3_length : List (Nat × Instr × Nat) := [(0, .aload_n 0, 1), (1, .getfield 15, 3), (4, .ireturn, 1)]
theorem dX3_length : dec_ok cX3_length tX3_length = true := by decide +kernel
noncomputable def tX3_append : List (Nat × Instr × Nat) := [(0, .aload_n 0, 1), (1, .getfield 15, 3), (4, .sipush 250, 3), (7, .if_icmp .ge 24, 3), (10, .aload_n 0, 1), (11, .getfield 9, 3), (14, .aload_n 0, 1), (15, .getfield 15, 3), (18, .iload_n 1, 1), (19, .i2b, 1), (20, .bastore, 1), (21, .aload_n 0, 1), (22, .dup, 1), (23, .getfield 15, 3), (26, .iconst 1, 1), (27, .iadd, 1), (28, .putfield 15, 3), (31, .return_, 1)]
theorem dX3_append : dec_ok cX3_append tX3_append = true := by decide +kernel
noncomputable def tX3_clear : List (Nat × Instr × Nat) := [(0, .aload_n 0, 1), (1, .iconst 0, 1), (2, .putfield 15, 3), (5, .return_, 1)]
theorem dX3_clear : dec_ok cX3_clear tX3_clear = true := by decide +kernel
noncomputable def tX3_faultPlace : List (Nat × Instr × Nat) := [(0, .aload_n 0, 1), (1, .getfield 22, 3), (4, .ireturn, 1)]
theorem dX3_faultPlace : dec_ok cX3_faultPlace tX3_faultPlace = true := by decide +kernel
noncomputable def tX3_readInto : List (Nat × Instr × Nat) := [(0, .aload_n 0, 1), (1, .iconst 0, 1), (2, .putfield 25, 3), (5, .aload_n 0, 1), (6, .invokevirtual 28, 3), (9, .iconst 1, 1), (10, .istore_n 2, 1), (11, .iload_n 2, 1), (12, .sipush 250, 3), (15, .if_icmp .gt 43, 3), (18, .aload_n 0, 1), (19, .aload_n 1, 1), (20, .invokevirtual 31, 3), (23, .ifCond .ne 5, 3), (26, .iconst (-1), 1), (27, .ireturn, 1), (28, .aload_n 0, 1), (29, .getfield 19, 3), (32, .iconst 3, 1), (33, .if_icmp .ne 5, 3), (36, .iload_n 2, 1), (37, .ireturn, 1), (38, .aload_n 0, 1), (39, .getfield 19, 3), (42, .iconst 2, 1), (43, .if_icmp .eq 5, 3), (46, .iconst (-1), 1), (47, .ireturn, 1), (48, .aload_n 0, 1), (49, .invokevirtual 28, 3), (52, .iinc 2 1, 3), (55, .goto (-44), 3), (58, .iconst (-1), 1), (59, .ireturn, 1)]
theorem dX3_readInto : dec_ok cX3_readInto tX3_readInto = true := by decide +kernel
noncomputable def tX3_readStatement : List (Nat × Instr × Nat) := [(0, .aload_n 0, 1), (1, .ldc 35, 2), (3, .invokevirtual 37, 3), (6, .ifCond .eq 9, 3), (9, .aload_n 0, 1), (10, .aload_n 1, 1), (11, .invokevirtual 41, 3), (14, .ireturn, 1), (15, .aload_n 0, 1), (16, .ldc 44, 2), (18, .invokevirtual 37, 3), (21, .ifCond .eq 9, 3), (24, .aload_n 0, 1), (25, .aload_n 1, 1), (26, .invokevirtual 46, 3), (29, .ireturn, 1), (30, .aload_n 0, 1), (31, .ldc 49, 2), (33, .invokevirtual 37, 3), (36, .ifCond .eq 9, 3), (39, .aload_n 0, 1), (40, .aload_n 1, 1), (41, .invokevirtual 51, 3), (44, .ireturn, 1), (45, .aload_n 0, 1), (46, .ldc 54, 2), (48, .invokevirtual 37, 3), (51, .ifCond .eq 15, 3), (54, .aload_n 0, 1), (55, .aload_n 1, 1), (56, .invokevirtual 56, 3), (59, .ifCond .eq 7, 3), (62, .iconst 1, 1), (63, .goto 4, 3), (66, .iconst 0, 1), (67, .ireturn, 1)]
theorem dX3_readStatement : dec_ok cX3_readStatement tX3_readStatement = true := by decide +kernel
noncomputable def tX3_readPart : List (Nat × Instr × Nat) := [(0, .aload_n 1, 1), (1, .invokevirtual 59, 3), (4, .istore_n 2, 1), (5, .iload_n 2, 1), (6, .iconst (-1), 1), (7, .if_icmp .ne 5, 3), (10, .iconst 0, 1), (11, .ireturn, 1), (12, .aload_n 0, 1), (13, .invokevirtual 28, 3), (16, .aload_n 0, 1), (17, .ldc 65, 2), (19, .invokevirtual 37, 3), (22, .ifCond .eq 40, 3), (25, .aload_n 0, 1), (26, .invokevirtual 28, 3), (29, .aload_n 0, 1), (30, .iconst 0, 1), (31, .aload_n 1, 1), (32, .getfield 67, 3), (35, .iconst 1, 1), (36, .isub, 1), (37, .invokevirtual 70, 3), (40, .istore_n 3, 1), (41, .aload_n 1, 1), (42, .iload_n 3, 1), (43, .invokevirtual 74, 3), (46, .ifCond .ne 5, 3), (49, .iconst 0, 1), (50, .ireturn, 1), (51, .aload_n 1, 1), (52, .getfield 78, 3), (55, .iload_n 2, 1), (56, .iload_n 3, 1), (57, .iastore, 1), (58, .aload_n 0, 1), (59, .invokevirtual 28, 3), (62, .aload_n 0, 1), (63, .ldc 82, 2), (65, .invokevirtual 37, 3), (68, .ifCond .eq 40, 3), (71, .aload_n 0, 1), (72, .invokevirtual 28, 3), (75, .aload_n 0, 1), (76, .iconst 0, 1), (77, .aload_n 1, 1), (78, .getfield 67, 3), (81, .iconst 1, 1), (82, .isub, 1), (83, .invokevirtual 70, 3), (86, .istore_n 3, 1), (87, .aload_n 1, 1), (88, .iload_n 3, 1), (89, .invokevirtual 74, 3), (92, .ifCond .ne 5, 3), (95, .iconst 0, 1), (96, .ireturn, 1), (97, .aload_n 1, 1), (98, .getfield 84, 3), (101, .iload_n 2, 1), (102, .iload_n 3, 1), (103, .iastore, 1), (104, .aload_n 0, 1), (105, .invokevirtual 28, 3), (108, .iconst 1, 1), (109, .ireturn, 1)]
theorem dX3_readPart : dec_ok cX3_readPart tX3_readPart = true := by decide +kernel
noncomputable def tX3_readMachine : List (Nat × Instr × Nat) := [(0, .aload_n 1, 1), (1, .getfield 86, 3), (4, .bipush 6, 2), (6, .if_icmp .lt 5, 3), (9, .iconst 0, 1), (10, .ireturn, 1), (11, .aload_n 0, 1), (12, .invokevirtual 28, 3), (15, .aload_n 0, 1), (16, .iconst 1, 1), (17, .bipush 99, 2), (19, .invokevirtual 70, 3), (22, .istore_n 2, 1), (23, .iload_n 2, 1), (24, .iconst (-1), 1), (25, .if_icmp .ne 5, 3), (28, .iconst 0, 1), (29, .ireturn, 1), (30, .aload_n 0, 1), (31, .invokevirtual 28, 3), (34, .aload_n 0, 1), (35, .ldc 89, 2), (37, .invokevirtual 37, 3), (40, .ifCond .ne 5, 3), (43, .iconst 0, 1), (44, .ireturn, 1), (45, .iconst 0, 1), (46, .istore_n 3, 1), (47, .iconst 1, 1), (48, .istore 4, 2), (50, .iconst 0, 1), (51, .istore 5, 2), (53, .iload 5, 2), (55, .sipush 250, 3), (58, .if_icmp .ge 58, 3), (61, .iload 4, 2), (63, .ifCond .eq 53, 3), (66, .aload_n 0, 1), (67, .invokevirtual 28, 3), (70, .aload_n 0, 1), (71, .iconst 0, 1), (72, .aload_n 1, 1), (73, .getfield 91, 3), (76, .iconst 1, 1), (77, .isub, 1), (78, .invokevirtual 70, 3), (81, .istore 6, 2), (83, .iload 6, 2), (85, .iconst (-1), 1), (86, .if_icmp .ne 5, 3), (89, .iconst 0, 1), (90, .ireturn, 1), (91, .iload_n 3, 1), (92, .iconst 1, 1), (93, .iload 6, 2), (95, .ishl, 1), (96, .ior, 1), (97, .istore_n 3, 1), (98, .aload_n 0, 1), (99, .invokevirtual 28, 3), (102, .aload_n 0, 1), (103, .ldc 94, 2), (105, .invokevirtual 37, 3), (108, .istore 4, 2), (110, .iinc 5 1, 3), (113, .goto (-60), 3), (116, .aload_n 1, 1), (117, .iload_n 3, 1), (118, .iload_n 2, 1), (119, .invokevirtual 96, 3), (122, .pop, 1), (123, .iconst 1, 1), (124, .ireturn, 1)]
theorem dX3_readMachine : dec_ok cX3_readMachine tX3_readMachine = true := by decide +kernel
noncomputable def tX3_readOne : List (Nat × Instr × Nat) := [(0, .aload_n 1, 1), (1, .getfield 67, 3), (4, .bipush 8, 2), (6, .if_icmp .lt 5, 3), (9, .iconst 0, 1), (10, .ireturn, 1), (11, .aload_n 0, 1), (12, .invokevirtual 28, 3), (15, .aload_n 0, 1), (16, .iconst 0, 1), (17, .bipush 9, 2), (19, .invokevirtual 70, 3), (22, .istore_n 2, 1), (23, .iload_n 2, 1), (24, .iconst (-1), 1), (25, .if_icmp .ne 5, 3), (28, .iconst 0, 1), (29, .ireturn, 1), (30, .aload_n 0, 1), (31, .invokevirtual 28, 3), (34, .iconst 0, 1), (35, .istore_n 3, 1), (36, .aload_n 0, 1), (37, .ldc 99, 2), (39, .invokevirtual 37, 3), (42, .ifCond .eq 26, 3), (45, .aload_n 0, 1), (46, .invokevirtual 28, 3), (49, .aload_n 0, 1), (50, .iconst 0, 1), (51, .bipush 10, 2), (53, .invokevirtual 70, 3), (56, .istore_n 3, 1), (57, .iload_n 3, 1), (58, .iconst (-1), 1), (59, .if_icmp .ne 5, 3), (62, .iconst 0, 1), (63, .ireturn, 1), (64, .aload_n 0, 1), (65, .invokevirtual 28, 3), (68, .aload_n 1, 1), (69, .iload_n 2, 1), (70, .iload_n 3, 1), (71, .invokevirtual 101, 3), (74, .istore 4, 2), (76, .iload 4, 2), (78, .iconst (-1), 1), (79, .if_icmp .eq 24, 3), (82, .aload_n 0, 1), (83, .ldc 104, 2), (85, .invokevirtual 37, 3), (88, .ifCond .eq 15, 3), (91, .aload_n 1, 1), (92, .getfield 106, 3), (95, .iload 4, 2), (97, .iconst 1, 1), (98, .bastore, 1), (99, .aload_n 0, 1), (100, .invokevirtual 28, 3), (103, .iload 4, 2), (105, .iconst (-1), 1), (106, .if_icmp .eq 7, 3), (109, .iconst 1, 1), (110, .goto 4, 3), (113, .iconst 0, 1), (114, .ireturn, 1)]
theorem dX3_readOne : dec_ok cX3_readOne tX3_readOne = true := by decide +kernel
noncomputable def tX3_readGives : List (Nat × Instr × Nat) := [(0, .aload_n 0, 1), (1, .invokevirtual 28, 3), (4, .aload_n 0, 1), (5, .iconst 0, 1), (6, .aload_n 1, 1), (7, .getfield 91, 3), (10, .iconst 1, 1), (11, .isub, 1), (12, .invokevirtual 70, 3), (15, .istore_n 2, 1), (16, .iload_n 2, 1), (17, .iconst (-1), 1), (18, .if_icmp .ne 5, 3), (21, .iconst 0, 1), (22, .ireturn, 1), (23, .aload_n 0, 1), (24, .invokevirtual 28, 3), (27, .aload_n 0, 1), (28, .iconst 0, 1), (29, .aload_n 1, 1), (30, .getfield 67, 3), (33, .iconst 1, 1), (34, .isub, 1), (35, .invokevirtual 70, 3), (38, .istore_n 3, 1), (39, .iload_n 3, 1), (40, .iconst (-1), 1), (41, .if_icmp .eq 21, 3), (44, .aload_n 1, 1), (45, .getfield 78, 3), (48, .iload_n 2, 1), (49, .iaload, 1), (50, .iload_n 3, 1), (51, .if_icmp .eq 13, 3), (54, .aload_n 1, 1), (55, .iload_n 3, 1), (56, .invokevirtual 74, 3), (59, .ifCond .ne 5, 3), (62, .iconst 0, 1), (63, .ireturn, 1), (64, .aload_n 1, 1), (65, .getfield 78, 3), (68, .iload_n 2, 1), (69, .iload_n 3, 1), (70, .iastore, 1), (71, .aload_n 0, 1), (72, .invokevirtual 28, 3), (75, .iconst 1, 1), (76, .ireturn, 1)]
theorem dX3_readGives : dec_ok cX3_readGives tX3_readGives = true := by decide +kernel
noncomputable def tX3_step : List (Nat × Instr × Nat) := [(0, .aload_n 0, 1), (1, .aload_n 0, 1), (2, .iconst 0, 1), (3, .aload_n 0, 1), (4, .getfield 25, 3), (7, .invokevirtual 110, 3), (10, .putfield 22, 3), (13, .aload_n 0, 1), (14, .aload_n 0, 1), (15, .getfield 22, 3), (18, .invokevirtual 113, 3), (21, .istore_n 1, 1), (22, .aload_n 0, 1), (23, .getfield 22, 3), (26, .aload_n 0, 1), (27, .getfield 15, 3), (30, .if_icmp .lt 19, 3), (33, .aload_n 0, 1), (34, .iconst 3, 1), (35, .putfield 19, 3), (38, .aload_n 0, 1), (39, .aload_n 0, 1), (40, .getfield 22, 3), (43, .putfield 25, 3), (46, .goto 86, 3), (49, .iconst 1, 1), (50, .iload_n 1, 1), (51, .invokestatic 117, 3), (54, .ifCond .eq 24, 3), (57, .aload_n 0, 1), (58, .iconst 0, 1), (59, .putfield 19, 3), (62, .aload_n 0, 1), (63, .aload_n 0, 1), (64, .iconst 1, 1), (65, .aload_n 0, 1), (66, .getfield 22, 3), (69, .invokevirtual 110, 3), (72, .putfield 25, 3), (75, .goto 57, 3), (78, .iconst 2, 1), (79, .iload_n 1, 1), (80, .invokestatic 117, 3), (83, .ifCond .eq 24, 3), (86, .aload_n 0, 1), (87, .iconst 1, 1), (88, .putfield 19, 3), (91, .aload_n 0, 1), (92, .aload_n 0, 1), (93, .iconst 2, 1), (94, .aload_n 0, 1), (95, .getfield 22, 3), (98, .invokevirtual 110, 3), (101, .putfield 25, 3), (104, .goto 28, 3), (107, .aload_n 0, 1), (108, .iload_n 1, 1), (109, .bipush 59, 2), (111, .if_icmp .ne 7, 3), (114, .iconst 2, 1), (115, .goto 4, 3), (118, .iconst 4, 1), (119, .putfield 19, 3), (122, .aload_n 0, 1), (123, .aload_n 0, 1), (124, .getfield 22, 3), (127, .iconst 1, 1), (128, .iadd, 1), (129, .putfield 25, 3), (132, .return_, 1)]
theorem dX3_step : dec_ok cX3_step tX3_step = true := by decide +kernel
noncomputable def tX3_isOf : List (Nat × Instr × Nat) := [(0, .iload_n 0, 1), (1, .lookupswitch 57 #[(0, 27), (1, 39)], 27), (28, .iload_n 1, 1), (29, .bipush 32, 2), (31, .if_icmp .ne 7, 3), (34, .iconst 1, 1), (35, .goto 4, 3), (38, .iconst 0, 1), (39, .ireturn, 1), (40, .iload_n 1, 1), (41, .bipush 97, 2), (43, .if_icmp .lt 13, 3), (46, .iload_n 1, 1), (47, .bipush 122, 2), (49, .if_icmp .gt 7, 3), (52, .iconst 1, 1), (53, .goto 4, 3), (56, .iconst 0, 1), (57, .ireturn, 1), (58, .iload_n 1, 1), (59, .bipush 48, 2), (61, .if_icmp .lt 13, 3), (64, .iload_n 1, 1), (65, .bipush 57, 2), (67, .if_icmp .gt 7, 3), (70, .iconst 1, 1), (71, .goto 4, 3), (74, .iconst 0, 1), (75, .ireturn, 1)]
theorem dX3_isOf : dec_ok cX3_isOf tX3_isOf = true := by decide +kernel
noncomputable def tX3_endOf : List (Nat × Instr × Nat) := [(0, .iload_n 2, 1), (1, .istore_n 3, 1), (2, .iload_n 3, 1), (3, .aload_n 0, 1), (4, .getfield 15, 3), (7, .if_icmp .ge 21, 3), (10, .iload_n 1, 1), (11, .aload_n 0, 1), (12, .iload_n 3, 1), (13, .invokevirtual 113, 3), (16, .invokestatic 117, 3), (19, .ifCond .eq 9, 3), (22, .iinc 3 1, 3), (25, .goto (-23), 3), (28, .iload_n 3, 1), (29, .ireturn, 1)]
theorem dX3_endOf : dec_ok cX3_endOf tX3_endOf = true := by decide +kernel
noncomputable def tX3_byteAt : List (Nat × Instr × Nat) := [(0, .iload_n 1, 1), (1, .ifCond .lt 27, 3), (4, .iload_n 1, 1), (5, .aload_n 0, 1), (6, .getfield 15, 3), (9, .if_icmp .ge 19, 3), (12, .iload_n 1, 1), (13, .sipush 250, 3), (16, .if_icmp .ge 12, 3), (19, .aload_n 0, 1), (20, .getfield 9, 3), (23, .iload_n 1, 1), (24, .baload, 1), (25, .goto 4, 3), (28, .iconst (-1), 1), (29, .ireturn, 1)]
theorem dX3_byteAt : dec_ok cX3_byteAt tX3_byteAt = true := by decide +kernel
noncomputable def tX3_isWord : List (Nat × Instr × Nat) := [(0, .aload_n 0, 1), (1, .getfield 19, 3), (4, .ifCond .ne 19, 3), (7, .aload_n 0, 1), (8, .getfield 25, 3), (11, .aload_n 0, 1), (12, .getfield 22, 3), (15, .isub, 1), (16, .aload_n 1, 1), (17, .invokevirtual 121, 3), (20, .if_icmp .eq 5, 3), (23, .iconst 0, 1), (24, .ireturn, 1), (25, .iconst 0, 1), (26, .istore_n 2, 1), (27, .iload_n 2, 1), (28, .aload_n 1, 1), (29, .invokevirtual 121, 3), (32, .if_icmp .ge 29, 3), (35, .aload_n 0, 1), (36, .aload_n 0, 1), (37, .getfield 22, 3), (40, .iload_n 2, 1), (41, .iadd, 1), (42, .invokevirtual 113, 3), (45, .aload_n 1, 1), (46, .iload_n 2, 1), (47, .invokevirtual 126, 3), (50, .if_icmp .eq 5, 3), (53, .iconst 0, 1), (54, .ireturn, 1), (55, .iinc 2 1, 3), (58, .goto (-31), 3), (61, .iconst 1, 1), (62, .ireturn, 1)]
theorem dX3_isWord : dec_ok cX3_isWord tX3_isWord = true := by decide +kernel
noncomputable def tX3_numberIn : List (Nat × Instr × Nat) := [(0, .aload_n 0, 1), (1, .getfield 19, 3), (4, .iconst 1, 1), (5, .if_icmp .ne 16, 3), (8, .aload_n 0, 1), (9, .getfield 25, 3), (12, .aload_n 0, 1), (13, .getfield 22, 3), (16, .isub, 1), (17, .iconst 2, 1), (18, .if_icmp .le 5, 3), (21, .iconst (-1), 1), (22, .ireturn, 1), (23, .iconst 0, 1), (24, .istore_n 3, 1), (25, .aload_n 0, 1), (26, .getfield 22, 3), (29, .istore 4, 2), (31, .iload 4, 2), (33, .aload_n 0, 1), (34, .getfield 25, 3), (37, .if_icmp .ge 24, 3), (40, .bipush 10, 2), (42, .iload_n 3, 1), (43, .imul, 1), (44, .aload_n 0, 1), (45, .iload 4, 2), (47, .invokevirtual 113, 3), (50, .iadd, 1), (51, .bipush 48, 2), (53, .isub, 1), (54, .istore_n 3, 1), (55, .iinc 4 1, 3), (58, .goto (-27), 3), (61, .iload_n 3, 1), (62, .iload_n 1, 1), (63, .if_icmp .lt 8, 3), (66, .iload_n 3, 1), (67, .iload_n 2, 1), (68, .if_icmp .le 7, 3), (71, .iconst (-1), 1), (72, .goto 4, 3), (75, .iload_n 3, 1), (76, .ireturn, 1)]
theorem dX3_numberIn : dec_ok cX3_numberIn tX3_numberIn = true := by decide +kernel
noncomputable def tX4_init : List (Nat × Instr × Nat) := [(0, .aload_n 0, 1), (1, .invokespecial 3, 3), (4, .aload_n 0, 1), (5, .sipush 256, 3), (8, .newarray .long, 2), (10, .putfield 9, 3), (13, .aload_n 0, 1), (14, .sipush 256, 3), (17, .newarray .int, 2), (19, .putfield 15, 3), (22, .aload_n 0, 1), (23, .bipush 8, 2), (25, .newarray .int, 2), (27, .putfield 19, 3), (30, .iconst 1, 1), (31, .istore_n 1, 1), (32, .iconst 0, 1), (33, .istore_n 2, 1), (34, .iload_n 2, 1), (35, .bipush 8, 2), (37, .if_icmp .ge 28, 3), (40, .iload_n 2, 1), (41, .ifCond .ne 7, 3), (44, .iconst 1, 1), (45, .goto 6, 3), (48, .iload_n 1, 1), (49, .iload_n 2, 1), (50, .imul, 1), (51, .istore_n 1, 1), (52, .aload_n 0, 1), (53, .getfield 19, 3), (56, .iload_n 2, 1), (57, .iload_n 1, 1), (58, .iastore, 1), (59, .iinc 2 1, 3), (62, .goto (-28), 3), (65, .return_, 1)]
theorem dX4_init : dec_ok cX4_init tX4_init = true := by decide +kernel
noncomputable def tX4_weigh : List (Nat × Instr × Nat) := [(0, .aload_n 0, 1), (1, .getfield 9, 3), (4, .iconst 0, 1), (5, .lconst 1, 1), (6, .lastore, 1), (7, .iconst 0, 1), (8, .istore_n 2, 1), (9, .iload_n 2, 1), (10, .aload_n 1, 1), (11, .getfield 22, 3), (14, .if_icmp .ge 91, 3), (17, .aload_n 1, 1), (18, .getfield 28, 3), (21, .iload_n 2, 1), (22, .baload, 1), (23, .ifCond .eq 8, 3), (26, .bipush 10, 2), (28, .goto 9, 3), (31, .aload_n 1, 1), (32, .getfield 32, 3), (35, .iload_n 2, 1), (36, .iaload, 1), (37, .istore_n 3, 1), (38, .iconst 1, 1), (39, .iload_n 2, 1), (40, .ishl, 1), (41, .istore 4, 2), (43, .iconst 0, 1), (44, .istore 5, 2), (46, .iload 5, 2), (48, .iload 4, 2), (50, .if_icmp .ge 49, 3), (53, .aload_n 0, 1), (54, .getfield 9, 3), (57, .iload 5, 2), (59, .iload 4, 2), (61, .ior, 1), (62, .aload_n 0, 1), (63, .getfield 9, 3), (66, .iload 5, 2), (68, .laload, 1), (69, .bipush 10, 2), (71, .iload_n 3, 1), (72, .isub, 1), (73, .i2l, 1), (74, .lmul, 1), (75, .lastore, 1), (76, .aload_n 0, 1), (77, .getfield 9, 3), (80, .iload 5, 2), (82, .aload_n 0, 1), (83, .getfield 9, 3), (86, .iload 5, 2), (88, .laload, 1), (89, .iload_n 3, 1), (90, .i2l, 1), (91, .lmul, 1), (92, .lastore, 1), (93, .iinc 5 1, 3), (96, .goto (-50), 3), (99, .iinc 2 1, 3), (102, .goto (-93), 3), (105, .return_, 1)]
theorem dX4_weigh : dec_ok cX4_weigh tX4_weigh = true := by decide +kernel
noncomputable def tX4_gather : List (Nat × Instr × Nat) := [(0, .aload_n 0, 1), (1, .getfield 15, 3), (4, .iconst 0, 1), (5, .iconst 0, 1), (6, .iastore, 1), (7, .iconst 0, 1), (8, .istore_n 2, 1), (9, .iload_n 2, 1), (10, .aload_n 1, 1), (11, .getfield 22, 3), (14, .if_icmp .ge 55, 3), (17, .aload_n 1, 1), (18, .iload_n 2, 1), (19, .invokevirtual 35, 3), (22, .istore_n 3, 1), (23, .iconst 1, 1), (24, .iload_n 2, 1), (25, .ishl, 1), (26, .istore 4, 2), (28, .iconst 0, 1), (29, .istore 5, 2), (31, .iload 5, 2), (33, .iload 4, 2), (35, .if_icmp .ge 28, 3), (38, .aload_n 0, 1), (39, .getfield 15, 3), (42, .iload 5, 2), (44, .iload 4, 2), (46, .ior, 1), (47, .aload_n 0, 1), (48, .getfield 15, 3), (51, .iload 5, 2), (53, .iaload, 1), (54, .iload_n 3, 1), (55, .ior, 1), (56, .iastore, 1), (57, .iinc 5 1, 3), (60, .goto (-29), 3), (63, .iinc 2 1, 3), (66, .goto (-57), 3), (69, .return_, 1)]
theorem dX4_gather : dec_ok cX4_gather tX4_gather = true := by decide +kernel
noncomputable def tX4_partsOf : List (Nat × Instr × Nat) := [(0, .iload_n 1, 1), (1, .ifCond .lt 19, 3), (4, .iload_n 1, 1), (5, .sipush 256, 3), (8, .if_icmp .ge 12, 3), (11, .aload_n 0, 1), (12, .getfield 15, 3), (15, .iload_n 1, 1), (16, .iaload, 1), (17, .goto 4, 3), (20, .iconst 0, 1), (21, .ireturn, 1)]
theorem dX4_partsOf : dec_ok cX4_partsOf tX4_partsOf = true := by decide +kernel
noncomputable def tX4_oddsOf : List (Nat × Instr × Nat) := [(0, .aload_n 0, 1), (1, .aload_n 1, 1), (2, .invokevirtual 39, 3), (5, .aload_n 0, 1), (6, .aload_n 1, 1), (7, .invokevirtual 43, 3), (10, .lconst 0, 1), (11, .lstore_n 3, 1), (12, .iconst 0, 1), (13, .istore 5, 2), (15, .iload 5, 2), (17, .aload_n 1, 1), (18, .invokevirtual 46, 3), (21, .if_icmp .gt 34, 3), (24, .aload_n 1, 1), (25, .iload_n 2, 1), (26, .aload_n 0, 1), (27, .getfield 15, 3), (30, .iload 5, 2), (32, .iaload, 1), (33, .invokevirtual 50, 3), (36, .ifCond .eq 13, 3), (39, .lload_n 3, 1), (40, .aload_n 0, 1), (41, .getfield 9, 3), (44, .iload 5, 2), (46, .laload, 1), (47, .ladd, 1), (48, .lstore_n 3, 1), (49, .iinc 5 1, 3), (52, .goto (-37), 3), (55, .lload_n 3, 1), (56, .lreturn, 1)]
theorem dX4_oddsOf : dec_ok cX4_oddsOf tX4_oddsOf = true := by decide +kernel
noncomputable def tX4_oddsOfPair : List (Nat × Instr × Nat) := [(0, .aload_n 0, 1), (1, .aload_n 1, 1), (2, .invokevirtual 39, 3), (5, .lconst 0, 1), (6, .lstore 4, 2), (8, .iconst 0, 1), (9, .istore 6, 2), (11, .iload 6, 2), (13, .aload_n 1, 1), (14, .invokevirtual 46, 3), (17, .if_icmp .gt 44, 3), (20, .aload_n 0, 1), (21, .getfield 9, 3), (24, .iload 6, 2), (26, .laload, 1), (27, .lconst 0, 1), (28, .lcmp, 1), (29, .ifCond .eq 26, 3), (32, .aload_n 1, 1), (33, .iload_n 2, 1), (34, .iload_n 3, 1), (35, .iload 6, 2), (37, .invokevirtual 54, 3), (40, .ifCond .eq 15, 3), (43, .lload 4, 2), (45, .aload_n 0, 1), (46, .getfield 9, 3), (49, .iload 6, 2), (51, .laload, 1), (52, .ladd, 1), (53, .lstore 4, 2), (55, .iinc 6 1, 3), (58, .goto (-47), 3), (61, .lload 4, 2), (63, .lreturn, 1)]
theorem dX4_oddsOfPair : dec_ok cX4_oddsOfPair tX4_oddsOfPair = true := by decide +kernel
noncomputable def tX4_worthOfDay : List (Nat × Instr × Nat) := [(0, .aload_n 0, 1), (1, .aload_n 1, 1), (2, .invokevirtual 39, 3), (5, .aload_n 0, 1), (6, .aload_n 1, 1), (7, .invokevirtual 58, 3), (10, .lreturn, 1)]
theorem dX4_worthOfDay : dec_ok cX4_worthOfDay tX4_worthOfDay = true := by decide +kernel
noncomputable def tX4_worthAsWeighed : List (Nat × Instr × Nat) := [(0, .aload_n 0, 1), (1, .aload_n 1, 1), (2, .invokevirtual 43, 3), (5, .lconst 0, 1), (6, .lstore_n 2, 1), (7, .iconst 0, 1), (8, .istore 4, 2), (10, .iload 4, 2), (12, .aload_n 1, 1), (13, .invokevirtual 46, 3), (16, .if_icmp .gt 44, 3), (19, .aload_n 0, 1), (20, .getfield 9, 3), (23, .iload 4, 2), (25, .laload, 1), (26, .lconst 0, 1), (27, .lcmp, 1), (28, .ifCond .eq 26, 3), (31, .lload_n 2, 1), (32, .aload_n 0, 1), (33, .getfield 9, 3), (36, .iload 4, 2), (38, .laload, 1), (39, .aload_n 1, 1), (40, .aload_n 0, 1), (41, .getfield 15, 3), (44, .iload 4, 2), (46, .iaload, 1), (47, .invokevirtual 62, 3), (50, .i2l, 1), (51, .lmul, 1), (52, .ladd, 1), (53, .lstore_n 2, 1), (54, .iinc 4 1, 3), (57, .goto (-47), 3), (60, .lload_n 2, 1), (61, .lreturn, 1)]
theorem dX4_worthAsWeighed : dec_ok cX4_worthAsWeighed tX4_worthAsWeighed = true := by decide +kernel
noncomputable def tX4_turnsOn : List (Nat × Instr × Nat) := [(0, .iconst 1, 1), (1, .iload_n 3, 1), (2, .ishl, 1), (3, .istore 4, 2), (5, .iconst 0, 1), (6, .istore 5, 2), (8, .iconst 0, 1), (9, .istore 6, 2), (11, .iload 6, 2), (13, .aload_n 1, 1), (14, .invokevirtual 46, 3), (17, .if_icmp .gt 93, 3), (20, .iload 6, 2), (22, .iload 4, 2), (24, .iand, 1), (25, .ifCond .ne 7, 3), (28, .iconst 1, 1), (29, .goto 4, 3), (32, .iconst 0, 1), (33, .istore 7, 2), (35, .iload 7, 2), (37, .ifCond .eq 67, 3), (40, .aload_n 1, 1), (41, .iload_n 2, 1), (42, .aload_n 0, 1), (43, .getfield 15, 3), (46, .iload 6, 2), (48, .iaload, 1), (49, .invokevirtual 50, 3), (52, .ifCond .ne 52, 3), (55, .aload_n 1, 1), (56, .iload_n 2, 1), (57, .aload_n 0, 1), (58, .iload 6, 2), (60, .iload 4, 2), (62, .ior, 1), (63, .invokevirtual 65, 3), (66, .invokevirtual 50, 3), (69, .ifCond .eq 35, 3), (72, .iload 6, 2), (74, .invokestatic 68, 3), (77, .istore 8, 2), (79, .iload 5, 2), (81, .aload_n 0, 1), (82, .iload 8, 2), (84, .invokevirtual 73, 3), (87, .aload_n 0, 1), (88, .aload_n 1, 1), (89, .getfield 22, 3), (92, .iconst 1, 1), (93, .isub, 1), (94, .iload 8, 2), (96, .isub, 1), (97, .invokevirtual 73, 3), (100, .imul, 1), (101, .iadd, 1), (102, .istore 5, 2), (104, .iinc 6 1, 3), (107, .goto (-96), 3), (110, .iload 5, 2), (112, .ireturn, 1)]
theorem dX4_turnsOn : dec_ok cX4_turnsOn tX4_turnsOn = true := by decide +kernel
noncomputable def tX4_ordersOf : List (Nat × Instr × Nat) := [(0, .iload_n 1, 1), (1, .ifCond .lt 21, 3), (4, .iload_n 1, 1), (5, .aload_n 0, 1), (6, .getfield 19, 3), (9, .arraylength, 1), (10, .if_icmp .ge 12, 3), (13, .aload_n 0, 1), (14, .getfield 19, 3), (17, .iload_n 1, 1), (18, .iaload, 1), (19, .goto 4, 3), (22, .iconst 0, 1), (23, .ireturn, 1)]
theorem dX4_ordersOf : dec_ok cX4_ordersOf tX4_ordersOf = true := by decide +kernel
noncomputable def tX4_worthOfTurnsOn : List (Nat × Instr × Nat) := [(0, .lconst 0, 1), (1, .lstore_n 3, 1), (2, .iconst 0, 1), (3, .istore 5, 2), (5, .iload 5, 2), (7, .aload_n 1, 1), (8, .getfield 76, 3), (11, .if_icmp .ge 30, 3), (14, .lload_n 3, 1), (15, .aload_n 1, 1), (16, .getfield 79, 3), (19, .iload 5, 2), (21, .iaload, 1), (22, .i2l, 1), (23, .aload_n 0, 1), (24, .aload_n 1, 1), (25, .iload 5, 2), (27, .iload_n 2, 1), (28, .invokevirtual 82, 3), (31, .i2l, 1), (32, .lmul, 1), (33, .ladd, 1), (34, .lstore_n 3, 1), (35, .iinc 5 1, 3), (38, .goto (-33), 3), (41, .lload_n 3, 1), (42, .lreturn, 1)]
theorem dX4_worthOfTurnsOn : dec_ok cX4_worthOfTurnsOn tX4_worthOfTurnsOn = true := by decide +kernel
noncomputable def tX4_bornBy : List (Nat × Instr × Nat) := [(0, .aload_n 1, 1), (1, .invokevirtual 46, 3), (4, .aload_n 1, 1), (5, .invokevirtual 86, 3), (8, .iconst (-1), 1), (9, .ixor, 1), (10, .iand, 1), (11, .istore_n 3, 1), (12, .bipush 9, 2), (14, .istore 4, 2), (16, .iconst 0, 1), (17, .istore 5, 2), (19, .iload 5, 2), (21, .iload_n 3, 1), (22, .if_icmp .gt 48, 3), (25, .iload 5, 2), (27, .iload_n 3, 1), (28, .iconst (-1), 1), (29, .ixor, 1), (30, .iand, 1), (31, .ifCond .ne 33, 3), (34, .aload_n 1, 1), (35, .iload_n 2, 1), (36, .aload_n 0, 1), (37, .iload_n 3, 1), (38, .iload 5, 2), (40, .iconst (-1), 1), (41, .ixor, 1), (42, .iand, 1), (43, .invokevirtual 65, 3), (46, .invokevirtual 50, 3), (49, .ifCond .ne 15, 3), (52, .iload 4, 2), (54, .iload 5, 2), (56, .invokestatic 68, 3), (59, .invokestatic 89, 3), (62, .istore 4, 2), (64, .iinc 5 1, 3), (67, .goto (-48), 3), (70, .iload 4, 2), (72, .iconst 1, 1), (73, .isub, 1), (74, .ireturn, 1)]
theorem dX4_bornBy : dec_ok cX4_bornBy tX4_bornBy = true := by decide +kernel
noncomputable def tX5_init : List (Nat × Instr × Nat) := [(0, .aload_n 0, 1), (1, .invokespecial 3, 3), (4, .aload_n 0, 1), (5, .iconst 0, 1), (6, .putfield 9, 3), (9, .aload_n 0, 1), (10, .bipush 12, 2), (12, .newarray .int, 2), (14, .putfield 15, 3), (17, .aload_n 0, 1), (18, .bipush 12, 2), (20, .newarray .int, 2), (22, .putfield 19, 3), (25, .aload_n 0, 1), (26, .iconst 0, 1), (27, .putfield 22, 3), (30, .aload_n 0, 1), (31, .bipush 6, 2), (33, .newarray .int, 2), (35, .putfield 25, 3), (38, .aload_n 0, 1), (39, .bipush 6, 2), (41, .newarray .int, 2), (43, .putfield 28, 3), (46, .aload_n 0, 1), (47, .iconst 0, 1), (48, .putfield 31, 3), (51, .aload_n 0, 1), (52, .bipush 8, 2), (54, .newarray .int, 2), (56, .putfield 34, 3), (59, .aload_n 0, 1), (60, .bipush 8, 2), (62, .newarray .int, 2), (64, .putfield 37, 3), (67, .aload_n 0, 1), (68, .bipush 8, 2), (70, .newarray .boolean, 2), (72, .putfield 40, 3), (75, .aload_n 0, 1), (76, .bipush 8, 2), (78, .newarray .int, 2), (80, .putfield 44, 3), (83, .aload_n 0, 1), (84, .iconst 1, 1), (85, .putfield 47, 3), (88, .return_, 1)]
theorem dX5_init : dec_ok cX5_init tX5_init = true := by decide +kernel
noncomputable def tX5_takeOver : List (Nat × Instr × Nat) := [(0, .aload_n 0, 1), (1, .aload_n 1, 1), (2, .getfield 9, 3), (5, .putfield 9, 3), (8, .aload_n 1, 1), (9, .getfield 15, 3), (12, .iconst 0, 1), (13, .aload_n 0, 1), (14, .getfield 15, 3), (17, .iconst 0, 1), (18, .bipush 12, 2), (20, .invokestatic 50, 3), (23, .aload_n 1, 1), (24, .getfield 19, 3), (27, .iconst 0, 1), (28, .aload_n 0, 1), (29, .getfield 19, 3), (32, .iconst 0, 1), (33, .bipush 12, 2), (35, .invokestatic 50, 3), (38, .aload_n 0, 1), (39, .aload_n 1, 1), (40, .getfield 22, 3), (43, .putfield 22, 3), (46, .aload_n 1, 1), (47, .getfield 25, 3), (50, .iconst 0, 1), (51, .aload_n 0, 1), (52, .getfield 25, 3), (55, .iconst 0, 1), (56, .bipush 6, 2), (58, .invokestatic 50, 3), (61, .aload_n 1, 1), (62, .getfield 28, 3), (65, .iconst 0, 1), (66, .aload_n 0, 1), (67, .getfield 28, 3), (70, .iconst 0, 1), (71, .bipush 6, 2), (73, .invokestatic 50, 3), (76, .aload_n 0, 1), (77, .aload_n 1, 1), (78, .getfield 31, 3), (81, .putfield 31, 3), (84, .aload_n 1, 1), (85, .getfield 34, 3), (88, .iconst 0, 1), (89, .aload_n 0, 1), (90, .getfield 34, 3), (93, .iconst 0, 1), (94, .bipush 8, 2), (96, .invokestatic 50, 3), (99, .aload_n 1, 1), (100, .getfield 37, 3), (103, .iconst 0, 1), (104, .aload_n 0, 1), (105, .getfield 37, 3), (108, .iconst 0, 1), (109, .bipush 8, 2), (111, .invokestatic 50, 3), (114, .aload_n 1, 1), (115, .getfield 40, 3), (118, .iconst 0, 1), (119, .aload_n 0, 1), (120, .getfield 40, 3), (123, .iconst 0, 1), (124, .bipush 8, 2), (126, .invokestatic 50, 3), (129, .aload_n 1, 1), (130, .getfield 44, 3), (133, .iconst 0, 1), (134, .aload_n 0, 1), (135, .getfield 44, 3), (138, .iconst 0, 1), (139, .bipush 8, 2), (141, .invokestatic 50, 3), (144, .aload_n 0, 1), (145, .aload_n 1, 1), (146, .getfield 47, 3), (149, .putfield 47, 3), (152, .return_, 1)]
theorem dX5_takeOver : dec_ok cX5_takeOver tX5_takeOver = true := by decide +kernel
noncomputable def tX5_addPart : List (Nat × Instr × Nat) := [(0, .aload_n 0, 1), (1, .getfield 9, 3), (4, .bipush 12, 2), (6, .if_icmp .lt 5, 3), (9, .iconst (-1), 1), (10, .ireturn, 1), (11, .aload_n 0, 1), (12, .getfield 15, 3), (15, .aload_n 0, 1), (16, .getfield 9, 3), (19, .iconst (-1), 1), (20, .iastore, 1), (21, .aload_n 0, 1), (22, .getfield 19, 3), (25, .aload_n 0, 1), (26, .getfield 9, 3), (29, .iconst (-1), 1), (30, .iastore, 1), (31, .aload_n 0, 1), (32, .dup, 1), (33, .getfield 9, 3), (36, .iconst 1, 1), (37, .iadd, 1), (38, .putfield 9, 3), (41, .aload_n 0, 1), (42, .getfield 9, 3), (45, .iconst 1, 1), (46, .isub, 1), (47, .ireturn, 1)]
theorem dX5_addPart : dec_ok cX5_addPart tX5_addPart = true := by decide +kernel
noncomputable def tX5_addMachine : List (Nat × Instr × Nat) := [(0, .aload_n 0, 1), (1, .getfield 22, 3), (4, .bipush 6, 2), (6, .if_icmp .lt 5, 3), (9, .iconst (-1), 1), (10, .ireturn, 1), (11, .aload_n 0, 1), (12, .getfield 25, 3), (15, .aload_n 0, 1), (16, .getfield 22, 3), (19, .iload_n 1, 1), (20, .iastore, 1), (21, .aload_n 0, 1), (22, .getfield 28, 3), (25, .aload_n 0, 1), (26, .getfield 22, 3), (29, .iload_n 2, 1), (30, .iastore, 1), (31, .aload_n 0, 1), (32, .dup, 1), (33, .getfield 22, 3), (36, .iconst 1, 1), (37, .iadd, 1), (38, .putfield 22, 3), (41, .aload_n 0, 1), (42, .getfield 22, 3), (45, .iconst 1, 1), (46, .isub, 1), (47, .ireturn, 1)]
theorem dX5_addMachine : dec_ok cX5_addMachine tX5_addMachine = true := by decide +kernel
noncomputable def tX5_addOne : List (Nat × Instr × Nat) := [(0, .aload_n 0, 1), (1, .getfield 31, 3), (4, .bipush 8, 2), (6, .if_icmp .lt 5, 3), (9, .iconst (-1), 1), (10, .ireturn, 1), (11, .aload_n 0, 1), (12, .getfield 34, 3), (15, .aload_n 0, 1), (16, .getfield 31, 3), (19, .iload_n 1, 1), (20, .iastore, 1), (21, .aload_n 0, 1), (22, .getfield 37, 3), (25, .aload_n 0, 1), (26, .getfield 31, 3), (29, .iload_n 2, 1), (30, .iastore, 1), (31, .aload_n 0, 1), (32, .getfield 40, 3), (35, .aload_n 0, 1), (36, .getfield 31, 3), (39, .iconst 0, 1), (40, .bastore, 1), (41, .aload_n 0, 1), (42, .getfield 44, 3), (45, .aload_n 0, 1), (46, .getfield 31, 3), (49, .iconst 0, 1), (50, .iastore, 1), (51, .aload_n 0, 1), (52, .dup, 1), (53, .getfield 31, 3), (56, .iconst 1, 1), (57, .iadd, 1), (58, .putfield 31, 3), (61, .aload_n 0, 1), (62, .getfield 31, 3), (65, .iconst 1, 1), (66, .isub, 1), (67, .ireturn, 1)]
theorem dX5_addOne : dec_ok cX5_addOne tX5_addOne = true := by decide +kernel
noncomputable def tX5_isPart : List (Nat × Instr × Nat) := [(0, .iload_n 1, 1), (1, .ifCond .lt 15, 3), (4, .iload_n 1, 1), (5, .aload_n 0, 1), (6, .getfield 9, 3), (9, .if_icmp .ge 7, 3), (12, .iconst 1, 1), (13, .goto 4, 3), (16, .iconst 0, 1), (17, .ireturn, 1)]
theorem dX5_isPart : dec_ok cX5_isPart tX5_isPart = true := by decide +kernel
noncomputable def tX5_isMachine : List (Nat × Instr × Nat) := [(0, .iload_n 1, 1), (1, .ifCond .lt 15, 3), (4, .iload_n 1, 1), (5, .aload_n 0, 1), (6, .getfield 22, 3), (9, .if_icmp .ge 7, 3), (12, .iconst 1, 1), (13, .goto 4, 3), (16, .iconst 0, 1), (17, .ireturn, 1)]
theorem dX5_isMachine : dec_ok cX5_isMachine tX5_isMachine = true := by decide +kernel
noncomputable def tX5_isPair : List (Nat × Instr × Nat) := [(0, .aload_n 0, 1), (1, .iload_n 1, 1), (2, .invokevirtual 56, 3), (5, .ifCond .eq 20, 3), (8, .aload_n 0, 1), (9, .iload_n 2, 1), (10, .invokevirtual 56, 3), (13, .ifCond .eq 12, 3), (16, .iload_n 1, 1), (17, .iload_n 2, 1), (18, .if_icmp .eq 7, 3), (21, .iconst 1, 1), (22, .goto 4, 3), (25, .iconst 0, 1), (26, .ireturn, 1)]
theorem dX5_isPair : dec_ok cX5_isPair tX5_isPair = true := by decide +kernel
noncomputable def tX5_isOne : List (Nat × Instr × Nat) := [(0, .iload_n 1, 1), (1, .ifCond .lt 15, 3), (4, .iload_n 1, 1), (5, .aload_n 0, 1), (6, .getfield 31, 3), (9, .if_icmp .ge 7, 3), (12, .iconst 1, 1), (13, .goto 4, 3), (16, .iconst 0, 1), (17, .ireturn, 1)]
theorem dX5_isOne : dec_ok cX5_isOne tX5_isOne = true := by decide +kernel
noncomputable def tX5_allParts : List (Nat × Instr × Nat) := [(0, .iconst 1, 1), (1, .aload_n 0, 1), (2, .getfield 9, 3), (5, .ishl, 1), (6, .iconst 1, 1), (7, .isub, 1), (8, .ireturn, 1)]
theorem dX5_allParts : dec_ok cX5_allParts tX5_allParts = true := by decide +kernel
noncomputable def tX5_allMachines : List (Nat × Instr × Nat) := [(0, .iconst 1, 1), (1, .aload_n 0, 1), (2, .getfield 22, 3), (5, .ishl, 1), (6, .iconst 1, 1), (7, .isub, 1), (8, .ireturn, 1)]
theorem dX5_allMachines : dec_ok cX5_allMachines tX5_allMachines = true := by decide +kernel
noncomputable def tX5_allPeople : List (Nat × Instr × Nat) := [(0, .iconst 1, 1), (1, .aload_n 0, 1), (2, .getfield 31, 3), (5, .ishl, 1), (6, .iconst 1, 1), (7, .isub, 1), (8, .ireturn, 1)]
theorem dX5_allPeople : dec_ok cX5_allPeople tX5_allPeople = true := by decide +kernel
noncomputable def tX5_isSetOfParts : List (Nat × Instr × Nat) := [(0, .iload_n 1, 1), (1, .aload_n 0, 1), (2, .invokevirtual 60, 3), (5, .iconst (-1), 1), (6, .ixor, 1), (7, .iand, 1), (8, .ifCond .ne 7, 3), (11, .iconst 1, 1), (12, .goto 4, 3), (15, .iconst 0, 1), (16, .ireturn, 1)]
theorem dX5_isSetOfParts : dec_ok cX5_isSetOfParts tX5_isSetOfParts = true := by decide +kernel
noncomputable def tX5_isSetOfPeople : List (Nat × Instr × Nat) := [(0, .iload_n 1, 1), (1, .aload_n 0, 1), (2, .invokevirtual 64, 3), (5, .iconst (-1), 1), (6, .ixor, 1), (7, .iand, 1), (8, .ifCond .ne 7, 3), (11, .iconst 1, 1), (12, .goto 4, 3), (15, .iconst 0, 1), (16, .ireturn, 1)]
theorem dX5_isSetOfPeople : dec_ok cX5_isSetOfPeople tX5_isSetOfPeople = true := by decide +kernel
noncomputable def tX5_crossPeople : List (Nat × Instr × Nat) := [(0, .iconst 0, 1), (1, .istore_n 1, 1), (2, .iconst 0, 1), (3, .istore_n 2, 1), (4, .iload_n 2, 1), (5, .aload_n 0, 1), (6, .getfield 31, 3), (9, .if_icmp .ge 24, 3), (12, .aload_n 0, 1), (13, .getfield 40, 3), (16, .iload_n 2, 1), (17, .baload, 1), (18, .ifCond .eq 9, 3), (21, .iload_n 1, 1), (22, .iconst 1, 1), (23, .iload_n 2, 1), (24, .ishl, 1), (25, .ior, 1), (26, .istore_n 1, 1), (27, .iinc 2 1, 3), (30, .goto (-26), 3), (33, .iload_n 1, 1), (34, .ireturn, 1)]
theorem dX5_crossPeople : dec_ok cX5_crossPeople tX5_crossPeople = true := by decide +kernel
noncomputable def tX5_piecesOf : List (Nat × Instr × Nat) := [(0, .iconst 0, 1), (1, .istore_n 2, 1), (2, .iconst 0, 1), (3, .istore_n 3, 1), (4, .iload_n 3, 1), (5, .aload_n 0, 1), (6, .getfield 9, 3), (9, .if_icmp .ge 35, 3), (12, .aload_n 0, 1), (13, .getfield 15, 3), (16, .iload_n 3, 1), (17, .iaload, 1), (18, .iload_n 1, 1), (19, .if_icmp .ne 6, 3), (22, .iinc 2 1, 3), (25, .aload_n 0, 1), (26, .getfield 19, 3), (29, .iload_n 3, 1), (30, .iaload, 1), (31, .iload_n 1, 1), (32, .if_icmp .ne 6, 3), (35, .iinc 2 1, 3), (38, .iinc 3 1, 3), (41, .goto (-37), 3), (44, .iload_n 2, 1), (45, .ireturn, 1)]
theorem dX5_piecesOf : dec_ok cX5_piecesOf tX5_piecesOf = true := by decide +kernel
noncomputable def tX5_hasRoom : List (Nat × Instr × Nat) := [(0, .aload_n 0, 1), (1, .iload_n 1, 1), (2, .invokevirtual 67, 3), (5, .ifCond .eq 21, 3), (8, .aload_n 0, 1), (9, .iload_n 1, 1), (10, .invokevirtual 70, 3), (13, .aload_n 0, 1), (14, .getfield 34, 3), (17, .iload_n 1, 1), (18, .iaload, 1), (19, .if_icmp .ge 7, 3), (22, .iconst 1, 1), (23, .goto 4, 3), (26, .iconst 0, 1), (27, .ireturn, 1)]
theorem dX5_hasRoom : dec_ok cX5_hasRoom tX5_hasRoom = true := by decide +kernel
noncomputable def tX5_holderCount : List (Nat × Instr × Nat) := [(0, .iconst 0, 1), (1, .istore_n 1, 1), (2, .iconst 0, 1), (3, .istore_n 2, 1), (4, .iload_n 2, 1), (5, .aload_n 0, 1), (6, .getfield 9, 3), (9, .if_icmp .ge 22, 3), (12, .aload_n 0, 1), (13, .getfield 15, 3), (16, .iload_n 2, 1), (17, .iaload, 1), (18, .iconst (-1), 1), (19, .if_icmp .eq 6, 3), (22, .iinc 1 1, 3), (25, .iinc 2 1, 3), (28, .goto (-24), 3), (31, .iload_n 1, 1), (32, .ireturn, 1)]
theorem dX5_holderCount : dec_ok cX5_holderCount tX5_holderCount = true := by decide +kernel
noncomputable def tX5_secondCount : List (Nat × Instr × Nat) := [(0, .iconst 0, 1), (1, .istore_n 1, 1), (2, .iconst 0, 1), (3, .istore_n 2, 1), (4, .iload_n 2, 1), (5, .aload_n 0, 1), (6, .getfield 9, 3), (9, .if_icmp .ge 22, 3), (12, .aload_n 0, 1), (13, .getfield 19, 3), (16, .iload_n 2, 1), (17, .iaload, 1), (18, .iconst (-1), 1), (19, .if_icmp .eq 6, 3), (22, .iinc 1 1, 3), (25, .iinc 2 1, 3), (28, .goto (-24), 3), (31, .iload_n 1, 1), (32, .ireturn, 1)]
theorem dX5_secondCount : dec_ok cX5_secondCount tX5_secondCount = true := by decide +kernel
noncomputable def tX5_partsOfOne : List (Nat × Instr × Nat) := [(0, .iconst 0, 1), (1, .istore_n 2, 1), (2, .iconst 0, 1), (3, .istore_n 3, 1), (4, .iload_n 3, 1), (5, .aload_n 0, 1), (6, .getfield 9, 3), (9, .if_icmp .ge 35, 3), (12, .aload_n 0, 1), (13, .getfield 15, 3), (16, .iload_n 3, 1), (17, .iaload, 1), (18, .iload_n 1, 1), (19, .if_icmp .eq 13, 3), (22, .aload_n 0, 1), (23, .getfield 19, 3), (26, .iload_n 3, 1), (27, .iaload, 1), (28, .iload_n 1, 1), (29, .if_icmp .ne 9, 3), (32, .iload_n 2, 1), (33, .iconst 1, 1), (34, .iload_n 3, 1), (35, .ishl, 1), (36, .ior, 1), (37, .istore_n 2, 1), (38, .iinc 3 1, 3), (41, .goto (-37), 3), (44, .iload_n 2, 1), (45, .ireturn, 1)]
theorem dX5_partsOfOne : dec_ok cX5_partsOfOne tX5_partsOfOne = true := by decide +kernel
noncomputable def tX5_partsWith : List (Nat × Instr × Nat) := [(0, .iconst 0, 1), (1, .istore_n 2, 1), (2, .iconst 0, 1), (3, .istore_n 3, 1), (4, .iload_n 3, 1), (5, .aload_n 0, 1), (6, .getfield 9, 3), (9, .if_icmp .ge 41, 3), (12, .iload_n 1, 1), (13, .aload_n 0, 1), (14, .getfield 15, 3), (17, .iload_n 3, 1), (18, .iaload, 1), (19, .invokestatic 74, 3), (22, .ifCond .ne 16, 3), (25, .iload_n 1, 1), (26, .aload_n 0, 1), (27, .getfield 19, 3), (30, .iload_n 3, 1), (31, .iaload, 1), (32, .invokestatic 74, 3), (35, .ifCond .eq 9, 3), (38, .iload_n 2, 1), (39, .iconst 1, 1), (40, .iload_n 3, 1), (41, .ishl, 1), (42, .ior, 1), (43, .istore_n 2, 1), (44, .iinc 3 1, 3), (47, .goto (-43), 3), (50, .iload_n 2, 1), (51, .ireturn, 1)]
theorem dX5_partsWith : dec_ok cX5_partsWith tX5_partsWith = true := by decide +kernel
noncomputable def tX5_doublesWith : List (Nat × Instr × Nat) := [(0, .iconst 0, 1), (1, .istore_n 2, 1), (2, .iconst 0, 1), (3, .istore_n 3, 1), (4, .iload_n 3, 1), (5, .aload_n 0, 1), (6, .getfield 9, 3), (9, .if_icmp .ge 41, 3), (12, .iload_n 1, 1), (13, .aload_n 0, 1), (14, .getfield 15, 3), (17, .iload_n 3, 1), (18, .iaload, 1), (19, .invokestatic 74, 3), (22, .ifCond .eq 22, 3), (25, .iload_n 1, 1), (26, .aload_n 0, 1), (27, .getfield 19, 3), (30, .iload_n 3, 1), (31, .iaload, 1), (32, .invokestatic 74, 3), (35, .ifCond .eq 9, 3), (38, .iload_n 2, 1), (39, .iconst 1, 1), (40, .iload_n 3, 1), (41, .ishl, 1), (42, .ior, 1), (43, .istore_n 2, 1), (44, .iinc 3 1, 3), (47, .goto (-43), 3), (50, .iload_n 2, 1), (51, .ireturn, 1)]
theorem dX5_doublesWith : dec_ok cX5_doublesWith tX5_doublesWith = true := by decide +kernel
noncomputable def tX5_isIn : List (Nat × Instr × Nat) := [(0, .iload_n 1, 1), (1, .iconst (-1), 1), (2, .if_icmp .eq 15, 3), (5, .iload_n 0, 1), (6, .iconst 1, 1), (7, .iload_n 1, 1), (8, .ishl, 1), (9, .iand, 1), (10, .ifCond .eq 7, 3), (13, .iconst 1, 1), (14, .goto 4, 3), (17, .iconst 0, 1), (18, .ireturn, 1)]
theorem dX5_isIn : dec_ok cX5_isIn tX5_isIn = true := by decide +kernel
noncomputable def tX5_isWorkedWith : List (Nat × Instr × Nat) := [(0, .aload_n 0, 1), (1, .iload_n 1, 1), (2, .invokevirtual 56, 3), (5, .ifCond .eq 20, 3), (8, .aload_n 0, 1), (9, .getfield 25, 3), (12, .iload_n 1, 1), (13, .iaload, 1), (14, .iload_n 2, 1), (15, .iconst (-1), 1), (16, .ixor, 1), (17, .iand, 1), (18, .ifCond .ne 7, 3), (21, .iconst 1, 1), (22, .goto 4, 3), (25, .iconst 0, 1), (26, .ireturn, 1)]
theorem dX5_isWorkedWith : dec_ok cX5_isWorkedWith tX5_isWorkedWith = true := by decide +kernel
noncomputable def tX5_isAnyWorkedWith : List (Nat × Instr × Nat) := [(0, .aload_n 0, 1), (1, .iload_n 1, 1), (2, .invokevirtual 78, 3), (5, .ifCond .eq 7, 3), (8, .iconst 1, 1), (9, .goto 4, 3), (12, .iconst 0, 1), (13, .ireturn, 1)]
theorem dX5_isAnyWorkedWith : dec_ok cX5_isAnyWorkedWith tX5_isAnyWorkedWith = true := by decide +kernel
noncomputable def tX5_machinesWith : List (Nat × Instr × Nat) := [(0, .iconst 0, 1), (1, .istore_n 2, 1), (2, .iconst 0, 1), (3, .istore_n 3, 1), (4, .iload_n 3, 1), (5, .aload_n 0, 1), (6, .getfield 22, 3), (9, .if_icmp .ge 28, 3), (12, .aload_n 0, 1), (13, .getfield 25, 3), (16, .iload_n 3, 1), (17, .iaload, 1), (18, .iload_n 1, 1), (19, .iconst (-1), 1), (20, .ixor, 1), (21, .iand, 1), (22, .ifCond .ne 9, 3), (25, .iload_n 2, 1), (26, .iconst 1, 1), (27, .iload_n 3, 1), (28, .ishl, 1), (29, .ior, 1), (30, .istore_n 2, 1), (31, .iinc 3 1, 3), (34, .goto (-30), 3), (37, .iload_n 2, 1), (38, .ireturn, 1)]
theorem dX5_machinesWith : dec_ok cX5_machinesWith tX5_machinesWith = true := by decide +kernel
noncomputable def tX5_machinesTouchedBy : List (Nat × Instr × Nat) := [(0, .iconst 0, 1), (1, .istore_n 2, 1), (2, .iconst 0, 1), (3, .istore_n 3, 1), (4, .iload_n 3, 1), (5, .aload_n 0, 1), (6, .getfield 22, 3), (9, .if_icmp .ge 23, 3), (12, .aload_n 0, 1), (13, .getfield 25, 3), (16, .iload_n 3, 1), (17, .iaload, 1), (18, .iload_n 1, 1), (19, .iand, 1), (20, .ifCond .eq 6, 3), (23, .iinc 2 1, 3), (26, .iinc 3 1, 3), (29, .goto (-25), 3), (32, .iload_n 2, 1), (33, .ireturn, 1)]
theorem dX5_machinesTouchedBy : dec_ok cX5_machinesTouchedBy tX5_machinesTouchedBy = true := by decide +kernel
noncomputable def tX5_areBothWorked : List (Nat × Instr × Nat) := [(0, .aload_n 0, 1), (1, .iload_n 1, 1), (2, .iload_n 2, 1), (3, .invokevirtual 81, 3), (6, .ifCond .ne 5, 3), (9, .iconst 0, 1), (10, .ireturn, 1), (11, .aload_n 0, 1), (12, .getfield 25, 3), (15, .iload_n 1, 1), (16, .iaload, 1), (17, .aload_n 0, 1), (18, .getfield 25, 3), (21, .iload_n 2, 1), (22, .iaload, 1), (23, .ior, 1), (24, .aload_n 0, 1), (25, .iload_n 3, 1), (26, .invokevirtual 84, 3), (29, .iconst (-1), 1), (30, .ixor, 1), (31, .iand, 1), (32, .ifCond .ne 7, 3), (35, .iconst 1, 1), (36, .goto 4, 3), (39, .iconst 0, 1), (40, .istore 4, 2), (42, .iload 4, 2), (44, .ifCond .eq 31, 3), (47, .aload_n 0, 1), (48, .getfield 25, 3), (51, .iload_n 1, 1), (52, .iaload, 1), (53, .aload_n 0, 1), (54, .getfield 25, 3), (57, .iload_n 2, 1), (58, .iaload, 1), (59, .iand, 1), (60, .aload_n 0, 1), (61, .iload_n 3, 1), (62, .invokevirtual 87, 3), (65, .iconst (-1), 1), (66, .ixor, 1), (67, .iand, 1), (68, .ifCond .ne 7, 3), (71, .iconst 1, 1), (72, .goto 4, 3), (75, .iconst 0, 1), (76, .ireturn, 1)]
theorem dX5_areBothWorked : dec_ok cX5_areBothWorked tX5_areBothWorked = true := by decide +kernel
noncomputable def tX5_worthWith : List (Nat × Instr × Nat) := [(0, .iconst 0, 1), (1, .istore_n 2, 1), (2, .iconst 0, 1), (3, .istore_n 3, 1), (4, .iload_n 3, 1), (5, .aload_n 0, 1), (6, .getfield 22, 3), (9, .if_icmp .ge 31, 3), (12, .aload_n 0, 1), (13, .getfield 25, 3), (16, .iload_n 3, 1), (17, .iaload, 1), (18, .iload_n 1, 1), (19, .iconst (-1), 1), (20, .ixor, 1), (21, .iand, 1), (22, .ifCond .ne 12, 3), (25, .iload_n 2, 1), (26, .aload_n 0, 1), (27, .getfield 28, 3), (30, .iload_n 3, 1), (31, .iaload, 1), (32, .iadd, 1), (33, .istore_n 2, 1), (34, .iinc 3 1, 3), (37, .goto (-33), 3), (40, .iload_n 2, 1), (41, .ireturn, 1)]
theorem dX5_worthWith : dec_ok cX5_worthWith tX5_worthWith = true := by decide +kernel
noncomputable def tX5_handOver : List (Nat × Instr × Nat) := [(0, .iconst 0, 1), (1, .istore_n 3, 1), (2, .iload_n 3, 1), (3, .aload_n 0, 1), (4, .getfield 9, 3), (7, .if_icmp .ge 43, 3), (10, .aload_n 0, 1), (11, .getfield 15, 3), (14, .iload_n 3, 1), (15, .iaload, 1), (16, .iload_n 1, 1), (17, .if_icmp .ne 10, 3), (20, .aload_n 0, 1), (21, .getfield 15, 3), (24, .iload_n 3, 1), (25, .iload_n 2, 1), (26, .iastore, 1), (27, .aload_n 0, 1), (28, .getfield 19, 3), (31, .iload_n 3, 1), (32, .iaload, 1), (33, .iload_n 1, 1), (34, .if_icmp .ne 10, 3), (37, .aload_n 0, 1), (38, .getfield 19, 3), (41, .iload_n 3, 1), (42, .iload_n 2, 1), (43, .iastore, 1), (44, .iinc 3 1, 3), (47, .goto (-45), 3), (50, .return_, 1)]
theorem dX5_handOver : dec_ok cX5_handOver tX5_handOver = true := by decide +kernel
noncomputable def tX5_passDay : List (Nat × Instr × Nat) := [(0, .iconst 0, 1), (1, .istore_n 1, 1), (2, .iconst 0, 1), (3, .istore_n 2, 1), (4, .iload_n 2, 1), (5, .aload_n 0, 1), (6, .getfield 31, 3), (9, .if_icmp .ge 37, 3), (12, .aload_n 0, 1), (13, .getfield 40, 3), (16, .iload_n 2, 1), (17, .baload, 1), (18, .ifCond .ne 22, 3), (21, .aload_n 0, 1), (22, .invokevirtual 90, 3), (25, .aload_n 0, 1), (26, .getfield 37, 3), (29, .iload_n 2, 1), (30, .iaload, 1), (31, .if_icmp .lt 9, 3), (34, .iload_n 1, 1), (35, .iconst 1, 1), (36, .iload_n 2, 1), (37, .ishl, 1), (38, .ior, 1), (39, .istore_n 1, 1), (40, .iinc 2 1, 3), (43, .goto (-39), 3), (46, .aload_n 0, 1), (47, .iload_n 1, 1), (48, .invokevirtual 84, 3), (51, .istore_n 2, 1), (52, .iconst 0, 1), (53, .istore_n 3, 1), (54, .iload_n 3, 1), (55, .aload_n 0, 1), (56, .getfield 22, 3), (59, .if_icmp .ge 32, 3), (62, .aload_n 0, 1), (63, .getfield 25, 3), (66, .iload_n 3, 1), (67, .iaload, 1), (68, .iload_n 2, 1), (69, .iconst (-1), 1), (70, .ixor, 1), (71, .iand, 1), (72, .ifCond .ne 13, 3), (75, .aload_n 0, 1), (76, .aload_n 0, 1), (77, .getfield 25, 3), (80, .iload_n 3, 1), (81, .iaload, 1), (82, .invokevirtual 93, 3), (85, .iinc 3 1, 3), (88, .goto (-34), 3), (91, .aload_n 0, 1), (92, .iload_n 2, 1), (93, .invokevirtual 97, 3), (96, .ireturn, 1)]
theorem dX5_passDay : dec_ok cX5_passDay tX5_passDay = true := by decide +kernel
noncomputable def tX5_drawTenth : List (Nat × Instr × Nat) := [(0, .aload_n 0, 1), (1, .aload_n 0, 1), (2, .getfield 47, 3), (5, .ldc 100, 2), (7, .imul, 1), (8, .sipush 12345, 3), (11, .iadd, 1), (12, .putfield 47, 3), (15, .aload_n 0, 1), (16, .getfield 47, 3), (19, .bipush 16, 2), (21, .iushr, 1), (22, .bipush 10, 2), (24, .irem, 1), (25, .ireturn, 1)]
theorem dX5_drawTenth : dec_ok cX5_drawTenth tX5_drawTenth = true := by decide +kernel
noncomputable def tX5_shareOut : List (Nat × Instr × Nat) := [(0, .iconst 0, 1), (1, .istore_n 2, 1), (2, .iconst 0, 1), (3, .istore_n 3, 1), (4, .iload_n 3, 1), (5, .aload_n 0, 1), (6, .getfield 9, 3), (9, .if_icmp .ge 38, 3), (12, .iload_n 1, 1), (13, .iconst 1, 1), (14, .iload_n 3, 1), (15, .ishl, 1), (16, .iand, 1), (17, .ifCond .eq 24, 3), (20, .aload_n 0, 1), (21, .getfield 15, 3), (24, .iload_n 3, 1), (25, .iaload, 1), (26, .iconst (-1), 1), (27, .if_icmp .eq 14, 3), (30, .iload_n 2, 1), (31, .iconst 1, 1), (32, .aload_n 0, 1), (33, .getfield 15, 3), (36, .iload_n 3, 1), (37, .iaload, 1), (38, .ishl, 1), (39, .ior, 1), (40, .istore_n 2, 1), (41, .iinc 3 1, 3), (44, .goto (-40), 3), (47, .iconst 0, 1), (48, .istore_n 3, 1), (49, .iload_n 3, 1), (50, .aload_n 0, 1), (51, .getfield 31, 3), (54, .if_icmp .ge 27, 3), (57, .iload_n 2, 1), (58, .iconst 1, 1), (59, .iload_n 3, 1), (60, .ishl, 1), (61, .iand, 1), (62, .ifCond .eq 13, 3), (65, .aload_n 0, 1), (66, .getfield 44, 3), (69, .iload_n 3, 1), (70, .dup2, 1), (71, .iaload, 1), (72, .iconst 1, 1), (73, .iadd, 1), (74, .iastore, 1), (75, .iinc 3 1, 3), (78, .goto (-29), 3), (81, .return_, 1)]
theorem dX5_shareOut : dec_ok cX5_shareOut tX5_shareOut = true := by decide +kernel
noncomputable def tX6_init : List (Nat × Instr × Nat) := [(0, .aload_n 0, 1), (1, .invokespecial 1, 3), (4, .aload_n 0, 1), (5, .new 7, 3), (8, .dup, 1), (9, .invokespecial 9, 3), (12, .putfield 10, 3), (15, .aload_n 0, 1), (16, .new 7, 3), (19, .dup, 1), (20, .invokespecial 9, 3), (23, .putfield 16, 3), (26, .aload_n 0, 1), (27, .new 7, 3), (30, .dup, 1), (31, .invokespecial 9, 3), (34, .putfield 19, 3), (37, .aload_n 0, 1), (38, .iconst 0, 1), (39, .putfield 22, 3), (42, .aload_n 0, 1), (43, .new 26, 3), (46, .dup, 1), (47, .invokespecial 28, 3), (50, .putfield 29, 3), (53, .aload_n 0, 1), (54, .new 33, 3), (57, .dup, 1), (58, .invokespecial 35, 3), (61, .putfield 36, 3), (64, .aload_n 0, 1), (65, .new 40, 3), (68, .dup, 1), (69, .invokespecial 42, 3), (72, .putfield 43, 3), (75, .aload_n 0, 1), (76, .new 47, 3), (79, .dup, 1), (80, .invokespecial 49, 3), (83, .putfield 50, 3), (86, .aload_n 0, 1), (87, .new 54, 3), (90, .dup, 1), (91, .invokespecial 56, 3), (94, .putfield 57, 3), (97, .aload_n 0, 1), (98, .iconst 5, 1), (99, .newarray .int, 2), (101, .putfield 61, 3), (104, .aload_n 0, 1), (105, .iconst 0, 1), (106, .putfield 65, 3), (109, .aload_n 0, 1), (110, .iconst 0, 1), (111, .putfield 69, 3), (114, .return_, 1)]
theorem dX6_init : dec_ok cX6_init tX6_init = true := by decide +kernel
noncomputable def tX6_row : List (Nat × Instr × Nat) := [(0, .aload_n 0, 1), (1, .getfield 57, 3), (4, .iload_n 1, 1), (5, .invokevirtual 72, 3), (8, .ifCond .eq 22, 3), (11, .iload_n 2, 1), (12, .ifCond .lt 18, 3), (15, .iload_n 2, 1), (16, .iconst 4, 1), (17, .if_icmp .gt 13, 3), (20, .iload_n 3, 1), (21, .ifCond .lt 9, 3), (24, .iload_n 3, 1), (25, .bipush 40, 2), (27, .if_icmp .le 10, 3), (30, .aload_n 0, 1), (31, .bipush (-2), 2), (33, .invokevirtual 76, 3), (36, .ireturn, 1), (37, .aload_n 0, 1), (38, .getfield 57, 3), (41, .iload_n 1, 1), (42, .iload_n 2, 1), (43, .iload_n 3, 1), (44, .invokevirtual 80, 3), (47, .iconst 1, 1), (48, .ireturn, 1)]
theorem dX6_row : dec_ok cX6_row tX6_row = true := by decide +kernel
noncomputable def tX6_set : List (Nat × Instr × Nat) := [(0, .aload_n 0, 1), (1, .getfield 57, 3), (4, .iload_n 1, 1), (5, .invokevirtual 72, 3), (8, .ifCond .ne 10, 3), (11, .aload_n 0, 1), (12, .bipush (-2), 2), (14, .invokevirtual 76, 3), (17, .ireturn, 1), (18, .aload_n 0, 1), (19, .getfield 57, 3), (22, .iload_n 1, 1), (23, .invokevirtual 84, 3), (26, .istore 5, 2), (28, .iload 5, 2), (30, .ifCond .eq 10, 3), (33, .aload_n 0, 1), (34, .iload 5, 2), (36, .invokevirtual 76, 3), (39, .ireturn, 1), (40, .iload_n 2, 1), (41, .ifCond .lt 15, 3), (44, .iload_n 2, 1), (45, .aload_n 0, 1), (46, .getfield 57, 3), (49, .iload_n 1, 1), (50, .invokevirtual 87, 3), (53, .if_icmp .lt 10, 3), (56, .aload_n 0, 1), (57, .bipush (-2), 2), (59, .invokevirtual 76, 3), (62, .ireturn, 1), (63, .aload_n 0, 1), (64, .getfield 57, 3), (67, .iload_n 1, 1), (68, .iload_n 2, 1), (69, .lload_n 3, 1), (70, .invokevirtual 90, 3), (73, .iconst 1, 1), (74, .ireturn, 1)]
theorem dX6_set : dec_ok cX6_set tX6_set = true := by decide +kernel
noncomputable def tX6_copy : List (Nat × Instr × Nat) := [(0, .aload_n 0, 1), (1, .getfield 57, 3), (4, .iload_n 1, 1), (5, .invokevirtual 72, 3), (8, .ifCond .eq 14, 3), (11, .aload_n 0, 1), (12, .getfield 57, 3), (15, .iload_n 2, 1), (16, .invokevirtual 72, 3), (19, .ifCond .ne 10, 3), (22, .aload_n 0, 1), (23, .bipush (-2), 2), (25, .invokevirtual 76, 3), (28, .ireturn, 1), (29, .aload_n 0, 1), (30, .getfield 57, 3), (33, .iload_n 1, 1), (34, .invokevirtual 94, 3), (37, .ifCond .ne 14, 3), (40, .aload_n 0, 1), (41, .getfield 57, 3), (44, .iload_n 2, 1), (45, .invokevirtual 94, 3), (48, .ifCond .eq 10, 3), (51, .aload_n 0, 1), (52, .bipush (-3), 2), (54, .invokevirtual 76, 3), (57, .ireturn, 1), (58, .aload_n 0, 1), (59, .getfield 57, 3), (62, .iload_n 1, 1), (63, .invokevirtual 97, 3), (66, .ifCond .ne 14, 3), (69, .aload_n 0, 1), (70, .getfield 57, 3), (73, .iload_n 2, 1), (74, .invokevirtual 97, 3), (77, .ifCond .eq 10, 3), (80, .aload_n 0, 1), (81, .bipush (-4), 2), (83, .invokevirtual 76, 3), (86, .ireturn, 1), (87, .aload_n 0, 1), (88, .getfield 57, 3), (91, .iload_n 1, 1), (92, .invokevirtual 100, 3), (95, .aload_n 0, 1), (96, .getfield 57, 3), (99, .iload_n 2, 1), (100, .invokevirtual 100, 3), (103, .if_icmp .eq 10, 3), (106, .aload_n 0, 1), (107, .bipush (-3), 2), (109, .invokevirtual 76, 3), (112, .ireturn, 1), (113, .iload 5, 2), (115, .ifCond .lt 43, 3), (118, .iload_n 3, 1), (119, .ifCond .lt 39, 3), (122, .iload 4, 2), (124, .ifCond .lt 34, 3), (127, .iload_n 3, 1), (128, .aload_n 0, 1), (129, .getfield 57, 3), (132, .iload_n 1, 1), (133, .invokevirtual 87, 3), (136, .iload 5, 2), (138, .isub, 1), (139, .if_icmp .gt 19, 3), (142, .iload 4, 2), (144, .aload_n 0, 1), (145, .getfield 57, 3), (148, .iload_n 2, 1), (149, .invokevirtual 87, 3), (152, .iload 5, 2), (154, .isub, 1), (155, .if_icmp .le 10, 3), (158, .aload_n 0, 1), (159, .bipush (-2), 2), (161, .invokevirtual 76, 3), (164, .ireturn, 1), (165, .aload_n 0, 1), (166, .getfield 57, 3), (169, .iload_n 1, 1), (170, .iload_n 2, 1), (171, .iload_n 3, 1), (172, .iload 4, 2), (174, .iload 5, 2), (176, .invokevirtual 103, 3), (179, .iload 5, 2), (181, .ireturn, 1)]
theorem dX6_copy : dec_ok cX6_copy tX6_copy = true := by decide +kernel
noncomputable def tX6_element : List (Nat × Instr × Nat) := [(0, .aload_n 0, 1), (1, .getfield 57, 3), (4, .iload_n 1, 1), (5, .iload_n 2, 1), (6, .invokevirtual 107, 3), (9, .lreturn, 1)]
theorem dX6_element : dec_ok cX6_element tX6_element = true := by decide +kernel
noncomputable def tX6_holds : List (Nat × Instr × Nat) := [(0, .aload_n 0, 1), (1, .getfield 57, 3), (4, .iload_n 1, 1), (5, .invokevirtual 100, 3), (8, .ireturn, 1)]
theorem dX6_holds : dec_ok cX6_holds tX6_holds = true := by decide +kernel
noncomputable def tX6_holding : List (Nat × Instr × Nat) := [(0, .aload_n 0, 1), (1, .getfield 57, 3), (4, .iload_n 1, 1), (5, .invokevirtual 72, 3), (8, .ifCond .eq 23, 3), (11, .iload_n 2, 1), (12, .iconst 1, 1), (13, .if_icmp .lt 18, 3), (16, .iload_n 2, 1), (17, .iconst 5, 1), (18, .if_icmp .gt 13, 3), (21, .iload_n 3, 1), (22, .ifCond .lt 9, 3), (25, .iload_n 3, 1), (26, .bipush 99, 2), (28, .if_icmp .le 10, 3), (31, .aload_n 0, 1), (32, .bipush (-2), 2), (34, .invokevirtual 76, 3), (37, .ireturn, 1), (38, .aload_n 0, 1), (39, .getfield 57, 3), (42, .iload_n 1, 1), (43, .iload_n 2, 1), (44, .iload_n 3, 1), (45, .invokevirtual 111, 3), (48, .iconst 1, 1), (49, .ireturn, 1)]
theorem dX6_holding : dec_ok cX6_holding tX6_holding = true := by decide +kernel
noncomputable def tX6_says : List (Nat × Instr × Nat) := [(0, .aload_n 0, 1), (1, .getfield 57, 3), (4, .iload_n 1, 1), (5, .invokevirtual 72, 3), (8, .ifCond .eq 12, 3), (11, .iload_n 2, 1), (12, .ifCond .lt 8, 3), (15, .iload_n 2, 1), (16, .iconst 5, 1), (17, .if_icmp .le 10, 3), (20, .aload_n 0, 1), (21, .bipush (-2), 2), (23, .invokevirtual 76, 3), (26, .ireturn, 1), (27, .aload_n 0, 1), (28, .getfield 57, 3), (31, .iload_n 1, 1), (32, .invokevirtual 114, 3), (35, .istore_n 3, 1), (36, .iload_n 3, 1), (37, .ifCond .ne 21, 3), (40, .aload_n 0, 1), (41, .getfield 57, 3), (44, .iload_n 1, 1), (45, .invokevirtual 117, 3), (48, .iload_n 2, 1), (49, .invokestatic 120, 3), (52, .ifCond .ne 6, 3), (55, .bipush (-3), 2), (57, .istore_n 3, 1), (58, .iload_n 3, 1), (59, .ifCond .eq 9, 3), (62, .aload_n 0, 1), (63, .iload_n 3, 1), (64, .invokevirtual 76, 3), (67, .ireturn, 1), (68, .iload_n 2, 1), (69, .ifCond .ne 12, 3), (72, .aload_n 0, 1), (73, .getfield 57, 3), (76, .iload_n 1, 1), (77, .invokevirtual 124, 3), (80, .ireturn, 1), (81, .aload_n 0, 1), (82, .iload_n 1, 1), (83, .invokevirtual 127, 3), (86, .iload_n 2, 1), (87, .iconst 3, 1), (88, .if_icmp .ne 13, 3), (91, .aload_n 0, 1), (92, .getfield 16, 3), (95, .invokevirtual 131, 3), (98, .goto 10, 3), (101, .aload_n 0, 1), (102, .getfield 16, 3), (105, .invokevirtual 135, 3), (108, .ireturn, 1)]
theorem dX6_says : dec_ok cX6_says tX6_says = true := by decide +kernel
noncomputable def tX6_part : List (Nat × Instr × Nat) := [(0, .aload_n 0, 1), (1, .getfield 10, 3), (4, .getfield 138, 3), (7, .bipush 12, 2), (9, .if_icmp .lt 10, 3), (12, .aload_n 0, 1), (13, .bipush (-6), 2), (15, .invokevirtual 76, 3), (18, .ireturn, 1), (19, .aload_n 0, 1), (20, .getfield 10, 3), (23, .invokevirtual 141, 3), (26, .ireturn, 1)]
theorem dX6_part : dec_ok cX6_part tX6_part = true := by decide +kernel
noncomputable def tX6_machine : List (Nat × Instr × Nat) := [(0, .iload_n 1, 1), (1, .ifCond .eq 25, 3), (4, .aload_n 0, 1), (5, .getfield 10, 3), (8, .iload_n 1, 1), (9, .invokevirtual 144, 3), (12, .ifCond .eq 14, 3), (15, .iload_n 2, 1), (16, .iconst 1, 1), (17, .if_icmp .lt 9, 3), (20, .iload_n 2, 1), (21, .bipush 99, 2), (23, .if_icmp .le 10, 3), (26, .aload_n 0, 1), (27, .bipush (-2), 2), (29, .invokevirtual 76, 3), (32, .ireturn, 1), (33, .aload_n 0, 1), (34, .getfield 10, 3), (37, .getfield 147, 3), (40, .bipush 6, 2), (42, .if_icmp .lt 10, 3), (45, .aload_n 0, 1), (46, .bipush (-6), 2), (48, .invokevirtual 76, 3), (51, .ireturn, 1), (52, .aload_n 0, 1), (53, .getfield 10, 3), (56, .iload_n 1, 1), (57, .iload_n 2, 1), (58, .invokevirtual 150, 3), (61, .ireturn, 1)]
theorem dX6_machine : dec_ok cX6_machine tX6_machine = true := by decide +kernel
noncomputable def tX6_one : List (Nat × Instr × Nat) := [(0, .iload_n 1, 1), (1, .ifCond .lt 19, 3), (4, .iload_n 1, 1), (5, .bipush 9, 2), (7, .if_icmp .gt 13, 3), (10, .iload_n 2, 1), (11, .ifCond .lt 9, 3), (14, .iload_n 2, 1), (15, .bipush 10, 2), (17, .if_icmp .le 10, 3), (20, .aload_n 0, 1), (21, .bipush (-2), 2), (23, .invokevirtual 76, 3), (26, .ireturn, 1), (27, .aload_n 0, 1), (28, .getfield 10, 3), (31, .getfield 154, 3), (34, .bipush 8, 2), (36, .if_icmp .lt 10, 3), (39, .aload_n 0, 1), (40, .bipush (-6), 2), (42, .invokevirtual 76, 3), (45, .ireturn, 1), (46, .aload_n 0, 1), (47, .getfield 10, 3), (50, .iload_n 1, 1), (51, .iload_n 2, 1), (52, .invokevirtual 157, 3), (55, .ireturn, 1)]
theorem dX6_one : dec_ok cX6_one tX6_one = true := by decide +kernel
noncomputable def tX6_away : List (Nat × Instr × Nat) := [(0, .aload_n 0, 1), (1, .getfield 10, 3), (4, .iload_n 1, 1), (5, .invokevirtual 160, 3), (8, .ifCond .eq 13, 3), (11, .iload_n 2, 1), (12, .ifCond .lt 9, 3), (15, .iload_n 2, 1), (16, .bipush 10, 2), (18, .if_icmp .le 10, 3), (21, .aload_n 0, 1), (22, .bipush (-2), 2), (24, .invokevirtual 76, 3), (27, .ireturn, 1), (28, .aload_n 0, 1), (29, .getfield 10, 3), (32, .getfield 163, 3), (35, .iload_n 1, 1), (36, .iaload, 1), (37, .istore_n 3, 1), (38, .aload_n 0, 1), (39, .getfield 10, 3), (42, .getfield 163, 3), (45, .iload_n 1, 1), (46, .iload_n 2, 1), (47, .iastore, 1), (48, .iload_n 3, 1), (49, .ireturn, 1)]
theorem dX6_away : dec_ok cX6_away tX6_away = true := by decide +kernel
noncomputable def tX6_cross : List (Nat × Instr × Nat) := [(0, .aload_n 0, 1), (1, .getfield 10, 3), (4, .iload_n 1, 1), (5, .invokevirtual 160, 3), (8, .ifCond .ne 10, 3), (11, .aload_n 0, 1), (12, .bipush (-2), 2), (14, .invokevirtual 76, 3), (17, .ireturn, 1), (18, .aload_n 0, 1), (19, .getfield 10, 3), (22, .getfield 166, 3), (25, .iload_n 1, 1), (26, .baload, 1), (27, .iload_n 2, 1), (28, .if_icmp .ne 5, 3), (31, .iconst 0, 1), (32, .ireturn, 1), (33, .aload_n 0, 1), (34, .getfield 10, 3), (37, .getfield 166, 3), (40, .iload_n 1, 1), (41, .iload_n 2, 1), (42, .bastore, 1), (43, .iconst 1, 1), (44, .ireturn, 1)]
theorem dX6_cross : dec_ok cX6_cross tX6_cross = true := by decide +kernel
noncomputable def tX6_give : List (Nat × Instr × Nat) := [(0, .aload_n 0, 1), (1, .getfield 10, 3), (4, .iload_n 1, 1), (5, .invokevirtual 170, 3), (8, .ifCond .eq 19, 3), (11, .iload_n 2, 1), (12, .iconst (-1), 1), (13, .if_icmp .eq 21, 3), (16, .aload_n 0, 1), (17, .getfield 10, 3), (20, .iload_n 2, 1), (21, .invokevirtual 160, 3), (24, .ifCond .ne 10, 3), (27, .aload_n 0, 1), (28, .bipush (-2), 2), (30, .invokevirtual 76, 3), (33, .ireturn, 1), (34, .iload_n 3, 1), (35, .ifCond .eq 15, 3), (38, .aload_n 0, 1), (39, .getfield 10, 3), (42, .getfield 173, 3), (45, .iload_n 1, 1), (46, .iaload, 1), (47, .goto 12, 3), (50, .aload_n 0, 1), (51, .getfield 10, 3), (54, .getfield 176, 3), (57, .iload_n 1, 1), (58, .iaload, 1), (59, .istore 4, 2), (61, .iload_n 2, 1), (62, .iconst (-1), 1), (63, .if_icmp .eq 27, 3), (66, .iload_n 2, 1), (67, .iload 4, 2), (69, .if_icmp .eq 21, 3), (72, .aload_n 0, 1), (73, .getfield 10, 3), (76, .iload_n 2, 1), (77, .invokevirtual 179, 3), (80, .ifCond .ne 10, 3), (83, .aload_n 0, 1), (84, .bipush (-5), 2), (86, .invokevirtual 76, 3), (89, .ireturn, 1), (90, .iload_n 3, 1), (91, .ifCond .eq 16, 3), (94, .aload_n 0, 1), (95, .getfield 10, 3), (98, .getfield 173, 3), (101, .iload_n 1, 1), (102, .iload_n 2, 1), (103, .iastore, 1), (104, .goto 13, 3), (107, .aload_n 0, 1), (108, .getfield 10, 3), (111, .getfield 176, 3), (114, .iload_n 1, 1), (115, .iload_n 2, 1), (116, .iastore, 1), (117, .iload 4, 2), (119, .ireturn, 1)]
theorem dX6_give : dec_ok cX6_give tX6_give = true := by decide +kernel
noncomputable def tX6_feed : List (Nat × Instr × Nat) := [(0, .iload_n 2, 1), (1, .iconst 1, 1), (2, .if_icmp .lt 8, 3), (5, .iload_n 2, 1), (6, .iconst 4, 1), (7, .if_icmp .le 10, 3), (10, .aload_n 0, 1), (11, .bipush (-2), 2), (13, .invokevirtual 76, 3), (16, .ireturn, 1), (17, .aload_n 0, 1), (18, .getfield 50, 3), (21, .invokevirtual 182, 3), (24, .iload_n 2, 1), (25, .iadd, 1), (26, .sipush 250, 3), (29, .if_icmp .le 10, 3), (32, .aload_n 0, 1), (33, .bipush (-6), 2), (35, .invokevirtual 76, 3), (38, .ireturn, 1), (39, .iload_n 2, 1), (40, .iconst 1, 1), (41, .isub, 1), (42, .istore_n 3, 1), (43, .iload_n 3, 1), (44, .ifCond .lt 22, 3), (47, .aload_n 0, 1), (48, .getfield 50, 3), (51, .iload_n 1, 1), (52, .bipush 8, 2), (54, .iload_n 3, 1), (55, .imul, 1), (56, .ishr, 1), (57, .invokevirtual 185, 3), (60, .iinc 3 (-1), 3), (63, .goto (-20), 3), (66, .aload_n 0, 1), (67, .getfield 50, 3), (70, .invokevirtual 182, 3), (73, .ireturn, 1)]
theorem dX6_feed : dec_ok cX6_feed tX6_feed = true := by decide +kernel
noncomputable def tX6_wipe : List (Nat × Instr × Nat) := [(0, .aload_n 0, 1), (1, .getfield 50, 3), (4, .invokevirtual 182, 3), (7, .istore_n 1, 1), (8, .aload_n 0, 1), (9, .getfield 50, 3), (12, .invokevirtual 188, 3), (15, .iload_n 1, 1), (16, .ireturn, 1)]
theorem dX6_wipe : dec_ok cX6_wipe tX6_wipe = true := by decide +kernel
noncomputable def tX6_village : List (Nat × Instr × Nat) := [(0, .aload_n 0, 1), (1, .getfield 16, 3), (4, .aload_n 0, 1), (5, .getfield 10, 3), (8, .invokevirtual 191, 3), (11, .aload_n 0, 1), (12, .getfield 50, 3), (15, .aload_n 0, 1), (16, .getfield 16, 3), (19, .invokevirtual 195, 3), (22, .istore_n 1, 1), (23, .aload_n 0, 1), (24, .getfield 50, 3), (27, .invokevirtual 199, 3), (30, .istore_n 2, 1), (31, .aload_n 0, 1), (32, .getfield 50, 3), (35, .invokevirtual 188, 3), (38, .iload_n 1, 1), (39, .ifCond .ge 15, 3), (42, .aload_n 0, 1), (43, .bipush (-2), 2), (45, .invokevirtual 76, 3), (48, .pop, 1), (49, .bipush (-20), 2), (51, .iload_n 2, 1), (52, .isub, 1), (53, .ireturn, 1), (54, .aload_n 0, 1), (55, .getfield 10, 3), (58, .aload_n 0, 1), (59, .getfield 16, 3), (62, .invokevirtual 191, 3), (65, .iload_n 1, 1), (66, .ireturn, 1)]
theorem dX6_village : dec_ok cX6_village tX6_village = true := by decide +kernel
noncomputable def tX6_partOf : List (Nat × Instr × Nat) := [(0, .aload_n 0, 1), (1, .getfield 10, 3), (4, .iload_n 1, 1), (5, .invokevirtual 170, 3), (8, .ifCond .eq 12, 3), (11, .iload_n 2, 1), (12, .ifCond .lt 8, 3), (15, .iload_n 2, 1), (16, .iconst 1, 1), (17, .if_icmp .le 10, 3), (20, .aload_n 0, 1), (21, .bipush (-2), 2), (23, .invokevirtual 76, 3), (26, .ireturn, 1), (27, .iload_n 2, 1), (28, .ifCond .ne 15, 3), (31, .aload_n 0, 1), (32, .getfield 10, 3), (35, .getfield 176, 3), (38, .iload_n 1, 1), (39, .iaload, 1), (40, .goto 12, 3), (43, .aload_n 0, 1), (44, .getfield 10, 3), (47, .getfield 173, 3), (50, .iload_n 1, 1), (51, .iaload, 1), (52, .ireturn, 1)]
theorem dX6_partOf : dec_ok cX6_partOf tX6_partOf = true := by decide +kernel
noncomputable def tX6_machineOf : List (Nat × Instr × Nat) := [(0, .aload_n 0, 1), (1, .getfield 10, 3), (4, .iload_n 1, 1), (5, .invokevirtual 202, 3), (8, .ifCond .eq 12, 3), (11, .iload_n 2, 1), (12, .ifCond .lt 8, 3), (15, .iload_n 2, 1), (16, .iconst 1, 1), (17, .if_icmp .le 10, 3), (20, .aload_n 0, 1), (21, .bipush (-2), 2), (23, .invokevirtual 76, 3), (26, .ireturn, 1), (27, .iload_n 2, 1), (28, .ifCond .ne 15, 3), (31, .aload_n 0, 1), (32, .getfield 10, 3), (35, .getfield 205, 3), (38, .iload_n 1, 1), (39, .iaload, 1), (40, .goto 12, 3), (43, .aload_n 0, 1), (44, .getfield 10, 3), (47, .getfield 208, 3), (50, .iload_n 1, 1), (51, .iaload, 1), (52, .ireturn, 1)]
theorem dX6_machineOf : dec_ok cX6_machineOf tX6_machineOf = true := by decide +kernel
noncomputable def tX6_oneOf : List (Nat × Instr × Nat) := [(0, .aload_n 0, 1), (1, .getfield 10, 3), (4, .iload_n 1, 1), (5, .invokevirtual 160, 3), (8, .ifCond .ne 10, 3), (11, .aload_n 0, 1), (12, .bipush (-2), 2), (14, .invokevirtual 76, 3), (17, .ireturn, 1), (18, .iload_n 2, 1), (19, .tableswitch 90 0 4 #[33, 43, 53, 71, 80], 33), (52, .aload_n 0, 1), (53, .getfield 10, 3), (56, .getfield 211, 3), (59, .iload_n 1, 1), (60, .iaload, 1), (61, .ireturn, 1), (62, .aload_n 0, 1), (63, .getfield 10, 3), (66, .getfield 163, 3), (69, .iload_n 1, 1), (70, .iaload, 1), (71, .ireturn, 1), (72, .aload_n 0, 1), (73, .getfield 10, 3), (76, .getfield 166, 3), (79, .iload_n 1, 1), (80, .baload, 1), (81, .ifCond .eq 7, 3), (84, .iconst 1, 1), (85, .goto 4, 3), (88, .iconst 0, 1), (89, .ireturn, 1), (90, .aload_n 0, 1), (91, .getfield 10, 3), (94, .iload_n 1, 1), (95, .invokevirtual 214, 3), (98, .ireturn, 1), (99, .aload_n 0, 1), (100, .getfield 10, 3), (103, .getfield 217, 3), (106, .iload_n 1, 1), (107, .iaload, 1), (108, .ireturn, 1), (109, .aload_n 0, 1), (110, .bipush (-2), 2), (112, .invokevirtual 76, 3), (115, .ireturn, 1)]
theorem dX6_oneOf : dec_ok cX6_oneOf tX6_oneOf = true := by decide +kernel
noncomputable def tX6_has : List (Nat × Instr × Nat) := [(0, .aload_n 0, 1), (1, .getfield 10, 3), (4, .iload_n 1, 1), (5, .invokevirtual 220, 3), (8, .ifCond .ne 10, 3), (11, .aload_n 0, 1), (12, .bipush (-2), 2), (14, .invokevirtual 76, 3), (17, .ireturn, 1), (18, .aload_n 0, 1), (19, .getfield 10, 3), (22, .iload_n 1, 1), (23, .invokevirtual 223, 3), (26, .ireturn, 1)]
theorem dX6_has : dec_ok cX6_has tX6_has = true := by decide +kernel
noncomputable def tX6_works : List (Nat × Instr × Nat) := [(0, .aload_n 0, 1), (1, .getfield 10, 3), (4, .iload_n 1, 1), (5, .invokevirtual 202, 3), (8, .ifCond .eq 14, 3), (11, .aload_n 0, 1), (12, .getfield 10, 3), (15, .iload_n 2, 1), (16, .invokevirtual 220, 3), (19, .ifCond .ne 10, 3), (22, .aload_n 0, 1), (23, .bipush (-2), 2), (25, .invokevirtual 76, 3), (28, .ireturn, 1), (29, .aload_n 0, 1), (30, .getfield 10, 3), (33, .iload_n 1, 1), (34, .aload_n 0, 1), (35, .getfield 10, 3), (38, .iload_n 2, 1), (39, .invokevirtual 223, 3), (42, .invokevirtual 226, 3), (45, .ifCond .eq 7, 3), (48, .iconst 1, 1), (49, .goto 4, 3), (52, .iconst 0, 1), (53, .ireturn, 1)]
theorem dX6_works : dec_ok cX6_works tX6_works = true := by decide +kernel
noncomputable def tX6_both : List (Nat × Instr × Nat) := [(0, .aload_n 0, 1), (1, .getfield 10, 3), (4, .iload_n 1, 1), (5, .iload_n 2, 1), (6, .invokevirtual 229, 3), (9, .ifCond .eq 14, 3), (12, .aload_n 0, 1), (13, .getfield 10, 3), (16, .iload_n 3, 1), (17, .invokevirtual 220, 3), (20, .ifCond .ne 10, 3), (23, .aload_n 0, 1), (24, .bipush (-2), 2), (26, .invokevirtual 76, 3), (29, .ireturn, 1), (30, .aload_n 0, 1), (31, .getfield 10, 3), (34, .iload_n 1, 1), (35, .iload_n 2, 1), (36, .iload_n 3, 1), (37, .invokevirtual 232, 3), (40, .ifCond .eq 7, 3), (43, .iconst 1, 1), (44, .goto 4, 3), (47, .iconst 0, 1), (48, .ireturn, 1)]
theorem dX6_both : dec_ok cX6_both tX6_both = true := by decide +kernel
noncomputable def tX6_odds : List (Nat × Instr × Nat) := [(0, .aload_n 0, 1), (1, .getfield 10, 3), (4, .iload_n 1, 1), (5, .invokevirtual 202, 3), (8, .ifCond .ne 11, 3), (11, .aload_n 0, 1), (12, .bipush (-2), 2), (14, .invokevirtual 76, 3), (17, .i2l, 1), (18, .lreturn, 1), (19, .aload_n 0, 1), (20, .getfield 29, 3), (23, .aload_n 0, 1), (24, .getfield 10, 3), (27, .iload_n 1, 1), (28, .invokevirtual 236, 3), (31, .lreturn, 1)]
theorem dX6_odds : dec_ok cX6_odds tX6_odds = true := by decide +kernel
noncomputable def tX6_atOnce : List (Nat × Instr × Nat) := [(0, .aload_n 0, 1), (1, .getfield 10, 3), (4, .iload_n 1, 1), (5, .iload_n 2, 1), (6, .invokevirtual 229, 3), (9, .ifCond .ne 11, 3), (12, .aload_n 0, 1), (13, .bipush (-2), 2), (15, .invokevirtual 76, 3), (18, .i2l, 1), (19, .lreturn, 1), (20, .aload_n 0, 1), (21, .getfield 29, 3), (24, .aload_n 0, 1), (25, .getfield 10, 3), (28, .iload_n 1, 1), (29, .iload_n 2, 1), (30, .invokevirtual 240, 3), (33, .lreturn, 1)]
theorem dX6_atOnce : dec_ok cX6_atOnce tX6_atOnce = true := by decide +kernel
noncomputable def tX6_day : List (Nat × Instr × Nat) := [(0, .aload_n 0, 1), (1, .getfield 29, 3), (4, .aload_n 0, 1), (5, .getfield 10, 3), (8, .invokevirtual 244, 3), (11, .lreturn, 1)]
theorem dX6_day : dec_ok cX6_day tX6_day = true := by decide +kernel
noncomputable def tX6_power : List (Nat × Instr × Nat) := [(0, .aload_n 0, 1), (1, .getfield 10, 3), (4, .iload_n 1, 1), (5, .invokevirtual 202, 3), (8, .ifCond .eq 14, 3), (11, .aload_n 0, 1), (12, .getfield 10, 3), (15, .iload_n 2, 1), (16, .invokevirtual 160, 3), (19, .ifCond .ne 10, 3), (22, .aload_n 0, 1), (23, .bipush (-2), 2), (25, .invokevirtual 76, 3), (28, .ireturn, 1), (29, .aload_n 0, 1), (30, .getfield 29, 3), (33, .aload_n 0, 1), (34, .getfield 10, 3), (37, .invokevirtual 248, 3), (40, .aload_n 0, 1), (41, .getfield 29, 3), (44, .aload_n 0, 1), (45, .getfield 10, 3), (48, .iload_n 1, 1), (49, .iload_n 2, 1), (50, .invokevirtual 251, 3), (53, .ireturn, 1)]
theorem dX6_power : dec_ok cX6_power tX6_power = true := by decide +kernel
noncomputable def tX6_first : List (Nat × Instr × Nat) := [(0, .aload_n 0, 1), (1, .getfield 10, 3), (4, .getfield 154, 3), (7, .ifCond .ne 10, 3), (10, .aload_n 0, 1), (11, .bipush (-5), 2), (13, .invokevirtual 76, 3), (16, .ireturn, 1), (17, .aload_n 0, 1), (18, .getfield 29, 3), (21, .aload_n 0, 1), (22, .getfield 10, 3), (25, .invokevirtual 248, 3), (28, .iconst 0, 1), (29, .istore_n 1, 1), (30, .ldc2_w 255, 3), (33, .lstore_n 2, 1), (34, .iconst 0, 1), (35, .istore 4, 2), (37, .iload 4, 2), (39, .aload_n 0, 1), (40, .getfield 10, 3), (43, .getfield 154, 3), (46, .if_icmp .ge 37, 3), (49, .aload_n 0, 1), (50, .getfield 29, 3), (53, .aload_n 0, 1), (54, .getfield 10, 3), (57, .iload 4, 2), (59, .invokevirtual 257, 3), (62, .lstore 5, 2), (64, .lload 5, 2), (66, .lload_n 2, 1), (67, .lcmp, 1), (68, .ifCond .le 9, 3), (71, .lload 5, 2), (73, .lstore_n 2, 1), (74, .iload 4, 2), (76, .istore_n 1, 1), (77, .iinc 4 1, 3), (80, .goto (-43), 3), (83, .iload_n 1, 1), (84, .ireturn, 1)]
theorem dX6_first : dec_ok cX6_first tX6_first = true := by decide +kernel
noncomputable def tX6_lay : List (Nat × Instr × Nat) := [(0, .aload_n 0, 1), (1, .getfield 57, 3), (4, .iload_n 1, 1), (5, .invokevirtual 72, 3), (8, .ifCond .ne 10, 3), (11, .aload_n 0, 1), (12, .bipush (-2), 2), (14, .invokevirtual 76, 3), (17, .ireturn, 1), (18, .aload_n 0, 1), (19, .getfield 57, 3), (22, .iload_n 1, 1), (23, .invokevirtual 114, 3), (26, .istore_n 2, 1), (27, .iload_n 2, 1), (28, .ifCond .eq 9, 3), (31, .aload_n 0, 1), (32, .iload_n 2, 1), (33, .invokevirtual 76, 3), (36, .ireturn, 1), (37, .aload_n 0, 1), (38, .getfield 36, 3), (41, .aload_n 0, 1), (42, .getfield 10, 3), (45, .aload_n 0, 1), (46, .getfield 57, 3), (49, .iload_n 1, 1), (50, .invokevirtual 117, 3), (53, .aload_n 0, 1), (54, .getfield 57, 3), (57, .iload_n 1, 1), (58, .invokevirtual 124, 3), (61, .invokevirtual 260, 3), (64, .aload_n 0, 1), (65, .getfield 10, 3), (68, .invokevirtual 135, 3), (71, .ireturn, 1)]
theorem dX6_lay : dec_ok cX6_lay tX6_lay = true := by decide +kernel
noncomputable def tX6_would : List (Nat × Instr × Nat) := [(0, .aload_n 0, 1), (1, .getfield 57, 3), (4, .iload_n 1, 1), (5, .invokevirtual 72, 3), (8, .ifCond .ne 11, 3), (11, .aload_n 0, 1), (12, .bipush (-2), 2), (14, .invokevirtual 76, 3), (17, .i2l, 1), (18, .lreturn, 1), (19, .aload_n 0, 1), (20, .getfield 57, 3), (23, .iload_n 1, 1), (24, .invokevirtual 114, 3), (27, .istore_n 2, 1), (28, .iload_n 2, 1), (29, .ifCond .eq 10, 3), (32, .aload_n 0, 1), (33, .iload_n 2, 1), (34, .invokevirtual 76, 3), (37, .i2l, 1), (38, .lreturn, 1), (39, .aload_n 0, 1), (40, .iload_n 1, 1), (41, .invokevirtual 127, 3), (44, .aload_n 0, 1), (45, .getfield 29, 3), (48, .aload_n 0, 1), (49, .getfield 16, 3), (52, .invokevirtual 244, 3), (55, .lreturn, 1)]
theorem dX6_would : dec_ok cX6_would tX6_would = true := by decide +kernel
noncomputable def tX6_head : List (Nat × Instr × Nat) := [(0, .iconst (-1), 1), (1, .istore_n 1, 1), (2, .ldc2_w 255, 3), (5, .lstore_n 2, 1), (6, .iconst 0, 1), (7, .istore 4, 2), (9, .iload 4, 2), (11, .bipush 8, 2), (13, .if_icmp .ge 53, 3), (16, .aload_n 0, 1), (17, .getfield 57, 3), (20, .iload 4, 2), (22, .invokevirtual 94, 3), (25, .ifCond .eq 35, 3), (28, .aload_n 0, 1), (29, .iload 4, 2), (31, .invokevirtual 127, 3), (34, .aload_n 0, 1), (35, .getfield 29, 3), (38, .aload_n 0, 1), (39, .getfield 16, 3), (42, .invokevirtual 244, 3), (45, .lstore 5, 2), (47, .lload 5, 2), (49, .lload_n 2, 1), (50, .lcmp, 1), (51, .ifCond .le 9, 3), (54, .lload 5, 2), (56, .lstore_n 2, 1), (57, .iload 4, 2), (59, .istore_n 1, 1), (60, .iinc 4 1, 3), (63, .goto (-54), 3), (66, .iload_n 1, 1), (67, .iconst (-1), 1), (68, .if_icmp .ne 12, 3), (71, .aload_n 0, 1), (72, .bipush (-5), 2), (74, .invokevirtual 76, 3), (77, .goto 4, 3), (80, .iload_n 1, 1), (81, .ireturn, 1)]
theorem dX6_head : dec_ok cX6_head tX6_head = true := by decide +kernel
noncomputable def tX6_best : List (Nat × Instr × Nat) := [(0, .aload_n 0, 1), (1, .getfield 10, 3), (4, .iload_n 1, 1), (5, .invokevirtual 170, 3), (8, .ifCond .ne 10, 3), (11, .aload_n 0, 1), (12, .bipush (-2), 2), (14, .invokevirtual 76, 3), (17, .ireturn, 1), (18, .aload_n 0, 1), (19, .invokevirtual 264, 3), (22, .ifCond .eq 10, 3), (25, .aload_n 0, 1), (26, .bipush (-5), 2), (28, .invokevirtual 76, 3), (31, .ireturn, 1), (32, .aload_n 0, 1), (33, .getfield 43, 3), (36, .aload_n 0, 1), (37, .getfield 10, 3), (40, .invokevirtual 268, 3), (43, .aload_n 0, 1), (44, .getfield 43, 3), (47, .iload_n 1, 1), (48, .invokevirtual 271, 3), (51, .ireturn, 1)]
theorem dX6_best : dec_ok cX6_best tX6_best = true := by decide +kernel
noncomputable def tX6_bestDay : List (Nat × Instr × Nat) := [(0, .aload_n 0, 1), (1, .invokevirtual 264, 3), (4, .ifCond .eq 11, 3), (7, .aload_n 0, 1), (8, .bipush (-5), 2), (10, .invokevirtual 76, 3), (13, .i2l, 1), (14, .lreturn, 1), (15, .aload_n 0, 1), (16, .getfield 43, 3), (19, .aload_n 0, 1), (20, .getfield 10, 3), (23, .invokevirtual 268, 3), (26, .aload_n 0, 1), (27, .getfield 43, 3), (30, .invokevirtual 274, 3), (33, .lreturn, 1)]
theorem dX6_bestDay : dec_ok cX6_bestDay tX6_bestDay = true := by decide +kernel
noncomputable def tX6_bears : List (Nat × Instr × Nat) := [(0, .aload_n 0, 1), (1, .getfield 10, 3), (4, .iload_n 1, 1), (5, .invokevirtual 202, 3), (8, .ifCond .ne 10, 3), (11, .aload_n 0, 1), (12, .bipush (-2), 2), (14, .invokevirtual 76, 3), (17, .ireturn, 1), (18, .aload_n 0, 1), (19, .getfield 29, 3), (22, .aload_n 0, 1), (23, .getfield 10, 3), (26, .invokevirtual 248, 3), (29, .aload_n 0, 1), (30, .getfield 29, 3), (33, .aload_n 0, 1), (34, .getfield 10, 3), (37, .iload_n 1, 1), (38, .invokevirtual 278, 3), (41, .istore_n 2, 1), (42, .iload_n 2, 1), (43, .iconst (-1), 1), (44, .if_icmp .ne 12, 3), (47, .aload_n 0, 1), (48, .bipush (-5), 2), (50, .invokevirtual 76, 3), (53, .goto 4, 3), (56, .iload_n 2, 1), (57, .ireturn, 1)]
theorem dX6_bears : dec_ok cX6_bears tX6_bears = true := by decide +kernel
noncomputable def tX6_harms : List (Nat × Instr × Nat) := [(0, .iconst (-1), 1), (1, .istore_n 1, 1), (2, .lconst 0, 1), (3, .lstore_n 2, 1), (4, .iconst 0, 1), (5, .istore 4, 2), (7, .iload 4, 2), (9, .aload_n 0, 1), (10, .getfield 10, 3), (13, .getfield 154, 3), (16, .if_icmp .ge 75, 3), (19, .aload_n 0, 1), (20, .getfield 10, 3), (23, .getfield 166, 3), (26, .iload 4, 2), (28, .baload, 1), (29, .ifCond .ne 56, 3), (32, .aload_n 0, 1), (33, .getfield 16, 3), (36, .aload_n 0, 1), (37, .getfield 10, 3), (40, .invokevirtual 191, 3), (43, .aload_n 0, 1), (44, .getfield 16, 3), (47, .getfield 166, 3), (50, .iload 4, 2), (52, .iconst 1, 1), (53, .bastore, 1), (54, .aload_n 0, 1), (55, .getfield 29, 3), (58, .aload_n 0, 1), (59, .getfield 16, 3), (62, .invokevirtual 244, 3), (65, .lstore 5, 2), (67, .iload_n 1, 1), (68, .iconst (-1), 1), (69, .if_icmp .eq 10, 3), (72, .lload 5, 2), (74, .lload_n 2, 1), (75, .lcmp, 1), (76, .ifCond .ge 9, 3), (79, .lload 5, 2), (81, .lstore_n 2, 1), (82, .iload 4, 2), (84, .istore_n 1, 1), (85, .iinc 4 1, 3), (88, .goto (-81), 3), (91, .iload_n 1, 1), (92, .iconst (-1), 1), (93, .if_icmp .ne 12, 3), (96, .aload_n 0, 1), (97, .bipush (-5), 2), (99, .invokevirtual 76, 3), (102, .goto 4, 3), (105, .iload_n 1, 1), (106, .ireturn, 1)]
theorem dX6_harms : dec_ok cX6_harms tX6_harms = true := by decide +kernel
noncomputable def tX6_least : List (Nat × Instr × Nat) := [(0, .aload_n 0, 1), (1, .getfield 29, 3), (4, .aload_n 0, 1), (5, .getfield 10, 3), (8, .invokevirtual 248, 3), (11, .aload_n 0, 1), (12, .getfield 10, 3), (15, .invokevirtual 282, 3), (18, .istore_n 1, 1), (19, .iload_n 1, 1), (20, .istore_n 2, 1), (21, .iconst 0, 1), (22, .istore_n 3, 1), (23, .iload_n 3, 1), (24, .iload_n 1, 1), (25, .if_icmp .ge 44, 3), (28, .iload_n 3, 1), (29, .invokestatic 285, 3), (32, .iload_n 2, 1), (33, .invokestatic 285, 3), (36, .if_icmp .ge 27, 3), (39, .aload_n 0, 1), (40, .getfield 10, 3), (43, .aload_n 0, 1), (44, .getfield 29, 3), (47, .iload_n 1, 1), (48, .iload_n 3, 1), (49, .iconst (-1), 1), (50, .ixor, 1), (51, .iand, 1), (52, .invokevirtual 290, 3), (55, .invokevirtual 293, 3), (58, .ifCond .ne 5, 3), (61, .iload_n 3, 1), (62, .istore_n 2, 1), (63, .iinc 3 1, 3), (66, .goto (-43), 3), (69, .iload_n 2, 1), (70, .ireturn, 1)]
theorem dX6_least : dec_ok cX6_least tX6_least = true := by decide +kernel
noncomputable def tX6_stolen : List (Nat × Instr × Nat) := [(0, .aload_n 0, 1), (1, .getfield 10, 3), (4, .aload_n 0, 1), (5, .getfield 10, 3), (8, .invokevirtual 282, 3), (11, .invokevirtual 223, 3), (14, .istore_n 1, 1), (15, .aload_n 0, 1), (16, .getfield 10, 3), (19, .invokevirtual 296, 3), (22, .istore_n 2, 1), (23, .iload_n 2, 1), (24, .istore_n 3, 1), (25, .iconst 0, 1), (26, .istore 4, 2), (28, .iload 4, 2), (30, .iload_n 2, 1), (31, .if_icmp .ge 40, 3), (34, .iload 4, 2), (36, .invokestatic 285, 3), (39, .iload_n 3, 1), (40, .invokestatic 285, 3), (43, .if_icmp .ge 22, 3), (46, .aload_n 0, 1), (47, .getfield 10, 3), (50, .iload_n 1, 1), (51, .iload 4, 2), (53, .iconst (-1), 1), (54, .ixor, 1), (55, .iand, 1), (56, .invokevirtual 293, 3), (59, .ifCond .ne 6, 3), (62, .iload 4, 2), (64, .istore_n 3, 1), (65, .iinc 4 1, 3), (68, .goto (-40), 3), (71, .iload_n 3, 1), (72, .ireturn, 1)]
theorem dX6_stolen : dec_ok cX6_stolen tX6_stolen = true := by decide +kernel
noncomputable def tX6_spare : List (Nat × Instr × Nat) := [(0, .aload_n 0, 1), (1, .getfield 16, 3), (4, .aload_n 0, 1), (5, .getfield 10, 3), (8, .invokevirtual 191, 3), (11, .iconst (-1), 1), (12, .istore_n 1, 1), (13, .aload_n 0, 1), (14, .getfield 29, 3), (17, .aload_n 0, 1), (18, .getfield 16, 3), (21, .invokevirtual 244, 3), (24, .lstore_n 2, 1), (25, .iconst 0, 1), (26, .istore 4, 2), (28, .iload 4, 2), (30, .aload_n 0, 1), (31, .getfield 10, 3), (34, .getfield 138, 3), (37, .if_icmp .ge 126, 3), (40, .aload_n 0, 1), (41, .getfield 10, 3), (44, .getfield 173, 3), (47, .iload 4, 2), (49, .iaload, 1), (50, .iconst (-1), 1), (51, .if_icmp .ne 106, 3), (54, .iconst 0, 1), (55, .istore 5, 2), (57, .iload 5, 2), (59, .aload_n 0, 1), (60, .getfield 10, 3), (63, .getfield 154, 3), (66, .if_icmp .ge 80, 3), (69, .iload 5, 2), (71, .aload_n 0, 1), (72, .getfield 10, 3), (75, .getfield 176, 3), (78, .iload 4, 2), (80, .iaload, 1), (81, .if_icmp .eq 59, 3), (84, .aload_n 0, 1), (85, .getfield 10, 3), (88, .iload 5, 2), (90, .invokevirtual 179, 3), (93, .ifCond .eq 47, 3), (96, .aload_n 0, 1), (97, .getfield 16, 3), (100, .getfield 173, 3), (103, .iload 4, 2), (105, .iload 5, 2), (107, .iastore, 1), (108, .aload_n 0, 1), (109, .getfield 29, 3), (112, .aload_n 0, 1), (113, .getfield 16, 3), (116, .invokevirtual 299, 3), (119, .lstore 6, 2), (121, .lload 6, 2), (123, .lload_n 2, 1), (124, .lcmp, 1), (125, .ifCond .le 15, 3), (128, .lload 6, 2), (130, .lstore_n 2, 1), (131, .bipush 10, 2), (133, .iload 4, 2), (135, .imul, 1), (136, .iload 5, 2), (138, .iadd, 1), (139, .istore_n 1, 1), (140, .iinc 5 1, 3), (143, .goto (-86), 3), (146, .aload_n 0, 1), (147, .getfield 16, 3), (150, .getfield 173, 3), (153, .iload 4, 2), (155, .iconst (-1), 1), (156, .iastore, 1), (157, .iinc 4 1, 3), (160, .goto (-132), 3), (163, .iload_n 1, 1), (164, .ireturn, 1)]
theorem dX6_spare : dec_ok cX6_spare tX6_spare = true := by decide +kernel
noncomputable def tX6_gift : List (Nat × Instr × Nat) := [(0, .aload_n 0, 1), (1, .getfield 10, 3), (4, .iload_n 1, 1), (5, .invokevirtual 170, 3), (8, .ifCond .eq 14, 3), (11, .aload_n 0, 1), (12, .getfield 10, 3), (15, .iload_n 2, 1), (16, .invokevirtual 160, 3), (19, .ifCond .ne 14, 3), (22, .aload_n 0, 1), (23, .bipush (-2), 2), (25, .invokevirtual 76, 3), (28, .pop, 1), (29, .ldc2_w 302, 3), (32, .lreturn, 1), (33, .aload_n 0, 1), (34, .getfield 10, 3), (37, .getfield 176, 3), (40, .iload_n 1, 1), (41, .iaload, 1), (42, .iload_n 2, 1), (43, .if_icmp .eq 25, 3), (46, .aload_n 0, 1), (47, .getfield 10, 3), (50, .iload_n 2, 1), (51, .invokevirtual 179, 3), (54, .ifCond .ne 14, 3), (57, .aload_n 0, 1), (58, .bipush (-5), 2), (60, .invokevirtual 76, 3), (63, .pop, 1), (64, .ldc2_w 304, 3), (67, .lreturn, 1), (68, .aload_n 0, 1), (69, .getfield 16, 3), (72, .aload_n 0, 1), (73, .getfield 10, 3), (76, .invokevirtual 191, 3), (79, .aload_n 0, 1), (80, .getfield 16, 3), (83, .getfield 176, 3), (86, .iload_n 1, 1), (87, .iload_n 2, 1), (88, .iastore, 1), (89, .aload_n 0, 1), (90, .getfield 29, 3), (93, .aload_n 0, 1), (94, .getfield 16, 3), (97, .invokevirtual 244, 3), (100, .aload_n 0, 1), (101, .getfield 29, 3), (104, .aload_n 0, 1), (105, .getfield 10, 3), (108, .invokevirtual 244, 3), (111, .lsub, 1), (112, .lreturn, 1)]
theorem dX6_gift : dec_ok cX6_gift tX6_gift = true := by decide +kernel
noncomputable def tX6_never : List (Nat × Instr × Nat) := [(0, .aload_n 0, 1), (1, .getfield 10, 3), (4, .aload_n 0, 1), (5, .getfield 10, 3), (8, .invokevirtual 282, 3), (11, .invokevirtual 223, 3), (14, .istore_n 2, 1), (15, .iload_n 1, 1), (16, .ifCond .ne 15, 3), (19, .aload_n 0, 1), (20, .getfield 10, 3), (23, .invokevirtual 296, 3), (26, .iload_n 2, 1), (27, .iconst (-1), 1), (28, .ixor, 1), (29, .iand, 1), (30, .ireturn, 1), (31, .aload_n 0, 1), (32, .getfield 10, 3), (35, .invokevirtual 306, 3), (38, .aload_n 0, 1), (39, .getfield 10, 3), (42, .iload_n 2, 1), (43, .invokevirtual 309, 3), (46, .iconst (-1), 1), (47, .ixor, 1), (48, .iand, 1), (49, .ireturn, 1)]
theorem dX6_never : dec_ok cX6_never tX6_never = true := by decide +kernel
noncomputable def tX6_with : List (Nat × Instr × Nat) := [(0, .aload_n 0, 1), (1, .getfield 10, 3), (4, .iload_n 1, 1), (5, .invokevirtual 202, 3), (8, .ifCond .ne 10, 3), (11, .aload_n 0, 1), (12, .bipush (-2), 2), (14, .invokevirtual 76, 3), (17, .ireturn, 1), (18, .aload_n 0, 1), (19, .getfield 29, 3), (22, .aload_n 0, 1), (23, .getfield 10, 3), (26, .invokevirtual 248, 3), (29, .iconst (-1), 1), (30, .istore_n 2, 1), (31, .iconst 0, 1), (32, .istore_n 3, 1), (33, .iload_n 3, 1), (34, .aload_n 0, 1), (35, .getfield 10, 3), (38, .invokevirtual 282, 3), (41, .if_icmp .gt 58, 3), (44, .iload_n 2, 1), (45, .iconst (-1), 1), (46, .if_icmp .eq 14, 3), (49, .iload_n 3, 1), (50, .invokestatic 285, 3), (53, .iload_n 2, 1), (54, .invokestatic 285, 3), (57, .if_icmp .ge 7, 3), (60, .iconst 1, 1), (61, .goto 4, 3), (64, .iconst 0, 1), (65, .istore 4, 2), (67, .iload 4, 2), (69, .ifCond .eq 24, 3), (72, .aload_n 0, 1), (73, .getfield 10, 3), (76, .iload_n 1, 1), (77, .aload_n 0, 1), (78, .getfield 29, 3), (81, .iload_n 3, 1), (82, .invokevirtual 290, 3), (85, .invokevirtual 226, 3), (88, .ifCond .eq 5, 3), (91, .iload_n 3, 1), (92, .istore_n 2, 1), (93, .iinc 3 1, 3), (96, .goto (-63), 3), (99, .iload_n 2, 1), (100, .iconst (-1), 1), (101, .if_icmp .ne 12, 3), (104, .aload_n 0, 1), (105, .bipush (-5), 2), (107, .invokevirtual 76, 3), (110, .goto 4, 3), (113, .iload_n 2, 1), (114, .ireturn, 1)]
theorem dX6_with : dec_ok cX6_with tX6_with = true := by decide +kernel
noncomputable def tX6_safe : List (Nat × Instr × Nat) := [(0, .iload_n 1, 1), (1, .ifCond .lt 9, 3), (4, .iload_n 1, 1), (5, .bipush 8, 2), (7, .if_icmp .le 10, 3), (10, .aload_n 0, 1), (11, .bipush (-2), 2), (13, .invokevirtual 76, 3), (16, .ireturn, 1), (17, .aload_n 0, 1), (18, .getfield 29, 3), (21, .aload_n 0, 1), (22, .getfield 10, 3), (25, .invokevirtual 248, 3), (28, .iconst 0, 1), (29, .istore_n 2, 1), (30, .iconst 0, 1), (31, .istore_n 3, 1), (32, .iload_n 3, 1), (33, .aload_n 0, 1), (34, .getfield 10, 3), (37, .getfield 147, 3), (40, .if_icmp .ge 31, 3), (43, .aload_n 0, 1), (44, .getfield 29, 3), (47, .aload_n 0, 1), (48, .getfield 10, 3), (51, .iload_n 3, 1), (52, .invokevirtual 278, 3), (55, .iload_n 1, 1), (56, .if_icmp .lt 9, 3), (59, .iload_n 2, 1), (60, .iconst 1, 1), (61, .iload_n 3, 1), (62, .ishl, 1), (63, .ior, 1), (64, .istore_n 2, 1), (65, .iinc 3 1, 3), (68, .goto (-36), 3), (71, .iload_n 2, 1), (72, .ireturn, 1)]
theorem dX6_safe : dec_ok cX6_safe tX6_safe = true := by decide +kernel
noncomputable def tX6_alone : List (Nat × Instr × Nat) := [(0, .aload_n 0, 1), (1, .getfield 10, 3), (4, .iload_n 1, 1), (5, .invokevirtual 160, 3), (8, .ifCond .ne 10, 3), (11, .aload_n 0, 1), (12, .bipush (-2), 2), (14, .invokevirtual 76, 3), (17, .ireturn, 1), (18, .aload_n 0, 1), (19, .getfield 10, 3), (22, .aload_n 0, 1), (23, .getfield 10, 3), (26, .iload_n 1, 1), (27, .invokevirtual 312, 3), (30, .invokevirtual 309, 3), (33, .ireturn, 1)]
theorem dX6_alone : dec_ok cX6_alone tX6_alone = true := by decide +kernel
noncomputable def tX6_key : List (Nat × Instr × Nat) := [(0, .aload_n 0, 1), (1, .getfield 10, 3), (4, .getfield 154, 3), (7, .ifCond .ne 10, 3), (10, .aload_n 0, 1), (11, .bipush (-5), 2), (13, .invokevirtual 76, 3), (16, .ireturn, 1), (17, .iconst 0, 1), (18, .istore_n 1, 1), (19, .iconst (-1), 1), (20, .istore_n 2, 1), (21, .iconst 0, 1), (22, .istore_n 3, 1), (23, .iload_n 3, 1), (24, .aload_n 0, 1), (25, .getfield 10, 3), (28, .getfield 154, 3), (31, .if_icmp .ge 37, 3), (34, .aload_n 0, 1), (35, .getfield 10, 3), (38, .aload_n 0, 1), (39, .getfield 10, 3), (42, .iload_n 3, 1), (43, .invokevirtual 312, 3), (46, .invokevirtual 315, 3), (49, .istore 4, 2), (51, .iload 4, 2), (53, .iload_n 2, 1), (54, .if_icmp .le 8, 3), (57, .iload 4, 2), (59, .istore_n 2, 1), (60, .iload_n 3, 1), (61, .istore_n 1, 1), (62, .iinc 3 1, 3), (65, .goto (-42), 3), (68, .iload_n 1, 1), (69, .ireturn, 1)]
theorem dX6_key : dec_ok cX6_key tX6_key = true := by decide +kernel
noncomputable def tX6_idle : List (Nat × Instr × Nat) := [(0, .aload_n 0, 1), (1, .getfield 29, 3), (4, .aload_n 0, 1), (5, .getfield 10, 3), (8, .invokevirtual 248, 3), (11, .iconst 0, 1), (12, .istore_n 1, 1), (13, .iconst 0, 1), (14, .istore_n 2, 1), (15, .iload_n 2, 1), (16, .aload_n 0, 1), (17, .getfield 10, 3), (20, .getfield 154, 3), (23, .if_icmp .ge 32, 3), (26, .aload_n 0, 1), (27, .getfield 29, 3), (30, .aload_n 0, 1), (31, .getfield 10, 3), (34, .iload_n 2, 1), (35, .invokevirtual 257, 3), (38, .lconst 0, 1), (39, .lcmp, 1), (40, .ifCond .ne 9, 3), (43, .iload_n 1, 1), (44, .iconst 1, 1), (45, .iload_n 2, 1), (46, .ishl, 1), (47, .ior, 1), (48, .istore_n 1, 1), (49, .iinc 2 1, 3), (52, .goto (-37), 3), (55, .iload_n 1, 1), (56, .ireturn, 1)]
theorem dX6_idle : dec_ok cX6_idle tX6_idle = true := by decide +kernel
noncomputable def tX6_room : List (Nat × Instr × Nat) := [(0, .iconst 0, 1), (1, .istore_n 1, 1), (2, .iconst 0, 1), (3, .istore_n 2, 1), (4, .iload_n 2, 1), (5, .aload_n 0, 1), (6, .getfield 10, 3), (9, .getfield 154, 3), (12, .if_icmp .ge 30, 3), (15, .iload_n 1, 1), (16, .aload_n 0, 1), (17, .getfield 10, 3), (20, .getfield 211, 3), (23, .iload_n 2, 1), (24, .iaload, 1), (25, .aload_n 0, 1), (26, .getfield 10, 3), (29, .iload_n 2, 1), (30, .invokevirtual 214, 3), (33, .isub, 1), (34, .iadd, 1), (35, .istore_n 1, 1), (36, .iinc 2 1, 3), (39, .goto (-35), 3), (42, .iload_n 1, 1), (43, .ireturn, 1)]
theorem dX6_room : dec_ok cX6_room tX6_room = true := by decide +kernel
noncomputable def tX6_swap : List (Nat × Instr × Nat) := [(0, .aload_n 0, 1), (1, .getfield 10, 3), (4, .iload_n 1, 1), (5, .invokevirtual 170, 3), (8, .ifCond .eq 14, 3), (11, .aload_n 0, 1), (12, .getfield 10, 3), (15, .iload_n 2, 1), (16, .invokevirtual 170, 3), (19, .ifCond .ne 10, 3), (22, .aload_n 0, 1), (23, .bipush (-2), 2), (25, .invokevirtual 76, 3), (28, .ireturn, 1), (29, .aload_n 0, 1), (30, .getfield 10, 3), (33, .getfield 176, 3), (36, .iload_n 1, 1), (37, .iaload, 1), (38, .istore_n 3, 1), (39, .iload_n 3, 1), (40, .aload_n 0, 1), (41, .getfield 10, 3), (44, .getfield 176, 3), (47, .iload_n 2, 1), (48, .iaload, 1), (49, .if_icmp .ne 5, 3), (52, .iconst 0, 1), (53, .ireturn, 1), (54, .aload_n 0, 1), (55, .getfield 10, 3), (58, .getfield 176, 3), (61, .iload_n 1, 1), (62, .aload_n 0, 1), (63, .getfield 10, 3), (66, .getfield 176, 3), (69, .iload_n 2, 1), (70, .iaload, 1), (71, .iastore, 1), (72, .aload_n 0, 1), (73, .getfield 10, 3), (76, .getfield 176, 3), (79, .iload_n 2, 1), (80, .iload_n 3, 1), (81, .iastore, 1), (82, .iconst 1, 1), (83, .ireturn, 1)]
theorem dX6_swap : dec_ok cX6_swap tX6_swap = true := by decide +kernel
noncomputable def tX6_trust : List (Nat × Instr × Nat) := [(0, .aload_n 0, 1), (1, .getfield 10, 3), (4, .iload_n 1, 1), (5, .invokevirtual 160, 3), (8, .ifCond .eq 19, 3), (11, .aload_n 0, 1), (12, .getfield 10, 3), (15, .iload_n 2, 1), (16, .invokevirtual 160, 3), (19, .ifCond .eq 8, 3), (22, .iload_n 1, 1), (23, .iload_n 2, 1), (24, .if_icmp .ne 14, 3), (27, .aload_n 0, 1), (28, .bipush (-2), 2), (30, .invokevirtual 76, 3), (33, .pop, 1), (34, .ldc2_w 302, 3), (37, .lreturn, 1), (38, .aload_n 0, 1), (39, .getfield 16, 3), (42, .aload_n 0, 1), (43, .getfield 10, 3), (46, .invokevirtual 191, 3), (49, .aload_n 0, 1), (50, .getfield 16, 3), (53, .iload_n 1, 1), (54, .iload_n 2, 1), (55, .invokevirtual 318, 3), (58, .aload_n 0, 1), (59, .getfield 29, 3), (62, .aload_n 0, 1), (63, .getfield 16, 3), (66, .invokevirtual 244, 3), (69, .aload_n 0, 1), (70, .getfield 29, 3), (73, .aload_n 0, 1), (74, .getfield 10, 3), (77, .invokevirtual 244, 3), (80, .lsub, 1), (81, .lreturn, 1)]
theorem dX6_trust : dec_ok cX6_trust tX6_trust = true := by decide +kernel
noncomputable def tX6_judge : List (Nat × Instr × Nat) := [(0, .aload_n 0, 1), (1, .getfield 10, 3), (4, .iload_n 1, 1), (5, .invokevirtual 202, 3), (8, .ifCond .ne 10, 3), (11, .aload_n 0, 1), (12, .bipush (-2), 2), (14, .invokevirtual 76, 3), (17, .ireturn, 1), (18, .aload_n 0, 1), (19, .iload_n 2, 1), (20, .iload_n 3, 1), (21, .invokevirtual 322, 3), (24, .istore 4, 2), (26, .iload 4, 2), (28, .ifCond .eq 10, 3), (31, .aload_n 0, 1), (32, .iload 4, 2), (34, .invokevirtual 76, 3), (37, .ireturn, 1), (38, .iconst 0, 1), (39, .istore 5, 2), (41, .iload 5, 2), (43, .iload_n 3, 1), (44, .if_icmp .ge 30, 3), (47, .aload_n 0, 1), (48, .getfield 10, 3), (51, .iload_n 1, 1), (52, .aload_n 0, 1), (53, .iload_n 2, 1), (54, .iload 5, 2), (56, .invokevirtual 325, 3), (59, .invokevirtual 226, 3), (62, .ifCond .ne 6, 3), (65, .iload 5, 2), (67, .ireturn, 1), (68, .iinc 5 1, 3), (71, .goto (-30), 3), (74, .iconst (-1), 1), (75, .ireturn, 1)]
theorem dX6_judge : dec_ok cX6_judge tX6_judge = true := by decide +kernel
noncomputable def tX6_told : List (Nat × Instr × Nat) := [(0, .aload_n 0, 1), (1, .iload_n 1, 1), (2, .iload_n 2, 1), (3, .invokevirtual 322, 3), (6, .istore_n 3, 1), (7, .iload_n 3, 1), (8, .ifCond .eq 9, 3), (11, .aload_n 0, 1), (12, .iload_n 3, 1), (13, .invokevirtual 76, 3), (16, .ireturn, 1), (17, .iconst 0, 1), (18, .istore 4, 2), (20, .iconst 0, 1), (21, .istore 5, 2), (23, .iload 5, 2), (25, .iload_n 2, 1), (26, .if_icmp .ge 28, 3), (29, .iload 4, 2), (31, .aload_n 0, 1), (32, .getfield 10, 3), (35, .aload_n 0, 1), (36, .iload_n 1, 1), (37, .iload 5, 2), (39, .invokevirtual 325, 3), (42, .invokevirtual 328, 3), (45, .iadd, 1), (46, .istore 4, 2), (48, .iinc 5 1, 3), (51, .goto (-28), 3), (54, .iload 4, 2), (56, .ireturn, 1)]
theorem dX6_told : dec_ok cX6_told tX6_told = true := by decide +kernel
noncomputable def tX6_days : List (Nat × Instr × Nat) := [(0, .iload_n 1, 1), (1, .iconst 1, 1), (2, .if_icmp .lt 9, 3), (5, .iload_n 1, 1), (6, .bipush 60, 2), (8, .if_icmp .le 10, 3), (11, .aload_n 0, 1), (12, .bipush (-2), 2), (14, .invokevirtual 76, 3), (17, .ireturn, 1), (18, .iconst 0, 1), (19, .istore_n 2, 1), (20, .iconst 0, 1), (21, .istore_n 3, 1), (22, .iload_n 3, 1), (23, .iload_n 1, 1), (24, .if_icmp .ge 19, 3), (27, .iload_n 2, 1), (28, .aload_n 0, 1), (29, .getfield 10, 3), (32, .invokevirtual 331, 3), (35, .iadd, 1), (36, .istore_n 2, 1), (37, .iinc 3 1, 3), (40, .goto (-18), 3), (43, .aload_n 0, 1), (44, .dup, 1), (45, .getfield 65, 3), (48, .iload_n 1, 1), (49, .iadd, 1), (50, .putfield 65, 3), (53, .aload_n 0, 1), (54, .dup, 1), (55, .getfield 69, 3), (58, .iload_n 2, 1), (59, .iadd, 1), (60, .putfield 69, 3), (63, .iload_n 2, 1), (64, .ireturn, 1)]
theorem dX6_days : dec_ok cX6_days tX6_days = true := by decide +kernel
noncomputable def tX6_seed : List (Nat × Instr × Nat) := [(0, .aload_n 0, 1), (1, .getfield 10, 3), (4, .getfield 334, 3), (7, .istore_n 2, 1), (8, .aload_n 0, 1), (9, .getfield 10, 3), (12, .iload_n 1, 1), (13, .putfield 334, 3), (16, .iload_n 2, 1), (17, .ireturn, 1)]
theorem dX6_seed : dec_ok cX6_seed tX6_seed = true := by decide +kernel
noncomputable def tX6_image : List (Nat × Instr × Nat) := [(0, .aload_n 0, 1), (1, .getfield 19, 3), (4, .aload_n 0, 1), (5, .getfield 10, 3), (8, .invokevirtual 191, 3), (11, .aload_n 0, 1), (12, .iconst 1, 1), (13, .putfield 22, 3), (16, .iconst 1, 1), (17, .ireturn, 1)]
theorem dX6_image : dec_ok cX6_image tX6_image = true := by decide +kernel
noncomputable def tX6_back : List (Nat × Instr × Nat) := [(0, .aload_n 0, 1), (1, .getfield 22, 3), (4, .ifCond .ne 10, 3), (7, .aload_n 0, 1), (8, .bipush (-5), 2), (10, .invokevirtual 76, 3), (13, .ireturn, 1), (14, .aload_n 0, 1), (15, .getfield 10, 3), (18, .aload_n 0, 1), (19, .getfield 19, 3), (22, .invokevirtual 191, 3), (25, .iconst 1, 1), (26, .ireturn, 1)]
theorem dX6_back : dec_ok cX6_back tX6_back = true := by decide +kernel
noncomputable def tX6_status : List (Nat × Instr × Nat) := [(0, .iload_n 1, 1), (1, .tableswitch 140 0 9 #[55, 63, 71, 79, 90, 106, 111, 116, 124, 132], 55), (56, .aload_n 0, 1), (57, .getfield 10, 3), (60, .getfield 138, 3), (63, .ireturn, 1), (64, .aload_n 0, 1), (65, .getfield 10, 3), (68, .getfield 147, 3), (71, .ireturn, 1), (72, .aload_n 0, 1), (73, .getfield 10, 3), (76, .getfield 154, 3), (79, .ireturn, 1), (80, .aload_n 0, 1), (81, .getfield 10, 3), (84, .invokevirtual 337, 3), (87, .invokestatic 285, 3), (90, .ireturn, 1), (91, .aload_n 0, 1), (92, .getfield 10, 3), (95, .invokevirtual 135, 3), (98, .aload_n 0, 1), (99, .getfield 10, 3), (102, .invokevirtual 131, 3), (105, .iadd, 1), (106, .ireturn, 1), (107, .aload_n 0, 1), (108, .getfield 65, 3), (111, .ireturn, 1), (112, .aload_n 0, 1), (113, .getfield 69, 3), (116, .ireturn, 1), (117, .aload_n 0, 1), (118, .getfield 50, 3), (121, .invokevirtual 182, 3), (124, .ireturn, 1), (125, .aload_n 0, 1), (126, .getfield 10, 3), (129, .getfield 334, 3), (132, .ireturn, 1), (133, .aload_n 0, 1), (134, .getfield 57, 3), (137, .invokevirtual 340, 3), (140, .ireturn, 1), (141, .iload_n 1, 1), (142, .bipush 12, 2), (144, .if_icmp .lt 21, 3), (147, .iload_n 1, 1), (148, .bipush 16, 2), (150, .if_icmp .gt 15, 3), (153, .aload_n 0, 1), (154, .getfield 61, 3), (157, .iload_n 1, 1), (158, .bipush 12, 2), (160, .isub, 1), (161, .iaload, 1), (162, .goto 4, 3), (165, .iconst (-1), 1), (166, .ireturn, 1)]
theorem dX6_status : dec_ok cX6_status tX6_status = true := by decide +kernel
noncomputable def tX6_refuse : List (Nat × Instr × Nat) := [(0, .bipush (-2), 2), (2, .iload_n 1, 1), (3, .isub, 1), (4, .istore_n 2, 1), (5, .iload_n 2, 1), (6, .ifCond .lt 22, 3), (9, .iload_n 2, 1), (10, .aload_n 0, 1), (11, .getfield 61, 3), (14, .arraylength, 1), (15, .if_icmp .ge 13, 3), (18, .aload_n 0, 1), (19, .getfield 61, 3), (22, .iload_n 2, 1), (23, .dup2, 1), (24, .iaload, 1), (25, .iconst 1, 1), (26, .iadd, 1), (27, .iastore, 1), (28, .iload_n 1, 1), (29, .ireturn, 1)]
theorem dX6_refuse : dec_ok cX6_refuse tX6_refuse = true := by decide +kernel
noncomputable def tX6_isUnder : List (Nat × Instr × Nat) := [(0, .iload_n 0, 1), (1, .iload_n 1, 1), (2, .if_icmp .eq 7, 3), (5, .iload_n 1, 1), (6, .ifCond .ne 5, 3), (9, .iconst 1, 1), (10, .ireturn, 1), (11, .iload_n 1, 1), (12, .iconst 1, 1), (13, .if_icmp .ne 14, 3), (16, .iload_n 0, 1), (17, .iconst 5, 1), (18, .if_icmp .ne 7, 3), (21, .iconst 1, 1), (22, .goto 4, 3), (25, .iconst 0, 1), (26, .ireturn, 1), (27, .iload_n 1, 1), (28, .iconst 2, 1), (29, .if_icmp .ne 17, 3), (32, .iload_n 0, 1), (33, .iconst 3, 1), (34, .if_icmp .eq 8, 3), (37, .iload_n 0, 1), (38, .iconst 4, 1), (39, .if_icmp .ne 7, 3), (42, .iconst 1, 1), (43, .goto 4, 3), (46, .iconst 0, 1), (47, .ireturn, 1)]
theorem dX6_isUnder : dec_ok cX6_isUnder tX6_isUnder = true := by decide +kernel
noncomputable def tX6_tryHolding : List (Nat × Instr × Nat) := [(0, .aload_n 0, 1), (1, .getfield 16, 3), (4, .aload_n 0, 1), (5, .getfield 10, 3), (8, .invokevirtual 191, 3), (11, .aload_n 0, 1), (12, .getfield 36, 3), (15, .aload_n 0, 1), (16, .getfield 16, 3), (19, .aload_n 0, 1), (20, .getfield 57, 3), (23, .iload_n 1, 1), (24, .invokevirtual 117, 3), (27, .aload_n 0, 1), (28, .getfield 57, 3), (31, .iload_n 1, 1), (32, .invokevirtual 124, 3), (35, .invokevirtual 260, 3), (38, .return_, 1)]
theorem dX6_tryHolding : dec_ok cX6_tryHolding tX6_tryHolding = true := by decide +kernel
noncomputable def tX6_isTooBigForBest : List (Nat × Instr × Nat) := [(0, .aload_n 0, 1), (1, .getfield 10, 3), (4, .getfield 154, 3), (7, .iconst 4, 1), (8, .if_icmp .gt 15, 3), (11, .aload_n 0, 1), (12, .getfield 10, 3), (15, .getfield 138, 3), (18, .bipush 6, 2), (20, .if_icmp .le 7, 3), (23, .iconst 1, 1), (24, .goto 4, 3), (27, .iconst 0, 1), (28, .ireturn, 1)]
theorem dX6_isTooBigForBest : dec_ok cX6_isTooBigForBest tX6_isTooBigForBest = true := by decide +kernel
noncomputable def tX6_toldFault : List (Nat × Instr × Nat) := [(0, .aload_n 0, 1), (1, .getfield 57, 3), (4, .iload_n 1, 1), (5, .invokevirtual 72, 3), (8, .ifCond .eq 13, 3), (11, .iload_n 2, 1), (12, .ifCond .lt 9, 3), (15, .iload_n 2, 1), (16, .bipush 20, 2), (18, .if_icmp .le 6, 3), (21, .bipush (-2), 2), (23, .ireturn, 1), (24, .aload_n 0, 1), (25, .getfield 57, 3), (28, .iload_n 1, 1), (29, .invokevirtual 84, 3), (32, .istore_n 3, 1), (33, .iload_n 3, 1), (34, .ifCond .eq 5, 3), (37, .iload_n 3, 1), (38, .ireturn, 1), (39, .aload_n 0, 1), (40, .getfield 57, 3), (43, .iload_n 1, 1), (44, .invokevirtual 87, 3), (47, .iload_n 2, 1), (48, .if_icmp .ge 8, 3), (51, .bipush (-2), 2), (53, .goto 4, 3), (56, .iconst 0, 1), (57, .ireturn, 1)]
theorem dX6_toldFault : dec_ok cX6_toldFault tX6_toldFault = true := by decide +kernel
noncomputable def tX6_partsOnToldDay : List (Nat × Instr × Nat) := [(0, .aload_n 0, 1), (1, .getfield 57, 3), (4, .iload_n 1, 1), (5, .iload_n 2, 1), (6, .invokevirtual 107, 3), (9, .l2i, 1), (10, .istore_n 3, 1), (11, .aload_n 0, 1), (12, .getfield 10, 3), (15, .iload_n 3, 1), (16, .aload_n 0, 1), (17, .getfield 10, 3), (20, .invokevirtual 282, 3), (23, .iand, 1), (24, .aload_n 0, 1), (25, .getfield 10, 3), (28, .invokevirtual 337, 3), (31, .iconst (-1), 1), (32, .ixor, 1), (33, .iand, 1), (34, .invokevirtual 223, 3), (37, .ireturn, 1)]
theorem dX6_partsOnToldDay : dec_ok cX6_partsOnToldDay tX6_partsOnToldDay = true := by decide +kernel
noncomputable def tX7_init : List (Nat × Instr × Nat) := [(0, .aload_n 0, 1), (1, .invokespecial 1, 3), (4, .aload_n 0, 1), (5, .bipush 8, 2), (7, .newarray .int, 2), (9, .putfield 7, 3), (12, .aload_n 0, 1), (13, .bipush 8, 2), (15, .newarray .int, 2), (17, .putfield 13, 3), (20, .aload_n 0, 1), (21, .bipush 8, 2), (23, .newarray .int, 2), (25, .putfield 16, 3), (28, .aload_n 0, 1), (29, .bipush 8, 2), (31, .bipush 40, 2), (33, .multianewarray 19 2, 4), (37, .putfield 21, 3), (40, .aload_n 0, 1), (41, .bipush 40, 2), (43, .newarray .long, 2), (45, .putfield 24, 3), (48, .aload_n 0, 1), (49, .bipush 8, 2), (51, .newarray .int, 2), (53, .putfield 28, 3), (56, .aload_n 0, 1), (57, .bipush 8, 2), (59, .newarray .int, 2), (61, .putfield 31, 3), (64, .aload_n 0, 1), (65, .sipush 250, 3), (68, .newarray .int, 2), (70, .putfield 34, 3), (73, .aload_n 0, 1), (74, .bipush 8, 2), (76, .newarray .int, 2), (78, .putfield 37, 3), (81, .aload_n 0, 1), (82, .bipush 12, 2), (84, .newarray .int, 2), (86, .putfield 40, 3), (89, .aload_n 0, 1), (90, .bipush 12, 2), (92, .newarray .int, 2), (94, .putfield 43, 3), (97, .aload_n 0, 1), (98, .bipush 6, 2), (100, .newarray .int, 2), (102, .putfield 46, 3), (105, .aload_n 0, 1), (106, .bipush 6, 2), (108, .newarray .int, 2), (110, .putfield 49, 3), (113, .aload_n 0, 1), (114, .bipush 8, 2), (116, .iconst 4, 1), (117, .multianewarray 52 2, 4), (121, .putfield 54, 3), (124, .aload_n 0, 1), (125, .iconst 1, 1), (126, .putfield 57, 3), (129, .aload_n 0, 1), (130, .bipush 12, 2), (132, .newarray .int, 2), (134, .putfield 61, 3), (137, .return_, 1)]
theorem dX7_init : dec_ok cX7_init tX7_init = true := by decide +kernel
noncomputable def tX7_refuse : List (Nat × Instr × Nat) := [(0, .aload_n 0, 1), (1, .getfield 37, 3), (4, .iload_n 1, 1), (5, .ineg, 1), (6, .dup2, 1), (7, .iaload, 1), (8, .iconst 1, 1), (9, .iadd, 1), (10, .iastore, 1), (11, .iload_n 1, 1), (12, .ireturn, 1)]
theorem dX7_refuse : dec_ok cX7_refuse tX7_refuse = true := by decide +kernel
noncomputable def tX7_in : List (Nat × Instr × Nat) := [(0, .lload_n 0, 1), (1, .lload_n 2, 1), (2, .lcmp, 1), (3, .ifCond .lt 14, 3), (6, .lload_n 0, 1), (7, .lload 4, 2), (9, .lcmp, 1), (10, .ifCond .gt 7, 3), (13, .iconst 1, 1), (14, .goto 4, 3), (17, .iconst 0, 1), (18, .ireturn, 1)]
theorem dX7_in : dec_ok cX7_in tX7_in = true := by decide +kernel
noncomputable def tX7_isPart : List (Nat × Instr × Nat) := [(0, .iload_n 1, 1), (1, .i2l, 1), (2, .lconst 0, 1), (3, .aload_n 0, 1), (4, .getfield 64, 3), (7, .iconst 1, 1), (8, .isub, 1), (9, .i2l, 1), (10, .invokestatic 67, 3), (13, .ireturn, 1)]
theorem dX7_isPart : dec_ok cX7_isPart tX7_isPart = true := by decide +kernel
noncomputable def tX7_isMachine : List (Nat × Instr × Nat) := [(0, .iload_n 1, 1), (1, .i2l, 1), (2, .lconst 0, 1), (3, .aload_n 0, 1), (4, .getfield 71, 3), (7, .iconst 1, 1), (8, .isub, 1), (9, .i2l, 1), (10, .invokestatic 67, 3), (13, .ireturn, 1)]
theorem dX7_isMachine : dec_ok cX7_isMachine tX7_isMachine = true := by decide +kernel
noncomputable def tX7_isOne : List (Nat × Instr × Nat) := [(0, .iload_n 1, 1), (1, .i2l, 1), (2, .lconst 0, 1), (3, .aload_n 0, 1), (4, .getfield 74, 3), (7, .iconst 1, 1), (8, .isub, 1), (9, .i2l, 1), (10, .invokestatic 67, 3), (13, .ireturn, 1)]
theorem dX7_isOne : dec_ok cX7_isOne tX7_isOne = true := by decide +kernel
noncomputable def tX7_all : List (Nat × Instr × Nat) := [(0, .iconst 1, 1), (1, .aload_n 0, 1), (2, .getfield 74, 3), (5, .ishl, 1), (6, .iconst 1, 1), (7, .isub, 1), (8, .ireturn, 1)]
theorem dX7_all : dec_ok cX7_all tX7_all = true := by decide +kernel
noncomputable def tX7_bits : List (Nat × Instr × Nat) := [(0, .iconst 0, 1), (1, .istore_n 1, 1), (2, .iconst 0, 1), (3, .istore_n 2, 1), (4, .iload_n 2, 1), (5, .bipush 12, 2), (7, .if_icmp .ge 17, 3), (10, .iload_n 1, 1), (11, .iload_n 0, 1), (12, .iload_n 2, 1), (13, .ishr, 1), (14, .iconst 1, 1), (15, .iand, 1), (16, .iadd, 1), (17, .istore_n 1, 1), (18, .iinc 2 1, 3), (21, .goto (-17), 3), (24, .iload_n 1, 1), (25, .ireturn, 1)]
theorem dX7_bits : dec_ok cX7_bits tX7_bits = true := by decide +kernel
noncomputable def tX7_isIn : List (Nat × Instr × Nat) := [(0, .iload_n 1, 1), (1, .iconst (-1), 1), (2, .if_icmp .eq 15, 3), (5, .iload_n 0, 1), (6, .iload_n 1, 1), (7, .ishr, 1), (8, .iconst 1, 1), (9, .iand, 1), (10, .ifCond .eq 7, 3), (13, .iconst 1, 1), (14, .goto 4, 3), (17, .iconst 0, 1), (18, .ireturn, 1)]
theorem dX7_isIn : dec_ok cX7_isIn tX7_isIn = true := by decide +kernel
noncomputable def tX7_row : List (Nat × Instr × Nat) := [(0, .iload_n 1, 1), (1, .i2l, 1), (2, .lconst 0, 1), (3, .ldc2_w 77, 3), (6, .invokestatic 67, 3), (9, .ifCond .eq 27, 3), (12, .iload_n 2, 1), (13, .i2l, 1), (14, .lconst 0, 1), (15, .ldc2_w 79, 3), (18, .invokestatic 67, 3), (21, .ifCond .eq 15, 3), (24, .iload_n 3, 1), (25, .i2l, 1), (26, .lconst 0, 1), (27, .ldc2_w 81, 3), (30, .invokestatic 67, 3), (33, .ifCond .ne 10, 3), (36, .aload_n 0, 1), (37, .bipush (-2), 2), (39, .invokevirtual 83, 3), (42, .ireturn, 1), (43, .aload_n 0, 1), (44, .getfield 7, 3), (47, .iload_n 1, 1), (48, .iconst 1, 1), (49, .iastore, 1), (50, .aload_n 0, 1), (51, .getfield 13, 3), (54, .iload_n 1, 1), (55, .iload_n 2, 1), (56, .iastore, 1), (57, .aload_n 0, 1), (58, .getfield 16, 3), (61, .iload_n 1, 1), (62, .iload_n 3, 1), (63, .iastore, 1), (64, .iconst 0, 1), (65, .istore 4, 2), (67, .iload 4, 2), (69, .bipush 40, 2), (71, .if_icmp .ge 19, 3), (74, .aload_n 0, 1), (75, .getfield 21, 3), (78, .iload_n 1, 1), (79, .aaload, 1), (80, .iload 4, 2), (82, .lconst 0, 1), (83, .lastore, 1), (84, .iinc 4 1, 3), (87, .goto (-20), 3), (90, .iconst 1, 1), (91, .ireturn, 1)]
theorem dX7_row : dec_ok cX7_row tX7_row = true := by decide +kernel
noncomputable def tX7_fit : List (Nat × Instr × Nat) := [(0, .iload_n 0, 1), (1, .tableswitch 47 0 3 #[31, 36, 41, 45], 31), (32, .lload_n 1, 1), (33, .l2i, 1), (34, .i2b, 1), (35, .i2l, 1), (36, .lreturn, 1), (37, .lload_n 1, 1), (38, .l2i, 1), (39, .i2s, 1), (40, .i2l, 1), (41, .lreturn, 1), (42, .lload_n 1, 1), (43, .l2i, 1), (44, .i2l, 1), (45, .lreturn, 1), (46, .lload_n 1, 1), (47, .lreturn, 1), (48, .lload_n 1, 1), (49, .lconst 0, 1), (50, .lcmp, 1), (51, .ifCond .eq 7, 3), (54, .lconst 1, 1), (55, .goto 4, 3), (58, .lconst 0, 1), (59, .lreturn, 1)]
theorem dX7_fit : dec_ok cX7_fit tX7_fit = true := by decide +kernel
noncomputable def tX7_noRow : List (Nat × Instr × Nat) := [(0, .iload_n 1, 1), (1, .i2l, 1), (2, .lconst 0, 1), (3, .ldc2_w 77, 3), (6, .invokestatic 67, 3), (9, .ifCond .ne 10, 3), (12, .aload_n 0, 1), (13, .bipush (-2), 2), (15, .invokevirtual 83, 3), (18, .ireturn, 1), (19, .aload_n 0, 1), (20, .getfield 7, 3), (23, .iload_n 1, 1), (24, .iaload, 1), (25, .iconst 2, 1), (26, .if_icmp .ne 10, 3), (29, .aload_n 0, 1), (30, .bipush (-3), 2), (32, .invokevirtual 83, 3), (35, .ireturn, 1), (36, .aload_n 0, 1), (37, .getfield 7, 3), (40, .iload_n 1, 1), (41, .iaload, 1), (42, .ifCond .ne 12, 3), (45, .aload_n 0, 1), (46, .bipush (-4), 2), (48, .invokevirtual 83, 3), (51, .goto 4, 3), (54, .iconst 0, 1), (55, .ireturn, 1)]
theorem dX7_noRow : dec_ok cX7_noRow tX7_noRow = true := by decide +kernel
noncomputable def tX7_noHolding : List (Nat × Instr × Nat) := [(0, .iload_n 1, 1), (1, .i2l, 1), (2, .lconst 0, 1), (3, .ldc2_w 77, 3), (6, .invokestatic 67, 3), (9, .ifCond .ne 10, 3), (12, .aload_n 0, 1), (13, .bipush (-2), 2), (15, .invokevirtual 83, 3), (18, .ireturn, 1), (19, .aload_n 0, 1), (20, .getfield 7, 3), (23, .iload_n 1, 1), (24, .iaload, 1), (25, .iconst 1, 1), (26, .if_icmp .ne 10, 3), (29, .aload_n 0, 1), (30, .bipush (-3), 2), (32, .invokevirtual 83, 3), (35, .ireturn, 1), (36, .aload_n 0, 1), (37, .getfield 7, 3), (40, .iload_n 1, 1), (41, .iaload, 1), (42, .ifCond .ne 12, 3), (45, .aload_n 0, 1), (46, .bipush (-4), 2), (48, .invokevirtual 83, 3), (51, .goto 4, 3), (54, .iconst 0, 1), (55, .ireturn, 1)]
theorem dX7_noHolding : dec_ok cX7_noHolding tX7_noHolding = true := by decide +kernel
noncomputable def tX7_set : List (Nat × Instr × Nat) := [(0, .aload_n 0, 1), (1, .iload_n 1, 1), (2, .invokevirtual 87, 3), (5, .istore 5, 2), (7, .iload 5, 2), (9, .ifCond .eq 6, 3), (12, .iload 5, 2), (14, .ireturn, 1), (15, .iload_n 2, 1), (16, .i2l, 1), (17, .lconst 0, 1), (18, .aload_n 0, 1), (19, .getfield 16, 3), (22, .iload_n 1, 1), (23, .iaload, 1), (24, .iconst 1, 1), (25, .isub, 1), (26, .i2l, 1), (27, .invokestatic 67, 3), (30, .ifCond .ne 10, 3), (33, .aload_n 0, 1), (34, .bipush (-2), 2), (36, .invokevirtual 83, 3), (39, .ireturn, 1), (40, .aload_n 0, 1), (41, .getfield 21, 3), (44, .iload_n 1, 1), (45, .aaload, 1), (46, .iload_n 2, 1), (47, .aload_n 0, 1), (48, .getfield 13, 3), (51, .iload_n 1, 1), (52, .iaload, 1), (53, .lload_n 3, 1), (54, .invokestatic 90, 3), (57, .lastore, 1), (58, .iconst 1, 1), (59, .ireturn, 1)]
theorem dX7_set : dec_ok cX7_set tX7_set = true := by decide +kernel
noncomputable def tX7_copy : List (Nat × Instr × Nat) := [(0, .iload_n 1, 1), (1, .i2l, 1), (2, .lconst 0, 1), (3, .ldc2_w 77, 3), (6, .invokestatic 67, 3), (9, .ifCond .eq 15, 3), (12, .iload_n 2, 1), (13, .i2l, 1), (14, .lconst 0, 1), (15, .ldc2_w 77, 3), (18, .invokestatic 67, 3), (21, .ifCond .ne 10, 3), (24, .aload_n 0, 1), (25, .bipush (-2), 2), (27, .invokevirtual 83, 3), (30, .ireturn, 1), (31, .aload_n 0, 1), (32, .getfield 7, 3), (35, .iload_n 1, 1), (36, .iaload, 1), (37, .iconst 2, 1), (38, .if_icmp .eq 48, 3), (41, .aload_n 0, 1), (42, .getfield 7, 3), (45, .iload_n 2, 1), (46, .iaload, 1), (47, .iconst 2, 1), (48, .if_icmp .eq 38, 3), (51, .aload_n 0, 1), (52, .getfield 7, 3), (55, .iload_n 1, 1), (56, .iaload, 1), (57, .iconst 1, 1), (58, .if_icmp .ne 35, 3), (61, .aload_n 0, 1), (62, .getfield 7, 3), (65, .iload_n 2, 1), (66, .iaload, 1), (67, .iconst 1, 1), (68, .if_icmp .ne 25, 3), (71, .aload_n 0, 1), (72, .getfield 13, 3), (75, .iload_n 1, 1), (76, .iaload, 1), (77, .aload_n 0, 1), (78, .getfield 13, 3), (81, .iload_n 2, 1), (82, .iaload, 1), (83, .if_icmp .eq 10, 3), (86, .aload_n 0, 1), (87, .bipush (-3), 2), (89, .invokevirtual 83, 3), (92, .ireturn, 1), (93, .aload_n 0, 1), (94, .getfield 7, 3), (97, .iload_n 1, 1), (98, .iaload, 1), (99, .ifCond .eq 12, 3), (102, .aload_n 0, 1), (103, .getfield 7, 3), (106, .iload_n 2, 1), (107, .iaload, 1), (108, .ifCond .ne 10, 3), (111, .aload_n 0, 1), (112, .bipush (-4), 2), (114, .invokevirtual 83, 3), (117, .ireturn, 1), (118, .iload 5, 2), (120, .ifCond .lt 61, 3), (123, .iload_n 3, 1), (124, .ifCond .lt 57, 3), (127, .iload 4, 2), (129, .ifCond .lt 52, 3), (132, .iload 5, 2), (134, .aload_n 0, 1), (135, .getfield 16, 3), (138, .iload_n 1, 1), (139, .iaload, 1), (140, .if_icmp .gt 41, 3), (143, .iload 5, 2), (145, .aload_n 0, 1), (146, .getfield 16, 3), (149, .iload_n 2, 1), (150, .iaload, 1), (151, .if_icmp .gt 30, 3), (154, .iload_n 3, 1), (155, .aload_n 0, 1), (156, .getfield 16, 3), (159, .iload_n 1, 1), (160, .iaload, 1), (161, .iload 5, 2), (163, .isub, 1), (164, .if_icmp .gt 17, 3), (167, .iload 4, 2), (169, .aload_n 0, 1), (170, .getfield 16, 3), (173, .iload_n 2, 1), (174, .iaload, 1), (175, .iload 5, 2), (177, .isub, 1), (178, .if_icmp .le 10, 3), (181, .aload_n 0, 1), (182, .bipush (-2), 2), (184, .invokevirtual 83, 3), (187, .ireturn, 1), (188, .iconst 0, 1), (189, .istore 6, 2), (191, .iload 6, 2), (193, .iload 5, 2), (195, .if_icmp .ge 27, 3), (198, .aload_n 0, 1), (199, .getfield 24, 3), (202, .iload 6, 2), (204, .aload_n 0, 1), (205, .getfield 21, 3), (208, .iload_n 1, 1), (209, .aaload, 1), (210, .iload_n 3, 1), (211, .iload 6, 2), (213, .iadd, 1), (214, .laload, 1), (215, .lastore, 1), (216, .iinc 6 1, 3), (219, .goto (-28), 3), (222, .iconst 0, 1), (223, .istore 6, 2), (225, .iload 6, 2), (227, .iload 5, 2), (229, .if_icmp .ge 28, 3), (232, .aload_n 0, 1), (233, .getfield 21, 3), (236, .iload_n 2, 1), (237, .aaload, 1), (238, .iload 4, 2), (240, .iload 6, 2), (242, .iadd, 1), (243, .aload_n 0, 1), (244, .getfield 24, 3), (247, .iload 6, 2), (249, .laload, 1), (250, .lastore, 1), (251, .iinc 6 1, 3), (254, .goto (-29), 3), (257, .iload 5, 2), (259, .ireturn, 1)]
theorem dX7_copy : dec_ok cX7_copy tX7_copy = true := by decide +kernel
noncomputable def tX7_element : List (Nat × Instr × Nat) := [(0, .iload_n 1, 1), (1, .i2l, 1), (2, .lconst 0, 1), (3, .ldc2_w 77, 3), (6, .invokestatic 67, 3), (9, .ifCond .eq 42, 3), (12, .aload_n 0, 1), (13, .getfield 7, 3), (16, .iload_n 1, 1), (17, .iaload, 1), (18, .iconst 1, 1), (19, .if_icmp .ne 32, 3), (22, .iload_n 2, 1), (23, .i2l, 1), (24, .lconst 0, 1), (25, .aload_n 0, 1), (26, .getfield 16, 3), (29, .iload_n 1, 1), (30, .iaload, 1), (31, .iconst 1, 1), (32, .isub, 1), (33, .i2l, 1), (34, .invokestatic 67, 3), (37, .ifCond .eq 14, 3), (40, .aload_n 0, 1), (41, .getfield 21, 3), (44, .iload_n 1, 1), (45, .aaload, 1), (46, .iload_n 2, 1), (47, .laload, 1), (48, .goto 4, 3), (51, .lconst 0, 1), (52, .lreturn, 1)]
theorem dX7_element : dec_ok cX7_element tX7_element = true := by decide +kernel
noncomputable def tX7_holds : List (Nat × Instr × Nat) := [(0, .iload_n 1, 1), (1, .i2l, 1), (2, .lconst 0, 1), (3, .ldc2_w 77, 3), (6, .invokestatic 67, 3), (9, .ifCond .eq 12, 3), (12, .aload_n 0, 1), (13, .getfield 7, 3), (16, .iload_n 1, 1), (17, .iaload, 1), (18, .ifCond .ne 5, 3), (21, .iconst (-1), 1), (22, .ireturn, 1), (23, .aload_n 0, 1), (24, .getfield 7, 3), (27, .iload_n 1, 1), (28, .iaload, 1), (29, .iconst 1, 1), (30, .if_icmp .ne 12, 3), (33, .aload_n 0, 1), (34, .getfield 13, 3), (37, .iload_n 1, 1), (38, .iaload, 1), (39, .goto 12, 3), (42, .bipush 10, 2), (44, .aload_n 0, 1), (45, .getfield 28, 3), (48, .iload_n 1, 1), (49, .iaload, 1), (50, .iadd, 1), (51, .ireturn, 1)]
theorem dX7_holds : dec_ok cX7_holds tX7_holds = true := by decide +kernel
noncomputable def tX7_holding : List (Nat × Instr × Nat) := [(0, .iload_n 1, 1), (1, .i2l, 1), (2, .lconst 0, 1), (3, .ldc2_w 77, 3), (6, .invokestatic 67, 3), (9, .ifCond .eq 27, 3), (12, .iload_n 2, 1), (13, .i2l, 1), (14, .lconst 1, 1), (15, .ldc2_w 94, 3), (18, .invokestatic 67, 3), (21, .ifCond .eq 15, 3), (24, .iload_n 3, 1), (25, .i2l, 1), (26, .lconst 0, 1), (27, .ldc2_w 96, 3), (30, .invokestatic 67, 3), (33, .ifCond .ne 10, 3), (36, .aload_n 0, 1), (37, .bipush (-2), 2), (39, .invokevirtual 83, 3), (42, .ireturn, 1), (43, .aload_n 0, 1), (44, .getfield 7, 3), (47, .iload_n 1, 1), (48, .iconst 2, 1), (49, .iastore, 1), (50, .aload_n 0, 1), (51, .getfield 28, 3), (54, .iload_n 1, 1), (55, .iload_n 2, 1), (56, .iastore, 1), (57, .aload_n 0, 1), (58, .getfield 31, 3), (61, .iload_n 1, 1), (62, .iload_n 3, 1), (63, .iastore, 1), (64, .iconst 1, 1), (65, .ireturn, 1)]
theorem dX7_holding : dec_ok cX7_holding tX7_holding = true := by decide +kernel
noncomputable def tX7_isUnder : List (Nat × Instr × Nat) := [(0, .iload_n 1, 1), (1, .ifCond .eq 33, 3), (4, .iload_n 0, 1), (5, .iload_n 1, 1), (6, .if_icmp .eq 28, 3), (9, .iload_n 1, 1), (10, .iconst 1, 1), (11, .if_icmp .ne 8, 3), (14, .iload_n 0, 1), (15, .iconst 5, 1), (16, .if_icmp .eq 18, 3), (19, .iload_n 1, 1), (20, .iconst 2, 1), (21, .if_icmp .ne 17, 3), (24, .iload_n 0, 1), (25, .iconst 3, 1), (26, .if_icmp .eq 8, 3), (29, .iload_n 0, 1), (30, .iconst 4, 1), (31, .if_icmp .ne 7, 3), (34, .iconst 1, 1), (35, .goto 4, 3), (38, .iconst 0, 1), (39, .ireturn, 1)]
theorem dX7_isUnder : dec_ok cX7_isUnder tX7_isUnder = true := by decide +kernel
noncomputable def tX7_says : List (Nat × Instr × Nat) := [(0, .iload_n 1, 1), (1, .i2l, 1), (2, .lconst 0, 1), (3, .ldc2_w 77, 3), (6, .invokestatic 67, 3), (9, .ifCond .eq 15, 3), (12, .iload_n 2, 1), (13, .i2l, 1), (14, .lconst 0, 1), (15, .ldc2_w 94, 3), (18, .invokestatic 67, 3), (21, .ifCond .ne 10, 3), (24, .aload_n 0, 1), (25, .bipush (-2), 2), (27, .invokevirtual 83, 3), (30, .ireturn, 1), (31, .aload_n 0, 1), (32, .getfield 7, 3), (35, .iload_n 1, 1), (36, .iaload, 1), (37, .iconst 1, 1), (38, .if_icmp .eq 26, 3), (41, .aload_n 0, 1), (42, .getfield 7, 3), (45, .iload_n 1, 1), (46, .iaload, 1), (47, .iconst 2, 1), (48, .if_icmp .ne 23, 3), (51, .aload_n 0, 1), (52, .getfield 28, 3), (55, .iload_n 1, 1), (56, .iaload, 1), (57, .iload_n 2, 1), (58, .invokestatic 98, 3), (61, .ifCond .ne 10, 3), (64, .aload_n 0, 1), (65, .bipush (-3), 2), (67, .invokevirtual 83, 3), (70, .ireturn, 1), (71, .aload_n 0, 1), (72, .getfield 7, 3), (75, .iload_n 1, 1), (76, .iaload, 1), (77, .ifCond .ne 10, 3), (80, .aload_n 0, 1), (81, .bipush (-4), 2), (83, .invokevirtual 83, 3), (86, .ireturn, 1), (87, .iload_n 2, 1), (88, .ifCond .ne 10, 3), (91, .aload_n 0, 1), (92, .getfield 31, 3), (95, .iload_n 1, 1), (96, .iaload, 1), (97, .ireturn, 1), (98, .aload_n 0, 1), (99, .invokevirtual 102, 3), (102, .aload_n 0, 1), (103, .getfield 28, 3), (106, .iload_n 1, 1), (107, .iaload, 1), (108, .aload_n 0, 1), (109, .getfield 31, 3), (112, .iload_n 1, 1), (113, .iaload, 1), (114, .invokevirtual 106, 3), (117, .aload_n 0, 1), (118, .getfield 110, 3), (121, .iload_n 2, 1), (122, .iconst 3, 1), (123, .if_icmp .ne 7, 3), (126, .iconst 1, 1), (127, .goto 4, 3), (130, .iconst 0, 1), (131, .invokevirtual 114, 3), (134, .ireturn, 1)]
theorem dX7_says : dec_ok cX7_says tX7_says = true := by decide +kernel
noncomputable def tX7_held : List (Nat × Instr × Nat) := [(0, .iconst 0, 1), (1, .istore_n 2, 1), (2, .iconst 0, 1), (3, .istore_n 3, 1), (4, .iload_n 3, 1), (5, .aload_n 0, 1), (6, .getfield 64, 3), (9, .if_icmp .ge 40, 3), (12, .iload_n 2, 1), (13, .iload_n 1, 1), (14, .ifCond .eq 12, 3), (17, .aload_n 0, 1), (18, .getfield 43, 3), (21, .iload_n 3, 1), (22, .iaload, 1), (23, .goto 9, 3), (26, .aload_n 0, 1), (27, .getfield 40, 3), (30, .iload_n 3, 1), (31, .iaload, 1), (32, .iconst (-1), 1), (33, .if_icmp .eq 7, 3), (36, .iconst 1, 1), (37, .goto 4, 3), (40, .iconst 0, 1), (41, .iadd, 1), (42, .istore_n 2, 1), (43, .iinc 3 1, 3), (46, .goto (-42), 3), (49, .iload_n 2, 1), (50, .ireturn, 1)]
theorem dX7_held : dec_ok cX7_held tX7_held = true := by decide +kernel
noncomputable def tX7_part : List (Nat × Instr × Nat) := [(0, .aload_n 0, 1), (1, .getfield 64, 3), (4, .bipush 12, 2), (6, .if_icmp .ne 10, 3), (9, .aload_n 0, 1), (10, .bipush (-6), 2), (12, .invokevirtual 83, 3), (15, .ireturn, 1), (16, .aload_n 0, 1), (17, .getfield 40, 3), (20, .aload_n 0, 1), (21, .getfield 64, 3), (24, .iconst (-1), 1), (25, .iastore, 1), (26, .aload_n 0, 1), (27, .getfield 43, 3), (30, .aload_n 0, 1), (31, .getfield 64, 3), (34, .iconst (-1), 1), (35, .iastore, 1), (36, .aload_n 0, 1), (37, .dup, 1), (38, .getfield 64, 3), (41, .dup_x1, 1), (42, .iconst 1, 1), (43, .iadd, 1), (44, .putfield 64, 3), (47, .ireturn, 1)]
theorem dX7_part : dec_ok cX7_part tX7_part = true := by decide +kernel
noncomputable def tX7_machine : List (Nat × Instr × Nat) := [(0, .iload_n 1, 1), (1, .i2l, 1), (2, .lconst 1, 1), (3, .iconst 1, 1), (4, .aload_n 0, 1), (5, .getfield 64, 3), (8, .ishl, 1), (9, .iconst 1, 1), (10, .isub, 1), (11, .i2l, 1), (12, .invokestatic 67, 3), (15, .ifCond .eq 15, 3), (18, .iload_n 2, 1), (19, .i2l, 1), (20, .lconst 1, 1), (21, .ldc2_w 96, 3), (24, .invokestatic 67, 3), (27, .ifCond .ne 10, 3), (30, .aload_n 0, 1), (31, .bipush (-2), 2), (33, .invokevirtual 83, 3), (36, .ireturn, 1), (37, .aload_n 0, 1), (38, .getfield 71, 3), (41, .bipush 6, 2), (43, .if_icmp .ne 10, 3), (46, .aload_n 0, 1), (47, .bipush (-6), 2), (49, .invokevirtual 83, 3), (52, .ireturn, 1), (53, .aload_n 0, 1), (54, .getfield 46, 3), (57, .aload_n 0, 1), (58, .getfield 71, 3), (61, .iload_n 1, 1), (62, .iastore, 1), (63, .aload_n 0, 1), (64, .getfield 49, 3), (67, .aload_n 0, 1), (68, .getfield 71, 3), (71, .iload_n 2, 1), (72, .iastore, 1), (73, .aload_n 0, 1), (74, .dup, 1), (75, .getfield 71, 3), (78, .dup_x1, 1), (79, .iconst 1, 1), (80, .iadd, 1), (81, .putfield 71, 3), (84, .ireturn, 1)]
theorem dX7_machine : dec_ok cX7_machine tX7_machine = true := by decide +kernel
noncomputable def tX7_newOne : List (Nat × Instr × Nat) := [(0, .iconst 0, 1), (1, .istore_n 1, 1), (2, .iload_n 1, 1), (3, .iconst 4, 1), (4, .if_icmp .ge 21, 3), (7, .aload_n 0, 1), (8, .getfield 54, 3), (11, .aload_n 0, 1), (12, .getfield 74, 3), (15, .aaload, 1), (16, .iload_n 1, 1), (17, .iconst 0, 1), (18, .iastore, 1), (19, .iinc 1 1, 3), (22, .goto (-20), 3), (25, .return_, 1)]
theorem dX7_newOne : dec_ok cX7_newOne tX7_newOne = true := by decide +kernel
noncomputable def tX7_one : List (Nat × Instr × Nat) := [(0, .iload_n 1, 1), (1, .i2l, 1), (2, .lconst 0, 1), (3, .ldc2_w 118, 3), (6, .invokestatic 67, 3), (9, .ifCond .eq 15, 3), (12, .iload_n 2, 1), (13, .i2l, 1), (14, .lconst 0, 1), (15, .ldc2_w 120, 3), (18, .invokestatic 67, 3), (21, .ifCond .ne 10, 3), (24, .aload_n 0, 1), (25, .bipush (-2), 2), (27, .invokevirtual 83, 3), (30, .ireturn, 1), (31, .aload_n 0, 1), (32, .getfield 74, 3), (35, .bipush 8, 2), (37, .if_icmp .ne 10, 3), (40, .aload_n 0, 1), (41, .bipush (-6), 2), (43, .invokevirtual 83, 3), (46, .ireturn, 1), (47, .aload_n 0, 1), (48, .invokevirtual 122, 3), (51, .aload_n 0, 1), (52, .getfield 54, 3), (55, .aload_n 0, 1), (56, .getfield 74, 3), (59, .aaload, 1), (60, .iconst 0, 1), (61, .iload_n 1, 1), (62, .iastore, 1), (63, .aload_n 0, 1), (64, .getfield 54, 3), (67, .aload_n 0, 1), (68, .getfield 74, 3), (71, .aaload, 1), (72, .iconst 1, 1), (73, .iload_n 2, 1), (74, .iastore, 1), (75, .aload_n 0, 1), (76, .dup, 1), (77, .getfield 74, 3), (80, .dup_x1, 1), (81, .iconst 1, 1), (82, .iadd, 1), (83, .putfield 74, 3), (86, .ireturn, 1)]
theorem dX7_one : dec_ok cX7_one tX7_one = true := by decide +kernel
noncomputable def tX7_away : List (Nat × Instr × Nat) := [(0, .aload_n 0, 1), (1, .iload_n 1, 1), (2, .invokevirtual 125, 3), (5, .ifCond .eq 15, 3), (8, .iload_n 2, 1), (9, .i2l, 1), (10, .lconst 0, 1), (11, .ldc2_w 120, 3), (14, .invokestatic 67, 3), (17, .ifCond .ne 10, 3), (20, .aload_n 0, 1), (21, .bipush (-2), 2), (23, .invokevirtual 83, 3), (26, .ireturn, 1), (27, .aload_n 0, 1), (28, .getfield 54, 3), (31, .iload_n 1, 1), (32, .aaload, 1), (33, .iconst 1, 1), (34, .iaload, 1), (35, .istore_n 3, 1), (36, .aload_n 0, 1), (37, .getfield 54, 3), (40, .iload_n 1, 1), (41, .aaload, 1), (42, .iconst 1, 1), (43, .iload_n 2, 1), (44, .iastore, 1), (45, .iload_n 3, 1), (46, .ireturn, 1)]
theorem dX7_away : dec_ok cX7_away tX7_away = true := by decide +kernel
noncomputable def tX7_cross : List (Nat × Instr × Nat) := [(0, .aload_n 0, 1), (1, .iload_n 1, 1), (2, .invokevirtual 125, 3), (5, .ifCond .ne 10, 3), (8, .aload_n 0, 1), (9, .bipush (-2), 2), (11, .invokevirtual 83, 3), (14, .ireturn, 1), (15, .aload_n 0, 1), (16, .getfield 54, 3), (19, .iload_n 1, 1), (20, .aaload, 1), (21, .iconst 2, 1), (22, .iaload, 1), (23, .istore_n 3, 1), (24, .aload_n 0, 1), (25, .getfield 54, 3), (28, .iload_n 1, 1), (29, .aaload, 1), (30, .iconst 2, 1), (31, .iload_n 2, 1), (32, .ifCond .eq 7, 3), (35, .iconst 1, 1), (36, .goto 4, 3), (39, .iconst 0, 1), (40, .iastore, 1), (41, .iload_n 3, 1), (42, .aload_n 0, 1), (43, .getfield 54, 3), (46, .iload_n 1, 1), (47, .aaload, 1), (48, .iconst 2, 1), (49, .iaload, 1), (50, .if_icmp .eq 7, 3), (53, .iconst 1, 1), (54, .goto 4, 3), (57, .iconst 0, 1), (58, .ireturn, 1)]
theorem dX7_cross : dec_ok cX7_cross tX7_cross = true := by decide +kernel
noncomputable def tX7_piecesOf : List (Nat × Instr × Nat) := [(0, .iconst 0, 1), (1, .istore_n 2, 1), (2, .iconst 0, 1), (3, .istore_n 3, 1), (4, .iload_n 3, 1), (5, .aload_n 0, 1), (6, .getfield 64, 3), (9, .if_icmp .ge 43, 3), (12, .iload_n 2, 1), (13, .aload_n 0, 1), (14, .getfield 40, 3), (17, .iload_n 3, 1), (18, .iaload, 1), (19, .iload_n 1, 1), (20, .if_icmp .ne 7, 3), (23, .iconst 1, 1), (24, .goto 4, 3), (27, .iconst 0, 1), (28, .aload_n 0, 1), (29, .getfield 43, 3), (32, .iload_n 3, 1), (33, .iaload, 1), (34, .iload_n 1, 1), (35, .if_icmp .ne 7, 3), (38, .iconst 1, 1), (39, .goto 4, 3), (42, .iconst 0, 1), (43, .iadd, 1), (44, .iadd, 1), (45, .istore_n 2, 1), (46, .iinc 3 1, 3), (49, .goto (-45), 3), (52, .iload_n 2, 1), (53, .ireturn, 1)]
theorem dX7_piecesOf : dec_ok cX7_piecesOf tX7_piecesOf = true := by decide +kernel
noncomputable def tX7_hasRoom : List (Nat × Instr × Nat) := [(0, .aload_n 0, 1), (1, .iload_n 1, 1), (2, .invokevirtual 129, 3), (5, .aload_n 0, 1), (6, .getfield 54, 3), (9, .iload_n 1, 1), (10, .aaload, 1), (11, .iconst 0, 1), (12, .iaload, 1), (13, .if_icmp .ge 7, 3), (16, .iconst 1, 1), (17, .goto 4, 3), (20, .iconst 0, 1), (21, .ireturn, 1)]
theorem dX7_hasRoom : dec_ok cX7_hasRoom tX7_hasRoom = true := by decide +kernel
noncomputable def tX7_give : List (Nat × Instr × Nat) := [(0, .aload_n 0, 1), (1, .iload_n 1, 1), (2, .invokevirtual 132, 3), (5, .ifCond .eq 16, 3), (8, .iload_n 2, 1), (9, .iconst (-1), 1), (10, .if_icmp .eq 18, 3), (13, .aload_n 0, 1), (14, .iload_n 2, 1), (15, .invokevirtual 125, 3), (18, .ifCond .ne 10, 3), (21, .aload_n 0, 1), (22, .bipush (-2), 2), (24, .invokevirtual 83, 3), (27, .ireturn, 1), (28, .iload_n 3, 1), (29, .ifCond .eq 10, 3), (32, .aload_n 0, 1), (33, .getfield 43, 3), (36, .goto 7, 3), (39, .aload_n 0, 1), (40, .getfield 40, 3), (43, .astore 4, 2), (45, .aload 4, 2), (47, .iload_n 1, 1), (48, .iaload, 1), (49, .istore 5, 2), (51, .iload_n 2, 1), (52, .iconst (-1), 1), (53, .if_icmp .eq 24, 3), (56, .iload 5, 2), (58, .iload_n 2, 1), (59, .if_icmp .eq 18, 3), (62, .aload_n 0, 1), (63, .iload_n 2, 1), (64, .invokevirtual 135, 3), (67, .ifCond .ne 10, 3), (70, .aload_n 0, 1), (71, .bipush (-5), 2), (73, .invokevirtual 83, 3), (76, .ireturn, 1), (77, .aload 4, 2), (79, .iload_n 1, 1), (80, .iload_n 2, 1), (81, .iastore, 1), (82, .iload 5, 2), (84, .ireturn, 1)]
theorem dX7_give : dec_ok cX7_give tX7_give = true := by decide +kernel
noncomputable def tX7_feed : List (Nat × Instr × Nat) := [(0, .iload_n 2, 1), (1, .i2l, 1), (2, .lconst 1, 1), (3, .ldc2_w 79, 3), (6, .invokestatic 67, 3), (9, .ifCond .ne 10, 3), (12, .aload_n 0, 1), (13, .bipush (-2), 2), (15, .invokevirtual 83, 3), (18, .ireturn, 1), (19, .iload_n 2, 1), (20, .sipush 250, 3), (23, .aload_n 0, 1), (24, .getfield 138, 3), (27, .isub, 1), (28, .if_icmp .le 10, 3), (31, .aload_n 0, 1), (32, .bipush (-6), 2), (34, .invokevirtual 83, 3), (37, .ireturn, 1), (38, .iload_n 2, 1), (39, .iconst 1, 1), (40, .isub, 1), (41, .istore_n 3, 1), (42, .iload_n 3, 1), (43, .ifCond .lt 35, 3), (46, .aload_n 0, 1), (47, .getfield 34, 3), (50, .aload_n 0, 1), (51, .dup, 1), (52, .getfield 138, 3), (55, .dup_x1, 1), (56, .iconst 1, 1), (57, .iadd, 1), (58, .putfield 138, 3), (61, .iload_n 1, 1), (62, .bipush 8, 2), (64, .iload_n 3, 1), (65, .imul, 1), (66, .ishr, 1), (67, .sipush 255, 3), (70, .iand, 1), (71, .iastore, 1), (72, .iinc 3 (-1), 3), (75, .goto (-33), 3), (78, .aload_n 0, 1), (79, .getfield 138, 3), (82, .ireturn, 1)]
theorem dX7_feed : dec_ok cX7_feed tX7_feed = true := by decide +kernel
noncomputable def tX7_wipe : List (Nat × Instr × Nat) := [(0, .aload_n 0, 1), (1, .getfield 138, 3), (4, .istore_n 1, 1), (5, .aload_n 0, 1), (6, .iconst 0, 1), (7, .putfield 138, 3), (10, .iload_n 1, 1), (11, .ireturn, 1)]
theorem dX7_wipe : dec_ok cX7_wipe tX7_wipe = true := by decide +kernel
noncomputable def tX7_isLetter : List (Nat × Instr × Nat) := [(0, .iload_n 0, 1), (1, .bipush 97, 2), (3, .if_icmp .lt 13, 3), (6, .iload_n 0, 1), (7, .bipush 122, 2), (9, .if_icmp .gt 7, 3), (12, .iconst 1, 1), (13, .goto 4, 3), (16, .iconst 0, 1), (17, .ireturn, 1)]
theorem dX7_isLetter : dec_ok cX7_isLetter tX7_isLetter = true := by decide +kernel
noncomputable def tX7_isDigit : List (Nat × Instr × Nat) := [(0, .iload_n 0, 1), (1, .bipush 48, 2), (3, .if_icmp .lt 13, 3), (6, .iload_n 0, 1), (7, .bipush 57, 2), (9, .if_icmp .gt 7, 3), (12, .iconst 1, 1), (13, .goto 4, 3), (16, .iconst 0, 1), (17, .ireturn, 1)]
theorem dX7_isDigit : dec_ok cX7_isDigit tX7_isDigit = true := by decide +kernel
noncomputable def tX7_look : List (Nat × Instr × Nat) := [(0, .aload_n 0, 1), (1, .getfield 141, 3), (4, .aload_n 0, 1), (5, .getfield 138, 3), (8, .if_icmp .ge 30, 3), (11, .aload_n 0, 1), (12, .getfield 34, 3), (15, .aload_n 0, 1), (16, .getfield 141, 3), (19, .iaload, 1), (20, .bipush 32, 2), (22, .if_icmp .ne 16, 3), (25, .aload_n 0, 1), (26, .dup, 1), (27, .getfield 141, 3), (30, .iconst 1, 1), (31, .iadd, 1), (32, .putfield 141, 3), (35, .goto (-35), 3), (38, .aload_n 0, 1), (39, .aload_n 0, 1), (40, .getfield 141, 3), (43, .putfield 144, 3), (46, .aload_n 0, 1), (47, .lconst 0, 1), (48, .putfield 147, 3), (51, .aload_n 0, 1), (52, .getfield 141, 3), (55, .aload_n 0, 1), (56, .getfield 138, 3), (59, .if_icmp .ne 11, 3), (62, .aload_n 0, 1), (63, .iconst 0, 1), (64, .putfield 151, 3), (67, .goto 200, 3), (70, .aload_n 0, 1), (71, .getfield 34, 3), (74, .aload_n 0, 1), (75, .getfield 141, 3), (78, .iaload, 1), (79, .invokestatic 154, 3), (82, .ifCond .eq 47, 3), (85, .aload_n 0, 1), (86, .iconst 1, 1), (87, .putfield 151, 3), (90, .aload_n 0, 1), (91, .getfield 141, 3), (94, .aload_n 0, 1), (95, .getfield 138, 3), (98, .if_icmp .ge 169, 3), (101, .aload_n 0, 1), (102, .getfield 34, 3), (105, .aload_n 0, 1), (106, .getfield 141, 3), (109, .iaload, 1), (110, .invokestatic 154, 3), (113, .ifCond .eq 154, 3), (116, .aload_n 0, 1), (117, .dup, 1), (118, .getfield 141, 3), (121, .iconst 1, 1), (122, .iadd, 1), (123, .putfield 141, 3), (126, .goto (-36), 3), (129, .aload_n 0, 1), (130, .getfield 34, 3), (133, .aload_n 0, 1), (134, .getfield 141, 3), (137, .iaload, 1), (138, .invokestatic 157, 3), (141, .ifCond .eq 93, 3), (144, .aload_n 0, 1), (145, .iconst 2, 1), (146, .putfield 151, 3), (149, .aload_n 0, 1), (150, .getfield 141, 3), (153, .aload_n 0, 1), (154, .getfield 138, 3), (157, .if_icmp .ge 110, 3), (160, .aload_n 0, 1), (161, .getfield 34, 3), (164, .aload_n 0, 1), (165, .getfield 141, 3), (168, .iaload, 1), (169, .invokestatic 157, 3), (172, .ifCond .eq 95, 3), (175, .aload_n 0, 1), (176, .aload_n 0, 1), (177, .getfield 141, 3), (180, .aload_n 0, 1), (181, .getfield 144, 3), (184, .isub, 1), (185, .iconst 2, 1), (186, .if_icmp .ge 29, 3), (189, .aload_n 0, 1), (190, .getfield 147, 3), (193, .ldc2_w 120, 3), (196, .lmul, 1), (197, .aload_n 0, 1), (198, .getfield 34, 3), (201, .aload_n 0, 1), (202, .getfield 141, 3), (205, .iaload, 1), (206, .i2l, 1), (207, .ladd, 1), (208, .ldc2_w 160, 3), (211, .lsub, 1), (212, .goto 6, 3), (215, .ldc2_w 162, 3), (218, .putfield 147, 3), (221, .aload_n 0, 1), (222, .dup, 1), (223, .getfield 141, 3), (226, .iconst 1, 1), (227, .iadd, 1), (228, .putfield 141, 3), (231, .goto (-82), 3), (234, .aload_n 0, 1), (235, .aload_n 0, 1), (236, .getfield 34, 3), (239, .aload_n 0, 1), (240, .getfield 141, 3), (243, .iaload, 1), (244, .bipush 59, 2), (246, .if_icmp .ne 7, 3), (249, .iconst 3, 1), (250, .goto 4, 3), (253, .iconst 4, 1), (254, .putfield 151, 3), (257, .aload_n 0, 1), (258, .dup, 1), (259, .getfield 141, 3), (262, .iconst 1, 1), (263, .iadd, 1), (264, .putfield 141, 3), (267, .return_, 1)]
theorem dX7_look : dec_ok cX7_look tX7_look = true := by decide +kernel
noncomputable def tX7_wrong : List (Nat × Instr × Nat) := [(0, .aload_n 0, 1), (1, .aload_n 0, 1), (2, .getfield 144, 3), (5, .putfield 164, 3), (8, .iconst 0, 1), (9, .ireturn, 1)]
theorem dX7_wrong : dec_ok cX7_wrong tX7_wrong = true := by decide +kernel
noncomputable def tX7_isWord : List (Nat × Instr × Nat) := [(0, .aload_n 0, 1), (1, .getfield 151, 3), (4, .iconst 1, 1), (5, .if_icmp .ne 19, 3), (8, .aload_n 0, 1), (9, .getfield 141, 3), (12, .aload_n 0, 1), (13, .getfield 144, 3), (16, .isub, 1), (17, .aload_n 1, 1), (18, .invokevirtual 167, 3), (21, .if_icmp .eq 5, 3), (24, .iconst 0, 1), (25, .ireturn, 1), (26, .iconst 0, 1), (27, .istore_n 2, 1), (28, .iload_n 2, 1), (29, .aload_n 1, 1), (30, .invokevirtual 167, 3), (33, .if_icmp .ge 30, 3), (36, .aload_n 0, 1), (37, .getfield 34, 3), (40, .aload_n 0, 1), (41, .getfield 144, 3), (44, .iload_n 2, 1), (45, .iadd, 1), (46, .iaload, 1), (47, .aload_n 1, 1), (48, .iload_n 2, 1), (49, .invokevirtual 173, 3), (52, .if_icmp .eq 5, 3), (55, .iconst 0, 1), (56, .ireturn, 1), (57, .iinc 2 1, 3), (60, .goto (-32), 3), (63, .iconst 1, 1), (64, .ireturn, 1)]
theorem dX7_isWord : dec_ok cX7_isWord tX7_isWord = true := by decide +kernel
noncomputable def tX7_number : List (Nat × Instr × Nat) := [(0, .aload_n 0, 1), (1, .getfield 151, 3), (4, .iconst 2, 1), (5, .if_icmp .ne 17, 3), (8, .aload_n 0, 1), (9, .getfield 147, 3), (12, .iload_n 1, 1), (13, .i2l, 1), (14, .iload_n 2, 1), (15, .i2l, 1), (16, .invokestatic 67, 3), (19, .ifCond .ne 8, 3), (22, .aload_n 0, 1), (23, .invokevirtual 177, 3), (26, .ireturn, 1), (27, .aload_n 0, 1), (28, .aload_n 0, 1), (29, .getfield 147, 3), (32, .l2i, 1), (33, .putfield 181, 3), (36, .aload_n 0, 1), (37, .invokevirtual 184, 3), (40, .iconst 1, 1), (41, .ireturn, 1)]
theorem dX7_number : dec_ok cX7_number tX7_number = true := by decide +kernel
noncomputable def tX7_tells : List (Nat × Instr × Nat) := [(0, .aload_n 0, 1), (1, .aload_n 1, 1), (2, .invokevirtual 187, 3), (5, .ifCond .ne 8, 3), (8, .aload_n 0, 1), (9, .invokevirtual 177, 3), (12, .ireturn, 1), (13, .aload_n 0, 1), (14, .invokevirtual 184, 3), (17, .aload_n 0, 1), (18, .iload_n 2, 1), (19, .iload_n 3, 1), (20, .invokevirtual 191, 3), (23, .ireturn, 1)]
theorem dX7_tells : dec_ok cX7_tells tX7_tells = true := by decide +kernel
noncomputable def tX7_gets : List (Nat × Instr × Nat) := [(0, .iload_n 2, 1), (1, .ifCond .eq 10, 3), (4, .aload_n 0, 1), (5, .getfield 43, 3), (8, .goto 7, 3), (11, .aload_n 0, 1), (12, .getfield 40, 3), (15, .astore_n 3, 1), (16, .aload_n 0, 1), (17, .getfield 151, 3), (20, .iconst 2, 1), (21, .if_icmp .ne 21, 3), (24, .aload_n 0, 1), (25, .getfield 147, 3), (28, .lconst 0, 1), (29, .aload_n 0, 1), (30, .getfield 74, 3), (33, .iconst 1, 1), (34, .isub, 1), (35, .i2l, 1), (36, .invokestatic 67, 3), (39, .ifCond .ne 8, 3), (42, .aload_n 0, 1), (43, .invokevirtual 177, 3), (46, .ireturn, 1), (47, .aload_n 0, 1), (48, .getfield 147, 3), (51, .l2i, 1), (52, .istore 4, 2), (54, .aload_n 3, 1), (55, .iload_n 1, 1), (56, .iaload, 1), (57, .iload 4, 2), (59, .if_icmp .eq 17, 3), (62, .aload_n 0, 1), (63, .iload 4, 2), (65, .invokevirtual 135, 3), (68, .ifCond .ne 8, 3), (71, .aload_n 0, 1), (72, .invokevirtual 177, 3), (75, .ireturn, 1), (76, .aload_n 3, 1), (77, .iload_n 1, 1), (78, .iload 4, 2), (80, .iastore, 1), (81, .aload_n 0, 1), (82, .invokevirtual 184, 3), (85, .iconst 1, 1), (86, .ireturn, 1)]
theorem dX7_gets : dec_ok cX7_gets tX7_gets = true := by decide +kernel
noncomputable def tX7_partTold : List (Nat × Instr × Nat) := [(0, .aload_n 0, 1), (1, .invokevirtual 184, 3), (4, .aload_n 0, 1), (5, .invokevirtual 194, 3), (8, .istore_n 1, 1), (9, .aload_n 0, 1), (10, .ldc 197, 2), (12, .invokevirtual 187, 3), (15, .ifCond .eq 18, 3), (18, .aload_n 0, 1), (19, .invokevirtual 184, 3), (22, .aload_n 0, 1), (23, .iload_n 1, 1), (24, .iconst 0, 1), (25, .invokevirtual 199, 3), (28, .ifCond .ne 5, 3), (31, .iconst 0, 1), (32, .ireturn, 1), (33, .aload_n 0, 1), (34, .ldc 203, 2), (36, .invokevirtual 187, 3), (39, .ifCond .eq 14, 3), (42, .aload_n 0, 1), (43, .invokevirtual 184, 3), (46, .aload_n 0, 1), (47, .iload_n 1, 1), (48, .iconst 1, 1), (49, .invokevirtual 199, 3), (52, .ireturn, 1), (53, .iconst 1, 1), (54, .ireturn, 1)]
theorem dX7_partTold : dec_ok cX7_partTold tX7_partTold = true := by decide +kernel
noncomputable def tX7_machineTold : List (Nat × Instr × Nat) := [(0, .aload_n 0, 1), (1, .ldc 204, 2), (3, .iconst 1, 1), (4, .bipush 99, 2), (6, .invokevirtual 206, 3), (9, .ifCond .ne 5, 3), (12, .iconst 0, 1), (13, .ireturn, 1), (14, .aload_n 0, 1), (15, .getfield 49, 3), (18, .aload_n 0, 1), (19, .getfield 71, 3), (22, .aload_n 0, 1), (23, .getfield 181, 3), (26, .iastore, 1), (27, .aload_n 0, 1), (28, .ldc 210, 2), (30, .iconst 0, 1), (31, .aload_n 0, 1), (32, .getfield 64, 3), (35, .iconst 1, 1), (36, .isub, 1), (37, .invokevirtual 206, 3), (40, .ifCond .ne 5, 3), (43, .iconst 0, 1), (44, .ireturn, 1), (45, .iconst 1, 1), (46, .aload_n 0, 1), (47, .getfield 181, 3), (50, .ishl, 1), (51, .istore_n 1, 1), (52, .aload_n 0, 1), (53, .ldc 212, 2), (55, .invokevirtual 187, 3), (58, .ifCond .eq 33, 3), (61, .aload_n 0, 1), (62, .ldc 212, 2), (64, .iconst 0, 1), (65, .aload_n 0, 1), (66, .getfield 64, 3), (69, .iconst 1, 1), (70, .isub, 1), (71, .invokevirtual 206, 3), (74, .ifCond .ne 5, 3), (77, .iconst 0, 1), (78, .ireturn, 1), (79, .iload_n 1, 1), (80, .iconst 1, 1), (81, .aload_n 0, 1), (82, .getfield 181, 3), (85, .ishl, 1), (86, .ior, 1), (87, .istore_n 1, 1), (88, .goto (-36), 3), (91, .aload_n 0, 1), (92, .getfield 46, 3), (95, .aload_n 0, 1), (96, .dup, 1), (97, .getfield 71, 3), (100, .dup_x1, 1), (101, .iconst 1, 1), (102, .iadd, 1), (103, .putfield 71, 3), (106, .iload_n 1, 1), (107, .iastore, 1), (108, .iconst 1, 1), (109, .ireturn, 1)]
theorem dX7_machineTold : dec_ok cX7_machineTold tX7_machineTold = true := by decide +kernel
noncomputable def tX7_statement : List (Nat × Instr × Nat) := [(0, .aload_n 0, 1), (1, .ldc 214, 2), (3, .invokevirtual 187, 3), (6, .ifCond .eq 17, 3), (9, .aload_n 0, 1), (10, .getfield 64, 3), (13, .bipush 12, 2), (15, .if_icmp .ge 8, 3), (18, .aload_n 0, 1), (19, .invokevirtual 215, 3), (22, .ireturn, 1), (23, .aload_n 0, 1), (24, .ldc 204, 2), (26, .invokevirtual 187, 3), (29, .ifCond .eq 17, 3), (32, .aload_n 0, 1), (33, .getfield 71, 3), (36, .bipush 6, 2), (38, .if_icmp .ge 8, 3), (41, .aload_n 0, 1), (42, .invokevirtual 218, 3), (45, .ireturn, 1), (46, .aload_n 0, 1), (47, .ldc 221, 2), (49, .invokevirtual 187, 3), (52, .ifCond .eq 120, 3), (55, .aload_n 0, 1), (56, .getfield 74, 3), (59, .bipush 8, 2), (61, .if_icmp .ge 111, 3), (64, .aload_n 0, 1), (65, .invokevirtual 122, 3), (68, .aload_n 0, 1), (69, .ldc 221, 2), (71, .iconst 0, 1), (72, .bipush 9, 2), (74, .invokevirtual 206, 3), (77, .ifCond .ne 5, 3), (80, .iconst 0, 1), (81, .ireturn, 1), (82, .aload_n 0, 1), (83, .getfield 54, 3), (86, .aload_n 0, 1), (87, .getfield 74, 3), (90, .aaload, 1), (91, .iconst 0, 1), (92, .aload_n 0, 1), (93, .getfield 181, 3), (96, .iastore, 1), (97, .aload_n 0, 1), (98, .ldc 222, 2), (100, .invokevirtual 187, 3), (103, .ifCond .eq 32, 3), (106, .aload_n 0, 1), (107, .ldc 222, 2), (109, .iconst 0, 1), (110, .bipush 10, 2), (112, .invokevirtual 206, 3), (115, .ifCond .ne 5, 3), (118, .iconst 0, 1), (119, .ireturn, 1), (120, .aload_n 0, 1), (121, .getfield 54, 3), (124, .aload_n 0, 1), (125, .getfield 74, 3), (128, .aaload, 1), (129, .iconst 1, 1), (130, .aload_n 0, 1), (131, .getfield 181, 3), (134, .iastore, 1), (135, .aload_n 0, 1), (136, .ldc 224, 2), (138, .invokevirtual 187, 3), (141, .ifCond .eq 19, 3), (144, .aload_n 0, 1), (145, .invokevirtual 184, 3), (148, .aload_n 0, 1), (149, .getfield 54, 3), (152, .aload_n 0, 1), (153, .getfield 74, 3), (156, .aaload, 1), (157, .iconst 2, 1), (158, .iconst 1, 1), (159, .iastore, 1), (160, .aload_n 0, 1), (161, .dup, 1), (162, .getfield 74, 3), (165, .iconst 1, 1), (166, .iadd, 1), (167, .putfield 74, 3), (170, .iconst 1, 1), (171, .ireturn, 1), (172, .aload_n 0, 1), (173, .ldc 226, 2), (175, .iconst 0, 1), (176, .aload_n 0, 1), (177, .getfield 64, 3), (180, .iconst 1, 1), (181, .isub, 1), (182, .invokevirtual 206, 3), (185, .ifCond .eq 19, 3), (188, .aload_n 0, 1), (189, .aload_n 0, 1), (190, .getfield 181, 3), (193, .iconst 0, 1), (194, .invokevirtual 199, 3), (197, .ifCond .eq 7, 3), (200, .iconst 1, 1), (201, .goto 4, 3), (204, .iconst 0, 1), (205, .ireturn, 1)]
theorem dX7_statement : dec_ok cX7_statement tX7_statement = true := by decide +kernel
noncomputable def tX7_readAll : List (Nat × Instr × Nat) := [(0, .aload_n 0, 1), (1, .iconst 1, 1), (2, .putfield 228, 3), (5, .aload_n 0, 1), (6, .iconst 0, 1), (7, .putfield 141, 3), (10, .aload_n 0, 1), (11, .invokevirtual 184, 3), (14, .aload_n 0, 1), (15, .invokevirtual 231, 3), (18, .ifCond .ne 5, 3), (21, .iconst 0, 1), (22, .ireturn, 1), (23, .aload_n 0, 1), (24, .getfield 151, 3), (27, .ifCond .eq 42, 3), (30, .aload_n 0, 1), (31, .getfield 151, 3), (34, .iconst 3, 1), (35, .if_icmp .eq 8, 3), (38, .aload_n 0, 1), (39, .invokevirtual 177, 3), (42, .ireturn, 1), (43, .aload_n 0, 1), (44, .invokevirtual 184, 3), (47, .aload_n 0, 1), (48, .invokevirtual 231, 3), (51, .ifCond .ne 5, 3), (54, .iconst 0, 1), (55, .ireturn, 1), (56, .aload_n 0, 1), (57, .dup, 1), (58, .getfield 228, 3), (61, .iconst 1, 1), (62, .iadd, 1), (63, .putfield 228, 3), (66, .goto (-43), 3), (69, .iconst 1, 1), (70, .ireturn, 1)]
theorem dX7_readAll : dec_ok cX7_readAll tX7_readAll = true := by decide +kernel
noncomputable def tX7_village : List (Nat × Instr × Nat) := [(0, .aload_n 0, 1), (1, .invokevirtual 102, 3), (4, .astore_n 1, 1), (5, .aload_n 0, 1), (6, .invokevirtual 234, 3), (9, .istore_n 2, 1), (10, .aload_n 0, 1), (11, .iconst 0, 1), (12, .putfield 138, 3), (15, .iload_n 2, 1), (16, .ifCond .ne 23, 3), (19, .aload_n 0, 1), (20, .aload_n 1, 1), (21, .invokevirtual 237, 3), (24, .aload_n 0, 1), (25, .bipush (-2), 2), (27, .invokevirtual 83, 3), (30, .pop, 1), (31, .bipush (-20), 2), (33, .aload_n 0, 1), (34, .getfield 164, 3), (37, .isub, 1), (38, .ireturn, 1), (39, .aload_n 0, 1), (40, .getfield 228, 3), (43, .ireturn, 1)]
theorem dX7_village : dec_ok cX7_village tX7_village = true := by decide +kernel
noncomputable def tX7_partOf : List (Nat × Instr × Nat) := [(0, .aload_n 0, 1), (1, .iload_n 1, 1), (2, .invokevirtual 132, 3), (5, .ifCond .eq 13, 3), (8, .iload_n 2, 1), (9, .i2l, 1), (10, .lconst 0, 1), (11, .lconst 1, 1), (12, .invokestatic 67, 3), (15, .ifCond .ne 10, 3), (18, .aload_n 0, 1), (19, .bipush (-2), 2), (21, .invokevirtual 83, 3), (24, .ireturn, 1), (25, .iload_n 2, 1), (26, .ifCond .ne 12, 3), (29, .aload_n 0, 1), (30, .getfield 40, 3), (33, .iload_n 1, 1), (34, .iaload, 1), (35, .goto 9, 3), (38, .aload_n 0, 1), (39, .getfield 43, 3), (42, .iload_n 1, 1), (43, .iaload, 1), (44, .ireturn, 1)]
theorem dX7_partOf : dec_ok cX7_partOf tX7_partOf = true := by decide +kernel
noncomputable def tX7_machineOf : List (Nat × Instr × Nat) := [(0, .aload_n 0, 1), (1, .iload_n 1, 1), (2, .invokevirtual 241, 3), (5, .ifCond .eq 13, 3), (8, .iload_n 2, 1), (9, .i2l, 1), (10, .lconst 0, 1), (11, .lconst 1, 1), (12, .invokestatic 67, 3), (15, .ifCond .ne 10, 3), (18, .aload_n 0, 1), (19, .bipush (-2), 2), (21, .invokevirtual 83, 3), (24, .ireturn, 1), (25, .iload_n 2, 1), (26, .ifCond .ne 12, 3), (29, .aload_n 0, 1), (30, .getfield 46, 3), (33, .iload_n 1, 1), (34, .iaload, 1), (35, .goto 9, 3), (38, .aload_n 0, 1), (39, .getfield 49, 3), (42, .iload_n 1, 1), (43, .iaload, 1), (44, .ireturn, 1)]
theorem dX7_machineOf : dec_ok cX7_machineOf tX7_machineOf = true := by decide +kernel
noncomputable def tX7_oneOf : List (Nat × Instr × Nat) := [(0, .aload_n 0, 1), (1, .iload_n 1, 1), (2, .invokevirtual 125, 3), (5, .ifCond .eq 15, 3), (8, .iload_n 2, 1), (9, .i2l, 1), (10, .lconst 0, 1), (11, .ldc2_w 79, 3), (14, .invokestatic 67, 3), (17, .ifCond .ne 10, 3), (20, .aload_n 0, 1), (21, .bipush (-2), 2), (23, .invokevirtual 83, 3), (26, .ireturn, 1), (27, .iload_n 2, 1), (28, .iconst 3, 1), (29, .if_icmp .ne 11, 3), (32, .aload_n 0, 1), (33, .iload_n 1, 1), (34, .invokevirtual 129, 3), (37, .goto 27, 3), (40, .iload_n 2, 1), (41, .iconst 4, 1), (42, .if_icmp .ne 14, 3), (45, .aload_n 0, 1), (46, .getfield 54, 3), (49, .iload_n 1, 1), (50, .aaload, 1), (51, .iconst 3, 1), (52, .iaload, 1), (53, .goto 11, 3), (56, .aload_n 0, 1), (57, .getfield 54, 3), (60, .iload_n 1, 1), (61, .aaload, 1), (62, .iload_n 2, 1), (63, .iaload, 1), (64, .ireturn, 1)]
theorem dX7_oneOf : dec_ok cX7_oneOf tX7_oneOf = true := by decide +kernel
noncomputable def tX7_hasOf : List (Nat × Instr × Nat) := [(0, .iconst 0, 1), (1, .istore_n 2, 1), (2, .iconst 0, 1), (3, .istore_n 3, 1), (4, .iload_n 3, 1), (5, .aload_n 0, 1), (6, .getfield 64, 3), (9, .if_icmp .ge 45, 3), (12, .iload_n 2, 1), (13, .iload_n 1, 1), (14, .aload_n 0, 1), (15, .getfield 40, 3), (18, .iload_n 3, 1), (19, .iaload, 1), (20, .invokestatic 244, 3), (23, .ifCond .ne 16, 3), (26, .iload_n 1, 1), (27, .aload_n 0, 1), (28, .getfield 43, 3), (31, .iload_n 3, 1), (32, .iaload, 1), (33, .invokestatic 244, 3), (36, .ifCond .eq 9, 3), (39, .iconst 1, 1), (40, .iload_n 3, 1), (41, .ishl, 1), (42, .goto 4, 3), (45, .iconst 0, 1), (46, .ior, 1), (47, .istore_n 2, 1), (48, .iinc 3 1, 3), (51, .goto (-47), 3), (54, .iload_n 2, 1), (55, .ireturn, 1)]
theorem dX7_hasOf : dec_ok cX7_hasOf tX7_hasOf = true := by decide +kernel
noncomputable def tX7_worksOf : List (Nat × Instr × Nat) := [(0, .aload_n 0, 1), (1, .getfield 46, 3), (4, .iload_n 1, 1), (5, .iaload, 1), (6, .aload_n 0, 1), (7, .iload_n 2, 1), (8, .invokevirtual 247, 3), (11, .iconst (-1), 1), (12, .ixor, 1), (13, .iand, 1), (14, .ifCond .ne 7, 3), (17, .iconst 1, 1), (18, .goto 4, 3), (21, .iconst 0, 1), (22, .ireturn, 1)]
theorem dX7_worksOf : dec_ok cX7_worksOf tX7_worksOf = true := by decide +kernel
noncomputable def tX7_bothOf : List (Nat × Instr × Nat) := [(0, .aload_n 0, 1), (1, .iload_n 1, 1), (2, .iload_n 3, 1), (3, .invokevirtual 250, 3), (6, .ifCond .eq 12, 3), (9, .aload_n 0, 1), (10, .iload_n 2, 1), (11, .iload_n 3, 1), (12, .invokevirtual 250, 3), (15, .ifCond .ne 5, 3), (18, .iconst 0, 1), (19, .ireturn, 1), (20, .iconst 0, 1), (21, .istore 4, 2), (23, .iload 4, 2), (25, .aload_n 0, 1), (26, .getfield 64, 3), (29, .if_icmp .ge 60, 3), (32, .aload_n 0, 1), (33, .getfield 46, 3), (36, .iload_n 1, 1), (37, .iaload, 1), (38, .aload_n 0, 1), (39, .getfield 46, 3), (42, .iload_n 2, 1), (43, .iaload, 1), (44, .iand, 1), (45, .iload 4, 2), (47, .invokestatic 244, 3), (50, .ifCond .eq 33, 3), (53, .iload_n 3, 1), (54, .aload_n 0, 1), (55, .getfield 40, 3), (58, .iload 4, 2), (60, .iaload, 1), (61, .invokestatic 244, 3), (64, .ifCond .eq 17, 3), (67, .iload_n 3, 1), (68, .aload_n 0, 1), (69, .getfield 43, 3), (72, .iload 4, 2), (74, .iaload, 1), (75, .invokestatic 244, 3), (78, .ifCond .ne 5, 3), (81, .iconst 0, 1), (82, .ireturn, 1), (83, .iinc 4 1, 3), (86, .goto (-63), 3), (89, .iconst 1, 1), (90, .ireturn, 1)]
theorem dX7_bothOf : dec_ok cX7_bothOf tX7_bothOf = true := by decide +kernel
noncomputable def tX7_has : List (Nat × Instr × Nat) := [(0, .iload_n 1, 1), (1, .i2l, 1), (2, .lconst 0, 1), (3, .aload_n 0, 1), (4, .invokevirtual 253, 3), (7, .i2l, 1), (8, .invokestatic 67, 3), (11, .ifCond .eq 11, 3), (14, .aload_n 0, 1), (15, .iload_n 1, 1), (16, .invokevirtual 247, 3), (19, .goto 9, 3), (22, .aload_n 0, 1), (23, .bipush (-2), 2), (25, .invokevirtual 83, 3), (28, .ireturn, 1)]
theorem dX7_has : dec_ok cX7_has tX7_has = true := by decide +kernel
noncomputable def tX7_works : List (Nat × Instr × Nat) := [(0, .aload_n 0, 1), (1, .iload_n 1, 1), (2, .invokevirtual 241, 3), (5, .ifCond .eq 17, 3), (8, .iload_n 2, 1), (9, .i2l, 1), (10, .lconst 0, 1), (11, .aload_n 0, 1), (12, .invokevirtual 253, 3), (15, .i2l, 1), (16, .invokestatic 67, 3), (19, .ifCond .ne 10, 3), (22, .aload_n 0, 1), (23, .bipush (-2), 2), (25, .invokevirtual 83, 3), (28, .ireturn, 1), (29, .aload_n 0, 1), (30, .iload_n 1, 1), (31, .iload_n 2, 1), (32, .invokevirtual 250, 3), (35, .ifCond .eq 7, 3), (38, .iconst 1, 1), (39, .goto 4, 3), (42, .iconst 0, 1), (43, .ireturn, 1)]
theorem dX7_works : dec_ok cX7_works tX7_works = true := by decide +kernel
noncomputable def tX7_both : List (Nat × Instr × Nat) := [(0, .aload_n 0, 1), (1, .iload_n 1, 1), (2, .invokevirtual 241, 3), (5, .ifCond .eq 30, 3), (8, .aload_n 0, 1), (9, .iload_n 2, 1), (10, .invokevirtual 241, 3), (13, .ifCond .eq 22, 3), (16, .iload_n 1, 1), (17, .iload_n 2, 1), (18, .if_icmp .eq 17, 3), (21, .iload_n 3, 1), (22, .i2l, 1), (23, .lconst 0, 1), (24, .aload_n 0, 1), (25, .invokevirtual 253, 3), (28, .i2l, 1), (29, .invokestatic 67, 3), (32, .ifCond .ne 10, 3), (35, .aload_n 0, 1), (36, .bipush (-2), 2), (38, .invokevirtual 83, 3), (41, .ireturn, 1), (42, .aload_n 0, 1), (43, .iload_n 1, 1), (44, .iload_n 2, 1), (45, .iload_n 3, 1), (46, .invokevirtual 256, 3), (49, .ifCond .eq 7, 3), (52, .iconst 1, 1), (53, .goto 4, 3), (56, .iconst 0, 1), (57, .ireturn, 1)]
theorem dX7_both : dec_ok cX7_both tX7_both = true := by decide +kernel
noncomputable def tX7_crossOnes : List (Nat × Instr × Nat) := [(0, .iconst 0, 1), (1, .istore_n 1, 1), (2, .iconst 0, 1), (3, .istore_n 2, 1), (4, .iload_n 2, 1), (5, .aload_n 0, 1), (6, .getfield 74, 3), (9, .if_icmp .ge 22, 3), (12, .iload_n 1, 1), (13, .aload_n 0, 1), (14, .getfield 54, 3), (17, .iload_n 2, 1), (18, .aaload, 1), (19, .iconst 2, 1), (20, .iaload, 1), (21, .iload_n 2, 1), (22, .ishl, 1), (23, .ior, 1), (24, .istore_n 1, 1), (25, .iinc 2 1, 3), (28, .goto (-24), 3), (31, .iload_n 1, 1), (32, .ireturn, 1)]
theorem dX7_crossOnes : dec_ok cX7_crossOnes tX7_crossOnes = true := by decide +kernel
noncomputable def tX7_oddsOf : List (Nat × Instr × Nat) := [(0, .lconst 1, 1), (1, .lstore_n 2, 1), (2, .iconst 0, 1), (3, .istore 4, 2), (5, .iload 4, 2), (7, .aload_n 0, 1), (8, .getfield 74, 3), (11, .if_icmp .ge 82, 3), (14, .iload_n 1, 1), (15, .iload 4, 2), (17, .invokestatic 244, 3), (20, .istore 5, 2), (22, .aload_n 0, 1), (23, .getfield 54, 3), (26, .iload 4, 2), (28, .aaload, 1), (29, .iconst 2, 1), (30, .iaload, 1), (31, .iconst 1, 1), (32, .if_icmp .ne 21, 3), (35, .lload_n 2, 1), (36, .iload 5, 2), (38, .ifCond .eq 7, 3), (41, .lconst 0, 1), (42, .goto 6, 3), (45, .ldc2_w 120, 3), (48, .lmul, 1), (49, .lstore_n 2, 1), (50, .goto 37, 3), (53, .lload_n 2, 1), (54, .iload 5, 2), (56, .ifCond .eq 19, 3), (59, .bipush 10, 2), (61, .aload_n 0, 1), (62, .getfield 54, 3), (65, .iload 4, 2), (67, .aaload, 1), (68, .iconst 1, 1), (69, .iaload, 1), (70, .isub, 1), (71, .i2l, 1), (72, .goto 13, 3), (75, .aload_n 0, 1), (76, .getfield 54, 3), (79, .iload 4, 2), (81, .aaload, 1), (82, .iconst 1, 1), (83, .iaload, 1), (84, .i2l, 1), (85, .lmul, 1), (86, .lstore_n 2, 1), (87, .iinc 4 1, 3), (90, .goto (-85), 3), (93, .lload_n 2, 1), (94, .lreturn, 1)]
theorem dX7_oddsOf : dec_ok cX7_oddsOf tX7_oddsOf = true := by decide +kernel
noncomputable def tX7_sumOf : List (Nat × Instr × Nat) := [(0, .lconst 0, 1), (1, .lstore_n 3, 1), (2, .iconst 0, 1), (3, .istore 5, 2), (5, .iload 5, 2), (7, .aload_n 0, 1), (8, .invokevirtual 253, 3), (11, .if_icmp .gt 52, 3), (14, .iload_n 1, 1), (15, .iload_n 2, 1), (16, .if_icmp .ne 13, 3), (19, .aload_n 0, 1), (20, .iload_n 1, 1), (21, .iload 5, 2), (23, .invokevirtual 250, 3), (26, .goto 11, 3), (29, .aload_n 0, 1), (30, .iload_n 1, 1), (31, .iload_n 2, 1), (32, .iload 5, 2), (34, .invokevirtual 256, 3), (37, .istore 6, 2), (39, .lload_n 3, 1), (40, .iload 6, 2), (42, .ifCond .eq 12, 3), (45, .aload_n 0, 1), (46, .iload 5, 2), (48, .invokevirtual 260, 3), (51, .goto 4, 3), (54, .lconst 0, 1), (55, .ladd, 1), (56, .lstore_n 3, 1), (57, .iinc 5 1, 3), (60, .goto (-55), 3), (63, .lload_n 3, 1), (64, .lreturn, 1)]
theorem dX7_sumOf : dec_ok cX7_sumOf tX7_sumOf = true := by decide +kernel
noncomputable def tX7_odds : List (Nat × Instr × Nat) := [(0, .aload_n 0, 1), (1, .iload_n 1, 1), (2, .invokevirtual 241, 3), (5, .ifCond .eq 12, 3), (8, .aload_n 0, 1), (9, .iload_n 1, 1), (10, .iload_n 1, 1), (11, .invokevirtual 264, 3), (14, .goto 10, 3), (17, .aload_n 0, 1), (18, .bipush (-2), 2), (20, .invokevirtual 83, 3), (23, .i2l, 1), (24, .lreturn, 1)]
theorem dX7_odds : dec_ok cX7_odds tX7_odds = true := by decide +kernel
noncomputable def tX7_atOnce : List (Nat × Instr × Nat) := [(0, .aload_n 0, 1), (1, .iload_n 1, 1), (2, .invokevirtual 241, 3), (5, .ifCond .eq 25, 3), (8, .aload_n 0, 1), (9, .iload_n 2, 1), (10, .invokevirtual 241, 3), (13, .ifCond .eq 17, 3), (16, .iload_n 1, 1), (17, .iload_n 2, 1), (18, .if_icmp .eq 12, 3), (21, .aload_n 0, 1), (22, .iload_n 1, 1), (23, .iload_n 2, 1), (24, .invokevirtual 264, 3), (27, .goto 10, 3), (30, .aload_n 0, 1), (31, .bipush (-2), 2), (33, .invokevirtual 83, 3), (36, .i2l, 1), (37, .lreturn, 1)]
theorem dX7_atOnce : dec_ok cX7_atOnce tX7_atOnce = true := by decide +kernel
noncomputable def tX7_day : List (Nat × Instr × Nat) := [(0, .lconst 0, 1), (1, .lstore_n 1, 1), (2, .iconst 0, 1), (3, .istore_n 3, 1), (4, .iload_n 3, 1), (5, .aload_n 0, 1), (6, .invokevirtual 253, 3), (9, .if_icmp .gt 92, 3), (12, .aload_n 0, 1), (13, .iload_n 3, 1), (14, .invokevirtual 260, 3), (17, .lstore 4, 2), (19, .lload 4, 2), (21, .lconst 0, 1), (22, .lcmp, 1), (23, .ifCond .ne 7, 3), (26, .iconst 0, 1), (27, .goto 8, 3), (30, .aload_n 0, 1), (31, .iload_n 3, 1), (32, .invokevirtual 247, 3), (35, .istore 6, 2), (37, .iconst 0, 1), (38, .istore 7, 2), (40, .iload 7, 2), (42, .aload_n 0, 1), (43, .getfield 71, 3), (46, .if_icmp .ge 49, 3), (49, .lload 4, 2), (51, .lconst 0, 1), (52, .lcmp, 1), (53, .ifCond .le 42, 3), (56, .lload_n 1, 1), (57, .aload_n 0, 1), (58, .getfield 46, 3), (61, .iload 7, 2), (63, .iaload, 1), (64, .iload 6, 2), (66, .iconst (-1), 1), (67, .ixor, 1), (68, .iand, 1), (69, .ifCond .ne 17, 3), (72, .aload_n 0, 1), (73, .getfield 49, 3), (76, .iload 7, 2), (78, .iaload, 1), (79, .i2l, 1), (80, .lload 4, 2), (82, .lmul, 1), (83, .goto 4, 3), (86, .lconst 0, 1), (87, .ladd, 1), (88, .lstore_n 1, 1), (89, .iinc 7 1, 3), (92, .goto (-52), 3), (95, .iinc 3 1, 3), (98, .goto (-94), 3), (101, .lload_n 1, 1), (102, .lreturn, 1)]
theorem dX7_day : dec_ok cX7_day tX7_day = true := by decide +kernel
noncomputable def tX7_orders : List (Nat × Instr × Nat) := [(0, .iconst 1, 1), (1, .istore_n 1, 1), (2, .iconst 2, 1), (3, .istore_n 2, 1), (4, .iload_n 2, 1), (5, .iload_n 0, 1), (6, .if_icmp .gt 13, 3), (9, .iload_n 1, 1), (10, .iload_n 2, 1), (11, .imul, 1), (12, .istore_n 1, 1), (13, .iinc 2 1, 3), (16, .goto (-12), 3), (19, .iload_n 1, 1), (20, .ireturn, 1)]
theorem dX7_orders : dec_ok cX7_orders tX7_orders = true := by decide +kernel
noncomputable def tX7_powerOf : List (Nat × Instr × Nat) := [(0, .iconst 0, 1), (1, .istore_n 3, 1), (2, .iconst 0, 1), (3, .istore 4, 2), (5, .iload 4, 2), (7, .aload_n 0, 1), (8, .invokevirtual 253, 3), (11, .if_icmp .gt 69, 3), (14, .iload 4, 2), (16, .iload_n 2, 1), (17, .invokestatic 244, 3), (20, .ifCond .ne 54, 3), (23, .aload_n 0, 1), (24, .iload_n 1, 1), (25, .iload 4, 2), (27, .invokevirtual 250, 3), (30, .ifCond .ne 44, 3), (33, .aload_n 0, 1), (34, .iload_n 1, 1), (35, .iload 4, 2), (37, .iconst 1, 1), (38, .iload_n 2, 1), (39, .ishl, 1), (40, .ior, 1), (41, .invokevirtual 250, 3), (44, .ifCond .eq 30, 3), (47, .iload_n 3, 1), (48, .iload 4, 2), (50, .invokestatic 268, 3), (53, .invokestatic 271, 3), (56, .aload_n 0, 1), (57, .getfield 74, 3), (60, .iconst 1, 1), (61, .isub, 1), (62, .iload 4, 2), (64, .invokestatic 268, 3), (67, .isub, 1), (68, .invokestatic 271, 3), (71, .imul, 1), (72, .iadd, 1), (73, .istore_n 3, 1), (74, .iinc 4 1, 3), (77, .goto (-72), 3), (80, .iload_n 3, 1), (81, .ireturn, 1)]
theorem dX7_powerOf : dec_ok cX7_powerOf tX7_powerOf = true := by decide +kernel
noncomputable def tX7_power : List (Nat × Instr × Nat) := [(0, .aload_n 0, 1), (1, .iload_n 1, 1), (2, .invokevirtual 241, 3), (5, .ifCond .eq 20, 3), (8, .aload_n 0, 1), (9, .iload_n 2, 1), (10, .invokevirtual 125, 3), (13, .ifCond .eq 12, 3), (16, .aload_n 0, 1), (17, .iload_n 1, 1), (18, .iload_n 2, 1), (19, .invokevirtual 274, 3), (22, .goto 9, 3), (25, .aload_n 0, 1), (26, .bipush (-2), 2), (28, .invokevirtual 83, 3), (31, .ireturn, 1)]
theorem dX7_power : dec_ok cX7_power tX7_power = true := by decide +kernel
noncomputable def tX7_first : List (Nat × Instr × Nat) := [(0, .iconst (-1), 1), (1, .istore_n 1, 1), (2, .iconst 0, 1), (3, .istore_n 2, 1), (4, .iconst 0, 1), (5, .istore_n 3, 1), (6, .iload_n 3, 1), (7, .aload_n 0, 1), (8, .getfield 74, 3), (11, .if_icmp .ge 66, 3), (14, .iconst 0, 1), (15, .istore 4, 2), (17, .iconst 0, 1), (18, .istore 5, 2), (20, .iload 5, 2), (22, .aload_n 0, 1), (23, .getfield 71, 3), (26, .if_icmp .ge 29, 3), (29, .iload 4, 2), (31, .aload_n 0, 1), (32, .getfield 49, 3), (35, .iload 5, 2), (37, .iaload, 1), (38, .aload_n 0, 1), (39, .iload 5, 2), (41, .iload_n 3, 1), (42, .invokevirtual 274, 3), (45, .imul, 1), (46, .iadd, 1), (47, .istore 4, 2), (49, .iinc 5 1, 3), (52, .goto (-32), 3), (55, .iload_n 1, 1), (56, .iconst (-1), 1), (57, .if_icmp .eq 9, 3), (60, .iload 4, 2), (62, .iload_n 2, 1), (63, .if_icmp .le 8, 3), (66, .iload_n 3, 1), (67, .istore_n 1, 1), (68, .iload 4, 2), (70, .istore_n 2, 1), (71, .iinc 3 1, 3), (74, .goto (-68), 3), (77, .iload_n 1, 1), (78, .iconst (-1), 1), (79, .if_icmp .ne 12, 3), (82, .aload_n 0, 1), (83, .bipush (-5), 2), (85, .invokevirtual 83, 3), (88, .goto 4, 3), (91, .iload_n 1, 1), (92, .ireturn, 1)]
theorem dX7_first : dec_ok cX7_first tX7_first = true := by decide +kernel
noncomputable def tX7_fresh : List (Nat × Instr × Nat) := [(0, .aload_n 0, 1), (1, .getfield 110, 3), (4, .ifnonnull 14, 3), (7, .aload_n 0, 1), (8, .new 8, 3), (11, .dup, 1), (12, .invokespecial 278, 3), (15, .putfield 110, 3), (18, .aload_n 0, 1), (19, .getfield 110, 3), (22, .aload_n 0, 1), (23, .invokevirtual 237, 3), (26, .aload_n 0, 1), (27, .getfield 110, 3), (30, .areturn, 1)]
theorem dX7_fresh : dec_ok cX7_fresh tX7_fresh = true := by decide +kernel
noncomputable def tX7_firstWithRoom : List (Nat × Instr × Nat) := [(0, .iconst 0, 1), (1, .istore_n 3, 1), (2, .iload_n 3, 1), (3, .iload_n 1, 1), (4, .if_icmp .ge 91, 3), (7, .iload_n 2, 1), (8, .iconst (-1), 1), (9, .if_icmp .ne 7, 3), (12, .iconst 1, 1), (13, .goto 4, 3), (16, .iconst 0, 1), (17, .istore 4, 2), (19, .iconst 0, 1), (20, .istore 5, 2), (22, .iload 5, 2), (24, .aload_n 0, 1), (25, .getfield 64, 3), (28, .if_icmp .ge 46, 3), (31, .iload 4, 2), (33, .ifCond .ne 41, 3), (36, .aload_n 0, 1), (37, .getfield 46, 3), (40, .iload_n 2, 1), (41, .iaload, 1), (42, .iload 5, 2), (44, .invokestatic 244, 3), (47, .ifCond .eq 18, 3), (50, .aload_n 0, 1), (51, .getfield 40, 3), (54, .iload 5, 2), (56, .iaload, 1), (57, .iload_n 3, 1), (58, .if_icmp .ne 7, 3), (61, .iconst 1, 1), (62, .goto 4, 3), (65, .iconst 0, 1), (66, .istore 4, 2), (68, .iinc 5 1, 3), (71, .goto (-49), 3), (74, .iload 4, 2), (76, .ifCond .eq 13, 3), (79, .aload_n 0, 1), (80, .iload_n 3, 1), (81, .invokevirtual 135, 3), (84, .ifCond .eq 5, 3), (87, .iload_n 3, 1), (88, .ireturn, 1), (89, .iinc 3 1, 3), (92, .goto (-90), 3), (95, .iconst (-1), 1), (96, .ireturn, 1)]
theorem dX7_firstWithRoom : dec_ok cX7_firstWithRoom tX7_firstWithRoom = true := by decide +kernel
noncomputable def tX7_holdWhole : List (Nat × Instr × Nat) := [(0, .iconst 0, 1), (1, .istore_n 2, 1), (2, .iconst 0, 1), (3, .istore_n 3, 1), (4, .iconst 0, 1), (5, .istore 4, 2), (7, .iload 4, 2), (9, .aload_n 0, 1), (10, .getfield 71, 3), (13, .if_icmp .ge 160, 3), (16, .iconst (-1), 1), (17, .istore 5, 2), (19, .iconst 0, 1), (20, .istore 6, 2), (22, .iload 6, 2), (24, .aload_n 0, 1), (25, .getfield 71, 3), (28, .if_icmp .ge 50, 3), (31, .iload_n 2, 1), (32, .iload 6, 2), (34, .invokestatic 244, 3), (37, .ifCond .ne 31, 3), (40, .iload 5, 2), (42, .iconst (-1), 1), (43, .if_icmp .eq 20, 3), (46, .aload_n 0, 1), (47, .getfield 49, 3), (50, .iload 6, 2), (52, .iaload, 1), (53, .aload_n 0, 1), (54, .getfield 49, 3), (57, .iload 5, 2), (59, .iaload, 1), (60, .if_icmp .le 8, 3), (63, .iload 6, 2), (65, .goto 5, 3), (68, .iload 5, 2), (70, .istore 5, 2), (72, .iinc 6 1, 3), (75, .goto (-53), 3), (78, .iload_n 2, 1), (79, .iconst 1, 1), (80, .iload 5, 2), (82, .ishl, 1), (83, .ior, 1), (84, .istore_n 2, 1), (85, .iconst 0, 1), (86, .istore 6, 2), (88, .iload 6, 2), (90, .aload_n 0, 1), (91, .getfield 64, 3), (94, .if_icmp .ge 73, 3), (97, .aload_n 0, 1), (98, .getfield 46, 3), (101, .iload 5, 2), (103, .iaload, 1), (104, .iload 6, 2), (106, .invokestatic 244, 3), (109, .ifCond .eq 52, 3), (112, .iload_n 3, 1), (113, .iload 6, 2), (115, .invokestatic 244, 3), (118, .ifCond .ne 43, 3), (121, .aload_n 0, 1), (122, .iload_n 1, 1), (123, .iload 5, 2), (125, .invokevirtual 279, 3), (128, .istore 7, 2), (130, .aload_n 0, 1), (131, .getfield 40, 3), (134, .iload 6, 2), (136, .iload 7, 2), (138, .iconst (-1), 1), (139, .if_icmp .ne 12, 3), (142, .aload_n 0, 1), (143, .iload_n 1, 1), (144, .iconst (-1), 1), (145, .invokevirtual 279, 3), (148, .goto 5, 3), (151, .iload 7, 2), (153, .iastore, 1), (154, .iload_n 3, 1), (155, .iconst 1, 1), (156, .iload 6, 2), (158, .ishl, 1), (159, .ior, 1), (160, .istore_n 3, 1), (161, .iinc 6 1, 3), (164, .goto (-76), 3), (167, .iinc 4 1, 3), (170, .goto (-163), 3), (173, .iconst 0, 1), (174, .istore 4, 2), (176, .iload 4, 2), (178, .aload_n 0, 1), (179, .getfield 64, 3), (182, .if_icmp .ge 41, 3), (185, .aload_n 0, 1), (186, .getfield 40, 3), (189, .iload 4, 2), (191, .iload_n 3, 1), (192, .iload 4, 2), (194, .invokestatic 244, 3), (197, .ifCond .eq 13, 3), (200, .aload_n 0, 1), (201, .getfield 40, 3), (204, .iload 4, 2), (206, .iaload, 1), (207, .goto 9, 3), (210, .aload_n 0, 1), (211, .iload_n 1, 1), (212, .iconst (-1), 1), (213, .invokevirtual 279, 3), (216, .iastore, 1), (217, .iinc 4 1, 3), (220, .goto (-44), 3), (223, .return_, 1)]
theorem dX7_holdWhole : dec_ok cX7_holdWhole tX7_holdWhole = true := by decide +kernel
noncomputable def tX7_nextWithRoom : List (Nat × Instr × Nat) := [(0, .iconst 0, 1), (1, .istore_n 3, 1), (2, .iload_n 3, 1), (3, .aload_n 0, 1), (4, .getfield 74, 3), (7, .if_icmp .ge 37, 3), (10, .iload_n 1, 1), (11, .iload_n 3, 1), (12, .iadd, 1), (13, .aload_n 0, 1), (14, .getfield 74, 3), (17, .irem, 1), (18, .istore 4, 2), (20, .iload 4, 2), (22, .iload_n 2, 1), (23, .if_icmp .eq 15, 3), (26, .aload_n 0, 1), (27, .iload 4, 2), (29, .invokevirtual 135, 3), (32, .ifCond .eq 6, 3), (35, .iload 4, 2), (37, .ireturn, 1), (38, .iinc 3 1, 3), (41, .goto (-39), 3), (44, .iconst (-1), 1), (45, .ireturn, 1)]
theorem dX7_nextWithRoom : dec_ok cX7_nextWithRoom tX7_nextWithRoom = true := by decide +kernel
noncomputable def tX7_surest : List (Nat × Instr × Nat) := [(0, .iconst (-1), 1), (1, .istore_n 1, 1), (2, .iconst 0, 1), (3, .istore_n 2, 1), (4, .iload_n 2, 1), (5, .aload_n 0, 1), (6, .getfield 74, 3), (9, .if_icmp .ge 47, 3), (12, .aload_n 0, 1), (13, .iload_n 2, 1), (14, .invokevirtual 135, 3), (17, .ifCond .eq 31, 3), (20, .iload_n 1, 1), (21, .iconst (-1), 1), (22, .if_icmp .eq 22, 3), (25, .aload_n 0, 1), (26, .getfield 54, 3), (29, .iload_n 2, 1), (30, .aaload, 1), (31, .iconst 1, 1), (32, .iaload, 1), (33, .aload_n 0, 1), (34, .getfield 54, 3), (37, .iload_n 1, 1), (38, .aaload, 1), (39, .iconst 1, 1), (40, .iaload, 1), (41, .if_icmp .ge 7, 3), (44, .iload_n 2, 1), (45, .goto 4, 3), (48, .iload_n 1, 1), (49, .istore_n 1, 1), (50, .iinc 2 1, 3), (53, .goto (-49), 3), (56, .iload_n 1, 1), (57, .ireturn, 1)]
theorem dX7_surest : dec_ok cX7_surest tX7_surest = true := by decide +kernel
noncomputable def tX7_holdAll : List (Nat × Instr × Nat) := [(0, .iconst 0, 1), (1, .istore_n 3, 1), (2, .iload_n 3, 1), (3, .aload_n 0, 1), (4, .getfield 64, 3), (7, .if_icmp .ge 23, 3), (10, .aload_n 0, 1), (11, .getfield 40, 3), (14, .iload_n 3, 1), (15, .iconst (-1), 1), (16, .iastore, 1), (17, .aload_n 0, 1), (18, .getfield 43, 3), (21, .iload_n 3, 1), (22, .iconst (-1), 1), (23, .iastore, 1), (24, .iinc 3 1, 3), (27, .goto (-25), 3), (30, .iload_n 1, 1), (31, .iconst 1, 1), (32, .if_icmp .eq 8, 3), (35, .iload_n 1, 1), (36, .iconst 5, 1), (37, .if_icmp .ne 33, 3), (40, .aload_n 0, 1), (41, .iload_n 1, 1), (42, .iconst 5, 1), (43, .if_icmp .ne 19, 3), (46, .iload_n 2, 1), (47, .ifCond .le 15, 3), (50, .iload_n 2, 1), (51, .aload_n 0, 1), (52, .getfield 74, 3), (55, .if_icmp .ge 7, 3), (58, .iload_n 2, 1), (59, .goto 7, 3), (62, .aload_n 0, 1), (63, .getfield 74, 3), (66, .invokevirtual 282, 3), (69, .return_, 1), (70, .aload_n 0, 1), (71, .getfield 74, 3), (74, .ifCond .ne 7, 3), (77, .iconst 0, 1), (78, .goto 9, 3), (81, .iload_n 2, 1), (82, .aload_n 0, 1), (83, .getfield 74, 3), (86, .irem, 1), (87, .istore_n 3, 1), (88, .iconst 0, 1), (89, .istore 4, 2), (91, .iload 4, 2), (93, .aload_n 0, 1), (94, .getfield 64, 3), (97, .if_icmp .ge 59, 3), (100, .aload_n 0, 1), (101, .getfield 40, 3), (104, .iload 4, 2), (106, .iload_n 1, 1), (107, .iconst 4, 1), (108, .if_icmp .ne 10, 3), (111, .aload_n 0, 1), (112, .invokevirtual 286, 3), (115, .goto 9, 3), (118, .aload_n 0, 1), (119, .iload_n 3, 1), (120, .iconst (-1), 1), (121, .invokevirtual 289, 3), (124, .iastore, 1), (125, .aload_n 0, 1), (126, .getfield 40, 3), (129, .iload 4, 2), (131, .iaload, 1), (132, .iconst (-1), 1), (133, .if_icmp .ne 7, 3), (136, .iload_n 3, 1), (137, .goto 12, 3), (140, .aload_n 0, 1), (141, .getfield 40, 3), (144, .iload 4, 2), (146, .iaload, 1), (147, .iconst 1, 1), (148, .iadd, 1), (149, .istore_n 3, 1), (150, .iinc 4 1, 3), (153, .goto (-62), 3), (156, .iconst 0, 1), (157, .istore 4, 2), (159, .iload 4, 2), (161, .aload_n 0, 1), (162, .getfield 64, 3), (165, .if_icmp .ge 58, 3), (168, .iload_n 1, 1), (169, .iconst 3, 1), (170, .if_icmp .ne 53, 3), (173, .aload_n 0, 1), (174, .getfield 43, 3), (177, .iload 4, 2), (179, .aload_n 0, 1), (180, .iload_n 3, 1), (181, .aload_n 0, 1), (182, .getfield 40, 3), (185, .iload 4, 2), (187, .iaload, 1), (188, .invokevirtual 289, 3), (191, .iastore, 1), (192, .aload_n 0, 1), (193, .getfield 43, 3), (196, .iload 4, 2), (198, .iaload, 1), (199, .iconst (-1), 1), (200, .if_icmp .ne 7, 3), (203, .iload_n 3, 1), (204, .goto 12, 3), (207, .aload_n 0, 1), (208, .getfield 43, 3), (211, .iload 4, 2), (213, .iaload, 1), (214, .iconst 1, 1), (215, .iadd, 1), (216, .istore_n 3, 1), (217, .iinc 4 1, 3), (220, .goto (-61), 3), (223, .return_, 1)]
theorem dX7_holdAll : dec_ok cX7_holdAll tX7_holdAll = true := by decide +kernel
noncomputable def tX7_lay : List (Nat × Instr × Nat) := [(0, .aload_n 0, 1), (1, .iload_n 1, 1), (2, .invokevirtual 292, 3), (5, .istore_n 2, 1), (6, .iload_n 2, 1), (7, .ifCond .eq 5, 3), (10, .iload_n 2, 1), (11, .ireturn, 1), (12, .aload_n 0, 1), (13, .aload_n 0, 1), (14, .getfield 28, 3), (17, .iload_n 1, 1), (18, .iaload, 1), (19, .aload_n 0, 1), (20, .getfield 31, 3), (23, .iload_n 1, 1), (24, .iaload, 1), (25, .invokevirtual 106, 3), (28, .aload_n 0, 1), (29, .iconst 0, 1), (30, .invokevirtual 114, 3), (33, .ireturn, 1)]
theorem dX7_lay : dec_ok cX7_lay tX7_lay = true := by decide +kernel
noncomputable def tX7_wouldBy : List (Nat × Instr × Nat) := [(0, .aload_n 0, 1), (1, .invokevirtual 102, 3), (4, .aload_n 0, 1), (5, .getfield 28, 3), (8, .iload_n 1, 1), (9, .iaload, 1), (10, .aload_n 0, 1), (11, .getfield 31, 3), (14, .iload_n 1, 1), (15, .iaload, 1), (16, .invokevirtual 106, 3), (19, .aload_n 0, 1), (20, .getfield 110, 3), (23, .invokevirtual 295, 3), (26, .lreturn, 1)]
theorem dX7_wouldBy : dec_ok cX7_wouldBy tX7_wouldBy = true := by decide +kernel
noncomputable def tX7_would : List (Nat × Instr × Nat) := [(0, .aload_n 0, 1), (1, .iload_n 1, 1), (2, .invokevirtual 292, 3), (5, .istore_n 2, 1), (6, .iload_n 2, 1), (7, .ifCond .eq 8, 3), (10, .iload_n 2, 1), (11, .i2l, 1), (12, .goto 8, 3), (15, .aload_n 0, 1), (16, .iload_n 1, 1), (17, .invokevirtual 299, 3), (20, .lreturn, 1)]
theorem dX7_would : dec_ok cX7_would tX7_would = true := by decide +kernel
noncomputable def tX7_head : List (Nat × Instr × Nat) := [(0, .iconst (-1), 1), (1, .istore_n 1, 1), (2, .lconst 0, 1), (3, .lstore_n 2, 1), (4, .iconst 0, 1), (5, .istore 4, 2), (7, .iload 4, 2), (9, .bipush 8, 2), (11, .if_icmp .ge 46, 3), (14, .aload_n 0, 1), (15, .getfield 7, 3), (18, .iload 4, 2), (20, .iaload, 1), (21, .iconst 2, 1), (22, .if_icmp .ne 29, 3), (25, .aload_n 0, 1), (26, .iload 4, 2), (28, .invokevirtual 299, 3), (31, .lstore 5, 2), (33, .iload_n 1, 1), (34, .iconst (-1), 1), (35, .if_icmp .eq 10, 3), (38, .lload 5, 2), (40, .lload_n 2, 1), (41, .lcmp, 1), (42, .ifCond .le 9, 3), (45, .iload 4, 2), (47, .istore_n 1, 1), (48, .lload 5, 2), (50, .lstore_n 2, 1), (51, .iinc 4 1, 3), (54, .goto (-47), 3), (57, .iload_n 1, 1), (58, .iconst (-1), 1), (59, .if_icmp .ne 12, 3), (62, .aload_n 0, 1), (63, .bipush (-5), 2), (65, .invokevirtual 83, 3), (68, .goto 4, 3), (71, .iload_n 1, 1), (72, .ireturn, 1)]
theorem dX7_head : dec_ok cX7_head tX7_head = true := by decide +kernel
noncomputable def tX7_tryFrom : List (Nat × Instr × Nat) := [(0, .iload_n 2, 1), (1, .aload_n 0, 1), (2, .getfield 64, 3), (5, .if_icmp .ne 55, 3), (8, .aload_n 1, 1), (9, .invokevirtual 295, 3), (12, .lstore_n 3, 1), (13, .lload_n 3, 1), (14, .aload_n 0, 1), (15, .getfield 302, 3), (18, .lcmp, 1), (19, .ifCond .le 40, 3), (22, .aload_n 0, 1), (23, .lload_n 3, 1), (24, .putfield 302, 3), (27, .iconst 0, 1), (28, .istore 5, 2), (30, .iload 5, 2), (32, .aload_n 0, 1), (33, .getfield 64, 3), (36, .if_icmp .ge 23, 3), (39, .aload_n 0, 1), (40, .getfield 61, 3), (43, .iload 5, 2), (45, .aload_n 1, 1), (46, .getfield 40, 3), (49, .iload 5, 2), (51, .iaload, 1), (52, .iastore, 1), (53, .iinc 5 1, 3), (56, .goto (-26), 3), (59, .return_, 1), (60, .iconst (-1), 1), (61, .istore_n 3, 1), (62, .iload_n 3, 1), (63, .aload_n 0, 1), (64, .getfield 74, 3), (67, .if_icmp .ge 44, 3), (70, .aload_n 1, 1), (71, .getfield 40, 3), (74, .iload_n 2, 1), (75, .iconst (-1), 1), (76, .iastore, 1), (77, .iload_n 3, 1), (78, .iconst (-1), 1), (79, .if_icmp .eq 11, 3), (82, .aload_n 1, 1), (83, .iload_n 3, 1), (84, .invokevirtual 135, 3), (87, .ifCond .eq 18, 3), (90, .aload_n 1, 1), (91, .getfield 40, 3), (94, .iload_n 2, 1), (95, .iload_n 3, 1), (96, .iastore, 1), (97, .aload_n 0, 1), (98, .aload_n 1, 1), (99, .iload_n 2, 1), (100, .iconst 1, 1), (101, .iadd, 1), (102, .invokevirtual 305, 3), (105, .iinc 3 1, 3), (108, .goto (-46), 3), (111, .aload_n 1, 1), (112, .getfield 40, 3), (115, .iload_n 2, 1), (116, .iconst (-1), 1), (117, .iastore, 1), (118, .return_, 1)]
theorem dX7_tryFrom : dec_ok cX7_tryFrom tX7_tryFrom = true := by decide +kernel
noncomputable def tX7_findBest : List (Nat × Instr × Nat) := [(0, .aload_n 0, 1), (1, .getfield 74, 3), (4, .iconst 4, 1), (5, .if_icmp .gt 12, 3), (8, .aload_n 0, 1), (9, .getfield 64, 3), (12, .bipush 6, 2), (14, .if_icmp .le 5, 3), (17, .iconst 0, 1), (18, .ireturn, 1), (19, .aload_n 0, 1), (20, .invokevirtual 102, 3), (23, .astore_n 1, 1), (24, .iconst 0, 1), (25, .istore_n 2, 1), (26, .iload_n 2, 1), (27, .aload_n 0, 1), (28, .getfield 64, 3), (31, .if_icmp .ge 23, 3), (34, .aload_n 1, 1), (35, .getfield 40, 3), (38, .iload_n 2, 1), (39, .iconst (-1), 1), (40, .iastore, 1), (41, .aload_n 1, 1), (42, .getfield 43, 3), (45, .iload_n 2, 1), (46, .iconst (-1), 1), (47, .iastore, 1), (48, .iinc 2 1, 3), (51, .goto (-25), 3), (54, .aload_n 0, 1), (55, .ldc2_w 309, 3), (58, .putfield 302, 3), (61, .aload_n 0, 1), (62, .aload_n 1, 1), (63, .iconst 0, 1), (64, .invokevirtual 305, 3), (67, .iconst 1, 1), (68, .ireturn, 1)]
theorem dX7_findBest : dec_ok cX7_findBest tX7_findBest = true := by decide +kernel
noncomputable def tX7_best : List (Nat × Instr × Nat) := [(0, .aload_n 0, 1), (1, .iload_n 1, 1), (2, .invokevirtual 132, 3), (5, .ifCond .ne 10, 3), (8, .aload_n 0, 1), (9, .bipush (-2), 2), (11, .invokevirtual 83, 3), (14, .ireturn, 1), (15, .aload_n 0, 1), (16, .invokevirtual 311, 3), (19, .ifCond .eq 12, 3), (22, .aload_n 0, 1), (23, .getfield 61, 3), (26, .iload_n 1, 1), (27, .iaload, 1), (28, .goto 9, 3), (31, .aload_n 0, 1), (32, .bipush (-5), 2), (34, .invokevirtual 83, 3), (37, .ireturn, 1)]
theorem dX7_best : dec_ok cX7_best tX7_best = true := by decide +kernel
noncomputable def tX7_bestDay : List (Nat × Instr × Nat) := [(0, .aload_n 0, 1), (1, .invokevirtual 311, 3), (4, .ifCond .eq 10, 3), (7, .aload_n 0, 1), (8, .getfield 302, 3), (11, .goto 10, 3), (14, .aload_n 0, 1), (15, .bipush (-5), 2), (17, .invokevirtual 83, 3), (20, .i2l, 1), (21, .lreturn, 1)]
theorem dX7_bestDay : dec_ok cX7_bestDay tX7_bestDay = true := by decide +kernel
noncomputable def tX7_bears : List (Nat × Instr × Nat) := [(0, .aload_n 0, 1), (1, .iload_n 1, 1), (2, .invokevirtual 241, 3), (5, .ifCond .ne 10, 3), (8, .aload_n 0, 1), (9, .bipush (-2), 2), (11, .invokevirtual 83, 3), (14, .ireturn, 1), (15, .aload_n 0, 1), (16, .iload_n 1, 1), (17, .invokevirtual 314, 3), (20, .istore_n 2, 1), (21, .iload_n 2, 1), (22, .ifCond .ne 12, 3), (25, .aload_n 0, 1), (26, .bipush (-5), 2), (28, .invokevirtual 83, 3), (31, .goto 6, 3), (34, .iload_n 2, 1), (35, .iconst 1, 1), (36, .isub, 1), (37, .ireturn, 1)]
theorem dX7_bears : dec_ok cX7_bears tX7_bears = true := by decide +kernel
noncomputable def tX7_harms : List (Nat × Instr × Nat) := [(0, .iconst (-1), 1), (1, .istore_n 1, 1), (2, .lconst 0, 1), (3, .lstore_n 2, 1), (4, .iconst 0, 1), (5, .istore 4, 2), (7, .iload 4, 2), (9, .aload_n 0, 1), (10, .getfield 74, 3), (13, .if_icmp .ge 65, 3), (16, .aload_n 0, 1), (17, .getfield 54, 3), (20, .iload 4, 2), (22, .aaload, 1), (23, .iconst 2, 1), (24, .iaload, 1), (25, .ifCond .ne 47, 3), (28, .aload_n 0, 1), (29, .getfield 54, 3), (32, .iload 4, 2), (34, .aaload, 1), (35, .iconst 2, 1), (36, .iconst 1, 1), (37, .iastore, 1), (38, .aload_n 0, 1), (39, .invokevirtual 295, 3), (42, .lstore 5, 2), (44, .aload_n 0, 1), (45, .getfield 54, 3), (48, .iload 4, 2), (50, .aaload, 1), (51, .iconst 2, 1), (52, .iconst 0, 1), (53, .iastore, 1), (54, .iload_n 1, 1), (55, .iconst (-1), 1), (56, .if_icmp .eq 10, 3), (59, .lload 5, 2), (61, .lload_n 2, 1), (62, .lcmp, 1), (63, .ifCond .ge 9, 3), (66, .iload 4, 2), (68, .istore_n 1, 1), (69, .lload 5, 2), (71, .lstore_n 2, 1), (72, .iinc 4 1, 3), (75, .goto (-68), 3), (78, .iload_n 1, 1), (79, .iconst (-1), 1), (80, .if_icmp .ne 12, 3), (83, .aload_n 0, 1), (84, .bipush (-5), 2), (86, .invokevirtual 83, 3), (89, .goto 4, 3), (92, .iload_n 1, 1), (93, .ireturn, 1)]
theorem dX7_harms : dec_ok cX7_harms tX7_harms = true := by decide +kernel
noncomputable def tX7_anyWorks : List (Nat × Instr × Nat) := [(0, .iconst 0, 1), (1, .istore_n 3, 1), (2, .iload_n 3, 1), (3, .aload_n 0, 1), (4, .getfield 71, 3), (7, .if_icmp .ge 30, 3), (10, .aload_n 0, 1), (11, .getfield 46, 3), (14, .iload_n 3, 1), (15, .iaload, 1), (16, .aload_n 0, 1), (17, .iload_n 1, 1), (18, .invokevirtual 247, 3), (21, .iconst (-1), 1), (22, .ixor, 1), (23, .iload_n 2, 1), (24, .ior, 1), (25, .iand, 1), (26, .ifCond .ne 5, 3), (29, .iconst 1, 1), (30, .ireturn, 1), (31, .iinc 3 1, 3), (34, .goto (-32), 3), (37, .iconst 0, 1), (38, .ireturn, 1)]
theorem dX7_anyWorks : dec_ok cX7_anyWorks tX7_anyWorks = true := by decide +kernel
noncomputable def tX7_least : List (Nat × Instr × Nat) := [(0, .aload_n 0, 1), (1, .invokevirtual 253, 3), (4, .istore_n 1, 1), (5, .aload_n 0, 1), (6, .invokevirtual 253, 3), (9, .istore_n 2, 1), (10, .iload_n 2, 1), (11, .ifCond .lt 42, 3), (14, .aload_n 0, 1), (15, .aload_n 0, 1), (16, .invokevirtual 253, 3), (19, .iload_n 2, 1), (20, .iconst (-1), 1), (21, .ixor, 1), (22, .iand, 1), (23, .iconst 0, 1), (24, .invokevirtual 317, 3), (27, .ifCond .ne 18, 3), (30, .iload_n 2, 1), (31, .invokestatic 268, 3), (34, .iload_n 1, 1), (35, .invokestatic 268, 3), (38, .if_icmp .gt 7, 3), (41, .iload_n 2, 1), (42, .goto 4, 3), (45, .iload_n 1, 1), (46, .istore_n 1, 1), (47, .iinc 2 (-1), 3), (50, .goto (-40), 3), (53, .iload_n 1, 1), (54, .ireturn, 1)]
theorem dX7_least : dec_ok cX7_least tX7_least = true := by decide +kernel
noncomputable def tX7_stolen : List (Nat × Instr × Nat) := [(0, .iconst 1, 1), (1, .aload_n 0, 1), (2, .getfield 64, 3), (5, .ishl, 1), (6, .iconst 1, 1), (7, .isub, 1), (8, .istore_n 1, 1), (9, .iload_n 1, 1), (10, .istore_n 2, 1), (11, .iload_n 2, 1), (12, .ifCond .lt 38, 3), (15, .iload_n 2, 1), (16, .invokestatic 268, 3), (19, .iload_n 1, 1), (20, .invokestatic 268, 3), (23, .if_icmp .gt 19, 3), (26, .aload_n 0, 1), (27, .aload_n 0, 1), (28, .invokevirtual 253, 3), (31, .iload_n 2, 1), (32, .invokevirtual 317, 3), (35, .ifCond .ne 7, 3), (38, .iload_n 2, 1), (39, .goto 4, 3), (42, .iload_n 1, 1), (43, .istore_n 1, 1), (44, .iinc 2 (-1), 3), (47, .goto (-36), 3), (50, .iload_n 1, 1), (51, .ireturn, 1)]
theorem dX7_stolen : dec_ok cX7_stolen tX7_stolen = true := by decide +kernel
noncomputable def tX7_spare : List (Nat × Instr × Nat) := [(0, .iconst (-1), 1), (1, .istore_n 1, 1), (2, .aload_n 0, 1), (3, .invokevirtual 295, 3), (6, .lstore_n 2, 1), (7, .iconst 0, 1), (8, .istore 4, 2), (10, .iload 4, 2), (12, .aload_n 0, 1), (13, .getfield 64, 3), (16, .if_icmp .ge 101, 3), (19, .iconst 0, 1), (20, .istore 5, 2), (22, .iload 5, 2), (24, .aload_n 0, 1), (25, .getfield 74, 3), (28, .if_icmp .ge 83, 3), (31, .aload_n 0, 1), (32, .getfield 43, 3), (35, .iload 4, 2), (37, .iaload, 1), (38, .iconst (-1), 1), (39, .if_icmp .ne 72, 3), (42, .iload 5, 2), (44, .aload_n 0, 1), (45, .getfield 40, 3), (48, .iload 4, 2), (50, .iaload, 1), (51, .if_icmp .eq 54, 3), (54, .aload_n 0, 1), (55, .iload 5, 2), (57, .invokevirtual 135, 3), (60, .ifCond .eq 45, 3), (63, .aload_n 0, 1), (64, .getfield 43, 3), (67, .iload 4, 2), (69, .iload 5, 2), (71, .iastore, 1), (72, .aload_n 0, 1), (73, .invokevirtual 295, 3), (76, .lstore 6, 2), (78, .aload_n 0, 1), (79, .getfield 43, 3), (82, .iload 4, 2), (84, .iconst (-1), 1), (85, .iastore, 1), (86, .lload 6, 2), (88, .lload_n 2, 1), (89, .lcmp, 1), (90, .ifCond .le 15, 3), (93, .bipush 10, 2), (95, .iload 4, 2), (97, .imul, 1), (98, .iload 5, 2), (100, .iadd, 1), (101, .istore_n 1, 1), (102, .lload 6, 2), (104, .lstore_n 2, 1), (105, .iinc 5 1, 3), (108, .goto (-86), 3), (111, .iinc 4 1, 3), (114, .goto (-104), 3), (117, .iload_n 1, 1), (118, .ireturn, 1)]
theorem dX7_spare : dec_ok cX7_spare tX7_spare = true := by decide +kernel
noncomputable def tX7_gift : List (Nat × Instr × Nat) := [(0, .aload_n 0, 1), (1, .iload_n 1, 1), (2, .invokevirtual 132, 3), (5, .ifCond .eq 11, 3), (8, .aload_n 0, 1), (9, .iload_n 2, 1), (10, .invokevirtual 125, 3), (13, .ifCond .ne 15, 3), (16, .aload_n 0, 1), (17, .bipush (-2), 2), (19, .invokevirtual 83, 3), (22, .i2l, 1), (23, .ldc2_w 320, 3), (26, .lsub, 1), (27, .lreturn, 1), (28, .aload_n 0, 1), (29, .getfield 40, 3), (32, .iload_n 1, 1), (33, .iaload, 1), (34, .istore_n 3, 1), (35, .iload_n 3, 1), (36, .iload_n 2, 1), (37, .if_icmp .eq 23, 3), (40, .aload_n 0, 1), (41, .iload_n 2, 1), (42, .invokevirtual 135, 3), (45, .ifCond .ne 15, 3), (48, .aload_n 0, 1), (49, .bipush (-5), 2), (51, .invokevirtual 83, 3), (54, .i2l, 1), (55, .ldc2_w 320, 3), (58, .lsub, 1), (59, .lreturn, 1), (60, .aload_n 0, 1), (61, .invokevirtual 295, 3), (64, .lstore 4, 2), (66, .aload_n 0, 1), (67, .getfield 40, 3), (70, .iload_n 1, 1), (71, .iload_n 2, 1), (72, .iastore, 1), (73, .aload_n 0, 1), (74, .invokevirtual 295, 3), (77, .lstore 6, 2), (79, .aload_n 0, 1), (80, .getfield 40, 3), (83, .iload_n 1, 1), (84, .iload_n 3, 1), (85, .iastore, 1), (86, .lload 6, 2), (88, .lload 4, 2), (90, .lsub, 1), (91, .lreturn, 1)]
theorem dX7_gift : dec_ok cX7_gift tX7_gift = true := by decide +kernel
noncomputable def tX7_never : List (Nat × Instr × Nat) := [(0, .iconst 0, 1), (1, .istore_n 2, 1), (2, .iload_n 1, 1), (3, .ifCond .eq 43, 3), (6, .iconst 0, 1), (7, .istore_n 3, 1), (8, .iload_n 3, 1), (9, .aload_n 0, 1), (10, .getfield 71, 3), (13, .if_icmp .ge 31, 3), (16, .iload_n 2, 1), (17, .aload_n 0, 1), (18, .iload_n 3, 1), (19, .aload_n 0, 1), (20, .invokevirtual 253, 3), (23, .invokevirtual 250, 3), (26, .ifCond .eq 7, 3), (29, .iconst 0, 1), (30, .goto 6, 3), (33, .iconst 1, 1), (34, .iload_n 3, 1), (35, .ishl, 1), (36, .ior, 1), (37, .istore_n 2, 1), (38, .iinc 3 1, 3), (41, .goto (-33), 3), (44, .iload_n 2, 1), (45, .ireturn, 1), (46, .iconst 1, 1), (47, .aload_n 0, 1), (48, .getfield 64, 3), (51, .ishl, 1), (52, .iconst 1, 1), (53, .isub, 1), (54, .aload_n 0, 1), (55, .aload_n 0, 1), (56, .invokevirtual 253, 3), (59, .invokevirtual 247, 3), (62, .iconst (-1), 1), (63, .ixor, 1), (64, .iand, 1), (65, .ireturn, 1)]
theorem dX7_never : dec_ok cX7_never tX7_never = true := by decide +kernel
noncomputable def tX7_with : List (Nat × Instr × Nat) := [(0, .aload_n 0, 1), (1, .iload_n 1, 1), (2, .invokevirtual 241, 3), (5, .ifCond .ne 10, 3), (8, .aload_n 0, 1), (9, .bipush (-2), 2), (11, .invokevirtual 83, 3), (14, .ireturn, 1), (15, .iconst (-1), 1), (16, .istore_n 2, 1), (17, .iconst 0, 1), (18, .istore_n 3, 1), (19, .iload_n 3, 1), (20, .aload_n 0, 1), (21, .invokevirtual 253, 3), (24, .if_icmp .gt 40, 3), (27, .aload_n 0, 1), (28, .iload_n 1, 1), (29, .iload_n 3, 1), (30, .invokevirtual 250, 3), (33, .ifCond .eq 23, 3), (36, .iload_n 2, 1), (37, .iconst (-1), 1), (38, .if_icmp .eq 14, 3), (41, .iload_n 3, 1), (42, .invokestatic 268, 3), (45, .iload_n 2, 1), (46, .invokestatic 268, 3), (49, .if_icmp .ge 7, 3), (52, .iload_n 3, 1), (53, .goto 4, 3), (56, .iload_n 2, 1), (57, .istore_n 2, 1), (58, .iinc 3 1, 3), (61, .goto (-42), 3), (64, .iload_n 2, 1), (65, .iconst (-1), 1), (66, .if_icmp .ne 12, 3), (69, .aload_n 0, 1), (70, .bipush (-5), 2), (72, .invokevirtual 83, 3), (75, .goto 4, 3), (78, .iload_n 2, 1), (79, .ireturn, 1)]
theorem dX7_with : dec_ok cX7_with tX7_with = true := by decide +kernel
noncomputable def tX7_worstOf : List (Nat × Instr × Nat) := [(0, .aload_n 0, 1), (1, .invokevirtual 253, 3), (4, .aload_n 0, 1), (5, .invokevirtual 322, 3), (8, .iconst (-1), 1), (9, .ixor, 1), (10, .iand, 1), (11, .istore_n 2, 1), (12, .bipush 9, 2), (14, .istore_n 3, 1), (15, .iconst 0, 1), (16, .istore 4, 2), (18, .iload 4, 2), (20, .aload_n 0, 1), (21, .invokevirtual 253, 3), (24, .if_icmp .gt 51, 3), (27, .iload 4, 2), (29, .iload_n 2, 1), (30, .iconst (-1), 1), (31, .ixor, 1), (32, .iand, 1), (33, .ifCond .ne 36, 3), (36, .aload_n 0, 1), (37, .iload_n 1, 1), (38, .iload_n 2, 1), (39, .iload 4, 2), (41, .iconst (-1), 1), (42, .ixor, 1), (43, .iand, 1), (44, .invokevirtual 250, 3), (47, .ifCond .ne 22, 3), (50, .iload 4, 2), (52, .invokestatic 268, 3), (55, .iload_n 3, 1), (56, .if_icmp .ge 11, 3), (59, .iload 4, 2), (61, .invokestatic 268, 3), (64, .goto 4, 3), (67, .iload_n 3, 1), (68, .istore_n 3, 1), (69, .iinc 4 1, 3), (72, .goto (-54), 3), (75, .iload_n 3, 1), (76, .ireturn, 1)]
theorem dX7_worstOf : dec_ok cX7_worstOf tX7_worstOf = true := by decide +kernel
noncomputable def tX7_safe : List (Nat × Instr × Nat) := [(0, .iload_n 1, 1), (1, .i2l, 1), (2, .lconst 0, 1), (3, .ldc2_w 325, 3), (6, .invokestatic 67, 3), (9, .ifCond .ne 10, 3), (12, .aload_n 0, 1), (13, .bipush (-2), 2), (15, .invokevirtual 83, 3), (18, .ireturn, 1), (19, .iconst 0, 1), (20, .istore_n 2, 1), (21, .iconst 0, 1), (22, .istore_n 3, 1), (23, .iload_n 3, 1), (24, .aload_n 0, 1), (25, .getfield 71, 3), (28, .if_icmp .ge 28, 3), (31, .iload_n 2, 1), (32, .aload_n 0, 1), (33, .iload_n 3, 1), (34, .invokevirtual 314, 3), (37, .iload_n 1, 1), (38, .if_icmp .le 9, 3), (41, .iconst 1, 1), (42, .iload_n 3, 1), (43, .ishl, 1), (44, .goto 4, 3), (47, .iconst 0, 1), (48, .ior, 1), (49, .istore_n 2, 1), (50, .iinc 3 1, 3), (53, .goto (-30), 3), (56, .iload_n 2, 1), (57, .ireturn, 1)]
theorem dX7_safe : dec_ok cX7_safe tX7_safe = true := by decide +kernel
noncomputable def tX7_alone : List (Nat × Instr × Nat) := [(0, .aload_n 0, 1), (1, .iload_n 1, 1), (2, .invokevirtual 125, 3), (5, .ifCond .ne 10, 3), (8, .aload_n 0, 1), (9, .bipush (-2), 2), (11, .invokevirtual 83, 3), (14, .ireturn, 1), (15, .iconst 0, 1), (16, .istore_n 2, 1), (17, .iconst 0, 1), (18, .istore_n 3, 1), (19, .iload_n 3, 1), (20, .aload_n 0, 1), (21, .getfield 71, 3), (24, .if_icmp .ge 30, 3), (27, .iload_n 2, 1), (28, .aload_n 0, 1), (29, .iload_n 3, 1), (30, .iconst 1, 1), (31, .iload_n 1, 1), (32, .ishl, 1), (33, .invokevirtual 250, 3), (36, .ifCond .eq 9, 3), (39, .iconst 1, 1), (40, .iload_n 3, 1), (41, .ishl, 1), (42, .goto 4, 3), (45, .iconst 0, 1), (46, .ior, 1), (47, .istore_n 2, 1), (48, .iinc 3 1, 3), (51, .goto (-32), 3), (54, .iload_n 2, 1), (55, .ireturn, 1)]
theorem dX7_alone : dec_ok cX7_alone tX7_alone = true := by decide +kernel
noncomputable def tX7_key : List (Nat × Instr × Nat) := [(0, .iconst (-1), 1), (1, .istore_n 1, 1), (2, .iconst 0, 1), (3, .istore_n 2, 1), (4, .iconst 0, 1), (5, .istore_n 3, 1), (6, .iload_n 3, 1), (7, .aload_n 0, 1), (8, .getfield 74, 3), (11, .if_icmp .ge 78, 3), (14, .aload_n 0, 1), (15, .iconst 1, 1), (16, .iload_n 3, 1), (17, .ishl, 1), (18, .invokevirtual 247, 3), (21, .istore 4, 2), (23, .iconst 0, 1), (24, .istore 5, 2), (26, .iconst 0, 1), (27, .istore 6, 2), (29, .iload 6, 2), (31, .aload_n 0, 1), (32, .getfield 71, 3), (35, .if_icmp .ge 32, 3), (38, .iload 5, 2), (40, .aload_n 0, 1), (41, .getfield 46, 3), (44, .iload 6, 2), (46, .iaload, 1), (47, .iload 4, 2), (49, .iand, 1), (50, .ifCond .eq 7, 3), (53, .iconst 1, 1), (54, .goto 4, 3), (57, .iconst 0, 1), (58, .iadd, 1), (59, .istore 5, 2), (61, .iinc 6 1, 3), (64, .goto (-35), 3), (67, .iload_n 1, 1), (68, .iconst (-1), 1), (69, .if_icmp .eq 9, 3), (72, .iload 5, 2), (74, .iload_n 2, 1), (75, .if_icmp .le 8, 3), (78, .iload_n 3, 1), (79, .istore_n 1, 1), (80, .iload 5, 2), (82, .istore_n 2, 1), (83, .iinc 3 1, 3), (86, .goto (-80), 3), (89, .iload_n 1, 1), (90, .iconst (-1), 1), (91, .if_icmp .ne 12, 3), (94, .aload_n 0, 1), (95, .bipush (-5), 2), (97, .invokevirtual 83, 3), (100, .goto 4, 3), (103, .iload_n 1, 1), (104, .ireturn, 1)]
theorem dX7_key : dec_ok cX7_key tX7_key = true := by decide +kernel
noncomputable def tX7_idle : List (Nat × Instr × Nat) := [(0, .iconst 0, 1), (1, .istore_n 1, 1), (2, .iconst 0, 1), (3, .istore_n 2, 1), (4, .iload_n 2, 1), (5, .aload_n 0, 1), (6, .getfield 74, 3), (9, .if_icmp .ge 61, 3), (12, .iconst 0, 1), (13, .istore_n 3, 1), (14, .iconst 0, 1), (15, .istore 4, 2), (17, .iload 4, 2), (19, .aload_n 0, 1), (20, .getfield 71, 3), (23, .if_icmp .ge 27, 3), (26, .iload_n 3, 1), (27, .aload_n 0, 1), (28, .iload 4, 2), (30, .iload_n 2, 1), (31, .invokevirtual 274, 3), (34, .ifCond .le 7, 3), (37, .iconst 1, 1), (38, .goto 4, 3), (41, .iconst 0, 1), (42, .ior, 1), (43, .istore_n 3, 1), (44, .iinc 4 1, 3), (47, .goto (-30), 3), (50, .iload_n 1, 1), (51, .iload_n 3, 1), (52, .ifCond .eq 7, 3), (55, .iconst 0, 1), (56, .goto 6, 3), (59, .iconst 1, 1), (60, .iload_n 2, 1), (61, .ishl, 1), (62, .ior, 1), (63, .istore_n 1, 1), (64, .iinc 2 1, 3), (67, .goto (-63), 3), (70, .iload_n 1, 1), (71, .ireturn, 1)]
theorem dX7_idle : dec_ok cX7_idle tX7_idle = true := by decide +kernel
noncomputable def tX7_room : List (Nat × Instr × Nat) := [(0, .iconst 0, 1), (1, .istore_n 1, 1), (2, .iconst 0, 1), (3, .istore_n 2, 1), (4, .iload_n 2, 1), (5, .aload_n 0, 1), (6, .getfield 74, 3), (9, .if_icmp .ge 26, 3), (12, .iload_n 1, 1), (13, .aload_n 0, 1), (14, .getfield 54, 3), (17, .iload_n 2, 1), (18, .aaload, 1), (19, .iconst 0, 1), (20, .iaload, 1), (21, .aload_n 0, 1), (22, .iload_n 2, 1), (23, .invokevirtual 129, 3), (26, .isub, 1), (27, .iadd, 1), (28, .istore_n 1, 1), (29, .iinc 2 1, 3), (32, .goto (-28), 3), (35, .iload_n 1, 1), (36, .ireturn, 1)]
theorem dX7_room : dec_ok cX7_room tX7_room = true := by decide +kernel
noncomputable def tX7_swap : List (Nat × Instr × Nat) := [(0, .aload_n 0, 1), (1, .iload_n 1, 1), (2, .invokevirtual 132, 3), (5, .ifCond .eq 11, 3), (8, .aload_n 0, 1), (9, .iload_n 2, 1), (10, .invokevirtual 132, 3), (13, .ifCond .ne 10, 3), (16, .aload_n 0, 1), (17, .bipush (-2), 2), (19, .invokevirtual 83, 3), (22, .ireturn, 1), (23, .aload_n 0, 1), (24, .getfield 40, 3), (27, .iload_n 1, 1), (28, .iaload, 1), (29, .istore_n 3, 1), (30, .aload_n 0, 1), (31, .getfield 40, 3), (34, .iload_n 1, 1), (35, .aload_n 0, 1), (36, .getfield 40, 3), (39, .iload_n 2, 1), (40, .iaload, 1), (41, .iastore, 1), (42, .aload_n 0, 1), (43, .getfield 40, 3), (46, .iload_n 2, 1), (47, .iload_n 3, 1), (48, .iastore, 1), (49, .aload_n 0, 1), (50, .getfield 40, 3), (53, .iload_n 1, 1), (54, .iaload, 1), (55, .iload_n 3, 1), (56, .if_icmp .eq 7, 3), (59, .iconst 1, 1), (60, .goto 4, 3), (63, .iconst 0, 1), (64, .ireturn, 1)]
theorem dX7_swap : dec_ok cX7_swap tX7_swap = true := by decide +kernel
noncomputable def tX7_trust : List (Nat × Instr × Nat) := [(0, .aload_n 0, 1), (1, .iload_n 1, 1), (2, .invokevirtual 125, 3), (5, .ifCond .eq 16, 3), (8, .aload_n 0, 1), (9, .iload_n 2, 1), (10, .invokevirtual 125, 3), (13, .ifCond .eq 8, 3), (16, .iload_n 1, 1), (17, .iload_n 2, 1), (18, .if_icmp .ne 15, 3), (21, .aload_n 0, 1), (22, .bipush (-2), 2), (24, .invokevirtual 83, 3), (27, .i2l, 1), (28, .ldc2_w 320, 3), (31, .lsub, 1), (32, .lreturn, 1), (33, .aload_n 0, 1), (34, .invokevirtual 102, 3), (37, .astore_n 3, 1), (38, .iconst 0, 1), (39, .istore 4, 2), (41, .iload 4, 2), (43, .aload_n 0, 1), (44, .getfield 64, 3), (47, .if_icmp .ge 67, 3), (50, .aload_n 3, 1), (51, .getfield 40, 3), (54, .iload 4, 2), (56, .aload_n 0, 1), (57, .getfield 40, 3), (60, .iload 4, 2), (62, .iaload, 1), (63, .iload_n 1, 1), (64, .if_icmp .ne 7, 3), (67, .iload_n 2, 1), (68, .goto 10, 3), (71, .aload_n 0, 1), (72, .getfield 40, 3), (75, .iload 4, 2), (77, .iaload, 1), (78, .iastore, 1), (79, .aload_n 3, 1), (80, .getfield 43, 3), (83, .iload 4, 2), (85, .aload_n 0, 1), (86, .getfield 43, 3), (89, .iload 4, 2), (91, .iaload, 1), (92, .iload_n 1, 1), (93, .if_icmp .ne 7, 3), (96, .iload_n 2, 1), (97, .goto 10, 3), (100, .aload_n 0, 1), (101, .getfield 43, 3), (104, .iload 4, 2), (106, .iaload, 1), (107, .iastore, 1), (108, .iinc 4 1, 3), (111, .goto (-70), 3), (114, .aload_n 3, 1), (115, .invokevirtual 295, 3), (118, .aload_n 0, 1), (119, .invokevirtual 295, 3), (122, .lsub, 1), (123, .lreturn, 1)]
theorem dX7_trust : dec_ok cX7_trust tX7_trust = true := by decide +kernel
noncomputable def tX7_noTold : List (Nat × Instr × Nat) := [(0, .iload_n 1, 1), (1, .i2l, 1), (2, .lconst 0, 1), (3, .ldc2_w 77, 3), (6, .invokestatic 67, 3), (9, .ifCond .eq 15, 3), (12, .iload_n 2, 1), (13, .i2l, 1), (14, .lconst 0, 1), (15, .ldc2_w 327, 3), (18, .invokestatic 67, 3), (21, .ifCond .ne 10, 3), (24, .aload_n 0, 1), (25, .bipush (-2), 2), (27, .invokevirtual 83, 3), (30, .ireturn, 1), (31, .aload_n 0, 1), (32, .iload_n 1, 1), (33, .invokevirtual 87, 3), (36, .istore_n 3, 1), (37, .iload_n 3, 1), (38, .ifCond .eq 5, 3), (41, .iload_n 3, 1), (42, .ireturn, 1), (43, .aload_n 0, 1), (44, .getfield 16, 3), (47, .iload_n 1, 1), (48, .iaload, 1), (49, .iload_n 2, 1), (50, .if_icmp .ge 12, 3), (53, .aload_n 0, 1), (54, .bipush (-2), 2), (56, .invokevirtual 83, 3), (59, .goto 4, 3), (62, .iconst 0, 1), (63, .ireturn, 1)]
theorem dX7_noTold : dec_ok cX7_noTold tX7_noTold = true := by decide +kernel
noncomputable def tX7_comeOn : List (Nat × Instr × Nat) := [(0, .aload_n 0, 1), (1, .getfield 21, 3), (4, .iload_n 1, 1), (5, .aaload, 1), (6, .iload_n 2, 1), (7, .laload, 1), (8, .l2i, 1), (9, .aload_n 0, 1), (10, .invokevirtual 253, 3), (13, .iand, 1), (14, .aload_n 0, 1), (15, .invokevirtual 322, 3), (18, .iconst (-1), 1), (19, .ixor, 1), (20, .iand, 1), (21, .ireturn, 1)]
theorem dX7_comeOn : dec_ok cX7_comeOn tX7_comeOn = true := by decide +kernel
noncomputable def tX7_judge : List (Nat × Instr × Nat) := [(0, .aload_n 0, 1), (1, .iload_n 1, 1), (2, .invokevirtual 241, 3), (5, .ifCond .ne 10, 3), (8, .aload_n 0, 1), (9, .bipush (-2), 2), (11, .invokevirtual 83, 3), (14, .ireturn, 1), (15, .aload_n 0, 1), (16, .iload_n 2, 1), (17, .iload_n 3, 1), (18, .invokevirtual 329, 3), (21, .istore 4, 2), (23, .iload 4, 2), (25, .ifCond .eq 6, 3), (28, .iload 4, 2), (30, .ireturn, 1), (31, .iconst 0, 1), (32, .istore 5, 2), (34, .iload 5, 2), (36, .iload_n 3, 1), (37, .if_icmp .ge 27, 3), (40, .aload_n 0, 1), (41, .iload_n 1, 1), (42, .aload_n 0, 1), (43, .iload_n 2, 1), (44, .iload 5, 2), (46, .invokevirtual 332, 3), (49, .invokevirtual 250, 3), (52, .ifCond .ne 6, 3), (55, .iload 5, 2), (57, .ireturn, 1), (58, .iinc 5 1, 3), (61, .goto (-27), 3), (64, .iconst (-1), 1), (65, .ireturn, 1)]
theorem dX7_judge : dec_ok cX7_judge tX7_judge = true := by decide +kernel
noncomputable def tX7_told : List (Nat × Instr × Nat) := [(0, .aload_n 0, 1), (1, .iload_n 1, 1), (2, .iload_n 2, 1), (3, .invokevirtual 329, 3), (6, .istore_n 3, 1), (7, .iload_n 3, 1), (8, .ifCond .eq 5, 3), (11, .iload_n 3, 1), (12, .ireturn, 1), (13, .iconst 0, 1), (14, .istore 4, 2), (16, .iconst 0, 1), (17, .istore 5, 2), (19, .iload 5, 2), (21, .iload_n 2, 1), (22, .if_icmp .ge 59, 3), (25, .iconst 0, 1), (26, .istore 6, 2), (28, .iload 6, 2), (30, .aload_n 0, 1), (31, .getfield 71, 3), (34, .if_icmp .ge 41, 3), (37, .iload 4, 2), (39, .aload_n 0, 1), (40, .iload 6, 2), (42, .aload_n 0, 1), (43, .iload_n 1, 1), (44, .iload 5, 2), (46, .invokevirtual 332, 3), (49, .invokevirtual 250, 3), (52, .ifCond .eq 13, 3), (55, .aload_n 0, 1), (56, .getfield 49, 3), (59, .iload 6, 2), (61, .iaload, 1), (62, .goto 4, 3), (65, .iconst 0, 1), (66, .iadd, 1), (67, .istore 4, 2), (69, .iinc 6 1, 3), (72, .goto (-44), 3), (75, .iinc 5 1, 3), (78, .goto (-59), 3), (81, .iload 4, 2), (83, .ireturn, 1)]
theorem dX7_told : dec_ok cX7_told tX7_told = true := by decide +kernel
noncomputable def tX7_draw : List (Nat × Instr × Nat) := [(0, .aload_n 0, 1), (1, .aload_n 0, 1), (2, .getfield 57, 3), (5, .ldc_w 335, 3), (8, .imul, 1), (9, .sipush 12345, 3), (12, .iadd, 1), (13, .putfield 57, 3), (16, .aload_n 0, 1), (17, .getfield 57, 3), (20, .bipush 16, 2), (22, .iushr, 1), (23, .iload_n 1, 1), (24, .irem, 1), (25, .ireturn, 1)]
theorem dX7_draw : dec_ok cX7_draw tX7_draw = true := by decide +kernel
noncomputable def tX7_goes : List (Nat × Instr × Nat) := [(0, .iconst 0, 1), (1, .istore_n 1, 1), (2, .iconst 0, 1), (3, .istore_n 2, 1), (4, .iload_n 2, 1), (5, .aload_n 0, 1), (6, .getfield 74, 3), (9, .if_icmp .ge 47, 3), (12, .aload_n 0, 1), (13, .getfield 54, 3), (16, .iload_n 2, 1), (17, .aaload, 1), (18, .iconst 2, 1), (19, .iaload, 1), (20, .ifCond .ne 30, 3), (23, .iload_n 1, 1), (24, .aload_n 0, 1), (25, .bipush 10, 2), (27, .invokevirtual 336, 3), (30, .aload_n 0, 1), (31, .getfield 54, 3), (34, .iload_n 2, 1), (35, .aaload, 1), (36, .iconst 1, 1), (37, .iaload, 1), (38, .if_icmp .ge 7, 3), (41, .iconst 0, 1), (42, .goto 6, 3), (45, .iconst 1, 1), (46, .iload_n 2, 1), (47, .ishl, 1), (48, .ior, 1), (49, .istore_n 1, 1), (50, .iinc 2 1, 3), (53, .goto (-49), 3), (56, .iconst 0, 1), (57, .istore_n 2, 1), (58, .iconst 0, 1), (59, .istore_n 3, 1), (60, .iload_n 3, 1), (61, .aload_n 0, 1), (62, .getfield 71, 3), (65, .if_icmp .ge 124, 3), (68, .aload_n 0, 1), (69, .iload_n 3, 1), (70, .iload_n 1, 1), (71, .invokevirtual 250, 3), (74, .ifCond .eq 109, 3), (77, .iload_n 2, 1), (78, .aload_n 0, 1), (79, .getfield 49, 3), (82, .iload_n 3, 1), (83, .iaload, 1), (84, .iadd, 1), (85, .istore_n 2, 1), (86, .iconst 0, 1), (87, .istore 4, 2), (89, .iload 4, 2), (91, .aload_n 0, 1), (92, .getfield 74, 3), (95, .if_icmp .ge 88, 3), (98, .iconst 0, 1), (99, .istore 5, 2), (101, .iconst 0, 1), (102, .istore 6, 2), (104, .iload 6, 2), (106, .aload_n 0, 1), (107, .getfield 64, 3), (110, .if_icmp .ge 45, 3), (113, .iload 5, 2), (115, .aload_n 0, 1), (116, .getfield 46, 3), (119, .iload_n 3, 1), (120, .iaload, 1), (121, .iload 6, 2), (123, .invokestatic 244, 3), (126, .ifCond .eq 19, 3), (129, .aload_n 0, 1), (130, .getfield 40, 3), (133, .iload 6, 2), (135, .iaload, 1), (136, .iload 4, 2), (138, .if_icmp .ne 7, 3), (141, .iconst 1, 1), (142, .goto 4, 3), (145, .iconst 0, 1), (146, .ior, 1), (147, .istore 5, 2), (149, .iinc 6 1, 3), (152, .goto (-48), 3), (155, .aload_n 0, 1), (156, .getfield 54, 3), (159, .iload 4, 2), (161, .aaload, 1), (162, .iconst 3, 1), (163, .dup2, 1), (164, .iaload, 1), (165, .iload 5, 2), (167, .ifCond .eq 7, 3), (170, .iconst 1, 1), (171, .goto 4, 3), (174, .iconst 0, 1), (175, .iadd, 1), (176, .iastore, 1), (177, .iinc 4 1, 3), (180, .goto (-91), 3), (183, .iinc 3 1, 3), (186, .goto (-126), 3), (189, .aload_n 0, 1), (190, .dup, 1), (191, .getfield 339, 3), (194, .iconst 1, 1), (195, .iadd, 1), (196, .putfield 339, 3), (199, .iload_n 2, 1), (200, .ireturn, 1)]
theorem dX7_goes : dec_ok cX7_goes tX7_goes = true := by decide +kernel
noncomputable def tX7_days : List (Nat × Instr × Nat) := [(0, .iload_n 1, 1), (1, .i2l, 1), (2, .lconst 1, 1), (3, .ldc2_w 342, 3), (6, .invokestatic 67, 3), (9, .ifCond .ne 10, 3), (12, .aload_n 0, 1), (13, .bipush (-2), 2), (15, .invokevirtual 83, 3), (18, .ireturn, 1), (19, .iconst 0, 1), (20, .istore_n 2, 1), (21, .iconst 0, 1), (22, .istore_n 3, 1), (23, .iload_n 3, 1), (24, .iload_n 1, 1), (25, .if_icmp .ge 16, 3), (28, .iload_n 2, 1), (29, .aload_n 0, 1), (30, .invokevirtual 344, 3), (33, .iadd, 1), (34, .istore_n 2, 1), (35, .iinc 3 1, 3), (38, .goto (-15), 3), (41, .aload_n 0, 1), (42, .dup, 1), (43, .getfield 347, 3), (46, .iload_n 2, 1), (47, .iadd, 1), (48, .putfield 347, 3), (51, .iload_n 2, 1), (52, .ireturn, 1)]
theorem dX7_days : dec_ok cX7_days tX7_days = true := by decide +kernel
noncomputable def tX7_seed : List (Nat × Instr × Nat) := [(0, .aload_n 0, 1), (1, .getfield 57, 3), (4, .istore_n 2, 1), (5, .aload_n 0, 1), (6, .iload_n 1, 1), (7, .putfield 57, 3), (10, .iload_n 2, 1), (11, .ireturn, 1)]
theorem dX7_seed : dec_ok cX7_seed tX7_seed = true := by decide +kernel
noncomputable def tX7_over : List (Nat × Instr × Nat) := [(0, .iconst 0, 1), (1, .istore_n 2, 1), (2, .iload_n 2, 1), (3, .aload_n 0, 1), (4, .arraylength, 1), (5, .if_icmp .ge 15, 3), (8, .aload_n 1, 1), (9, .iload_n 2, 1), (10, .aload_n 0, 1), (11, .iload_n 2, 1), (12, .iaload, 1), (13, .iastore, 1), (14, .iinc 2 1, 3), (17, .goto (-15), 3), (20, .return_, 1)]
theorem dX7_over : dec_ok cX7_over tX7_over = true := by decide +kernel
noncomputable def tX7_takeFrom : List (Nat × Instr × Nat) := [(0, .aload_n 0, 1), (1, .aload_n 1, 1), (2, .getfield 64, 3), (5, .putfield 64, 3), (8, .aload_n 1, 1), (9, .getfield 40, 3), (12, .aload_n 0, 1), (13, .getfield 40, 3), (16, .invokestatic 350, 3), (19, .aload_n 1, 1), (20, .getfield 43, 3), (23, .aload_n 0, 1), (24, .getfield 43, 3), (27, .invokestatic 350, 3), (30, .aload_n 0, 1), (31, .aload_n 1, 1), (32, .getfield 71, 3), (35, .putfield 71, 3), (38, .aload_n 1, 1), (39, .getfield 46, 3), (42, .aload_n 0, 1), (43, .getfield 46, 3), (46, .invokestatic 350, 3), (49, .aload_n 1, 1), (50, .getfield 49, 3), (53, .aload_n 0, 1), (54, .getfield 49, 3), (57, .invokestatic 350, 3), (60, .aload_n 0, 1), (61, .aload_n 1, 1), (62, .getfield 74, 3), (65, .putfield 74, 3), (68, .iconst 0, 1), (69, .istore_n 2, 1), (70, .iload_n 2, 1), (71, .bipush 8, 2), (73, .if_icmp .ge 24, 3), (76, .aload_n 1, 1), (77, .getfield 54, 3), (80, .iload_n 2, 1), (81, .aaload, 1), (82, .aload_n 0, 1), (83, .getfield 54, 3), (86, .iload_n 2, 1), (87, .aaload, 1), (88, .invokestatic 350, 3), (91, .iinc 2 1, 3), (94, .goto (-24), 3), (97, .aload_n 0, 1), (98, .aload_n 1, 1), (99, .getfield 339, 3), (102, .putfield 339, 3), (105, .aload_n 0, 1), (106, .aload_n 1, 1), (107, .getfield 347, 3), (110, .putfield 347, 3), (113, .aload_n 0, 1), (114, .aload_n 1, 1), (115, .getfield 57, 3), (118, .putfield 57, 3), (121, .return_, 1)]
theorem dX7_takeFrom : dec_ok cX7_takeFrom tX7_takeFrom = true := by decide +kernel
noncomputable def tX7_image : List (Nat × Instr × Nat) := [(0, .aload_n 0, 1), (1, .getfield 354, 3), (4, .ifnonnull 14, 3), (7, .aload_n 0, 1), (8, .new 8, 3), (11, .dup, 1), (12, .invokespecial 278, 3), (15, .putfield 354, 3), (18, .aload_n 0, 1), (19, .getfield 354, 3), (22, .aload_n 0, 1), (23, .invokevirtual 237, 3), (26, .iconst 1, 1), (27, .ireturn, 1)]
theorem dX7_image : dec_ok cX7_image tX7_image = true := by decide +kernel
noncomputable def tX7_back : List (Nat × Instr × Nat) := [(0, .aload_n 0, 1), (1, .getfield 354, 3), (4, .ifnonnull 10, 3), (7, .aload_n 0, 1), (8, .bipush (-5), 2), (10, .invokevirtual 83, 3), (13, .ireturn, 1), (14, .aload_n 0, 1), (15, .aload_n 0, 1), (16, .getfield 354, 3), (19, .invokevirtual 237, 3), (22, .iconst 1, 1), (23, .ireturn, 1)]
theorem dX7_back : dec_ok cX7_back tX7_back = true := by decide +kernel
noncomputable def tX7_status : List (Nat × Instr × Nat) := [(0, .iconst 0, 1), (1, .istore_n 2, 1), (2, .iload_n 1, 1), (3, .tableswitch 155 0 9 #[53, 58, 63, 68, 76, 102, 107, 112, 117, 122], 53), (56, .aload_n 0, 1), (57, .getfield 64, 3), (60, .ireturn, 1), (61, .aload_n 0, 1), (62, .getfield 71, 3), (65, .ireturn, 1), (66, .aload_n 0, 1), (67, .getfield 74, 3), (70, .ireturn, 1), (71, .aload_n 0, 1), (72, .invokevirtual 322, 3), (75, .invokestatic 268, 3), (78, .ireturn, 1), (79, .iconst 0, 1), (80, .istore_n 3, 1), (81, .iload_n 3, 1), (82, .aload_n 0, 1), (83, .getfield 74, 3), (86, .if_icmp .ge 17, 3), (89, .iload_n 2, 1), (90, .aload_n 0, 1), (91, .iload_n 3, 1), (92, .invokevirtual 129, 3), (95, .iadd, 1), (96, .istore_n 2, 1), (97, .iinc 3 1, 3), (100, .goto (-19), 3), (103, .iload_n 2, 1), (104, .ireturn, 1), (105, .aload_n 0, 1), (106, .getfield 339, 3), (109, .ireturn, 1), (110, .aload_n 0, 1), (111, .getfield 347, 3), (114, .ireturn, 1), (115, .aload_n 0, 1), (116, .getfield 138, 3), (119, .ireturn, 1), (120, .aload_n 0, 1), (121, .getfield 57, 3), (124, .ireturn, 1), (125, .iconst 0, 1), (126, .istore_n 3, 1), (127, .iload_n 3, 1), (128, .bipush 8, 2), (130, .if_icmp .ge 26, 3), (133, .iload_n 2, 1), (134, .aload_n 0, 1), (135, .getfield 7, 3), (138, .iload_n 3, 1), (139, .iaload, 1), (140, .ifCond .eq 7, 3), (143, .iconst 1, 1), (144, .goto 4, 3), (147, .iconst 0, 1), (148, .iadd, 1), (149, .istore_n 2, 1), (150, .iinc 3 1, 3), (153, .goto (-26), 3), (156, .iload_n 2, 1), (157, .ireturn, 1), (158, .iload_n 1, 1), (159, .i2l, 1), (160, .ldc2_w 357, 3), (163, .ldc2_w 359, 3), (166, .invokestatic 67, 3), (169, .ifCond .eq 15, 3), (172, .aload_n 0, 1), (173, .getfield 37, 3), (176, .iload_n 1, 1), (177, .bipush 10, 2), (179, .isub, 1), (180, .iaload, 1), (181, .goto 4, 3), (184, .iconst (-1), 1), (185, .ireturn, 1)]
theorem dX7_status : dec_ok cX7_status tX7_status = true := by decide +kernel
noncomputable def tJ6_bitCount_0f7a4 : List (Nat × Instr × Nat) := [(0, .iload_n 0, 1), (1, .iload_n 0, 1), (2, .iconst 1, 1), (3, .iushr, 1), (4, .ldc_w 265, 3), (7, .iand, 1), (8, .isub, 1), (9, .istore_n 0, 1), (10, .iload_n 0, 1), (11, .ldc_w 266, 3), (14, .iand, 1), (15, .iload_n 0, 1), (16, .iconst 2, 1), (17, .iushr, 1), (18, .ldc_w 266, 3), (21, .iand, 1), (22, .iadd, 1), (23, .istore_n 0, 1), (24, .iload_n 0, 1), (25, .iload_n 0, 1), (26, .iconst 4, 1), (27, .iushr, 1), (28, .iadd, 1), (29, .ldc_w 267, 3), (32, .iand, 1), (33, .istore_n 0, 1), (34, .iload_n 0, 1), (35, .iload_n 0, 1), (36, .bipush 8, 2), (38, .iushr, 1), (39, .iadd, 1), (40, .istore_n 0, 1), (41, .iload_n 0, 1), (42, .iload_n 0, 1), (43, .bipush 16, 2), (45, .iushr, 1), (46, .iadd, 1), (47, .istore_n 0, 1), (48, .iload_n 0, 1), (49, .bipush 63, 2), (51, .iand, 1), (52, .ireturn, 1)]
theorem dJ6_bitCount_0f7a4 : dec_ok cJ6_bitCount_0f7a4 tJ6_bitCount_0f7a4 = true := by decide +kernel
noncomputable def tJ0_length_8abf5 : List (Nat × Instr × Nat) := [(0, .aload_n 0, 1), (1, .getfield 9, 3), (4, .arraylength, 1), (5, .aload_n 0, 1), (6, .invokevirtual 335, 3), (9, .ishr, 1), (10, .ireturn, 1)]
theorem dJ0_length_8abf5 : dec_ok cJ0_length_8abf5 tJ0_length_8abf5 = true := by decide +kernel
noncomputable def tJ0_charAt_5068e : List (Nat × Instr × Nat) := [(0, .aload_n 0, 1), (1, .invokevirtual 492, 3), (4, .ifCond .eq 12, 3), (7, .aload_n 0, 1), (8, .getfield 9, 3), (11, .iload_n 1, 1), (12, .invokestatic 495, 3), (15, .ireturn, 1), (16, .aload_n 0, 1), (17, .getfield 9, 3), (20, .iload_n 1, 1), (21, .invokestatic 498, 3), (24, .ireturn, 1)]
theorem dJ0_charAt_5068e : dec_ok cJ0_charAt_5068e tJ0_charAt_5068e = true := by decide +kernel
noncomputable def tJ0_coder_7d493 : List (Nat × Instr × Nat) := [(0, .getstatic 38, 3), (3, .ifCond .eq 10, 3), (6, .aload_n 0, 1), (7, .getfield 15, 3), (10, .goto 4, 3), (13, .iconst 1, 1), (14, .ireturn, 1)]
theorem dJ0_coder_7d493 : dec_ok cJ0_coder_7d493 tJ0_coder_7d493 = true := by decide +kernel
noncomputable def tJ0_isLatin1_aae02 : List (Nat × Instr × Nat) := [(0, .getstatic 38, 3), (3, .ifCond .eq 14, 3), (6, .aload_n 0, 1), (7, .getfield 15, 3), (10, .ifCond .ne 7, 3), (13, .iconst 1, 1), (14, .goto 4, 3), (17, .iconst 0, 1), (18, .ireturn, 1)]
theorem dJ0_isLatin1_aae02 : dec_ok cJ0_isLatin1_aae02 tJ0_isLatin1_aae02 = true := by decide +kernel
noncomputable def tJ0_checkIndex_df160 : List (Nat × Instr × Nat) := [(0, .iload_n 0, 1), (1, .iload_n 1, 1), (2, .getstatic 1053, 3), (5, .invokestatic 1059, 3), (8, .pop, 1), (9, .return_, 1)]
theorem dJ0_checkIndex_df160 : dec_ok cJ0_checkIndex_df160 tJ0_checkIndex_df160 = true := by decide +kernel
noncomputable def tJ1_charAt_3b067 : List (Nat × Instr × Nat) := [(0, .iload_n 1, 1), (1, .aload_n 0, 1), (2, .arraylength, 1), (3, .invokestatic 9, 3), (6, .aload_n 0, 1), (7, .iload_n 1, 1), (8, .baload, 1), (9, .sipush 255, 3), (12, .iand, 1), (13, .i2c, 1), (14, .ireturn, 1)]
theorem dJ1_charAt_3b067 : dec_ok cJ1_charAt_3b067 tJ1_charAt_3b067 = true := by decide +kernel
noncomputable def tJ7_fill_d0a16 : List (Nat × Instr × Nat) := [(0, .iconst 0, 1), (1, .istore_n 3, 1), (2, .aload_n 0, 1), (3, .arraylength, 1), (4, .istore 4, 2), (6, .iload_n 3, 1), (7, .iload 4, 2), (9, .if_icmp .ge 13, 3), (12, .aload_n 0, 1), (13, .iload_n 3, 1), (14, .lload_n 1, 1), (15, .lastore, 1), (16, .iinc 3 1, 3), (19, .goto (-13), 3), (22, .return_, 1)]
theorem dJ7_fill_d0a16 : dec_ok cJ7_fill_d0a16 tJ7_fill_d0a16 = true := by decide +kernel
noncomputable def tJ3_checkIndex_8e157 : List (Nat × Instr × Nat) := [(0, .iload_n 0, 1), (1, .ifCond .lt 8, 3), (4, .iload_n 0, 1), (5, .iload_n 1, 1), (6, .if_icmp .lt 10, 3), (9, .aload_n 2, 1), (10, .iload_n 0, 1), (11, .iload_n 1, 1), (12, .invokestatic 95, 3), (15, .athrow, 1), (16, .iload_n 0, 1), (17, .ireturn, 1)]
theorem dJ3_checkIndex_8e157 : dec_ok cJ3_checkIndex_8e157 tJ3_checkIndex_8e157 = true := by decide +kernel

