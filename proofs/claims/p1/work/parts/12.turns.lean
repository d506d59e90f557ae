/-! PART 12: counting bits; turns, orders, who bears -/
theorem nI_and {a b : Nat} : nI a &&& nI b = nI (a &&& b) := by
  apply Int32.toBitVec_inj.mp
  rw [Int32.toBitVec_and]
  show BitVec.ofNat 32 a &&& BitVec.ofNat 32 b = BitVec.ofNat 32 (a &&& b)
  rw [BitVec.ofNat_and]
theorem nI_or {a b : Nat} : nI a ||| nI b = nI (a ||| b) := by
  apply Int32.toBitVec_inj.mp
  rw [Int32.toBitVec_or]
  show BitVec.ofNat 32 a ||| BitVec.ofNat 32 b = BitVec.ofNat 32 (a ||| b)
  rw [BitVec.ofNat_or]
theorem nI_ush {k j : Nat} (hk : k < 65536) {y : Int32} (hy : ((y.toUInt32 &&& Int32.toUInt32 31).toBitVec % 32).toNat = j) : ((nI k).toUInt32 >>> (y.toUInt32 &&& Int32.toUInt32 31)).toInt32 = nI (k >>> j) := by
  apply Int32.toBitVec_inj.mp
  show ((nI k).toUInt32 >>> (y.toUInt32 &&& Int32.toUInt32 31)).toBitVec = BitVec.ofNat 32 (k >>> j)
  rw [UInt32.toBitVec_shiftRight, BitVec.ushiftRight_eq', hy]
  apply BitVec.eq_of_toNat_eq
  rw [BitVec.toNat_ushiftRight, BitVec.toNat_ofNat]
  show (BitVec.ofNat 32 k).toNat >>> j = _
  rw [BitVec.toNat_ofNat, Nat.mod_eq_of_lt (by omega), Nat.mod_eq_of_lt]
  exact Nat.lt_of_le_of_lt (Nat.shiftRight_le k j) (by omega)
/-- how many bits of twelve are set -/
def pcn (a : Nat) : Nat := (a &&& 1) + (a >>> 1 &&& 1) + (a >>> 2 &&& 1) + (a >>> 3 &&& 1) + (a >>> 4 &&& 1) + (a >>> 5 &&& 1) + (a >>> 6 &&& 1) + (a >>> 7 &&& 1) + (a >>> 8 &&& 1) + (a >>> 9 &&& 1) + (a >>> 10 &&& 1) + (a >>> 11 &&& 1)
def bc1 (x : Nat) := x - (x >>> 1 &&& 1431655765)
def bc2 (x : Nat) := (x &&& 858993459) + (x >>> 2 &&& 858993459)
def bc3 (x : Nat) := (x + (x >>> 4)) &&& 252645135
def bc4 (x : Nat) := x + (x >>> 8)
def bc5 (x : Nat) := x + (x >>> 16)
theorem bc_at {a : Nat} (h : a < 4096) : (a >>> 1 &&& 1431655765) ≤ a ∧ bc1 a < 65536 ∧ bc2 (bc1 a) < 65536 ∧ bc3 (bc2 (bc1 a)) < 65536 ∧ bc4 (bc3 (bc2 (bc1 a))) < 65536 ∧ bc5 (bc4 (bc3 (bc2 (bc1 a)))) &&& 63 = pcn a ∧ pcn a ≤ 12 := by
  have key : ∀ a : Fin 64, ∀ b : Fin 64, ((64 * a.val + b.val) >>> 1 &&& 1431655765) ≤ 64 * a.val + b.val ∧ bc1 (64 * a.val + b.val) < 65536 ∧ bc2 (bc1 (64 * a.val + b.val)) < 65536 ∧ bc3 (bc2 (bc1 (64 * a.val + b.val))) < 65536 ∧ bc4 (bc3 (bc2 (bc1 (64 * a.val + b.val)))) < 65536 ∧ bc5 (bc4 (bc3 (bc2 (bc1 (64 * a.val + b.val))))) &&& 63 = pcn (64 * a.val + b.val) ∧ pcn (64 * a.val + b.val) ≤ 12 := by decide +kernel
  have q := key ⟨a / 64, by omega⟩ ⟨a % 64, by omega⟩
  rw [show 64 * (a / 64) + a % 64 = a by omega] at q
  exact q
theorem rn_iand {G : Gt} {cc : ByteArray} {nL pc : Nat} {own : String} {ls : List (Nat × V)} {st : List V} {h : Hp} (C : Cx G cc nL own) {a b : Nat} (dd : decode cc pc = .ok (.iand, 1)) (kk : Rr G (pc + 1) ls (vi (nI (a &&& b)) :: st) h) : Rr G pc ls (vi (nI b) :: vi (nI a) :: st) h :=
  r_iand C dd (by rw [nI_and]; exact kk)
theorem rn_ior {G : Gt} {cc : ByteArray} {nL pc : Nat} {own : String} {ls : List (Nat × V)} {st : List V} {h : Hp} (C : Cx G cc nL own) {a b : Nat} (dd : decode cc pc = .ok (.ior, 1)) (kk : Rr G (pc + 1) ls (vi (nI (a ||| b)) :: st) h) : Rr G pc ls (vi (nI b) :: vi (nI a) :: st) h :=
  r_ior C dd (by rw [nI_or]; exact kk)
theorem rn_iushr {G : Gt} {cc : ByteArray} {nL pc : Nat} {own : String} {ls : List (Nat × V)} {st : List V} {h : Hp} (C : Cx G cc nL own) {a j : Nat} {y : Int32} (ha : a < 65536) (hy : ((y.toUInt32 &&& Int32.toUInt32 31).toBitVec % 32).toNat = j) (dd : decode cc pc = .ok (.iushr, 1)) (kk : Rr G (pc + 1) ls (vi (nI (a >>> j)) :: st) h) : Rr G pc ls (vi y :: vi (nI a) :: st) h :=
  r_iushr C dd (by rw [nI_ush ha hy]; exact kk)
set_option maxHeartbeats 4000000 in
theorem c_J6_bitCount_0f7a4 {l : Launch} {h : Hp} {a : Nat} (ha : a < 4096) : Mp l yJ6_bitCount_0f7a4 cJ6_bitCount_0f7a4 1 (some .int) 1 [vi (nI a)] h (vi (nI (pcn a))) := by
  refine Ms.of (by decide) (Nat.le_of_ble_eq_true rfl) (fun G C X F => ?_)
  have C : Cx G cJ6_bitCount_0f7a4 1 RJ6 := C
  show Rr G 0 [(0, vi (nI a))] [] h
  have hb := bc_at ha
  refine r_iload_n C (dx dJ6_bitCount_0f7a4 0 rfl) rfl ?_
  refine r_iload_n C (dx dJ6_bitCount_0f7a4 1 rfl) rfl ?_
  refine r_iconst (v := nI 1) C (dx dJ6_bitCount_0f7a4 2 rfl) rfl ?_
  refine rn_iushr (a := a) (j := 1) C (by omega) (by decide) (dx dJ6_bitCount_0f7a4 3 rfl) ?_
  refine r_ldcw C n_J6_265 (dx dJ6_bitCount_0f7a4 4 rfl) ?_
  refine rn_iand (a := a >>> 1) (b := 1431655765) C (dx dJ6_bitCount_0f7a4 5 rfl) ?_
  refine rn_isub (a := a) (b := (a >>> 1) &&& 1431655765) C hb.1 (dx dJ6_bitCount_0f7a4 6 rfl) ?_
  refine r_istore_n (ls' := [(0, vi (nI (bc1 a)))]) C (dx dJ6_bitCount_0f7a4 7 rfl) (by decide) [0] rfl ?_
  refine r_iload_n C (dx dJ6_bitCount_0f7a4 8 rfl) rfl ?_
  refine r_ldcw C n_J6_266 (dx dJ6_bitCount_0f7a4 9 rfl) ?_
  refine rn_iand (a := bc1 a) (b := 858993459) C (dx dJ6_bitCount_0f7a4 10 rfl) ?_
  refine r_iload_n C (dx dJ6_bitCount_0f7a4 11 rfl) rfl ?_
  refine r_iconst (v := nI 2) C (dx dJ6_bitCount_0f7a4 12 rfl) rfl ?_
  refine rn_iushr (a := bc1 a) (j := 2) C hb.2.1 (by decide) (dx dJ6_bitCount_0f7a4 13 rfl) ?_
  refine r_ldcw C n_J6_266 (dx dJ6_bitCount_0f7a4 14 rfl) ?_
  refine rn_iand (a := (bc1 a) >>> 2) (b := 858993459) C (dx dJ6_bitCount_0f7a4 15 rfl) ?_
  refine rn_iadd (a := (bc1 a) &&& 858993459) (b := ((bc1 a) >>> 2) &&& 858993459) C (dx dJ6_bitCount_0f7a4 16 rfl) ?_
  refine r_istore_n (ls' := [(0, vi (nI (bc2 (bc1 a))))]) C (dx dJ6_bitCount_0f7a4 17 rfl) (by decide) [0] rfl ?_
  refine r_iload_n C (dx dJ6_bitCount_0f7a4 18 rfl) rfl ?_
  refine r_iload_n C (dx dJ6_bitCount_0f7a4 19 rfl) rfl ?_
  refine r_iconst (v := nI 4) C (dx dJ6_bitCount_0f7a4 20 rfl) rfl ?_
  refine rn_iushr (a := bc2 (bc1 a)) (j := 4) C hb.2.2.1 (by decide) (dx dJ6_bitCount_0f7a4 21 rfl) ?_
  refine rn_iadd (a := bc2 (bc1 a)) (b := (bc2 (bc1 a)) >>> 4) C (dx dJ6_bitCount_0f7a4 22 rfl) ?_
  refine r_ldcw C n_J6_267 (dx dJ6_bitCount_0f7a4 23 rfl) ?_
  refine rn_iand (a := bc2 (bc1 a) + ((bc2 (bc1 a)) >>> 4)) (b := 252645135) C (dx dJ6_bitCount_0f7a4 24 rfl) ?_
  refine r_istore_n (ls' := [(0, vi (nI (bc3 (bc2 (bc1 a)))))]) C (dx dJ6_bitCount_0f7a4 25 rfl) (by decide) [0] rfl ?_
  refine r_iload_n C (dx dJ6_bitCount_0f7a4 26 rfl) rfl ?_
  refine r_iload_n C (dx dJ6_bitCount_0f7a4 27 rfl) rfl ?_
  refine r_bipush (v := nI 8) C (dx dJ6_bitCount_0f7a4 28 rfl) rfl ?_
  refine rn_iushr (a := bc3 (bc2 (bc1 a))) (j := 8) C hb.2.2.2.1 (by decide) (dx dJ6_bitCount_0f7a4 29 rfl) ?_
  refine rn_iadd (a := bc3 (bc2 (bc1 a))) (b := (bc3 (bc2 (bc1 a))) >>> 8) C (dx dJ6_bitCount_0f7a4 30 rfl) ?_
  refine r_istore_n (ls' := [(0, vi (nI (bc4 (bc3 (bc2 (bc1 a))))))]) C (dx dJ6_bitCount_0f7a4 31 rfl) (by decide) [0] rfl ?_
  refine r_iload_n C (dx dJ6_bitCount_0f7a4 32 rfl) rfl ?_
  refine r_iload_n C (dx dJ6_bitCount_0f7a4 33 rfl) rfl ?_
  refine r_bipush (v := nI 16) C (dx dJ6_bitCount_0f7a4 34 rfl) rfl ?_
  refine rn_iushr (a := bc4 (bc3 (bc2 (bc1 a)))) (j := 16) C hb.2.2.2.2.1 (by decide) (dx dJ6_bitCount_0f7a4 35 rfl) ?_
  refine rn_iadd (a := bc4 (bc3 (bc2 (bc1 a)))) (b := (bc4 (bc3 (bc2 (bc1 a)))) >>> 16) C (dx dJ6_bitCount_0f7a4 36 rfl) ?_
  refine r_istore_n (ls' := [(0, vi (nI (bc5 (bc4 (bc3 (bc2 (bc1 a)))))))]) C (dx dJ6_bitCount_0f7a4 37 rfl) (by decide) [0] rfl ?_
  refine r_iload_n C (dx dJ6_bitCount_0f7a4 38 rfl) rfl ?_
  refine r_bipush (v := nI 63) C (dx dJ6_bitCount_0f7a4 39 rfl) rfl ?_
  refine rn_iand (a := bc5 (bc4 (bc3 (bc2 (bc1 a))))) (b := 63) C (dx dJ6_bitCount_0f7a4 40 rfl) ?_
  exact F.1 _ _ _ _ _ rfl rfl (dx dJ6_bitCount_0f7a4 41 rfl) rfl ⟨congrArg (fun x => some (vi x)) (show nI ((bc5 (bc4 (bc3 (bc2 (bc1 a))))) &&& 63) = nI (pcn a) by rw [hb.2.2.2.2.2.1]), rfl⟩
theorem bt_nI (a : Nat) {i : Nat} (hi : i < 32) : bt (nI a) i = a.testBit i := by
  show (BitVec.ofNat 32 a).getLsbD i = _
  rw [BitVec.getLsbD_ofNat]; simp [hi]
theorem bt_and (x y : Int32) (i : Nat) : bt (x &&& y) i = (bt x i && bt y i) := by simp [bt]
theorem bt_xor (x y : Int32) (i : Nat) : bt (x ^^^ y) i = (bt x i ^^ bt y i) := by simp [bt]
theorem bt_m1 : ∀ i, i < 32 → bt (-1) i = true := by decide +kernel
/-- what is in one set and not in the other -/
def dif (a b : Nat) : Nat := a &&& (4095 ^^^ b)
theorem dif_le (a b : Nat) : dif a b ≤ a := Nat.and_le_left
theorem nI_dif {a b : Nat} (ha : a < 4096) : nI a &&& (nI b ^^^ -1) = nI (dif a b) := by
  apply bt_ext
  intro i hi
  rw [bt_and, bt_xor, bt_m1 i hi, bt_nI a hi, bt_nI b hi, bt_nI _ hi]
  unfold dif
  rw [Nat.testBit_and, Nat.testBit_xor, show (4095 : Nat) = 2 ^ 12 - 1 from rfl, Nat.testBit_two_pow_sub_one]
  by_cases h12 : i < 12
  · simp [h12]
  · rw [Nat.testBit_lt_two_pow (Nat.lt_of_lt_of_le ha (Nat.pow_le_pow_right (n := 2) (i := 12) (by decide) (Nat.le_of_not_lt h12)))]; simp
def bitsN (p : Nat → Bool) : Nat → Nat
  | 0 => 0
  | n + 1 => if p n then bitsN p n ||| 2 ^ n else bitsN p n
theorem bset_N (p : Nat → Bool) : ∀ n, n ≤ 12 → bset p n = nI (bitsN p n)
  | 0, _ => rfl
  | n + 1, h => by
    simp only [bset, bitsN, bset_N p n (by omega), sh1 (show n < 13 by omega), nI_or]
    split <;> rfl
def crN (v : Vg) : Nat := bitsN (fun o => decide (¬ vF v 6 o = 0)) (vN v)
theorem crs_N {v : Vg} (h : vN v ≤ 12) : crs v = nI (crN v) := bset_N _ _ h
def fct : Nat → Nat
  | 0 => 1
  | n + 1 => (n + 1) * fct n
theorem pcn_or {o s : Nat} (ho : o < 8) (hs : s < 256) (h : s.testBit o = false) : pcn (s ||| 2 ^ o) = pcn s + 1 := by
  have key : ∀ o : Fin 8, ∀ s : Fin 256, s.val.testBit o.val = false → pcn (s.val ||| 2 ^ o.val) = pcn s.val + 1 := by decide +kernel
  exact key ⟨o, ho⟩ ⟨s, hs⟩ h
theorem pcn_le {n s : Nat} (hn : n ≤ 8) (hs : s < 2 ^ n) : pcn s ≤ n := by
  have key : ∀ n : Fin 9, ∀ s : Fin 256, s.val < 2 ^ n.val → pcn s.val ≤ n.val := by decide +kernel
  have := (pow8 hn).2
  exact key ⟨n, by omega⟩ ⟨s, by omega⟩ hs
theorem pcn_lt {n o s : Nat} (hn : n ≤ 8) (ho : o < n) (hs : s < 2 ^ n) (h : s.testBit o = false) : pcn s < n := by
  have h8 := (pow8 hn).2
  have q := pcn_or (show o < 8 by omega) (by omega) h
  have := pcn_le hn (Nat.or_lt_two_pow hs (Nat.pow_lt_pow_right (by omega) ho))
  omega
/-- sets in which one turns a machine on -/
def turnP (v : Vg) (m o s : Nat) : Bool := !s.testBit o && (!wkW v (nI m) (gat v s (vN v)) && wkW v (nI m) (gat v (s ||| 2 ^ o) (vN v)))
def turnF (v : Vg) (s : Nat) : Int32 := nI (fct (pcn s) * fct (vN v - 1 - pcn s))
def turnV (v : Vg) (m o : Nat) : Int32 := sumIf (turnP v m o) (turnF v) (2 ^ vN v)
def worthT (v : Vg) (o : Nat) : Int64 := sumL (fun m => (vF v 3 m).toInt64 * (turnV v m o).toInt64) (vM v)
def minIf (p : Nat → Bool) (f : Nat → Int32) (z : Int32) : Nat → Int32
  | 0 => z
  | n + 1 => if p n then (if f n < minIf p f z n then f n else minIf p f z n) else minIf p f z n
def willN (v : Vg) : Nat := dif (2 ^ vN v - 1) (crN v)
def standP (v : Vg) (m W s : Nat) : Bool := decide (nI (dif s W) = 0) && !wkW v (nI m) (gat v (dif W s) (vN v))
def bornV (v : Vg) (m : Nat) : Int32 := minIf (standP v m (willN v)) (fun s => nI (pcn s)) (nI 9) (willN v + 1) - nI 1
set_option maxHeartbeats 4000000 in
theorem c_X4_partsOf {l : Launch} {h : Hp} {k : Nat} {a : Nat} (ha : a < 256) : Mp l yX4_partsOf cX4_partsOf 2 (some .int) 1 [vr 4 k, vi (nI a)] h (vi (xI h (k + 2) a)) := by
  refine Ms.of (by decide) (Nat.le_of_ble_eq_true rfl) (fun G C X F => ?_)
  have C : Cx G cX4_partsOf 2 RX4 := C
  show Rr G 0 [(0, vr 4 k), (1, vi (nI a))] [] h
  refine r_iload_n C (dx dX4_partsOf 0 rfl) rfl ?_
  refine r_if_lt (tgt := 20) C (dx dX4_partsOf 1 rfl) (by decide) (fun c1 => ?_) (fun c1 => ?_)
  · first
    | (exact absurd c1 (nI_pos (by omega)); done)
    | (
        have c1 : nI a < 0 := c1
        refine r_iconst (v := nI 0) C (dx dX4_partsOf 10 rfl) rfl ?_
        exact F.1 _ _ _ _ _ rfl rfl (dx dX4_partsOf 11 rfl) rfl ⟨congrArg (fun x => some (vi x)) (show nI 0 = xI h (k + 2) a by simp), rfl⟩)
  · first
    | (exact absurd c1 (nI_pos (by omega)); done)
    | (
        have c1 : ¬ nI a < 0 := c1
        refine r_iload_n C (dx dX4_partsOf 2 rfl) rfl ?_
        refine r_sipush (v := nI 256) C (dx dX4_partsOf 3 rfl) rfl ?_
        refine rn_ge (a := a) (b := 256) (tgt := 20) C (by omega) (by omega) (dx dX4_partsOf 4 rfl) (by decide) (fun c2 => ?_) (fun c2 => ?_)
        · first
          | (omega; done)
          | (exact absurd c2 (nI_pos (by omega)); done)
          | (
              have c2 : 256 ≤ a := c2
              refine r_iconst (v := nI 0) C (dx dX4_partsOf 10 rfl) rfl ?_
              exact F.1 _ _ _ _ _ rfl rfl (dx dX4_partsOf 11 rfl) rfl ⟨congrArg (fun x => some (vi x)) (show nI 0 = xI h (k + 2) a by simp), rfl⟩)
        · first
          | (omega; done)
          | (exact absurd c2 (nI_pos (by omega)); done)
          | (
              have c2 : a < 256 := c2
              refine r_aload_n C (dx dX4_partsOf 5 rfl) rfl ?_
              refine g_X4_15 C (dx dX4_partsOf 6 rfl) ?_
              refine r_iload_n C (dx dX4_partsOf 7 rfl) rfl ?_
              refine r_iald (j := a) (x := xI h (k + 2) a) C rfl rfl (by decide) rfl (by omega) (dx dX4_partsOf 8 rfl) rfl ?_
              refine r_goto (tgt := 21) C (dx dX4_partsOf 9 rfl) (by decide) ?_
              exact F.1 _ _ _ _ _ rfl rfl (dx dX4_partsOf 11 rfl) rfl ⟨congrArg (fun x => some (vi x)) rfl, rfl⟩))
set_option maxHeartbeats 4000000 in
theorem c_X4_ordersOf {l : Launch} {h : Hp} {k : Nat} (ho : ∀ i, i < 8 → xI h (k + 3) i = nI (fct i)) {a : Nat} (ha : a < 8) : Mp l yX4_ordersOf cX4_ordersOf 2 (some .int) 1 [vr 4 k, vi (nI a)] h (vi (nI (fct a))) := by
  refine Ms.of (by decide) (Nat.le_of_ble_eq_true rfl) (fun G C X F => ?_)
  have C : Cx G cX4_ordersOf 2 RX4 := C
  show Rr G 0 [(0, vr 4 k), (1, vi (nI a))] [] h
  refine r_iload_n C (dx dX4_ordersOf 0 rfl) rfl ?_
  refine r_if_lt (tgt := 22) C (dx dX4_ordersOf 1 rfl) (by decide) (fun c1 => ?_) (fun c1 => ?_)
  · first
    | (exact absurd c1 (nI_pos (by omega)); done)
    | (
        have c1 : nI a < 0 := c1
        refine r_iconst (v := nI 0) C (dx dX4_ordersOf 12 rfl) rfl ?_
        exact F.1 _ _ _ _ _ rfl rfl (dx dX4_ordersOf 13 rfl) rfl ⟨congrArg (fun x => some (vi x)) (show nI 0 = nI (fct a) by simp), rfl⟩)
  · first
    | (exact absurd c1 (nI_pos (by omega)); done)
    | (
        have c1 : ¬ nI a < 0 := c1
        refine r_iload_n C (dx dX4_ordersOf 2 rfl) rfl ?_
        refine r_aload_n C (dx dX4_ordersOf 3 rfl) rfl ?_
        refine g_X4_19 C (dx dX4_ordersOf 4 rfl) ?_
        refine r_alen0 (v := nI 8) C rfl rfl rfl (dx dX4_ordersOf 5 rfl) ?_
        refine rn_ge (a := a) (b := 8) (tgt := 22) C (by omega) (by omega) (dx dX4_ordersOf 6 rfl) (by decide) (fun c2 => ?_) (fun c2 => ?_)
        · first
          | (omega; done)
          | (exact absurd c2 (nI_pos (by omega)); done)
          | (
              have c2 : 8 ≤ a := c2
              refine r_iconst (v := nI 0) C (dx dX4_ordersOf 12 rfl) rfl ?_
              exact F.1 _ _ _ _ _ rfl rfl (dx dX4_ordersOf 13 rfl) rfl ⟨congrArg (fun x => some (vi x)) (show nI 0 = nI (fct a) by simp), rfl⟩)
        · first
          | (omega; done)
          | (exact absurd c2 (nI_pos (by omega)); done)
          | (
              have c2 : a < 8 := c2
              refine r_aload_n C (dx dX4_ordersOf 7 rfl) rfl ?_
              refine g_X4_19 C (dx dX4_ordersOf 8 rfl) ?_
              refine r_iload_n C (dx dX4_ordersOf 9 rfl) rfl ?_
              refine r_iald (j := a) (x := nI (fct a)) C rfl rfl (by decide) rfl (by omega) (dx dX4_ordersOf 10 rfl) (ho a (by omega)) ?_
              refine r_goto (tgt := 23) C (dx dX4_ordersOf 11 rfl) (by decide) ?_
              exact F.1 _ _ _ _ _ rfl rfl (dx dX4_ordersOf 13 rfl) rfl ⟨congrArg (fun x => some (vi x)) rfl, rfl⟩))
theorem c_partsG {l : Launch} {h : Hp} {k n S : Nat} {v : Vg} (hp : ∀ s, s < S → xI h (k + 2) s = gat v s n) (hS : S ≤ 256) {a : Nat} (ha : a < S) : Mp l yX4_partsOf cX4_partsOf 2 (some .int) 1 [vr 4 k, vi (nI a)] h (vi (gat v a n)) := by
  rw [← hp a ha]; exact c_X4_partsOf (by omega)
theorem c_crN {l : Launch} {h : Hp} {k : Nat} {v : Vg} (hv : VilAt h k v) : Mp l yX5_crossPeople cX5_crossPeople 3 (some .int) 1 [vr 5 k] h (vi (nI (crN v))) := by
  rw [← crs_N (by have := hv.bN; omega)]; exact c_X5_crossPeople hv
set_option maxHeartbeats 4000000 in
theorem c_X4_worthOfDay {l : Launch} {h : Hp} {k kv : Nat} {v : Vg} (hv : VilAt h kv v) (hd : kv + 9 ≤ k ∨ k + 4 ≤ kv)  : Ms l yX4_worthOfDay cX4_worthOfDay 2 (some .long) 4 [vr 4 k, vr 5 kv] h (xK h) (fun r h' => r = some (vl (dayC v)) ∧ Fr (k + 1) (k + 3) h h') := by
  refine Ms.of (by decide) (Nat.le_of_ble_eq_true rfl) (fun G C X F => ?_)
  have C : Cx G cX4_worthOfDay 2 RX4 := C
  show Rr G 0 [(0, vr 4 k), (1, vr 5 kv)] [] h
  have bP := hv.bP
  have bM := hv.bM
  have bN := hv.bN
  have p8 := pow8 bN
  obtain ⟨S, hS⟩ : ∃ S, S = 2 ^ vN v := ⟨_, rfl⟩
  rw [← hS] at p8
  refine r_aload_n C (dx dX4_worthOfDay 0 rfl) rfl ?_
  refine r_aload_n C (dx dX4_worthOfDay 1 rfl) rfl ?_
  refine r_cv (as := [vr 5 kv]) (st := []) C X I_X4_weigh l_X4_39 (c_X4_weigh hv hd) (by decide) (Nat.le_of_ble_eq_true rfl) List.prefix_rfl List.prefix_rfl rfl rfl (Nat.le_of_ble_eq_true rfl) rfl (dx dX4_worthOfDay 2 rfl) ?_
  intro rh1 h1 hph1 kkh1
  obtain ⟨rfl, qh1, gh1⟩ := hph1
  rw [← hS] at qh1
  have fh1 : Fr (k + 1) (k + 3) h h1 := (gh1.mono (by omega) (by omega))
  have kh1 : xK h1 = xK h := kkh1
  have uh1 : VilAt h1 kv v := hv.fr fh1 (by omega)
  refine r_aload_n C (dx dX4_worthOfDay 3 rfl) rfl ?_
  refine r_aload_n C (dx dX4_worthOfDay 4 rfl) rfl ?_
  refine r_cv (as := [vr 5 kv]) (st := []) C X I_X4_worthAsWeighed l_X4_58 (c_X4_worthAsWeighed uh1 hd (by rw [← hS]; exact qh1)) (by decide) (Nat.le_of_ble_eq_true rfl) List.prefix_rfl (pfx_eq kh1) rfl rfl (Nat.le_of_ble_eq_true rfl) rfl (dx dX4_worthOfDay 5 rfl) ?_
  intro rh2 h2 hph2 kkh2
  obtain ⟨rfl, gh2⟩ := hph2
  have fh2 : Fr (k + 1) (k + 3) h h2 := fh1.tr (gh2.mono (by omega) (by omega))
  have kh2 : xK h2 = xK h := kkh2.trans kh1
  exact F.2.1 _ _ _ _ rfl (dx dX4_worthOfDay 6 rfl) kh2 ⟨congrArg (fun x => some (vl x)) rfl, fh2⟩
set_option maxHeartbeats 4000000 in
theorem c_X4_turnsOn {l : Launch} {h : Hp} {k kv : Nat} {v : Vg} (hv : VilAt h kv v) (hd : kv + 9 ≤ k ∨ k + 4 ≤ kv) (m o : Nat) (hm : m < vM v) (ho : o < vN v) (hgp : ∀ s, s < 2 ^ vN v → xI h (k + 2) s = gat v s (vN v)) (hf : ∀ i, i < 8 → xI h (k + 3) i = nI (fct i)) : Mp l yX4_turnsOn cX4_turnsOn 9 (some .int) 3 [vr 4 k, vr 5 kv, vi (nI m), vi (nI o)] h (vi (turnV v m o)) := by
  refine Ms.of (by decide) (Nat.le_of_ble_eq_true rfl) (fun G C X F => ?_)
  have C : Cx G cX4_turnsOn 9 RX4 := C
  show Rr G 0 [(0, vr 4 k), (1, vr 5 kv), (2, vi (nI m)), (3, vi (nI o))] [] h
  have bP := hv.bP
  have bM := hv.bM
  have bN := hv.bN
  have p8 := pow8 bN
  obtain ⟨S, hS⟩ : ∃ S, S = 2 ^ vN v := ⟨_, rfl⟩
  rw [← hS] at p8
  rw [← hS] at hgp
  refine r_iconst (v := nI 1) C (dx dX4_turnsOn 0 rfl) rfl ?_
  refine r_iload_n C (dx dX4_turnsOn 1 rfl) rfl ?_
  refine rn_sh1 (o := o) C (by omega) (dx dX4_turnsOn 2 rfl) ?_
  refine r_istore (ls' := [(0, vr 4 k), (1, vr 5 kv), (2, vi (nI m)), (3, vi (nI o)), (4, vi (nI (2 ^ o)))]) C (dx dX4_turnsOn 3 rfl) (by decide) [1, 2, 3, 4, 0] rfl ?_
  refine r_iconst (v := nI 0) C (dx dX4_turnsOn 4 rfl) rfl ?_
  refine r_istore (ls' := [(0, vr 4 k), (1, vr 5 kv), (2, vi (nI m)), (3, vi (nI o)), (4, vi (nI (2 ^ o))), (5, vi (nI 0))]) C (dx dX4_turnsOn 5 rfl) (by decide) [1, 2, 3, 4, 5, 0] rfl ?_
  refine r_iconst (v := nI 0) C (dx dX4_turnsOn 6 rfl) rfl ?_
  refine r_istore (ls' := [(0, vr 4 k), (1, vr 5 kv), (2, vi (nI m)), (3, vi (nI o)), (4, vi (nI (2 ^ o))), (5, vi (nI 0)), (6, vi (nI 0))]) C (dx dX4_turnsOn 7 rfl) (by decide) [1, 2, 3, 4, 5, 6, 0] rfl ?_
  refine loopU (Φ := fun p => Rr G 11 [(0, vr 4 k), (1, vr 5 kv), (2, vi (nI m)), (3, vi (nI o)), (4, vi (nI (2 ^ o))), (5, vi (sumIf (turnP v m o) (turnF v) p)), (6, vi (nI p))] [] h) (N := S) ?_ ?_ 0 (Nat.zero_le _)
  ·
    refine r_iload C (dx dX4_turnsOn 8 rfl) rfl ?_
    refine r_aload_n C (dx dX4_turnsOn 9 rfl) rfl ?_
    refine r_cvP (as := []) (st := [vi (nI S)]) (v := vi (nI (S - 1))) C X I_X5_allPeople l_X4_46 (c_allS hv hS) (by decide) (Nat.le_of_ble_eq_true rfl) List.prefix_rfl rfl rfl (Nat.le_of_ble_eq_true rfl) rfl (dx dX4_turnsOn 10 rfl) ?_
    refine rn_gt (a := S) (b := S - 1) (tgt := 110) C (by omega) (by omega) (dx dX4_turnsOn 11 rfl) (by decide) (fun c1 => ?_) (fun c1 => ?_)
    · first
      | (omega; done)
      | (
          have c1 : S - 1 < S := c1
          refine r_iload C (dx dX4_turnsOn 59 rfl) rfl ?_
          exact F.1 _ _ _ _ _ rfl rfl (dx dX4_turnsOn 60 rfl) rfl ⟨congrArg (fun x => some (vi x)) (show sumIf (turnP v m o) (turnF v) S = turnV v m o by rw [hS]; rfl), rfl⟩)
    · first
      | (omega; done)
  ·
    intro p hp ih
    refine r_iload C (dx dX4_turnsOn 8 rfl) rfl ?_
    refine r_aload_n C (dx dX4_turnsOn 9 rfl) rfl ?_
    refine r_cvP (as := []) (st := [vi (nI p)]) (v := vi (nI (S - 1))) C X I_X5_allPeople l_X4_46 (c_allS hv hS) (by decide) (Nat.le_of_ble_eq_true rfl) List.prefix_rfl rfl rfl (Nat.le_of_ble_eq_true rfl) rfl (dx dX4_turnsOn 10 rfl) ?_
    refine rn_gt (a := p) (b := S - 1) (tgt := 110) C (by omega) (by omega) (dx dX4_turnsOn 11 rfl) (by decide) (fun c4 => ?_) (fun c4 => ?_)
    · first
      | (omega; done)
      | (
          have c4 : S - 1 < p := c4
          refine r_iload C (dx dX4_turnsOn 59 rfl) rfl ?_
          exact F.1 _ _ _ _ _ rfl rfl (dx dX4_turnsOn 60 rfl) rfl ⟨congrArg (fun x => some (vi x)) (show sumIf (turnP v m o) (turnF v) p = turnV v m o by rw [hS]; rfl), rfl⟩)
    · first
      | (omega; done)
      | (
          have c4 : p ≤ S - 1 := c4
          refine r_iload C (dx dX4_turnsOn 12 rfl) rfl ?_
          refine r_iload C (dx dX4_turnsOn 13 rfl) rfl ?_
          refine r_iand C (dx dX4_turnsOn 14 rfl) ?_
          refine r_if_ne (tgt := 32) C (dx dX4_turnsOn 15 rfl) (by decide) (fun c5 => ?_) (fun c5 => ?_)
          ·
            have c5 : ¬ (nI p) &&& (nI (2 ^ o)) = 0 := c5
            refine r_iconst (v := nI 0) C (dx dX4_turnsOn 18 rfl) rfl ?_
            refine r_istore (ls' := [(0, vr 4 k), (1, vr 5 kv), (2, vi (nI m)), (3, vi (nI o)), (4, vi (nI (2 ^ o))), (5, vi (sumIf (turnP v m o) (turnF v) p)), (6, vi (nI p)), (7, vi (nI 0))]) C (dx dX4_turnsOn 19 rfl) (by decide) [1, 2, 3, 4, 5, 6, 7, 0] rfl ?_
            refine r_iload C (dx dX4_turnsOn 20 rfl) rfl ?_
            refine r_if_eq (tgt := 104) C (dx dX4_turnsOn 21 rfl) (by decide) (fun _ => ?_) (fun c6 => (show False from by revert c6; decide).elim)
            refine rn_iinc (a := p) (k := 1) (ls' := [(0, vr 4 k), (1, vr 5 kv), (2, vi (nI m)), (3, vi (nI o)), (4, vi (nI (2 ^ o))), (5, vi (sumIf (turnP v m o) (turnF v) p)), (6, vi (nI (p + 1))), (7, vi (nI 0))]) C (dx dX4_turnsOn 57 rfl) rfl rfl (by decide) [1, 2, 3, 4, 5, 6, 0, 7] rfl ?_
            refine r_goto (tgt := 11) C (dx dX4_turnsOn 58 rfl) (by decide) ?_
            have e9 : (sumIf (turnP v m o) (turnF v) p) = (sumIf (turnP v m o) (turnF v) (p + 1)) := by (have q9 := and_pow (o := o) (a := p) (by omega) (by omega); simp only [sumIf, turnP, turnF]; simp_all)
            rw [e9]
            refine r_weak C [0, 1, 2, 3, 4, 5, 6] rfl ?_
            exact ih
          ·
            have c5 : (nI p) &&& (nI (2 ^ o)) = 0 := c5
            refine r_iconst (v := nI 1) C (dx dX4_turnsOn 16 rfl) rfl ?_
            refine r_goto (tgt := 33) C (dx dX4_turnsOn 17 rfl) (by decide) ?_
            refine r_istore (ls' := [(0, vr 4 k), (1, vr 5 kv), (2, vi (nI m)), (3, vi (nI o)), (4, vi (nI (2 ^ o))), (5, vi (sumIf (turnP v m o) (turnF v) p)), (6, vi (nI p)), (7, vi (nI 1))]) C (dx dX4_turnsOn 19 rfl) (by decide) [1, 2, 3, 4, 5, 6, 7, 0] rfl ?_
            refine r_iload C (dx dX4_turnsOn 20 rfl) rfl ?_
            refine r_if_eq (tgt := 104) C (dx dX4_turnsOn 21 rfl) (by decide) (fun c7 => (show False from by revert c7; decide).elim) (fun _ => ?_)
            refine r_aload_n C (dx dX4_turnsOn 22 rfl) rfl ?_
            refine r_iload_n C (dx dX4_turnsOn 23 rfl) rfl ?_
            refine r_aload_n C (dx dX4_turnsOn 24 rfl) rfl ?_
            refine g_X4_15 C (dx dX4_turnsOn 25 rfl) ?_
            refine r_iload C (dx dX4_turnsOn 26 rfl) rfl ?_
            refine r_iald (j := p) (x := gat v p (vN v)) C rfl rfl (by decide) rfl (by omega) (dx dX4_turnsOn 27 rfl) (hgp _ (by omega)) ?_
            refine r_cvP (as := [vi (nI m), vi (gat v p (vN v))]) (st := []) (v := vi (b2i (wkW v (nI m) (gat v p (vN v))))) C X I_X5_isWorkedWith l_X4_50 (c_X5_isWorkedWith hv _ _) (by decide) (Nat.le_of_ble_eq_true rfl) List.prefix_rfl rfl rfl (Nat.le_of_ble_eq_true rfl) rfl (dx dX4_turnsOn 28 rfl) ?_
            refine rb_ne (b := wkW v (nI m) (gat v p (vN v))) (tgt := 104) C (dx dX4_turnsOn 29 rfl) (by decide) (fun c8 => ?_) (fun c8 => ?_)
            ·
              have c8 : (wkW v (nI m) (gat v p (vN v))) = true := c8
              refine rn_iinc (a := p) (k := 1) (ls' := [(0, vr 4 k), (1, vr 5 kv), (2, vi (nI m)), (3, vi (nI o)), (4, vi (nI (2 ^ o))), (5, vi (sumIf (turnP v m o) (turnF v) p)), (6, vi (nI (p + 1))), (7, vi (nI 1))]) C (dx dX4_turnsOn 57 rfl) rfl rfl (by decide) [1, 2, 3, 4, 5, 6, 0, 7] rfl ?_
              refine r_goto (tgt := 11) C (dx dX4_turnsOn 58 rfl) (by decide) ?_
              have e9 : (sumIf (turnP v m o) (turnF v) p) = (sumIf (turnP v m o) (turnF v) (p + 1)) := by (have q9 := and_pow (o := o) (a := p) (by omega) (by omega); simp only [sumIf, turnP, turnF]; simp_all)
              rw [e9]
              refine r_weak C [0, 1, 2, 3, 4, 5, 6] rfl ?_
              exact ih
            ·
              have c8 : (wkW v (nI m) (gat v p (vN v))) = false := c8
              refine r_aload_n C (dx dX4_turnsOn 30 rfl) rfl ?_
              refine r_iload_n C (dx dX4_turnsOn 31 rfl) rfl ?_
              refine r_aload_n C (dx dX4_turnsOn 32 rfl) rfl ?_
              refine r_iload C (dx dX4_turnsOn 33 rfl) rfl ?_
              refine r_iload C (dx dX4_turnsOn 34 rfl) rfl ?_
              refine rn_ior (a := p) (b := 2 ^ o) C (dx dX4_turnsOn 35 rfl) ?_
              refine r_cvP (as := [vi (nI (p ||| 2 ^ o))]) (st := [vi (nI m), vr 5 kv]) (v := vi (gat v (p ||| 2 ^ o) (vN v))) C X I_X4_partsOf l_X4_65 (c_partsG hgp (by omega) (a := p ||| 2 ^ o) (Nat.lt_of_lt_of_le (Nat.or_lt_two_pow (by omega) (Nat.pow_lt_pow_right (by omega) ho)) (Nat.le_of_eq hS.symm))) (by decide) (Nat.le_of_ble_eq_true rfl) List.prefix_rfl rfl rfl (Nat.le_of_ble_eq_true rfl) rfl (dx dX4_turnsOn 36 rfl) ?_
              refine r_cvP (as := [vi (nI m), vi (gat v (p ||| 2 ^ o) (vN v))]) (st := []) (v := vi (b2i (wkW v (nI m) (gat v (p ||| 2 ^ o) (vN v))))) C X I_X5_isWorkedWith l_X4_50 (c_X5_isWorkedWith hv _ _) (by decide) (Nat.le_of_ble_eq_true rfl) List.prefix_rfl rfl rfl (Nat.le_of_ble_eq_true rfl) rfl (dx dX4_turnsOn 37 rfl) ?_
              refine rb_eq (b := wkW v (nI m) (gat v (p ||| 2 ^ o) (vN v))) (tgt := 104) C (dx dX4_turnsOn 38 rfl) (by decide) (fun c9 => ?_) (fun c9 => ?_)
              ·
                have c9 : (wkW v (nI m) (gat v (p ||| 2 ^ o) (vN v))) = false := c9
                refine rn_iinc (a := p) (k := 1) (ls' := [(0, vr 4 k), (1, vr 5 kv), (2, vi (nI m)), (3, vi (nI o)), (4, vi (nI (2 ^ o))), (5, vi (sumIf (turnP v m o) (turnF v) p)), (6, vi (nI (p + 1))), (7, vi (nI 1))]) C (dx dX4_turnsOn 57 rfl) rfl rfl (by decide) [1, 2, 3, 4, 5, 6, 0, 7] rfl ?_
                refine r_goto (tgt := 11) C (dx dX4_turnsOn 58 rfl) (by decide) ?_
                have e9 : (sumIf (turnP v m o) (turnF v) p) = (sumIf (turnP v m o) (turnF v) (p + 1)) := by (have q9 := and_pow (o := o) (a := p) (by omega) (by omega); simp only [sumIf, turnP, turnF]; simp_all)
                rw [e9]
                refine r_weak C [0, 1, 2, 3, 4, 5, 6] rfl ?_
                exact ih
              ·
                have c9 : (wkW v (nI m) (gat v (p ||| 2 ^ o) (vN v))) = true := c9
                refine r_iload C (dx dX4_turnsOn 39 rfl) rfl ?_
                refine r_csP (as := [vi (nI p)]) (st := []) (v := vi (nI (pcn p))) C X I_J6_bitCount_0f7a4 l_X4_68 (c_J6_bitCount_0f7a4 (a := p) (by omega)) (by decide) (Nat.le_of_ble_eq_true rfl) List.prefix_rfl (Nat.le_of_ble_eq_true rfl) rfl (dx dX4_turnsOn 40 rfl) ?_
                have pl : pcn p < vN v := pcn_lt bN ho (by omega) ((and_pow (by omega) (by omega)).mp c5)
                refine r_istore (ls' := [(0, vr 4 k), (1, vr 5 kv), (2, vi (nI m)), (3, vi (nI o)), (4, vi (nI (2 ^ o))), (5, vi (sumIf (turnP v m o) (turnF v) p)), (6, vi (nI p)), (7, vi (nI 1)), (8, vi (nI (pcn p)))]) C (dx dX4_turnsOn 41 rfl) (by decide) [1, 2, 3, 4, 5, 6, 7, 8, 0] rfl ?_
                refine r_iload C (dx dX4_turnsOn 42 rfl) rfl ?_
                refine r_aload_n C (dx dX4_turnsOn 43 rfl) rfl ?_
                refine r_iload C (dx dX4_turnsOn 44 rfl) rfl ?_
                refine r_cvP (as := [vi (nI (pcn p))]) (st := [vi (sumIf (turnP v m o) (turnF v) p)]) (v := vi (nI (fct (pcn p)))) C X I_X4_ordersOf l_X4_73 (c_X4_ordersOf hf (a := pcn p) (by omega)) (by decide) (Nat.le_of_ble_eq_true rfl) List.prefix_rfl rfl rfl (Nat.le_of_ble_eq_true rfl) rfl (dx dX4_turnsOn 45 rfl) ?_
                refine r_aload_n C (dx dX4_turnsOn 46 rfl) rfl ?_
                refine r_aload_n C (dx dX4_turnsOn 47 rfl) rfl ?_
                refine g_X4_22 (x := nI (vN v)) C (dx dX4_turnsOn 48 rfl) hv.eN ?_
                refine r_iconst (v := nI 1) C (dx dX4_turnsOn 49 rfl) rfl ?_
                refine rn_isub (a := vN v) (b := 1) C (by omega) (dx dX4_turnsOn 50 rfl) ?_
                refine r_iload C (dx dX4_turnsOn 51 rfl) rfl ?_
                refine rn_isub (a := vN v - 1) (b := pcn p) C (by omega) (dx dX4_turnsOn 52 rfl) ?_
                refine r_cvP (as := [vi (nI (vN v - 1 - (pcn p)))]) (st := [vi (nI (fct (pcn p))), vi (sumIf (turnP v m o) (turnF v) p)]) (v := vi (nI (fct (vN v - 1 - (pcn p))))) C X I_X4_ordersOf l_X4_73 (c_X4_ordersOf hf (a := vN v - 1 - (pcn p)) (by omega)) (by decide) (Nat.le_of_ble_eq_true rfl) List.prefix_rfl rfl rfl (Nat.le_of_ble_eq_true rfl) rfl (dx dX4_turnsOn 53 rfl) ?_
                refine rn_imul (a := fct (pcn p)) (b := fct (vN v - 1 - (pcn p))) C (dx dX4_turnsOn 54 rfl) ?_
                refine r_iadd C (dx dX4_turnsOn 55 rfl) ?_
                refine r_istore (ls' := [(0, vr 4 k), (1, vr 5 kv), (2, vi (nI m)), (3, vi (nI o)), (4, vi (nI (2 ^ o))), (5, vi ((sumIf (turnP v m o) (turnF v) p) + (nI ((fct (pcn p)) * (fct (vN v - 1 - (pcn p))))))), (6, vi (nI p)), (7, vi (nI 1)), (8, vi (nI (pcn p)))]) C (dx dX4_turnsOn 56 rfl) (by decide) [1, 2, 3, 4, 5, 0, 6, 7, 8] rfl ?_
                refine rn_iinc (a := p) (k := 1) (ls' := [(0, vr 4 k), (1, vr 5 kv), (2, vi (nI m)), (3, vi (nI o)), (4, vi (nI (2 ^ o))), (5, vi ((sumIf (turnP v m o) (turnF v) p) + (nI ((fct (pcn p)) * (fct (vN v - 1 - (pcn p))))))), (6, vi (nI (p + 1))), (7, vi (nI 1)), (8, vi (nI (pcn p)))]) C (dx dX4_turnsOn 57 rfl) rfl rfl (by decide) [1, 2, 3, 4, 5, 6, 0, 7, 8] rfl ?_
                refine r_goto (tgt := 11) C (dx dX4_turnsOn 58 rfl) (by decide) ?_
                have e9 : ((sumIf (turnP v m o) (turnF v) p) + (nI ((fct (pcn p)) * (fct (vN v - 1 - (pcn p)))))) = (sumIf (turnP v m o) (turnF v) (p + 1)) := by (have q9 := and_pow (o := o) (a := p) (by omega) (by omega); simp only [sumIf, turnP, turnF]; simp_all)
                rw [e9]
                refine r_weak C [0, 1, 2, 3, 4, 5, 6] rfl ?_
                exact ih)
set_option maxHeartbeats 4000000 in
theorem c_X4_bornBy {l : Launch} {h : Hp} {k kv : Nat} {v : Vg} (hv : VilAt h kv v) (hd : kv + 9 ≤ k ∨ k + 4 ≤ kv) (m : Nat) (hgp : ∀ s, s < 2 ^ vN v → xI h (k + 2) s = gat v s (vN v)) : Mp l yX4_bornBy cX4_bornBy 6 (some .int) 3 [vr 4 k, vr 5 kv, vi (nI m)] h (vi (bornV v m)) := by
  refine Ms.of (by decide) (Nat.le_of_ble_eq_true rfl) (fun G C X F => ?_)
  have C : Cx G cX4_bornBy 6 RX4 := C
  show Rr G 0 [(0, vr 4 k), (1, vr 5 kv), (2, vi (nI m))] [] h
  have bP := hv.bP
  have bM := hv.bM
  have bN := hv.bN
  have p8 := pow8 bN
  obtain ⟨S, hS⟩ : ∃ S, S = 2 ^ vN v := ⟨_, rfl⟩
  rw [← hS] at p8
  obtain ⟨W, hW⟩ : ∃ W, W = dif (S - 1) (crN v) := ⟨_, rfl⟩
  have hWS := dif_le (S - 1) (crN v)
  rw [← hW] at hWS
  rw [← hS] at hgp
  refine r_aload_n C (dx dX4_bornBy 0 rfl) rfl ?_
  refine r_cvP (as := []) (st := []) (v := vi (nI (S - 1))) C X I_X5_allPeople l_X4_46 (c_allS hv hS) (by decide) (Nat.le_of_ble_eq_true rfl) List.prefix_rfl rfl rfl (Nat.le_of_ble_eq_true rfl) rfl (dx dX4_bornBy 1 rfl) ?_
  refine r_aload_n C (dx dX4_bornBy 2 rfl) rfl ?_
  refine r_cvP (as := []) (st := [vi (nI (S - 1))]) (v := vi (nI (crN v))) C X I_X5_crossPeople l_X4_86 (c_crN hv) (by decide) (Nat.le_of_ble_eq_true rfl) List.prefix_rfl rfl rfl (Nat.le_of_ble_eq_true rfl) rfl (dx dX4_bornBy 3 rfl) ?_
  refine r_iconst (v := -1) C (dx dX4_bornBy 4 rfl) rfl ?_
  refine r_ixor C (dx dX4_bornBy 5 rfl) ?_
  refine r_iand C (dx dX4_bornBy 6 rfl) ?_
  rw [nI_dif (by omega), ← hW]
  refine r_istore_n (ls' := [(0, vr 4 k), (1, vr 5 kv), (2, vi (nI m)), (3, vi (nI W))]) C (dx dX4_bornBy 7 rfl) (by decide) [1, 2, 3, 0] rfl ?_
  refine r_bipush (v := nI 9) C (dx dX4_bornBy 8 rfl) rfl ?_
  refine r_istore (ls' := [(0, vr 4 k), (1, vr 5 kv), (2, vi (nI m)), (3, vi (nI W)), (4, vi (nI 9))]) C (dx dX4_bornBy 9 rfl) (by decide) [1, 2, 3, 4, 0] rfl ?_
  refine r_iconst (v := nI 0) C (dx dX4_bornBy 10 rfl) rfl ?_
  refine r_istore (ls' := [(0, vr 4 k), (1, vr 5 kv), (2, vi (nI m)), (3, vi (nI W)), (4, vi (nI 9)), (5, vi (nI 0))]) C (dx dX4_bornBy 11 rfl) (by decide) [1, 2, 3, 4, 5, 0] rfl ?_
  refine loopU (Φ := fun p => Rr G 19 [(0, vr 4 k), (1, vr 5 kv), (2, vi (nI m)), (3, vi (nI W)), (4, vi (minIf (standP v m W) (fun s => nI (pcn s)) (nI 9) p)), (5, vi (nI p))] [] h) (N := W + 1) ?_ ?_ 0 (Nat.zero_le _)
  ·
    refine r_iload C (dx dX4_bornBy 12 rfl) rfl ?_
    refine r_iload_n C (dx dX4_bornBy 13 rfl) rfl ?_
    refine rn_gt (a := W + 1) (b := W) (tgt := 70) C (by omega) (by omega) (dx dX4_bornBy 14 rfl) (by decide) (fun c1 => ?_) (fun c1 => ?_)
    · first
      | (omega; done)
      | (
          have c1 : W < W + 1 := c1
          refine r_iload C (dx dX4_bornBy 39 rfl) rfl ?_
          refine r_iconst (v := nI 1) C (dx dX4_bornBy 40 rfl) rfl ?_
          refine r_isub C (dx dX4_bornBy 41 rfl) ?_
          exact F.1 _ _ _ _ _ rfl rfl (dx dX4_bornBy 42 rfl) rfl ⟨congrArg (fun x => some (vi x)) (show (minIf (standP v m W) (fun s => nI (pcn s)) (nI 9) (W + 1)) - (nI 1) = bornV v m by unfold bornV willN; rw [← hS, ← hW]), rfl⟩)
    · first
      | (omega; done)
  ·
    intro p hp ih
    refine r_iload C (dx dX4_bornBy 12 rfl) rfl ?_
    refine r_iload_n C (dx dX4_bornBy 13 rfl) rfl ?_
    refine rn_gt (a := p) (b := W) (tgt := 70) C (by omega) (by omega) (dx dX4_bornBy 14 rfl) (by decide) (fun c3 => ?_) (fun c3 => ?_)
    · first
      | (omega; done)
      | (
          have c3 : W < p := c3
          refine r_iload C (dx dX4_bornBy 39 rfl) rfl ?_
          refine r_iconst (v := nI 1) C (dx dX4_bornBy 40 rfl) rfl ?_
          refine r_isub C (dx dX4_bornBy 41 rfl) ?_
          exact F.1 _ _ _ _ _ rfl rfl (dx dX4_bornBy 42 rfl) rfl ⟨congrArg (fun x => some (vi x)) (show (minIf (standP v m W) (fun s => nI (pcn s)) (nI 9) p) - (nI 1) = bornV v m by unfold bornV willN; rw [← hS, ← hW]), rfl⟩)
    · first
      | (omega; done)
      | (
          have c3 : p ≤ W := c3
          refine r_iload C (dx dX4_bornBy 15 rfl) rfl ?_
          refine r_iload_n C (dx dX4_bornBy 16 rfl) rfl ?_
          refine r_iconst (v := -1) C (dx dX4_bornBy 17 rfl) rfl ?_
          refine r_ixor C (dx dX4_bornBy 18 rfl) ?_
          refine r_iand C (dx dX4_bornBy 19 rfl) ?_
          rw [nI_dif (by omega)]
          refine r_if_ne (tgt := 64) C (dx dX4_bornBy 20 rfl) (by decide) (fun c4 => ?_) (fun c4 => ?_)
          ·
            have c4 : ¬ nI (dif p W) = 0 := c4
            refine rn_iinc (a := p) (k := 1) (ls' := [(0, vr 4 k), (1, vr 5 kv), (2, vi (nI m)), (3, vi (nI W)), (4, vi (minIf (standP v m W) (fun s => nI (pcn s)) (nI 9) p)), (5, vi (nI (p + 1)))]) C (dx dX4_bornBy 37 rfl) rfl rfl (by decide) [1, 2, 3, 4, 5, 0] rfl ?_
            refine r_goto (tgt := 19) C (dx dX4_bornBy 38 rfl) (by decide) ?_
            have e9 : (minIf (standP v m W) (fun s => nI (pcn s)) (nI 9) p) = (minIf (standP v m W) (fun s => nI (pcn s)) (nI 9) (p + 1)) := by (simp only [minIf, standP]; simp_all)
            rw [e9]
            exact ih
          ·
            have c4 : nI (dif p W) = 0 := c4
            refine r_aload_n C (dx dX4_bornBy 21 rfl) rfl ?_
            refine r_iload_n C (dx dX4_bornBy 22 rfl) rfl ?_
            refine r_aload_n C (dx dX4_bornBy 23 rfl) rfl ?_
            refine r_iload_n C (dx dX4_bornBy 24 rfl) rfl ?_
            refine r_iload C (dx dX4_bornBy 25 rfl) rfl ?_
            refine r_iconst (v := -1) C (dx dX4_bornBy 26 rfl) rfl ?_
            refine r_ixor C (dx dX4_bornBy 27 rfl) ?_
            refine r_iand C (dx dX4_bornBy 28 rfl) ?_
            rw [nI_dif (by omega)]
            refine r_cvP (as := [vi (nI (dif W p))]) (st := [vi (nI m), vr 5 kv]) (v := vi (gat v (dif W p) (vN v))) C X I_X4_partsOf l_X4_65 (c_partsG hgp (by omega) (a := dif W p) (Nat.lt_of_le_of_lt (dif_le _ _) (by omega))) (by decide) (Nat.le_of_ble_eq_true rfl) List.prefix_rfl rfl rfl (Nat.le_of_ble_eq_true rfl) rfl (dx dX4_bornBy 29 rfl) ?_
            refine r_cvP (as := [vi (nI m), vi (gat v (dif W p) (vN v))]) (st := []) (v := vi (b2i (wkW v (nI m) (gat v (dif W p) (vN v))))) C X I_X5_isWorkedWith l_X4_50 (c_X5_isWorkedWith hv _ _) (by decide) (Nat.le_of_ble_eq_true rfl) List.prefix_rfl rfl rfl (Nat.le_of_ble_eq_true rfl) rfl (dx dX4_bornBy 30 rfl) ?_
            refine rb_ne (b := wkW v (nI m) (gat v (dif W p) (vN v))) (tgt := 64) C (dx dX4_bornBy 31 rfl) (by decide) (fun c5 => ?_) (fun c5 => ?_)
            ·
              have c5 : (wkW v (nI m) (gat v (dif W p) (vN v))) = true := c5
              refine rn_iinc (a := p) (k := 1) (ls' := [(0, vr 4 k), (1, vr 5 kv), (2, vi (nI m)), (3, vi (nI W)), (4, vi (minIf (standP v m W) (fun s => nI (pcn s)) (nI 9) p)), (5, vi (nI (p + 1)))]) C (dx dX4_bornBy 37 rfl) rfl rfl (by decide) [1, 2, 3, 4, 5, 0] rfl ?_
              refine r_goto (tgt := 19) C (dx dX4_bornBy 38 rfl) (by decide) ?_
              have e9 : (minIf (standP v m W) (fun s => nI (pcn s)) (nI 9) p) = (minIf (standP v m W) (fun s => nI (pcn s)) (nI 9) (p + 1)) := by (simp only [minIf, standP]; simp_all)
              rw [e9]
              exact ih
            ·
              have c5 : (wkW v (nI m) (gat v (dif W p) (vN v))) = false := c5
              refine r_iload C (dx dX4_bornBy 32 rfl) rfl ?_
              refine r_iload C (dx dX4_bornBy 33 rfl) rfl ?_
              refine r_csP (as := [vi (nI p)]) (st := [vi (minIf (standP v m W) (fun s => nI (pcn s)) (nI 9) p)]) (v := vi (nI (pcn p))) C X I_J6_bitCount_0f7a4 l_X4_68 (c_J6_bitCount_0f7a4 (a := p) (by omega)) (by decide) (Nat.le_of_ble_eq_true rfl) List.prefix_rfl (Nat.le_of_ble_eq_true rfl) rfl (dx dX4_bornBy 34 rfl) ?_
              refine r_min C X (by decide) List.prefix_rfl (Nat.le_of_ble_eq_true rfl) l_X4_89 q_min.1 q_min.2.1 q_min.2.2 (dx dX4_bornBy 35 rfl) ?_
              refine r_istore (ls' := [(0, vr 4 k), (1, vr 5 kv), (2, vi (nI m)), (3, vi (nI W)), (4, vi (if nI (pcn p) < minIf (standP v m W) (fun s => nI (pcn s)) (nI 9) p then nI (pcn p) else minIf (standP v m W) (fun s => nI (pcn s)) (nI 9) p)), (5, vi (nI p))]) C (dx dX4_bornBy 36 rfl) (by decide) [1, 2, 3, 4, 0, 5] rfl ?_
              refine rn_iinc (a := p) (k := 1) (ls' := [(0, vr 4 k), (1, vr 5 kv), (2, vi (nI m)), (3, vi (nI W)), (4, vi (if nI (pcn p) < minIf (standP v m W) (fun s => nI (pcn s)) (nI 9) p then nI (pcn p) else minIf (standP v m W) (fun s => nI (pcn s)) (nI 9) p)), (5, vi (nI (p + 1)))]) C (dx dX4_bornBy 37 rfl) rfl rfl (by decide) [1, 2, 3, 4, 5, 0] rfl ?_
              refine r_goto (tgt := 19) C (dx dX4_bornBy 38 rfl) (by decide) ?_
              have e9 : (if nI (pcn p) < minIf (standP v m W) (fun s => nI (pcn s)) (nI 9) p then nI (pcn p) else minIf (standP v m W) (fun s => nI (pcn s)) (nI 9) p) = (minIf (standP v m W) (fun s => nI (pcn s)) (nI 9) (p + 1)) := by (simp only [minIf, standP]; simp_all)
              rw [e9]
              exact ih)
set_option maxHeartbeats 4000000 in
theorem c_X4_worthOfTurnsOn {l : Launch} {h : Hp} {k kv : Nat} {v : Vg} (hv : VilAt h kv v) (hd : kv + 9 ≤ k ∨ k + 4 ≤ kv) (o : Nat) (ho : o < vN v) (hgp : ∀ s, s < 2 ^ vN v → xI h (k + 2) s = gat v s (vN v)) (hf : ∀ i, i < 8 → xI h (k + 3) i = nI (fct i)) : Mp l yX4_worthOfTurnsOn cX4_worthOfTurnsOn 6 (some .long) 4 [vr 4 k, vr 5 kv, vi (nI o)] h (vl (worthT v o)) := by
  refine Ms.of (by decide) (Nat.le_of_ble_eq_true rfl) (fun G C X F => ?_)
  have C : Cx G cX4_worthOfTurnsOn 6 RX4 := C
  show Rr G 0 [(0, vr 4 k), (1, vr 5 kv), (2, vi (nI o))] [] h
  have bP := hv.bP
  have bM := hv.bM
  have bN := hv.bN
  have p8 := pow8 bN
  obtain ⟨S, hS⟩ : ∃ S, S = 2 ^ vN v := ⟨_, rfl⟩
  rw [← hS] at p8
  refine r_lconst (v := 0) C (dx dX4_worthOfTurnsOn 0 rfl) rfl ?_
  refine r_lstore_n (ls' := [(0, vr 4 k), (1, vr 5 kv), (2, vi (nI o)), (3, vl 0)]) C (dx dX4_worthOfTurnsOn 1 rfl) (by decide) [1, 2, 3, 0] rfl ?_
  refine r_iconst (v := nI 0) C (dx dX4_worthOfTurnsOn 2 rfl) rfl ?_
  refine r_istore (ls' := [(0, vr 4 k), (1, vr 5 kv), (2, vi (nI o)), (3, vl 0), (5, vi (nI 0))]) C (dx dX4_worthOfTurnsOn 3 rfl) (by decide) [1, 2, 3, 4, 0] rfl ?_
  refine loopU (Φ := fun p => Rr G 5 [(0, vr 4 k), (1, vr 5 kv), (2, vi (nI o)), (3, vl (sumL (fun m => (vF v 3 m).toInt64 * (turnV v m o).toInt64) p)), (5, vi (nI p))] [] h) (N := vM v) ?_ ?_ 0 (Nat.zero_le _)
  ·
    refine r_iload C (dx dX4_worthOfTurnsOn 4 rfl) rfl ?_
    refine r_aload_n C (dx dX4_worthOfTurnsOn 5 rfl) rfl ?_
    refine g_X4_76 (x := nI (vM v)) C (dx dX4_worthOfTurnsOn 6 rfl) hv.eM ?_
    refine rn_ge (a := vM v) (b := vM v) (tgt := 41) C (by omega) (by omega) (dx dX4_worthOfTurnsOn 7 rfl) (by decide) (fun c1 => ?_) (fun c1 => ?_)
    · first
      | (omega; done)
      | (
          have c1 : vM v ≤ vM v := c1
          refine r_lload_n C (dx dX4_worthOfTurnsOn 25 rfl) rfl ?_
          exact F.2.1 _ _ _ _ rfl (dx dX4_worthOfTurnsOn 26 rfl) rfl ⟨congrArg (fun x => some (vl x)) (show sumL (fun m => (vF v 3 m).toInt64 * (turnV v m o).toInt64) (vM v) = worthT v o by rfl), rfl⟩)
    · first
      | (omega; done)
  ·
    intro p hp ih
    refine r_iload C (dx dX4_worthOfTurnsOn 4 rfl) rfl ?_
    refine r_aload_n C (dx dX4_worthOfTurnsOn 5 rfl) rfl ?_
    refine g_X4_76 (x := nI (vM v)) C (dx dX4_worthOfTurnsOn 6 rfl) hv.eM ?_
    refine rn_ge (a := p) (b := vM v) (tgt := 41) C (by omega) (by omega) (dx dX4_worthOfTurnsOn 7 rfl) (by decide) (fun c2 => ?_) (fun c2 => ?_)
    · first
      | (omega; done)
      | (
          have c2 : vM v ≤ p := c2
          refine r_lload_n C (dx dX4_worthOfTurnsOn 25 rfl) rfl ?_
          exact F.2.1 _ _ _ _ rfl (dx dX4_worthOfTurnsOn 26 rfl) rfl ⟨congrArg (fun x => some (vl x)) (show sumL (fun m => (vF v 3 m).toInt64 * (turnV v m o).toInt64) p = worthT v o by rfl), rfl⟩)
    · first
      | (omega; done)
      | (
          have c2 : p < vM v := c2
          refine r_lload_n C (dx dX4_worthOfTurnsOn 8 rfl) rfl ?_
          refine r_aload_n C (dx dX4_worthOfTurnsOn 9 rfl) rfl ?_
          refine g_X4_79 C (dx dX4_worthOfTurnsOn 10 rfl) ?_
          refine r_iload C (dx dX4_worthOfTurnsOn 11 rfl) rfl ?_
          refine r_iald (j := p) (x := vF v 3 p) C rfl rfl (by decide) rfl (by omega) (dx dX4_worthOfTurnsOn 12 rfl) (hv.e3 (by omega)) ?_
          refine r_i2l C (dx dX4_worthOfTurnsOn 13 rfl) ?_
          refine r_aload_n C (dx dX4_worthOfTurnsOn 14 rfl) rfl ?_
          refine r_aload_n C (dx dX4_worthOfTurnsOn 15 rfl) rfl ?_
          refine r_iload C (dx dX4_worthOfTurnsOn 16 rfl) rfl ?_
          refine r_iload_n C (dx dX4_worthOfTurnsOn 17 rfl) rfl ?_
          refine r_cvP (as := [vr 5 kv, vi (nI p), vi (nI o)]) (st := [vl ((vF v 3 p).toInt64), vl (sumL (fun m => (vF v 3 m).toInt64 * (turnV v m o).toInt64) p)]) (v := vi (turnV v p o)) C X I_X4_turnsOn l_X4_82 (c_X4_turnsOn hv hd p o (by omega) ho hgp hf) (by decide) (Nat.le_of_ble_eq_true rfl) List.prefix_rfl rfl rfl (Nat.le_of_ble_eq_true rfl) rfl (dx dX4_worthOfTurnsOn 18 rfl) ?_
          refine r_i2l C (dx dX4_worthOfTurnsOn 19 rfl) ?_
          refine r_lmul C (dx dX4_worthOfTurnsOn 20 rfl) ?_
          refine r_ladd C (dx dX4_worthOfTurnsOn 21 rfl) ?_
          refine r_lstore_n (ls' := [(0, vr 4 k), (1, vr 5 kv), (2, vi (nI o)), (3, vl ((sumL (fun m => (vF v 3 m).toInt64 * (turnV v m o).toInt64) p) + (((vF v 3 p).toInt64) * ((turnV v p o).toInt64)))), (5, vi (nI p))]) C (dx dX4_worthOfTurnsOn 22 rfl) (by decide) [1, 2, 3, 0, 4] rfl ?_
          refine rn_iinc (a := p) (k := 1) (ls' := [(0, vr 4 k), (1, vr 5 kv), (2, vi (nI o)), (3, vl ((sumL (fun m => (vF v 3 m).toInt64 * (turnV v m o).toInt64) p) + (((vF v 3 p).toInt64) * ((turnV v p o).toInt64)))), (5, vi (nI (p + 1)))]) C (dx dX4_worthOfTurnsOn 23 rfl) rfl rfl (by decide) [1, 2, 3, 4, 0] rfl ?_
          refine r_goto (tgt := 5) C (dx dX4_worthOfTurnsOn 24 rfl) (by decide) ?_
          have e9 : ((sumL (fun m => (vF v 3 m).toInt64 * (turnV v m o).toInt64) p) + (((vF v 3 p).toInt64) * ((turnV v p o).toInt64))) = (sumL (fun m => (vF v 3 m).toInt64 * (turnV v m o).toInt64) (p + 1)) := by rfl
          rw [e9]
          exact ih)

