/-! PART 57q: what status answers on a new object -/
def stF (x : Int32) : Int32 := if x = 8 then 1 else if inR x 10 = true ∨ (¬ x < nI 12 ∧ ¬ nI 16 < x) then 0 else -1
theorem sq_no {x : Int32} (h : x.toInt < 0 ∨ ((10 : Nat) : Int) - 1 < x.toInt) (h2 : x < nI 12 ∨ nI 16 < x) : (-1 : Int32) = stF x := by
  unfold stF
  rw [if_neg (fun q => by subst q; revert h; decide), if_neg]
  rintro (q | ⟨q1, q2⟩)
  · unfold inR at q
    have := of_decide_eq_true q
    omega
  · rcases h2 with z | z
    · exact q1 z
    · exact q2 z
theorem sq_mid {j : Nat} (h1 : 12 ≤ j) (h2 : j ≤ 16) : (0 : Int32) = stF (nI j) := by
  have key : ∀ j : Fin 17, 12 ≤ j.val → (0 : Int32) = stF (nI j.val) := by decide +kernel
  exact key ⟨j, by omega⟩ h1
theorem sq_btw {x : Int32} {a b : Nat} (h : btwB x a b = false) : x < nI a ∨ nI b < x := by
  unfold btwB at h
  by_cases c : x < nI a
  · exact Or.inl c
  · by_cases d : nI b < x
    · exact Or.inr d
    · rw [decide_eq_true c, decide_eq_true d] at h; exact absurd h (by decide)
set_option maxHeartbeats 4000000 in
theorem x0_status {l : Launch} {h : Hp} {B : Nat → Int32} {κ : Int32} (o : Ow h v00 v00 v00 g00 B 0 κ) (d10 : xI h 0 10 = 0) (d11 : xI h 0 11 = 0) (rf : ∀ i, xI h 62 i = 0) (x : Int32) : Ms l yX6_status cX6_status 2 (some .int) 20 [vr 6 0, vi x] h (xK h) (fun r h' => r = some (vi (stF x)) ∧ OwX h h' v00 v00 g00 B 0 κ) := by
  refine Ms.of (by decide) (Nat.le_of_ble_eq_true rfl) (fun G C X F => ?_)
  have C : Cx G cX6_status 2 RX6 := C
  show Rr G 0 [(0, vr 6 0), (1, vi x)] [] h
  have bP := o.pv.bP
  have bM := o.pv.bM
  have bN := o.pv.bN
  have bz := o.pt.2.2
  have hcr : crN v00 < 256 := by decide +kernel
  refine r_iload_n C (dx dX6_status 0 rfl) rfl ?_
  rcases sw_c 10 x with ⟨j9, hj9, e9⟩ | e9
  · rcases (show j9 = 0 ∨ j9 = 1 ∨ j9 = 2 ∨ j9 = 3 ∨ j9 = 4 ∨ j9 = 5 ∨ j9 = 6 ∨ j9 = 7 ∨ j9 = 8 ∨ j9 = 9 by omega) with e8 | e8 | e8 | e8 | e8 | e8 | e8 | e8 | e8 | e8
    ·
      rw [e8] at e9; subst e9
      refine r_tabIn (off := 55) (tgt := 56) C (dx dX6_status 1 rfl) (by decide) (by decide) (by decide) (by decide) ?_
      refine r_aload_n C (dx dX6_status 2 rfl) rfl ?_
      refine g_X6_10 C (dx dX6_status 3 rfl) ?_
      refine g_X6_138 (x := nI (vP v00)) C (dx dX6_status 4 rfl) o.pv.eP ?_
      exact F.1 _ _ _ _ _ rfl rfl (dx dX6_status 5 rfl) rfl ⟨congrArg (fun q => some (vi q)) (by decide +kernel), (show OwX h h v00 v00 g00 B 0 κ from by exact ⟨⟨_, o⟩, Fr.rf⟩)⟩
    ·
      rw [e8] at e9; subst e9
      refine r_tabIn (off := 63) (tgt := 64) C (dx dX6_status 1 rfl) (by decide) (by decide) (by decide) (by decide) ?_
      refine r_aload_n C (dx dX6_status 6 rfl) rfl ?_
      refine g_X6_10 C (dx dX6_status 7 rfl) ?_
      refine g_X6_147 (x := nI (vM v00)) C (dx dX6_status 8 rfl) o.pv.eM ?_
      exact F.1 _ _ _ _ _ rfl rfl (dx dX6_status 9 rfl) rfl ⟨congrArg (fun q => some (vi q)) (by decide +kernel), (show OwX h h v00 v00 g00 B 0 κ from by exact ⟨⟨_, o⟩, Fr.rf⟩)⟩
    ·
      rw [e8] at e9; subst e9
      refine r_tabIn (off := 71) (tgt := 72) C (dx dX6_status 1 rfl) (by decide) (by decide) (by decide) (by decide) ?_
      refine r_aload_n C (dx dX6_status 10 rfl) rfl ?_
      refine g_X6_10 C (dx dX6_status 11 rfl) ?_
      refine g_X6_154 (x := nI (vN v00)) C (dx dX6_status 12 rfl) o.pv.eN ?_
      exact F.1 _ _ _ _ _ rfl rfl (dx dX6_status 13 rfl) rfl ⟨congrArg (fun q => some (vi q)) (by decide +kernel), (show OwX h h v00 v00 g00 B 0 κ from by exact ⟨⟨_, o⟩, Fr.rf⟩)⟩
    ·
      rw [e8] at e9; subst e9
      refine r_tabIn (off := 79) (tgt := 80) C (dx dX6_status 1 rfl) (by decide) (by decide) (by decide) (by decide) ?_
      refine r_aload_n C (dx dX6_status 14 rfl) rfl ?_
      refine g_X6_10 C (dx dX6_status 15 rfl) ?_
      refine r_cvP (as := []) (st := []) (v := vi (nI (crN v00))) C X I_X5_crossPeople l_X6_337 (c_crN o.pv) (by decide) (Nat.le_of_ble_eq_true rfl) List.prefix_rfl rfl rfl (Nat.le_of_ble_eq_true rfl) rfl (dx dX6_status 16 rfl) ?_
      have bc1 := pcn_12 (a := crN v00) (by omega)
      refine r_csP (as := [vi (nI (crN v00))]) (st := []) (v := vi (nI (pcn (crN v00)))) C X I_J6_bitCount_0f7a4 l_X6_285 (c_J6_bitCount_0f7a4 (a := crN v00) (by omega)) (by decide) (Nat.le_of_ble_eq_true rfl) List.prefix_rfl (Nat.le_of_ble_eq_true rfl) rfl (dx dX6_status 17 rfl) ?_
      exact F.1 _ _ _ _ _ rfl rfl (dx dX6_status 18 rfl) rfl ⟨congrArg (fun q => some (vi q)) (by decide +kernel), (show OwX h h v00 v00 g00 B 0 κ from by exact ⟨⟨_, o⟩, Fr.rf⟩)⟩
    ·
      rw [e8] at e9; subst e9
      refine r_tabIn (off := 90) (tgt := 91) C (dx dX6_status 1 rfl) (by decide) (by decide) (by decide) (by decide) ?_
      refine r_aload_n C (dx dX6_status 19 rfl) rfl ?_
      refine g_X6_10 C (dx dX6_status 20 rfl) ?_
      refine r_cvP (as := []) (st := []) (v := vi (nI (cnt (fun p => decide (¬ vF v00 0 p = -1)) (vP v00)))) C X I_X5_holderCount l_X6_135 (c_X5_holderCount o.pv) (by decide) (Nat.le_of_ble_eq_true rfl) List.prefix_rfl rfl rfl (Nat.le_of_ble_eq_true rfl) rfl (dx dX6_status 21 rfl) ?_
      refine r_aload_n C (dx dX6_status 22 rfl) rfl ?_
      refine g_X6_10 C (dx dX6_status 23 rfl) ?_
      refine r_cvP (as := []) (st := [vi (nI (cnt (fun p => decide (¬ vF v00 0 p = -1)) (vP v00)))]) (v := vi (nI (cnt (fun p => decide (¬ vF v00 1 p = -1)) (vP v00)))) C X I_X5_secondCount l_X6_131 (c_X5_secondCount o.pv) (by decide) (Nat.le_of_ble_eq_true rfl) List.prefix_rfl rfl rfl (Nat.le_of_ble_eq_true rfl) rfl (dx dX6_status 24 rfl) ?_
      refine rn_iadd (a := cnt (fun p => decide (¬ vF v00 0 p = -1)) (vP v00)) (b := cnt (fun p => decide (¬ vF v00 1 p = -1)) (vP v00)) C (dx dX6_status 25 rfl) ?_
      exact F.1 _ _ _ _ _ rfl rfl (dx dX6_status 26 rfl) rfl ⟨congrArg (fun q => some (vi q)) (by decide +kernel), (show OwX h h v00 v00 g00 B 0 κ from by exact ⟨⟨_, o⟩, Fr.rf⟩)⟩
    ·
      rw [e8] at e9; subst e9
      refine r_tabIn (off := 106) (tgt := 107) C (dx dX6_status 1 rfl) (by decide) (by decide) (by decide) (by decide) ?_
      refine r_aload_n C (dx dX6_status 27 rfl) rfl ?_
      refine g_X6_65 (x := xI h 0 10) C (dx dX6_status 28 rfl) rfl ?_
      exact F.1 _ _ _ _ _ rfl rfl (dx dX6_status 29 rfl) rfl ⟨congrArg (fun q => some (vi q)) (d10.trans (by decide +kernel)), (show OwX h h v00 v00 g00 B 0 κ from by exact ⟨⟨_, o⟩, Fr.rf⟩)⟩
    ·
      rw [e8] at e9; subst e9
      refine r_tabIn (off := 111) (tgt := 112) C (dx dX6_status 1 rfl) (by decide) (by decide) (by decide) (by decide) ?_
      refine r_aload_n C (dx dX6_status 30 rfl) rfl ?_
      refine g_X6_69 (x := xI h 0 11) C (dx dX6_status 31 rfl) rfl ?_
      exact F.1 _ _ _ _ _ rfl rfl (dx dX6_status 32 rfl) rfl ⟨congrArg (fun q => some (vi q)) (d11.trans (by decide +kernel)), (show OwX h h v00 v00 g00 B 0 κ from by exact ⟨⟨_, o⟩, Fr.rf⟩)⟩
    ·
      rw [e8] at e9; subst e9
      refine r_tabIn (off := 116) (tgt := 117) C (dx dX6_status 1 rfl) (by decide) (by decide) (by decide) (by decide) ?_
      refine r_aload_n C (dx dX6_status 33 rfl) rfl ?_
      refine g_X6_50 C (dx dX6_status 34 rfl) ?_
      refine r_cvP (as := []) (st := []) (v := vi (nI 0)) C X I_X3_length l_X6_182 (c_X3_length o.pt) (by decide) (Nat.le_of_ble_eq_true rfl) List.prefix_rfl rfl rfl (Nat.le_of_ble_eq_true rfl) rfl (dx dX6_status 35 rfl) ?_
      exact F.1 _ _ _ _ _ rfl rfl (dx dX6_status 36 rfl) rfl ⟨congrArg (fun q => some (vi q)) (by decide +kernel), (show OwX h h v00 v00 g00 B 0 κ from by exact ⟨⟨_, o⟩, Fr.rf⟩)⟩
    ·
      rw [e8] at e9; subst e9
      refine r_tabIn (off := 124) (tgt := 125) C (dx dX6_status 1 rfl) (by decide) (by decide) (by decide) (by decide) ?_
      refine r_aload_n C (dx dX6_status 37 rfl) rfl ?_
      refine g_X6_10 C (dx dX6_status 38 rfl) ?_
      refine g_X6_334 (x := vS v00) C (dx dX6_status 39 rfl) o.pv.eS ?_
      exact F.1 _ _ _ _ _ rfl rfl (dx dX6_status 40 rfl) rfl ⟨congrArg (fun q => some (vi q)) (by decide +kernel), (show OwX h h v00 v00 g00 B 0 κ from by exact ⟨⟨_, o⟩, Fr.rf⟩)⟩
    ·
      rw [e8] at e9; subst e9
      refine r_tabIn (off := 132) (tgt := 133) C (dx dX6_status 1 rfl) (by decide) (by decide) (by decide) (by decide) ?_
      refine r_aload_n C (dx dX6_status 41 rfl) rfl ?_
      refine g_X6_57 C (dx dX6_status 42 rfl) ?_
      refine r_cvP (as := []) (st := []) (v := vi (nI (fullS g00 8))) C X I_X2_fullCount l_X6_340 (c_X2_fullCount o.pg) (by decide) (Nat.le_of_ble_eq_true rfl) List.prefix_rfl rfl rfl (Nat.le_of_ble_eq_true rfl) rfl (dx dX6_status 43 rfl) ?_
      exact F.1 _ _ _ _ _ rfl rfl (dx dX6_status 44 rfl) rfl ⟨congrArg (fun q => some (vi q)) (by decide +kernel), (show OwX h h v00 v00 g00 B 0 κ from by exact ⟨⟨_, o⟩, Fr.rf⟩)⟩
  ·
    refine r_tabOut (tgt := 141) C (dx dX6_status 1 rfl) (by omega) (by decide) ?_
    refine r_iload_n C (dx dX6_status 45 rfl) rfl ?_
    refine r_bipush (v := nI 12) C (dx dX6_status 46 rfl) rfl ?_
    refine r_icmp_lt (tgt := 165) C (dx dX6_status 47 rfl) (by decide) (fun c2 => ?_) (fun c2 => ?_)
    ·
      have c2 : x < nI 12 := c2
      refine r_iconst (v := -1) C (dx dX6_status 58 rfl) rfl ?_
      exact F.1 _ _ _ _ _ rfl rfl (dx dX6_status 59 rfl) rfl ⟨congrArg (fun q => some (vi q)) (sq_no e9 (Or.inl c2)), (show OwX h h v00 v00 g00 B 0 κ from by exact ⟨⟨_, o⟩, Fr.rf⟩)⟩
    ·
      have c2 : ¬ x < nI 12 := c2
      refine r_iload_n C (dx dX6_status 48 rfl) rfl ?_
      refine r_bipush (v := nI 16) C (dx dX6_status 49 rfl) rfl ?_
      refine r_icmp_gt (tgt := 165) C (dx dX6_status 50 rfl) (by decide) (fun c3 => ?_) (fun c3 => ?_)
      ·
        have c3 : nI 16 < x := c3
        refine r_iconst (v := -1) C (dx dX6_status 58 rfl) rfl ?_
        exact F.1 _ _ _ _ _ rfl rfl (dx dX6_status 59 rfl) rfl ⟨congrArg (fun q => some (vi q)) (sq_no e9 (Or.inr c3)), (show OwX h h v00 v00 g00 B 0 κ from by exact ⟨⟨_, o⟩, Fr.rf⟩)⟩
      ·
        have c3 : ¬ nI 16 < x := c3
        obtain ⟨x9, hx9, hx92, rfl⟩ := btw (a := 12) (b := 16) (by omega) (by omega) c2 c3
        refine r_aload_n C (dx dX6_status 51 rfl) rfl ?_
        refine g_X6_61 C (dx dX6_status 52 rfl) ?_
        refine r_iload_n C (dx dX6_status 53 rfl) rfl ?_
        refine r_bipush (v := nI 12) C (dx dX6_status 54 rfl) rfl ?_
        refine rn_isub (a := x9) (b := 12) C (by omega) (dx dX6_status 55 rfl) ?_
        refine r_iald (j := x9 - 12) (x := xI h 62 (x9 - 12)) C rfl rfl (by decide) rfl (by omega) (dx dX6_status 56 rfl) rfl ?_
        refine r_goto (tgt := 166) C (dx dX6_status 57 rfl) (by decide) ?_
        exact F.1 _ _ _ _ _ rfl rfl (dx dX6_status 59 rfl) rfl ⟨congrArg (fun q => some (vi q)) ((rf _).trans (sq_mid hx9 hx92)), (show OwX h h v00 v00 g00 B 0 κ from by exact ⟨⟨_, o⟩, Fr.rf⟩)⟩

set_option maxHeartbeats 4000000 in
theorem z0_status {l : Launch} {h : Hp} {k : Nat} (hm : MilAt h k v00) (d18 : xI h k 18 = 0) (d19 : xI h k 19 = 0) (d8 : xI h k 8 = nI 0) (hf : ∀ i, i < 8 → xI h (k + 1) i = 0) (rf : ∀ i, xI h (k + 17) i = 0) (x : Int32) : Ms l yX7_status cX7_status 4 (some .int) 8 [vr 7 k, vi x] h (xK h) (fun r h' => r = some (vi (stF x)) ∧ MilAt h' k v00 ∧ Kp k h h') := by
  refine Ms.of (by decide) (Nat.le_of_ble_eq_true rfl) (fun G C X F => ?_)
  have C : Cx G cX7_status 4 RX7 := C
  show Rr G 0 [(0, vr 7 k), (1, vi x)] [] h
  have bP := hm.bP
  have bM := hm.bM
  have bN := hm.bN
  refine r_iconst (v := nI 0) C (dx dX7_status 0 rfl) rfl ?_
  refine r_istore_n (ls' := [(0, vr 7 k), (1, vi x), (2, vi (nI 0))]) C (dx dX7_status 1 rfl) (by decide) [1, 2, 0] rfl ?_
  refine r_iload_n C (dx dX7_status 2 rfl) rfl ?_
  rcases sw_c 10 x with ⟨j9, hj9, e9⟩ | e9
  · rcases (show j9 = 0 ∨ j9 = 1 ∨ j9 = 2 ∨ j9 = 3 ∨ j9 = 4 ∨ j9 = 5 ∨ j9 = 6 ∨ j9 = 7 ∨ j9 = 8 ∨ j9 = 9 by omega) with e8 | e8 | e8 | e8 | e8 | e8 | e8 | e8 | e8 | e8
    ·
      rw [e8] at e9; subst e9
      refine r_tabIn (off := 53) (tgt := 56) C (dx dX7_status 3 rfl) (by decide) (by decide) (by decide) (by decide) ?_
      refine r_aload_n C (dx dX7_status 4 rfl) rfl ?_
      refine g_X7_64 (x := nI (vP v00)) C (dx dX7_status 5 rfl) hm.eP ?_
      exact F.1 _ _ _ _ .int rfl rfl (dx dX7_status 6 rfl) rfl ⟨congrArg (fun q => some (vi q)) (by decide +kernel), hm, Kp.rf⟩
    ·
      rw [e8] at e9; subst e9
      refine r_tabIn (off := 58) (tgt := 61) C (dx dX7_status 3 rfl) (by decide) (by decide) (by decide) (by decide) ?_
      refine r_aload_n C (dx dX7_status 7 rfl) rfl ?_
      refine g_X7_71 (x := nI (vM v00)) C (dx dX7_status 8 rfl) hm.eM ?_
      exact F.1 _ _ _ _ .int rfl rfl (dx dX7_status 9 rfl) rfl ⟨congrArg (fun q => some (vi q)) (by decide +kernel), hm, Kp.rf⟩
    ·
      rw [e8] at e9; subst e9
      refine r_tabIn (off := 63) (tgt := 66) C (dx dX7_status 3 rfl) (by decide) (by decide) (by decide) (by decide) ?_
      refine r_aload_n C (dx dX7_status 10 rfl) rfl ?_
      refine g_X7_74 (x := nI (vN v00)) C (dx dX7_status 11 rfl) hm.eN ?_
      exact F.1 _ _ _ _ .int rfl rfl (dx dX7_status 12 rfl) rfl ⟨congrArg (fun q => some (vi q)) (by decide +kernel), hm, Kp.rf⟩
    ·
      rw [e8] at e9; subst e9
      refine r_tabIn (off := 68) (tgt := 71) C (dx dX7_status 3 rfl) (by decide) (by decide) (by decide) (by decide) ?_
      refine r_aload_n C (dx dX7_status 13 rfl) rfl ?_
      refine r_cvP (as := []) (st := []) (v := vi (crR v00 (vN v00))) C X I_X7_crossOnes l_X7_322 (e_crossOnes hm) (by decide) (Nat.le_of_ble_eq_true rfl) List.prefix_rfl rfl rfl (Nat.le_of_ble_eq_true rfl) rfl (dx dX7_status 14 rfl) ?_
      rw [show crR v00 (vN v00) = nI 0 from rfl]
      refine r_csP (as := [vi (nI 0)]) (st := []) (v := vi (nI (pcn 0))) C X I_X7_bits l_X7_268 (e_bits (a := 0) (by decide)) (by decide) (Nat.le_of_ble_eq_true rfl) List.prefix_rfl (Nat.le_of_ble_eq_true rfl) rfl (dx dX7_status 15 rfl) ?_
      exact F.1 _ _ _ _ .int rfl rfl (dx dX7_status 16 rfl) rfl ⟨congrArg (fun q => some (vi q)) (by decide +kernel), hm, Kp.rf⟩
    ·
      rw [e8] at e9; subst e9
      refine r_tabIn (off := 76) (tgt := 79) C (dx dX7_status 3 rfl) (by decide) (by decide) (by decide) (by decide) ?_
      refine r_iconst (v := nI 0) C (dx dX7_status 17 rfl) rfl ?_
      refine r_istore_n (ls' := [(0, vr 7 k), (1, vi (nI 4)), (2, vi (nI 0)), (3, vi (nI 0))]) C (dx dX7_status 18 rfl) (by decide) [1, 2, 3, 0] rfl ?_
      refine loopU (Φ := fun p => Rr G 81 [(0, vr 7 k), (1, vi (nI 4)), (2, vi (nI 0)), (3, vi (nI p))] [] h) (N := vN v00) ?_ ?_ 0 (by omega)
      ·
        refine r_iload_n C (dx dX7_status 19 rfl) rfl ?_
        refine r_aload_n C (dx dX7_status 20 rfl) rfl ?_
        refine g_X7_74 (x := nI (vN v00)) C (dx dX7_status 21 rfl) hm.eN ?_
        refine rn_ge (a := vN v00) (b := vN v00) (tgt := 103) C (by omega) (by omega) (dx dX7_status 22 rfl) (by decide) (fun c3 => ?_) (fun c3 => ?_)
        · first
          | (omega; done)
          | (
              have c3 : vN v00 ≤ vN v00 := c3
              refine r_iload_n C (dx dX7_status 31 rfl) rfl ?_
              exact F.1 _ _ _ _ .int rfl rfl (dx dX7_status 32 rfl) rfl ⟨congrArg (fun q => some (vi q)) (by decide +kernel), hm, Kp.rf⟩)
        · first
          | (omega; done)
      ·
        intro p hp _
        exact absurd hp (Nat.not_lt_zero _)
    ·
      rw [e8] at e9; subst e9
      refine r_tabIn (off := 102) (tgt := 105) C (dx dX7_status 3 rfl) (by decide) (by decide) (by decide) (by decide) ?_
      refine r_aload_n C (dx dX7_status 33 rfl) rfl ?_
      refine g_X7_339 (x := xI h k 18) C (dx dX7_status 34 rfl) rfl ?_
      exact F.1 _ _ _ _ .int rfl rfl (dx dX7_status 35 rfl) rfl ⟨congrArg (fun q => some (vi q)) (d18.trans (by decide +kernel)), hm, Kp.rf⟩
    ·
      rw [e8] at e9; subst e9
      refine r_tabIn (off := 107) (tgt := 110) C (dx dX7_status 3 rfl) (by decide) (by decide) (by decide) (by decide) ?_
      refine r_aload_n C (dx dX7_status 36 rfl) rfl ?_
      refine g_X7_347 (x := xI h k 19) C (dx dX7_status 37 rfl) rfl ?_
      exact F.1 _ _ _ _ .int rfl rfl (dx dX7_status 38 rfl) rfl ⟨congrArg (fun q => some (vi q)) (d19.trans (by decide +kernel)), hm, Kp.rf⟩
    ·
      rw [e8] at e9; subst e9
      refine r_tabIn (off := 112) (tgt := 115) C (dx dX7_status 3 rfl) (by decide) (by decide) (by decide) (by decide) ?_
      refine r_aload_n C (dx dX7_status 39 rfl) rfl ?_
      refine g_X7_138 (x := xI h k 8) C (dx dX7_status 40 rfl) rfl ?_
      exact F.1 _ _ _ _ .int rfl rfl (dx dX7_status 41 rfl) rfl ⟨congrArg (fun q => some (vi q)) (d8.trans (by decide +kernel)), hm, Kp.rf⟩
    ·
      rw [e8] at e9; subst e9
      refine r_tabIn (off := 117) (tgt := 120) C (dx dX7_status 3 rfl) (by decide) (by decide) (by decide) (by decide) ?_
      refine r_aload_n C (dx dX7_status 42 rfl) rfl ?_
      refine g_X7_57 (x := vS v00) C (dx dX7_status 43 rfl) hm.eS ?_
      exact F.1 _ _ _ _ .int rfl rfl (dx dX7_status 44 rfl) rfl ⟨congrArg (fun q => some (vi q)) (by decide +kernel), hm, Kp.rf⟩
    ·
      rw [e8] at e9; subst e9
      refine r_tabIn (off := 122) (tgt := 125) C (dx dX7_status 3 rfl) (by decide) (by decide) (by decide) (by decide) ?_
      refine r_iconst (v := nI 0) C (dx dX7_status 45 rfl) rfl ?_
      refine r_istore_n (ls' := [(0, vr 7 k), (1, vi (nI 9)), (2, vi (nI 0)), (3, vi (nI 0))]) C (dx dX7_status 46 rfl) (by decide) [1, 2, 3, 0] rfl ?_
      refine loopU (Φ := fun p => Rr G 127 [(0, vr 7 k), (1, vi (nI 9)), (2, vi (nI 0)), (3, vi (nI p))] [] h) (N := 8) ?_ ?_ 0 (by omega)
      ·
        refine r_iload_n C (dx dX7_status 47 rfl) rfl ?_
        refine r_bipush (v := nI 8) C (dx dX7_status 48 rfl) rfl ?_
        refine rn_ge (a := 8) (b := 8) (tgt := 156) C (by omega) (by omega) (dx dX7_status 49 rfl) (by decide) (fun c7 => ?_) (fun c7 => ?_)
        · first
          | (omega; done)
          | (
              have c7 : 8 ≤ 8 := c7
              refine r_iload_n C (dx dX7_status 63 rfl) rfl ?_
              exact F.1 _ _ _ _ .int rfl rfl (dx dX7_status 64 rfl) rfl ⟨congrArg (fun q => some (vi q)) (by decide +kernel), hm, Kp.rf⟩)
        · first
          | (omega; done)
      ·
        intro p hp ihp
        refine r_iload_n C (dx dX7_status 47 rfl) rfl ?_
        refine r_bipush (v := nI 8) C (dx dX7_status 48 rfl) rfl ?_
        refine rn_ge (a := p) (b := 8) (tgt := 156) C (by omega) (by omega) (dx dX7_status 49 rfl) (by decide) (fun c9 => ?_) (fun c9 => ?_)
        · first
          | (omega; done)
          | (
              have c9 : 8 ≤ p := c9
              refine r_iload_n C (dx dX7_status 63 rfl) rfl ?_
              exact F.1 _ _ _ _ .int rfl rfl (dx dX7_status 64 rfl) rfl ⟨congrArg (fun q => some (vi q)) (by decide +kernel), hm, Kp.rf⟩)
        · first
          | (omega; done)
          | (
              have c9 : p < 8 := c9
              refine r_iload_n C (dx dX7_status 50 rfl) rfl ?_
              refine r_aload_n C (dx dX7_status 51 rfl) rfl ?_
              refine g_X7_7 C (dx dX7_status 52 rfl) ?_
              refine r_iload_n C (dx dX7_status 53 rfl) rfl ?_
              refine r_iald (j := p) (x := xI h (k + 1) p) C rfl rfl (by decide) rfl (by omega) (dx dX7_status 54 rfl) rfl ?_
              refine r_if_eq (tgt := 147) C (dx dX7_status 55 rfl) (by decide) (fun c10 => ?_) (fun c10 => ?_)
              ·
                have c10 : xI h (k + 1) p = 0 := c10
                refine r_iconst (v := nI 0) C (dx dX7_status 58 rfl) rfl ?_
                refine rn_iadd (a := 0) (b := 0) C (dx dX7_status 59 rfl) ?_
                refine r_istore_n (ls' := [(0, vr 7 k), (1, vi (nI 9)), (2, vi (nI (0 + 0))), (3, vi (nI p))]) C (dx dX7_status 60 rfl) (by decide) [1, 2, 0, 3] rfl ?_
                refine rn_iinc (a := p) (k := 1) (ls' := [(0, vr 7 k), (1, vi (nI 9)), (2, vi (nI (0 + 0))), (3, vi (nI (p + 1)))]) C (dx dX7_status 61 rfl) rfl rfl (by decide) [1, 2, 3, 0] rfl ?_
                refine r_goto (tgt := 127) C (dx dX7_status 62 rfl) (by decide) ?_
                exact ihp
              ·
                have c10 : ¬ xI h (k + 1) p = 0 := c10
                exact absurd (hf p hp) c10)
  ·
    refine r_tabOut (tgt := 158) C (dx dX7_status 3 rfl) (by omega) (by decide) ?_
    refine r_iload_n C (dx dX7_status 65 rfl) rfl ?_
    refine r_i2l C (dx dX7_status 66 rfl) ?_
    refine r_ldc2 C n_X7_357 (dx dX7_status 67 rfl) ?_
    refine r_ldc2 C n_X7_359 (dx dX7_status 68 rfl) ?_
    refine r_csP (as := [vl x.toInt64, vl 12, vl 16]) (st := []) (v := vi (b2i (btwB x 12 16))) C X I_X7_in l_X7_67 (c_inB (a := 12) (b := 16) (by decide) (by decide)) (by decide) (Nat.le_of_ble_eq_true rfl) List.prefix_rfl (Nat.le_of_ble_eq_true rfl) rfl (dx dX7_status 69 rfl) ?_
    refine rb_eq (b := btwB x 12 16) (tgt := 184) C (dx dX7_status 70 rfl) (by decide) (fun c11 => ?_) (fun c11 => ?_)
    ·
      have c11 : (btwB x 12 16) = false := c11
      refine r_iconst (v := -1) C (dx dX7_status 78 rfl) rfl ?_
      exact F.1 _ _ _ _ .int rfl rfl (dx dX7_status 79 rfl) rfl ⟨congrArg (fun q => some (vi q)) (sq_no e9 (sq_btw c11)), hm, Kp.rf⟩
    ·
      have c11 : (btwB x 12 16) = true := c11
      obtain ⟨x9, hx9, hx92, rfl⟩ := btw_ex (a := 12) (b := 16) (by omega) (by omega) c11
      refine r_aload_n C (dx dX7_status 71 rfl) rfl ?_
      refine g_X7_37 C (dx dX7_status 72 rfl) ?_
      refine r_iload_n C (dx dX7_status 73 rfl) rfl ?_
      refine r_bipush (v := nI 10) C (dx dX7_status 74 rfl) rfl ?_
      refine rn_isub (a := x9) (b := 10) C (by omega) (dx dX7_status 75 rfl) ?_
      refine r_iald (j := x9 - 10) (x := xI h (k + 17) (x9 - 10)) C rfl rfl (by decide) rfl (by omega) (dx dX7_status 76 rfl) rfl ?_
      refine r_goto (tgt := 185) C (dx dX7_status 77 rfl) (by decide) ?_
      exact F.1 _ _ _ _ .int rfl rfl (dx dX7_status 79 rfl) rfl ⟨congrArg (fun q => some (vi q)) ((rf _).trans (sq_mid hx9 hx92)), hm, Kp.rf⟩


