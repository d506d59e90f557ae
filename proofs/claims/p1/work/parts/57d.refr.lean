/-! PART 57d: the reference: more of what it answers, by functions of the village -/
def powR (v : Vg) (m o : Int32) : Int32 := if (inR m (vM v) && inR o (vN v)) = true then sumIf (pwP v m.toNatClampNeg o.toNatClampNeg) (turnF v) (2 ^ vN v) else -2
def beaR (v : Vg) (m : Int32) : Int32 := if inR m (vM v) = true then (if minIf (wsP v m.toNatClampNeg) (fun s => nI (pcn s)) (nI 9) (2 ^ vN v) = 0 then -5 else minIf (wsP v m.toNatClampNeg) (fun s => nI (pcn s)) (nI 9) (2 ^ vN v) - nI 1) else -2
def safR (v : Vg) (k : Int32) : Int32 := if inR k 9 = true then bset (fun m => decide (k < minIf (wsP v m) (fun s => nI (pcn s)) (nI 9) (2 ^ vN v))) (vM v) else -2
def smT (v : Vg) (o : Nat) : Nat → Int32
  | 0 => nI 0
  | n + 1 => smT v o n + vF v 3 n * sumIf (pwP v n o) (turnF v) (2 ^ vN v)
def fiR (v : Vg) : Nat → Int32 × Int32
  | 0 => (-1, nI 0)
  | n + 1 => if (fiR v n).1 = -1 ∨ (fiR v n).2 < smT v n (vM v) then (nI n, smT v n (vM v)) else fiR v n
def firR (v : Vg) : Int32 := if (fiR v (vN v)).1 = -1 then -5 else (fiR v (vN v)).1
def wtR (v : Vg) (m : Int32) : Int32 := if inR m (vM v) = true then (if wiF (fun s => needW v (hasP v (nI s)) m.toNatClampNeg) (2 ^ vN v) = -1 then -5 else wiF (fun s => needW v (hasP v (nI s)) m.toNatClampNeg) (2 ^ vN v)) else -2
def ldF (P : Nat → Bool) (z : Nat) : Nat → Nat
  | 0 => z
  | n + 1 => if P (z - n) = true ∧ pcn (z - n) ≤ pcn (ldF P z n) then z - n else ldF P z n
theorem ldF_le (P : Nat → Bool) (z : Nat) : ∀ n, ldF P z n ≤ z
  | 0 => Nat.le_refl _
  | n + 1 => by
    simp only [ldF]
    split
    · omega
    · exact ldF_le P z n
theorem ldF_s (P : Nat → Bool) {S j : Nat} (h : j + 1 ≤ S) : ldF P (S - 1) (S - j) = if P j = true ∧ pcn j ≤ pcn (ldF P (S - 1) (S - (j + 1))) then j else ldF P (S - 1) (S - (j + 1)) := by
  rw [show S - j = (S - (j + 1)) + 1 by omega]
  simp only [ldF]
  rw [show S - 1 - (S - (j + 1)) = j by omega]
def leaQ (v : Vg) (S s : Nat) : Bool := allF (anP v (nI (S - 1) &&& (nI s ^^^ -1)) (nI 0)) (vM v)
def leaR (v : Vg) : Int32 := nI (ldF (leaQ v (2 ^ vN v)) (2 ^ vN v - 1) (2 ^ vN v))
def stoQ (v : Vg) (s : Nat) : Bool := allF (anP v (full (vN v)) (nI s)) (vM v)
def stoR (v : Vg) : Int32 := nI (ldF (stoQ v) (2 ^ vP v - 1) (2 ^ vP v))
def tchR (v : Vg) (o : Nat) : Nat → Nat := cnt (fun m => decide (¬ vF v 2 m &&& hasP v (nI 1 <<< (nI o &&& 31)) = 0))
def kyR (v : Vg) : Nat → Int32 × Int32
  | 0 => (-1, nI 0)
  | n + 1 => if (kyR v n).1 = -1 ∨ (kyR v n).2 < nI (tchR v n (vM v)) then (nI n, nI (tchR v n (vM v))) else kyR v n
def keyR (v : Vg) : Int32 := if (kyR v (vN v)).1 = -1 then -5 else (kyR v (vN v)).1
def trnB (v : Vg) (o m : Nat) : Bool := decide (¬ sumIf (pwP v m o) (turnF v) (2 ^ vN v) ≤ 0)
def idlR (v : Vg) : Int32 := bset (fun o => !anyB (trnB v o) (vM v)) (vN v)
def cmO (v : Vg) (g : Sg) (s d : Int32) : Int32 := (elV g s d).toInt32 &&& full (vN v) &&& (crR v (vN v) ^^^ -1)
def judR (v : Vg) (g : Sg) (m s n : Int32) : Int32 := if inR m (vM v) = true then (if tfV g s n = 0 then jdF (fun d => needW v (hasP v (cmO v g s (nI d))) m.toNatClampNeg) n.toNatClampNeg else tfV g s n) else -2
def tdI (v : Vg) (x c : Int32) : Nat → Int32
  | 0 => x
  | n + 1 => tdI v x c n + (if needW v (hasP v c) n = true then vF v 3 n else nI 0)
def tdR (v : Vg) (g : Sg) (s : Int32) : Nat → Int32
  | 0 => nI 0
  | n + 1 => tdI v (tdR v g s n) (cmO v g s (nI n)) (vM v)
def tolR (v : Vg) (g : Sg) (s n : Int32) : Int32 := if tfV g s n = 0 then tdR v g s n.toNatClampNeg else tfV g s n
theorem e_bitsE {l : Launch} {h : Hp} {x : Int32} (q : ∃ a, a < 4096 ∧ x = nI a) : Mp l yX7_bits cX7_bits 3 (some .int) 1 [vi x] h (vi (nI (pcn x.toNatClampNeg))) := by
  obtain ⟨a, ha, rfl⟩ := q
  rw [clN (by omega)]
  exact e_bits ha
/-- what a told day's row holds -/
theorem row_el {h : Hp} {k σ ν i : Nat} {g : Sg} (ms : MshAt h k g) (hσ : σ < 8) (hν : ν < 21) (tf : tfV g (nI σ) (nI ν) = 0) (hi : i < ν) : xL h (k + 5 + σ) i = elV g (nI σ) (nI i) := by
  have q : rfV g (nI σ) = 0 ∧ nI ν ≤ szV g (nI σ) := by
    unfold tfV at tf
    rw [if_pos ⟨inN (by omega) hσ, inN (by omega) hν⟩] at tf
    by_cases c : rfV g (nI σ) = 0
    · rw [if_pos c] at tf
      by_cases c2 : nI ν ≤ szV g (nI σ)
      · exact ⟨c, c2⟩
      · rw [if_neg c2] at tf; exact absurd tf (by decide)
    · rw [if_neg c] at tf; exact absurd tf c
  rcases ms σ hσ with ⟨a1, a2⟩ | ⟨t, n, a1, a2, a3, a4, a5, a6, a7, a8⟩ | ⟨κ, b, a1, a2, a3, a4, a5, a6, a7, a8⟩
  · exfalso
    have e : bareB g (nI σ) = true := by
      unfold bareB tOn
      rw [inN (by omega) hσ, if_pos rfl, clN (by omega), a2]; rfl
    have e2 : holdB g (nI σ) = false := by
      unfold holdB tOn
      rw [inN (by omega) hσ, if_pos rfl, clN (by omega), a2]; rfl
    have q1 := q.1
    unfold rfV at q1
    rw [e, e2] at q1
    exact absurd q1 (by decide)
  · have r := sh_row hσ a1 a6 a7
    have ez := r.2.2.2.1
    rw [ez] at q
    have l := (nI_leI (by omega) (by omega)).mp q.2
    rw [el_row hσ ez a2, inN (by omega) (show i < n by omega), if_pos rfl, clN (by omega)]
    exact a8 i (by omega)
  · exfalso
    have r := sh_hold hσ a2 a7 a8
    have q1 := q.1
    rw [r.2.2.2.2.2.1] at q1
    exact absurd q1 (by decide)
set_option maxHeartbeats 4000000 in
theorem e_power {l : Launch} {h : Hp} {k : Nat} {v : Vg} (hm : MilAt h k v) (m o1 : Int32) : Ms l yX7_power cX7_power 3 (some .int) 8 [vr 7 k, vi m, vi o1] h (xK h) (fun r h' => r = some (vi (powR v m o1)) ∧ MilAt h' k v ∧ Kp k h h') := by
  refine Ms.of (by decide) (Nat.le_of_ble_eq_true rfl) (fun G C X F => ?_)
  have C : Cx G cX7_power 3 RX7 := C
  show Rr G 0 [(0, vr 7 k), (1, vi m), (2, vi o1)] [] h
  have bP := hm.bP
  have bM := hm.bM
  have bN := hm.bN
  refine r_aload_n C (dx dX7_power 0 rfl) rfl ?_
  refine r_iload_n C (dx dX7_power 1 rfl) rfl ?_
  refine r_cvP (as := [vi m]) (st := []) (v := vi (b2i (inR m (vM v)))) C X I_X7_isMachine l_X7_241 (c_X7_isMachine hm _) (by decide) (Nat.le_of_ble_eq_true rfl) List.prefix_rfl rfl rfl (Nat.le_of_ble_eq_true rfl) rfl (dx dX7_power 2 rfl) ?_
  refine rb_eq (b := inR m (vM v)) (tgt := 25) C (dx dX7_power 3 rfl) (by decide) (fun c1 => ?_) (fun c1 => ?_)
  ·
    have c1 : (inR m (vM v)) = false := c1
    refine r_aload_n C (dx dX7_power 13 rfl) rfl ?_
    refine r_bipush (v := -2) C (dx dX7_power 14 rfl) rfl ?_
    refine r_cv (as := [vi (-2)]) (st := []) C X I_X7_refuse l_X7_83 (e_refuse hm (x := -2) (j := 2) (by decide) (by decide)) (by decide) (Nat.le_of_ble_eq_true rfl) List.prefix_rfl List.prefix_rfl rfl rfl (Nat.le_of_ble_eq_true rfl) rfl (dx dX7_power 15 rfl) ?_
    rintro _ h2 ⟨rfl, m9h2, qh2⟩ kkh2
    have mh2 : MilAt h2 k v := m9h2
    have ph2 : Kp k h h2 := qh2
    have kh2 : xK h2 = xK h := kkh2
    have eA : powR v m o1 = -2 := by (simp [powR, c1] <;> rfl)
    exact F.1 _ _ _ _ .int rfl rfl (dx dX7_power 16 rfl) kh2 ⟨by (rw [eA]; first | done | rfl), by exact mh2, ph2⟩
  ·
    have c1 : (inR m (vM v)) = true := c1
    obtain ⟨μ, hμ, rfl⟩ := inR_ex (n := (vM v)) (by omega) c1
    refine r_aload_n C (dx dX7_power 4 rfl) rfl ?_
    refine r_iload_n C (dx dX7_power 5 rfl) rfl ?_
    refine r_cvP (as := [vi o1]) (st := []) (v := vi (b2i (inR o1 (vN v)))) C X I_X7_isOne l_X7_125 (c_X7_isOne hm _) (by decide) (Nat.le_of_ble_eq_true rfl) List.prefix_rfl rfl rfl (Nat.le_of_ble_eq_true rfl) rfl (dx dX7_power 6 rfl) ?_
    refine rb_eq (b := inR o1 (vN v)) (tgt := 25) C (dx dX7_power 7 rfl) (by decide) (fun c3 => ?_) (fun c3 => ?_)
    ·
      have c3 : (inR o1 (vN v)) = false := c3
      refine r_aload_n C (dx dX7_power 13 rfl) rfl ?_
      refine r_bipush (v := -2) C (dx dX7_power 14 rfl) rfl ?_
      refine r_cv (as := [vi (-2)]) (st := []) C X I_X7_refuse l_X7_83 (e_refuse hm (x := -2) (j := 2) (by decide) (by decide)) (by decide) (Nat.le_of_ble_eq_true rfl) List.prefix_rfl List.prefix_rfl rfl rfl (Nat.le_of_ble_eq_true rfl) rfl (dx dX7_power 15 rfl) ?_
      rintro _ h4 ⟨rfl, m9h4, qh4⟩ kkh4
      have mh4 : MilAt h4 k v := m9h4
      have ph4 : Kp k h h4 := qh4
      have kh4 : xK h4 = xK h := kkh4
      have eA : powR v (nI μ) o1 = -2 := by (simp [powR, clN (show μ < 2 ^ 31 by omega), c1, c3] <;> rfl)
      exact F.1 _ _ _ _ .int rfl rfl (dx dX7_power 16 rfl) kh4 ⟨by (rw [eA]; first | done | rfl), by exact mh4, ph4⟩
    ·
      have c3 : (inR o1 (vN v)) = true := c3
      obtain ⟨o19, ho19, rfl⟩ := inR_ex (n := (vN v)) (by omega) c3
      refine r_aload_n C (dx dX7_power 8 rfl) rfl ?_
      refine r_iload_n C (dx dX7_power 9 rfl) rfl ?_
      refine r_iload_n C (dx dX7_power 10 rfl) rfl ?_
      refine r_cvP (as := [vi (nI μ), vi (nI o19)]) (st := []) (v := vi (sumIf (pwP v μ o19) (turnF v) (2 ^ vN v))) C X I_X7_powerOf l_X7_274 (e_powerOf hm (m := μ) (o := o19) (by omega) (by omega)) (by decide) (Nat.le_of_ble_eq_true rfl) List.prefix_rfl rfl rfl (Nat.le_of_ble_eq_true rfl) rfl (dx dX7_power 11 rfl) ?_
      refine r_goto (tgt := 31) C (dx dX7_power 12 rfl) (by decide) ?_
      have eA : powR v (nI μ) (nI o19) = sumIf (pwP v μ o19) (turnF v) (2 ^ vN v) := by (simp [powR, clN (show μ < 2 ^ 31 by omega), clN (show o19 < 2 ^ 31 by omega), c1, c3] <;> rfl)
      exact F.1 _ _ _ _ .int rfl rfl (dx dX7_power 16 rfl) rfl ⟨by (rw [eA]; first | done | rfl), by exact hm, Kp.rf⟩
set_option maxHeartbeats 4000000 in
theorem e_bears {l : Launch} {h : Hp} {k : Nat} {v : Vg} (hm : MilAt h k v) (m : Int32) : Ms l yX7_bears cX7_bears 3 (some .int) 8 [vr 7 k, vi m] h (xK h) (fun r h' => r = some (vi (beaR v m)) ∧ MilAt h' k v ∧ Kp k h h') := by
  refine Ms.of (by decide) (Nat.le_of_ble_eq_true rfl) (fun G C X F => ?_)
  have C : Cx G cX7_bears 3 RX7 := C
  show Rr G 0 [(0, vr 7 k), (1, vi m)] [] h
  have bP := hm.bP
  have bM := hm.bM
  have bN := hm.bN
  refine r_aload_n C (dx dX7_bears 0 rfl) rfl ?_
  refine r_iload_n C (dx dX7_bears 1 rfl) rfl ?_
  refine r_cvP (as := [vi m]) (st := []) (v := vi (b2i (inR m (vM v)))) C X I_X7_isMachine l_X7_241 (c_X7_isMachine hm _) (by decide) (Nat.le_of_ble_eq_true rfl) List.prefix_rfl rfl rfl (Nat.le_of_ble_eq_true rfl) rfl (dx dX7_bears 2 rfl) ?_
  refine rb_ne (b := inR m (vM v)) (tgt := 15) C (dx dX7_bears 3 rfl) (by decide) (fun c1 => ?_) (fun c1 => ?_)
  ·
    have c1 : (inR m (vM v)) = true := c1
    obtain ⟨μ, hμ, rfl⟩ := inR_ex (n := (vM v)) (by omega) c1
    refine r_aload_n C (dx dX7_bears 8 rfl) rfl ?_
    refine r_iload_n C (dx dX7_bears 9 rfl) rfl ?_
    refine r_cvP (as := [vi (nI μ)]) (st := []) (v := vi (minIf (wsP v μ) (fun s => nI (pcn s)) (nI 9) (2 ^ vN v))) C X I_X7_worstOf l_X7_314 (e_worstOf hm (m := μ) (by omega)) (by decide) (Nat.le_of_ble_eq_true rfl) List.prefix_rfl rfl rfl (Nat.le_of_ble_eq_true rfl) rfl (dx dX7_bears 10 rfl) ?_
    refine r_istore_n (ls' := [(0, vr 7 k), (1, vi (nI μ)), (2, vi (minIf (wsP v μ) (fun s => nI (pcn s)) (nI 9) (2 ^ vN v)))]) C (dx dX7_bears 11 rfl) (by decide) [1, 2, 0] rfl ?_
    refine r_iload_n C (dx dX7_bears 12 rfl) rfl ?_
    refine r_if_ne (tgt := 34) C (dx dX7_bears 13 rfl) (by decide) (fun c2 => ?_) (fun c2 => ?_)
    ·
      have c2 : ¬ minIf (wsP v μ) (fun s => nI (pcn s)) (nI 9) (2 ^ vN v) = 0 := c2
      refine r_iload_n C (dx dX7_bears 18 rfl) rfl ?_
      refine r_iconst (v := nI 1) C (dx dX7_bears 19 rfl) rfl ?_
      refine r_isub C (dx dX7_bears 20 rfl) ?_
      have eA : beaR v (nI μ) = (minIf (wsP v μ) (fun s => nI (pcn s)) (nI 9) (2 ^ vN v)) - (nI 1) := by (unfold beaR; rw [inN (show μ < 2 ^ 31 by omega) hμ, if_pos rfl, clN (show μ < 2 ^ 31 by omega), if_neg c2])
      exact F.1 _ _ _ _ .int rfl rfl (dx dX7_bears 21 rfl) rfl ⟨by (rw [eA]; first | done | rfl), by exact hm, Kp.rf⟩
    ·
      have c2 : minIf (wsP v μ) (fun s => nI (pcn s)) (nI 9) (2 ^ vN v) = 0 := c2
      refine r_aload_n C (dx dX7_bears 14 rfl) rfl ?_
      refine r_bipush (v := -5) C (dx dX7_bears 15 rfl) rfl ?_
      refine r_cv (as := [vi (-5)]) (st := []) C X I_X7_refuse l_X7_83 (e_refuse hm (x := -5) (j := 5) (by decide) (by decide)) (by decide) (Nat.le_of_ble_eq_true rfl) List.prefix_rfl List.prefix_rfl rfl rfl (Nat.le_of_ble_eq_true rfl) rfl (dx dX7_bears 16 rfl) ?_
      rintro _ h3 ⟨rfl, m9h3, qh3⟩ kkh3
      have mh3 : MilAt h3 k v := m9h3
      have ph3 : Kp k h h3 := qh3
      have kh3 : xK h3 = xK h := kkh3
      refine r_goto (tgt := 37) C (dx dX7_bears 17 rfl) (by decide) ?_
      have eA : beaR v (nI μ) = -5 := by (unfold beaR; rw [inN (show μ < 2 ^ 31 by omega) hμ, if_pos rfl, clN (show μ < 2 ^ 31 by omega), if_pos c2])
      exact F.1 _ _ _ _ .int rfl rfl (dx dX7_bears 21 rfl) kh3 ⟨by (rw [eA]; first | done | rfl), by exact mh3, ph3⟩
  ·
    have c1 : (inR m (vM v)) = false := c1
    refine r_aload_n C (dx dX7_bears 4 rfl) rfl ?_
    refine r_bipush (v := -2) C (dx dX7_bears 5 rfl) rfl ?_
    refine r_cv (as := [vi (-2)]) (st := []) C X I_X7_refuse l_X7_83 (e_refuse hm (x := -2) (j := 2) (by decide) (by decide)) (by decide) (Nat.le_of_ble_eq_true rfl) List.prefix_rfl List.prefix_rfl rfl rfl (Nat.le_of_ble_eq_true rfl) rfl (dx dX7_bears 6 rfl) ?_
    rintro _ h4 ⟨rfl, m9h4, qh4⟩ kkh4
    have mh4 : MilAt h4 k v := m9h4
    have ph4 : Kp k h h4 := qh4
    have kh4 : xK h4 = xK h := kkh4
    have eA : beaR v m = -2 := by (simp [beaR, c1] <;> rfl)
    exact F.1 _ _ _ _ .int rfl rfl (dx dX7_bears 7 rfl) kh4 ⟨by (rw [eA]; first | done | rfl), by exact mh4, ph4⟩
set_option maxHeartbeats 4000000 in
theorem e_safe {l : Launch} {h : Hp} {k : Nat} {v : Vg} (hm : MilAt h k v) (x : Int32) : Ms l yX7_safe cX7_safe 4 (some .int) 8 [vr 7 k, vi x] h (xK h) (fun r h' => r = some (vi (safR v x)) ∧ MilAt h' k v ∧ Kp k h h') := by
  refine Ms.of (by decide) (Nat.le_of_ble_eq_true rfl) (fun G C X F => ?_)
  have C : Cx G cX7_safe 4 RX7 := C
  show Rr G 0 [(0, vr 7 k), (1, vi x)] [] h
  have bP := hm.bP
  have bM := hm.bM
  have bN := hm.bN
  refine r_iload_n C (dx dX7_safe 0 rfl) rfl ?_
  refine r_i2l C (dx dX7_safe 1 rfl) ?_
  refine r_lconst (v := 0) C (dx dX7_safe 2 rfl) rfl ?_
  refine r_ldc2 C n_X7_325 (dx dX7_safe 3 rfl) ?_
  refine r_csP (as := [vl x.toInt64, vl 0, vl 8]) (st := []) (v := vi (b2i (inR x 9))) C X I_X7_in l_X7_67 (c_inR (b := 8) (by decide) (by decide)) (by decide) (Nat.le_of_ble_eq_true rfl) List.prefix_rfl (Nat.le_of_ble_eq_true rfl) rfl (dx dX7_safe 4 rfl) ?_
  refine rb_ne (b := inR x 9) (tgt := 19) C (dx dX7_safe 5 rfl) (by decide) (fun c1 => ?_) (fun c1 => ?_)
  ·
    have c1 : (inR x 9) = true := c1
    obtain ⟨x9, hx9, rfl⟩ := inR_ex (n := 9) (by omega) c1
    refine r_iconst (v := nI 0) C (dx dX7_safe 10 rfl) rfl ?_
    refine r_istore_n (ls' := [(0, vr 7 k), (1, vi (nI x9)), (2, vi (nI 0))]) C (dx dX7_safe 11 rfl) (by decide) [1, 2, 0] rfl ?_
    refine r_iconst (v := nI 0) C (dx dX7_safe 12 rfl) rfl ?_
    refine r_istore_n (ls' := [(0, vr 7 k), (1, vi (nI x9)), (2, vi (nI 0)), (3, vi (nI 0))]) C (dx dX7_safe 13 rfl) (by decide) [1, 2, 3, 0] rfl ?_
    refine loopU (Φ := fun p => Rr G 23 [(0, vr 7 k), (1, vi (nI x9)), (2, vi (bset (fun m => decide (nI x9 < minIf (wsP v m) (fun s => nI (pcn s)) (nI 9) (2 ^ vN v))) p)), (3, vi (nI p))] [] h) (N := vM v) ?_ ?_ 0 (Nat.zero_le _)
    ·
      skip
      refine r_iload_n C (dx dX7_safe 14 rfl) rfl ?_
      refine r_aload_n C (dx dX7_safe 15 rfl) rfl ?_
      refine g_X7_71 (x := nI (vM v)) C (dx dX7_safe 16 rfl) hm.eM ?_
      refine rn_ge (a := (vM v)) (b := vM v) (tgt := 56) C (by omega) (by omega) (dx dX7_safe 17 rfl) (by decide) (fun c2 => ?_) (fun c2 => ?_)
      · first
        | (omega; done)
        | (
            have c2 : vM v ≤ (vM v) := c2
            refine r_iload_n C (dx dX7_safe 33 rfl) rfl ?_
            have eA : safR v (nI x9) = bset (fun m => decide (nI x9 < minIf (wsP v m) (fun s => nI (pcn s)) (nI 9) (2 ^ vN v))) (vM v) := by (unfold safR; rw [inN (show x9 < 2 ^ 31 by omega) hx9, if_pos rfl])
            exact F.1 _ _ _ _ .int rfl rfl (dx dX7_safe 34 rfl) rfl ⟨by (rw [eA]; first | done | rfl), by exact hm, Kp.rf⟩)
      · first
        | (omega; done)
    ·
      intro p hp ihp
      refine r_iload_n C (dx dX7_safe 14 rfl) rfl ?_
      refine r_aload_n C (dx dX7_safe 15 rfl) rfl ?_
      refine g_X7_71 (x := nI (vM v)) C (dx dX7_safe 16 rfl) hm.eM ?_
      refine rn_ge (a := p) (b := vM v) (tgt := 56) C (by omega) (by omega) (dx dX7_safe 17 rfl) (by decide) (fun c4 => ?_) (fun c4 => ?_)
      · first
        | (omega; done)
        | (
            have c4 : vM v ≤ p := c4
            refine r_iload_n C (dx dX7_safe 33 rfl) rfl ?_
            have eA : safR v (nI x9) = bset (fun m => decide (nI x9 < minIf (wsP v m) (fun s => nI (pcn s)) (nI 9) (2 ^ vN v))) p := by (unfold safR; rw [inN (show x9 < 2 ^ 31 by omega) hx9, if_pos rfl])
            exact F.1 _ _ _ _ .int rfl rfl (dx dX7_safe 34 rfl) rfl ⟨by (rw [eA]; first | done | rfl), by exact hm, Kp.rf⟩)
      · first
        | (omega; done)
        | (
            have c4 : p < vM v := c4
            refine r_iload_n C (dx dX7_safe 18 rfl) rfl ?_
            refine r_aload_n C (dx dX7_safe 19 rfl) rfl ?_
            refine r_iload_n C (dx dX7_safe 20 rfl) rfl ?_
            refine r_cvP (as := [vi (nI p)]) (st := [vi (bset (fun m => decide (nI x9 < minIf (wsP v m) (fun s => nI (pcn s)) (nI 9) (2 ^ vN v))) p)]) (v := vi (minIf (wsP v p) (fun s => nI (pcn s)) (nI 9) (2 ^ vN v))) C X I_X7_worstOf l_X7_314 (e_worstOf hm (m := p) (by omega)) (by decide) (Nat.le_of_ble_eq_true rfl) List.prefix_rfl rfl rfl (Nat.le_of_ble_eq_true rfl) rfl (dx dX7_safe 21 rfl) ?_
            refine r_iload_n C (dx dX7_safe 22 rfl) rfl ?_
            refine r_icmp_le (tgt := 47) C (dx dX7_safe 23 rfl) (by decide) (fun c5 => ?_) (fun c5 => ?_)
            ·
              have c5 : minIf (wsP v p) (fun s => nI (pcn s)) (nI 9) (2 ^ vN v) ≤ nI x9 := c5
              refine r_iconst (v := nI 0) C (dx dX7_safe 28 rfl) rfl ?_
              refine r_ior C (dx dX7_safe 29 rfl) ?_
              refine r_istore_n (ls' := [(0, vr 7 k), (1, vi (nI x9)), (2, vi ((bset (fun m => decide (nI x9 < minIf (wsP v m) (fun s => nI (pcn s)) (nI 9) (2 ^ vN v))) p) ||| (nI 0))), (3, vi (nI p))]) C (dx dX7_safe 30 rfl) (by decide) [1, 2, 0, 3] rfl ?_
              refine rn_iinc (a := p) (k := 1) (ls' := [(0, vr 7 k), (1, vi (nI x9)), (2, vi ((bset (fun m => decide (nI x9 < minIf (wsP v m) (fun s => nI (pcn s)) (nI 9) (2 ^ vN v))) p) ||| (nI 0))), (3, vi (nI (p + 1)))]) C (dx dX7_safe 31 rfl) rfl rfl (by decide) [1, 2, 3, 0] rfl ?_
              refine r_goto (tgt := 23) C (dx dX7_safe 32 rfl) (by decide) ?_
              have e9p2 : ((bset (fun m => decide (nI x9 < minIf (wsP v m) (fun s => nI (pcn s)) (nI 9) (2 ^ vN v))) p) ||| (nI 0)) = (bset (fun m => decide (nI x9 < minIf (wsP v m) (fun s => nI (pcn s)) (nI 9) (2 ^ vN v))) (p + 1)) := by (simp only [bset]; rw [if_neg (fun z => absurd (of_decide_eq_true z) (Int32.not_lt.mpr c5)), or0])
              rw [e9p2]
              exact ihp
            ·
              have c5 : ¬ minIf (wsP v p) (fun s => nI (pcn s)) (nI 9) (2 ^ vN v) ≤ nI x9 := c5
              refine r_iconst (v := nI 1) C (dx dX7_safe 24 rfl) rfl ?_
              refine r_iload_n C (dx dX7_safe 25 rfl) rfl ?_
              refine r_ishl C (dx dX7_safe 26 rfl) ?_
              refine r_goto (tgt := 48) C (dx dX7_safe 27 rfl) (by decide) ?_
              refine r_ior C (dx dX7_safe 29 rfl) ?_
              refine r_istore_n (ls' := [(0, vr 7 k), (1, vi (nI x9)), (2, vi ((bset (fun m => decide (nI x9 < minIf (wsP v m) (fun s => nI (pcn s)) (nI 9) (2 ^ vN v))) p) ||| ((nI 1) <<< ((nI p) &&& 31)))), (3, vi (nI p))]) C (dx dX7_safe 30 rfl) (by decide) [1, 2, 0, 3] rfl ?_
              refine rn_iinc (a := p) (k := 1) (ls' := [(0, vr 7 k), (1, vi (nI x9)), (2, vi ((bset (fun m => decide (nI x9 < minIf (wsP v m) (fun s => nI (pcn s)) (nI 9) (2 ^ vN v))) p) ||| ((nI 1) <<< ((nI p) &&& 31)))), (3, vi (nI (p + 1)))]) C (dx dX7_safe 31 rfl) rfl rfl (by decide) [1, 2, 3, 0] rfl ?_
              refine r_goto (tgt := 23) C (dx dX7_safe 32 rfl) (by decide) ?_
              have e9p2 : ((bset (fun m => decide (nI x9 < minIf (wsP v m) (fun s => nI (pcn s)) (nI 9) (2 ^ vN v))) p) ||| ((nI 1) <<< ((nI p) &&& 31))) = (bset (fun m => decide (nI x9 < minIf (wsP v m) (fun s => nI (pcn s)) (nI 9) (2 ^ vN v))) (p + 1)) := by (simp only [bset]; rw [if_pos (decide_eq_true (Int32.not_le.mp c5))])
              rw [e9p2]
              exact ihp)
  ·
    have c1 : (inR x 9) = false := c1
    refine r_aload_n C (dx dX7_safe 6 rfl) rfl ?_
    refine r_bipush (v := -2) C (dx dX7_safe 7 rfl) rfl ?_
    refine r_cv (as := [vi (-2)]) (st := []) C X I_X7_refuse l_X7_83 (e_refuse hm (x := -2) (j := 2) (by decide) (by decide)) (by decide) (Nat.le_of_ble_eq_true rfl) List.prefix_rfl List.prefix_rfl rfl rfl (Nat.le_of_ble_eq_true rfl) rfl (dx dX7_safe 8 rfl) ?_
    rintro _ h6 ⟨rfl, m9h6, qh6⟩ kkh6
    have mh6 : MilAt h6 k v := m9h6
    have ph6 : Kp k h h6 := qh6
    have kh6 : xK h6 = xK h := kkh6
    have eA : safR v x = -2 := by (simp [safR, c1] <;> rfl)
    exact F.1 _ _ _ _ .int rfl rfl (dx dX7_safe 9 rfl) kh6 ⟨by (rw [eA]; first | done | rfl), by exact mh6, ph6⟩
set_option maxHeartbeats 4000000 in
theorem e_first {l : Launch} {h : Hp} {k : Nat} {v : Vg} (hm : MilAt h k v)  : Ms l yX7_first cX7_first 6 (some .int) 8 [vr 7 k] h (xK h) (fun r h' => r = some (vi (firR v)) ∧ MilAt h' k v ∧ Kp k h h') := by
  refine Ms.of (by decide) (Nat.le_of_ble_eq_true rfl) (fun G C X F => ?_)
  have C : Cx G cX7_first 6 RX7 := C
  show Rr G 0 [(0, vr 7 k)] [] h
  have bP := hm.bP
  have bM := hm.bM
  have bN := hm.bN
  refine r_iconst (v := -1) C (dx dX7_first 0 rfl) rfl ?_
  refine r_istore_n (ls' := [(0, vr 7 k), (1, vi (-1))]) C (dx dX7_first 1 rfl) (by decide) [1, 0] rfl ?_
  refine r_iconst (v := nI 0) C (dx dX7_first 2 rfl) rfl ?_
  refine r_istore_n (ls' := [(0, vr 7 k), (1, vi (-1)), (2, vi (nI 0))]) C (dx dX7_first 3 rfl) (by decide) [1, 2, 0] rfl ?_
  refine r_iconst (v := nI 0) C (dx dX7_first 4 rfl) rfl ?_
  refine r_istore_n (ls' := [(0, vr 7 k), (1, vi (-1)), (2, vi (nI 0)), (3, vi (nI 0))]) C (dx dX7_first 5 rfl) (by decide) [1, 2, 3, 0] rfl ?_
  refine loopU (Φ := fun p => Rr G 6 [(0, vr 7 k), (1, vi ((fiR v p).1)), (2, vi ((fiR v p).2)), (3, vi (nI p))] [] h) (N := vN v) ?_ ?_ 0 (Nat.zero_le _)
  ·
    skip
    refine r_iload_n C (dx dX7_first 6 rfl) rfl ?_
    refine r_aload_n C (dx dX7_first 7 rfl) rfl ?_
    refine g_X7_74 (x := nI (vN v)) C (dx dX7_first 8 rfl) hm.eN ?_
    refine rn_ge (a := (vN v)) (b := vN v) (tgt := 77) C (by omega) (by omega) (dx dX7_first 9 rfl) (by decide) (fun c1 => ?_) (fun c1 => ?_)
    · first
      | (omega; done)
      | (
          have c1 : vN v ≤ (vN v) := c1
          refine r_iload_n C (dx dX7_first 44 rfl) rfl ?_
          refine r_iconst (v := -1) C (dx dX7_first 45 rfl) rfl ?_
          refine r_icmp_ne (tgt := 91) C (dx dX7_first 46 rfl) (by decide) (fun c2 => ?_) (fun c2 => ?_)
          ·
            have c2 : ¬ (fiR v (vN v)).1 = -1 := c2
            refine r_iload_n C (dx dX7_first 51 rfl) rfl ?_
            have eA : firR v = (fiR v (vN v)).1 := by (unfold firR; rw [if_neg c2])
            exact F.1 _ _ _ _ .int rfl rfl (dx dX7_first 52 rfl) rfl ⟨by (rw [eA]; first | done | rfl), by exact hm, Kp.rf⟩
          ·
            have c2 : (fiR v (vN v)).1 = -1 := c2
            refine r_aload_n C (dx dX7_first 47 rfl) rfl ?_
            refine r_bipush (v := -5) C (dx dX7_first 48 rfl) rfl ?_
            refine r_cv (as := [vi (-5)]) (st := []) C X I_X7_refuse l_X7_83 (e_refuse hm (x := -5) (j := 5) (by decide) (by decide)) (by decide) (Nat.le_of_ble_eq_true rfl) List.prefix_rfl List.prefix_rfl rfl rfl (Nat.le_of_ble_eq_true rfl) rfl (dx dX7_first 49 rfl) ?_
            rintro _ h3 ⟨rfl, m9h3, qh3⟩ kkh3
            have mh3 : MilAt h3 k v := m9h3
            have ph3 : Kp k h h3 := qh3
            have kh3 : xK h3 = xK h := kkh3
            refine r_goto (tgt := 92) C (dx dX7_first 50 rfl) (by decide) ?_
            have eA : firR v = -5 := by (unfold firR; rw [if_pos c2])
            exact F.1 _ _ _ _ .int rfl rfl (dx dX7_first 52 rfl) kh3 ⟨by (rw [eA]; first | done | rfl), by exact mh3, ph3⟩)
    · first
      | (omega; done)
      | (
          have c1 : (vN v) < vN v := c1
          refine r_iconst (v := nI 0) C (dx dX7_first 10 rfl) rfl ?_
          refine r_istore (ls' := [(0, vr 7 k), (1, vi ((fiR v (vN v)).1)), (2, vi ((fiR v (vN v)).2)), (3, vi (nI (vN v))), (4, vi (nI 0))]) C (dx dX7_first 11 rfl) (by decide) [1, 2, 3, 4, 0] rfl ?_
          refine r_iconst (v := nI 0) C (dx dX7_first 12 rfl) rfl ?_
          refine r_istore (ls' := [(0, vr 7 k), (1, vi ((fiR v (vN v)).1)), (2, vi ((fiR v (vN v)).2)), (3, vi (nI (vN v))), (4, vi (nI 0)), (5, vi (nI 0))]) C (dx dX7_first 13 rfl) (by decide) [1, 2, 3, 4, 5, 0] rfl ?_
          refine loopU (Φ := fun q => Rr G 20 [(0, vr 7 k), (1, vi ((fiR v (vN v)).1)), (2, vi ((fiR v (vN v)).2)), (3, vi (nI (vN v))), (4, vi (smT v p q)), (5, vi (nI q))] [] h) (N := vM v) ?_ ?_ 0 (Nat.zero_le _)
          ·
            skip
            refine r_iload C (dx dX7_first 14 rfl) rfl ?_
            refine r_aload_n C (dx dX7_first 15 rfl) rfl ?_
            refine g_X7_71 (x := nI (vM v)) C (dx dX7_first 16 rfl) hm.eM ?_
            refine rn_ge (a := (vM v)) (b := vM v) (tgt := 55) C (by omega) (by omega) (dx dX7_first 17 rfl) (by decide) (fun c4 => ?_) (fun c4 => ?_)
            · first
              | (omega; done)
            · first
              | (omega; done)
          ·
            intro q hq ihq
            refine r_iload C (dx dX7_first 14 rfl) rfl ?_
            refine r_aload_n C (dx dX7_first 15 rfl) rfl ?_
            refine g_X7_71 (x := nI (vM v)) C (dx dX7_first 16 rfl) hm.eM ?_
            refine rn_ge (a := q) (b := vM v) (tgt := 55) C (by omega) (by omega) (dx dX7_first 17 rfl) (by decide) (fun c6 => ?_) (fun c6 => ?_)
            · first
              | (omega; done)
            · first
              | (omega; done)
              | (
                  have c6 : q < vM v := c6
                  refine r_iload C (dx dX7_first 18 rfl) rfl ?_
                  refine r_aload_n C (dx dX7_first 19 rfl) rfl ?_
                  refine g_X7_49 C (dx dX7_first 20 rfl) ?_
                  refine r_iload C (dx dX7_first 21 rfl) rfl ?_
                  refine r_iald (j := q) (x := vF v 3 q) C rfl rfl (by decide) rfl (by omega) (dx dX7_first 22 rfl) (hm.e3 (by omega)) ?_
                  refine r_aload_n C (dx dX7_first 23 rfl) rfl ?_
                  refine r_iload C (dx dX7_first 24 rfl) rfl ?_
                  refine r_iload_n C (dx dX7_first 25 rfl) rfl ?_
                  refine r_cvP (as := [vi (nI q), vi (nI (vN v))]) (st := [vi (vF v 3 q), vi (smT v p q)]) (v := vi (sumIf (pwP v q (vN v)) (turnF v) (2 ^ vN v))) C X I_X7_powerOf l_X7_274 (e_powerOf hm (m := q) (o := (vN v)) (by omega) (by omega)) (by decide) (Nat.le_of_ble_eq_true rfl) List.prefix_rfl rfl rfl (Nat.le_of_ble_eq_true rfl) rfl (dx dX7_first 26 rfl) ?_
                  refine r_imul C (dx dX7_first 27 rfl) ?_
                  refine r_iadd C (dx dX7_first 28 rfl) ?_
                  refine r_istore (ls' := [(0, vr 7 k), (1, vi ((fiR v (vN v)).1)), (2, vi ((fiR v (vN v)).2)), (3, vi (nI (vN v))), (4, vi ((smT v p q) + ((vF v 3 q) * (sumIf (pwP v q (vN v)) (turnF v) (2 ^ vN v))))), (5, vi (nI q))]) C (dx dX7_first 29 rfl) (by decide) [1, 2, 3, 4, 0, 5] rfl ?_
                  refine rn_iinc (a := q) (k := 1) (ls' := [(0, vr 7 k), (1, vi ((fiR v (vN v)).1)), (2, vi ((fiR v (vN v)).2)), (3, vi (nI (vN v))), (4, vi ((smT v p q) + ((vF v 3 q) * (sumIf (pwP v q (vN v)) (turnF v) (2 ^ vN v))))), (5, vi (nI (q + 1)))]) C (dx dX7_first 30 rfl) rfl rfl (by decide) [1, 2, 3, 4, 5, 0] rfl ?_
                  refine r_goto (tgt := 20) C (dx dX7_first 31 rfl) (by decide) ?_
                  have e9q4 : ((smT v p q) + ((vF v 3 q) * (sumIf (pwP v q (vN v)) (turnF v) (2 ^ vN v)))) = (smT v p (q + 1)) := by rfl
                  rw [e9q4]
                  exact ihq))
  ·
    intro p hp ihp
    refine r_iload_n C (dx dX7_first 6 rfl) rfl ?_
    refine r_aload_n C (dx dX7_first 7 rfl) rfl ?_
    refine g_X7_74 (x := nI (vN v)) C (dx dX7_first 8 rfl) hm.eN ?_
    refine rn_ge (a := p) (b := vN v) (tgt := 77) C (by omega) (by omega) (dx dX7_first 9 rfl) (by decide) (fun c8 => ?_) (fun c8 => ?_)
    · first
      | (omega; done)
      | (
          have c8 : vN v ≤ p := c8
          refine r_iload_n C (dx dX7_first 44 rfl) rfl ?_
          refine r_iconst (v := -1) C (dx dX7_first 45 rfl) rfl ?_
          refine r_icmp_ne (tgt := 91) C (dx dX7_first 46 rfl) (by decide) (fun c9 => ?_) (fun c9 => ?_)
          ·
            have c9 : ¬ (fiR v p).1 = -1 := c9
            refine r_iload_n C (dx dX7_first 51 rfl) rfl ?_
            have eA : firR v = (fiR v p).1 := by (unfold firR; rw [if_neg None])
            exact F.1 _ _ _ _ .int rfl rfl (dx dX7_first 52 rfl) rfl ⟨by (rw [eA]; first | done | rfl), by exact hm, Kp.rf⟩
          ·
            have c9 : (fiR v p).1 = -1 := c9
            refine r_aload_n C (dx dX7_first 47 rfl) rfl ?_
            refine r_bipush (v := -5) C (dx dX7_first 48 rfl) rfl ?_
            refine r_cv (as := [vi (-5)]) (st := []) C X I_X7_refuse l_X7_83 (e_refuse hm (x := -5) (j := 5) (by decide) (by decide)) (by decide) (Nat.le_of_ble_eq_true rfl) List.prefix_rfl List.prefix_rfl rfl rfl (Nat.le_of_ble_eq_true rfl) rfl (dx dX7_first 49 rfl) ?_
            rintro _ h10 ⟨rfl, m9h10, qh10⟩ kkh10
            have mh10 : MilAt h10 k v := m9h10
            have ph10 : Kp k h h10 := qh10
            have kh10 : xK h10 = xK h := kkh10
            refine r_goto (tgt := 92) C (dx dX7_first 50 rfl) (by decide) ?_
            have eA : firR v = -5 := by (unfold firR; rw [if_neg None])
            exact F.1 _ _ _ _ .int rfl rfl (dx dX7_first 52 rfl) kh10 ⟨by (rw [eA]; first | done | rfl), by exact mh10, ph10⟩)
    · first
      | (omega; done)
      | (
          have c8 : p < vN v := c8
          refine r_iconst (v := nI 0) C (dx dX7_first 10 rfl) rfl ?_
          refine r_istore (ls' := [(0, vr 7 k), (1, vi ((fiR v p).1)), (2, vi ((fiR v p).2)), (3, vi (nI p)), (4, vi (nI 0))]) C (dx dX7_first 11 rfl) (by decide) [1, 2, 3, 4, 0] rfl ?_
          refine r_iconst (v := nI 0) C (dx dX7_first 12 rfl) rfl ?_
          refine r_istore (ls' := [(0, vr 7 k), (1, vi ((fiR v p).1)), (2, vi ((fiR v p).2)), (3, vi (nI p)), (4, vi (nI 0)), (5, vi (nI 0))]) C (dx dX7_first 13 rfl) (by decide) [1, 2, 3, 4, 5, 0] rfl ?_
          refine loopU (Φ := fun q => Rr G 20 [(0, vr 7 k), (1, vi ((fiR v p).1)), (2, vi ((fiR v p).2)), (3, vi (nI p)), (4, vi (smT v p q)), (5, vi (nI q))] [] h) (N := vM v) ?_ ?_ 0 (Nat.zero_le _)
          ·
            skip
            refine r_iload C (dx dX7_first 14 rfl) rfl ?_
            refine r_aload_n C (dx dX7_first 15 rfl) rfl ?_
            refine g_X7_71 (x := nI (vM v)) C (dx dX7_first 16 rfl) hm.eM ?_
            refine rn_ge (a := (vM v)) (b := vM v) (tgt := 55) C (by omega) (by omega) (dx dX7_first 17 rfl) (by decide) (fun c11 => ?_) (fun c11 => ?_)
            · first
              | (omega; done)
              | (
                  have c11 : vM v ≤ (vM v) := c11
                  refine r_iload_n C (dx dX7_first 32 rfl) rfl ?_
                  refine r_iconst (v := -1) C (dx dX7_first 33 rfl) rfl ?_
                  refine r_icmp_eq (tgt := 66) C (dx dX7_first 34 rfl) (by decide) (fun c12 => ?_) (fun c12 => ?_)
                  ·
                    have c12 : (fiR v p).1 = -1 := c12
                    refine r_iload_n C (dx dX7_first 38 rfl) rfl ?_
                    refine r_istore_n (ls' := [(0, vr 7 k), (1, vi (nI p)), (2, vi ((fiR v p).2)), (3, vi (nI p)), (4, vi (smT v p (vM v))), (5, vi (nI (vM v)))]) C (dx dX7_first 39 rfl) (by decide) [1, 0, 2, 3, 4, 5] rfl ?_
                    refine r_iload C (dx dX7_first 40 rfl) rfl ?_
                    refine r_istore_n (ls' := [(0, vr 7 k), (1, vi (nI p)), (2, vi (smT v p (vM v))), (3, vi (nI p)), (4, vi (smT v p (vM v))), (5, vi (nI (vM v)))]) C (dx dX7_first 41 rfl) (by decide) [1, 2, 0, 3, 4, 5] rfl ?_
                    refine rn_iinc (a := p) (k := 1) (ls' := [(0, vr 7 k), (1, vi (nI p)), (2, vi (smT v p (vM v))), (3, vi (nI (p + 1))), (4, vi (smT v p (vM v))), (5, vi (nI (vM v)))]) C (dx dX7_first 42 rfl) rfl rfl (by decide) [1, 2, 3, 0, 4, 5] rfl ?_
                    refine r_goto (tgt := 6) C (dx dX7_first 43 rfl) (by decide) ?_
                    have e9p1 : (nI p) = ((fiR v (p + 1)).1) := by (simp only [fiR]; rw [if_pos (Or.inl c12)])
                    have e9p2 : (smT v p (vM v)) = ((fiR v (p + 1)).2) := by (simp only [fiR]; rw [if_pos (Or.inl c12)])
                    refine r_weak C [0, 1, 2, 3] rfl ?_
                    rw [e9p2, e9p1]
                    exact ihp
                  ·
                    have c12 : ¬ (fiR v p).1 = -1 := c12
                    refine r_iload C (dx dX7_first 35 rfl) rfl ?_
                    refine r_iload_n C (dx dX7_first 36 rfl) rfl ?_
                    refine r_icmp_le (tgt := 71) C (dx dX7_first 37 rfl) (by decide) (fun c13 => ?_) (fun c13 => ?_)
                    ·
                      have c13 : smT v p (vM v) ≤ (fiR v p).2 := c13
                      refine rn_iinc (a := p) (k := 1) (ls' := [(0, vr 7 k), (1, vi ((fiR v p).1)), (2, vi ((fiR v p).2)), (3, vi (nI (p + 1))), (4, vi (smT v p (vM v))), (5, vi (nI (vM v)))]) C (dx dX7_first 42 rfl) rfl rfl (by decide) [1, 2, 3, 0, 4, 5] rfl ?_
                      refine r_goto (tgt := 6) C (dx dX7_first 43 rfl) (by decide) ?_
                      have e9p1 : ((fiR v p).1) = ((fiR v (p + 1)).1) := by (simp only [fiR]; rw [if_neg (fun z => z.elim c12 (fun y => absurd y (Int32.not_lt.mpr c13)))])
                      have e9p2 : ((fiR v p).2) = ((fiR v (p + 1)).2) := by (simp only [fiR]; rw [if_neg (fun z => z.elim c12 (fun y => absurd y (Int32.not_lt.mpr c13)))])
                      refine r_weak C [0, 1, 2, 3] rfl ?_
                      rw [e9p2, e9p1]
                      exact ihp
                    ·
                      have c13 : ¬ smT v p (vM v) ≤ (fiR v p).2 := c13
                      refine r_iload_n C (dx dX7_first 38 rfl) rfl ?_
                      refine r_istore_n (ls' := [(0, vr 7 k), (1, vi (nI p)), (2, vi ((fiR v p).2)), (3, vi (nI p)), (4, vi (smT v p (vM v))), (5, vi (nI (vM v)))]) C (dx dX7_first 39 rfl) (by decide) [1, 0, 2, 3, 4, 5] rfl ?_
                      refine r_iload C (dx dX7_first 40 rfl) rfl ?_
                      refine r_istore_n (ls' := [(0, vr 7 k), (1, vi (nI p)), (2, vi (smT v p (vM v))), (3, vi (nI p)), (4, vi (smT v p (vM v))), (5, vi (nI (vM v)))]) C (dx dX7_first 41 rfl) (by decide) [1, 2, 0, 3, 4, 5] rfl ?_
                      refine rn_iinc (a := p) (k := 1) (ls' := [(0, vr 7 k), (1, vi (nI p)), (2, vi (smT v p (vM v))), (3, vi (nI (p + 1))), (4, vi (smT v p (vM v))), (5, vi (nI (vM v)))]) C (dx dX7_first 42 rfl) rfl rfl (by decide) [1, 2, 3, 0, 4, 5] rfl ?_
                      refine r_goto (tgt := 6) C (dx dX7_first 43 rfl) (by decide) ?_
                      have e9p1 : (nI p) = ((fiR v (p + 1)).1) := by (simp only [fiR]; rw [if_pos (Or.inr (Int32.not_le.mp c13))])
                      have e9p2 : (smT v p (vM v)) = ((fiR v (p + 1)).2) := by (simp only [fiR]; rw [if_pos (Or.inr (Int32.not_le.mp c13))])
                      refine r_weak C [0, 1, 2, 3] rfl ?_
                      rw [e9p2, e9p1]
                      exact ihp)
            · first
              | (omega; done)
          ·
            intro q hq ihq
            refine r_iload C (dx dX7_first 14 rfl) rfl ?_
            refine r_aload_n C (dx dX7_first 15 rfl) rfl ?_
            refine g_X7_71 (x := nI (vM v)) C (dx dX7_first 16 rfl) hm.eM ?_
            refine rn_ge (a := q) (b := vM v) (tgt := 55) C (by omega) (by omega) (dx dX7_first 17 rfl) (by decide) (fun c14 => ?_) (fun c14 => ?_)
            · first
              | (omega; done)
              | (
                  have c14 : vM v ≤ q := c14
                  refine r_iload_n C (dx dX7_first 32 rfl) rfl ?_
                  refine r_iconst (v := -1) C (dx dX7_first 33 rfl) rfl ?_
                  refine r_icmp_eq (tgt := 66) C (dx dX7_first 34 rfl) (by decide) (fun c15 => ?_) (fun c15 => ?_)
                  ·
                    have c15 : (fiR v p).1 = -1 := c15
                    refine r_iload_n C (dx dX7_first 38 rfl) rfl ?_
                    refine r_istore_n (ls' := [(0, vr 7 k), (1, vi (nI p)), (2, vi ((fiR v p).2)), (3, vi (nI p)), (4, vi (smT v p q)), (5, vi (nI q))]) C (dx dX7_first 39 rfl) (by decide) [1, 0, 2, 3, 4, 5] rfl ?_
                    refine r_iload C (dx dX7_first 40 rfl) rfl ?_
                    refine r_istore_n (ls' := [(0, vr 7 k), (1, vi (nI p)), (2, vi (smT v p q)), (3, vi (nI p)), (4, vi (smT v p q)), (5, vi (nI q))]) C (dx dX7_first 41 rfl) (by decide) [1, 2, 0, 3, 4, 5] rfl ?_
                    refine rn_iinc (a := p) (k := 1) (ls' := [(0, vr 7 k), (1, vi (nI p)), (2, vi (smT v p q)), (3, vi (nI (p + 1))), (4, vi (smT v p q)), (5, vi (nI q))]) C (dx dX7_first 42 rfl) rfl rfl (by decide) [1, 2, 3, 0, 4, 5] rfl ?_
                    refine r_goto (tgt := 6) C (dx dX7_first 43 rfl) (by decide) ?_
                    have e9p1 : (nI p) = ((fiR v (p + 1)).1) := by (simp only [fiR]; rw [if_pos (Or.inl c15)])
                    have e9p2 : (smT v p q) = ((fiR v (p + 1)).2) := by (simp only [fiR]; rw [if_pos (Or.inl c15)])
                    refine r_weak C [0, 1, 2, 3] rfl ?_
                    rw [e9p2, e9p1]
                    exact ihp
                  ·
                    have c15 : ¬ (fiR v p).1 = -1 := c15
                    refine r_iload C (dx dX7_first 35 rfl) rfl ?_
                    refine r_iload_n C (dx dX7_first 36 rfl) rfl ?_
                    refine r_icmp_le (tgt := 71) C (dx dX7_first 37 rfl) (by decide) (fun c16 => ?_) (fun c16 => ?_)
                    ·
                      have c16 : smT v p q ≤ (fiR v p).2 := c16
                      refine rn_iinc (a := p) (k := 1) (ls' := [(0, vr 7 k), (1, vi ((fiR v p).1)), (2, vi ((fiR v p).2)), (3, vi (nI (p + 1))), (4, vi (smT v p q)), (5, vi (nI q))]) C (dx dX7_first 42 rfl) rfl rfl (by decide) [1, 2, 3, 0, 4, 5] rfl ?_
                      refine r_goto (tgt := 6) C (dx dX7_first 43 rfl) (by decide) ?_
                      have e9p1 : ((fiR v p).1) = ((fiR v (p + 1)).1) := by (simp only [fiR]; rw [if_neg (fun z => z.elim c15 (fun y => absurd y (Int32.not_lt.mpr None)))])
                      have e9p2 : ((fiR v p).2) = ((fiR v (p + 1)).2) := by (simp only [fiR]; rw [if_neg (fun z => z.elim c15 (fun y => absurd y (Int32.not_lt.mpr None)))])
                      refine r_weak C [0, 1, 2, 3] rfl ?_
                      rw [e9p2, e9p1]
                      exact ihp
                    ·
                      have c16 : ¬ smT v p q ≤ (fiR v p).2 := c16
                      refine r_iload_n C (dx dX7_first 38 rfl) rfl ?_
                      refine r_istore_n (ls' := [(0, vr 7 k), (1, vi (nI p)), (2, vi ((fiR v p).2)), (3, vi (nI p)), (4, vi (smT v p q)), (5, vi (nI q))]) C (dx dX7_first 39 rfl) (by decide) [1, 0, 2, 3, 4, 5] rfl ?_
                      refine r_iload C (dx dX7_first 40 rfl) rfl ?_
                      refine r_istore_n (ls' := [(0, vr 7 k), (1, vi (nI p)), (2, vi (smT v p q)), (3, vi (nI p)), (4, vi (smT v p q)), (5, vi (nI q))]) C (dx dX7_first 41 rfl) (by decide) [1, 2, 0, 3, 4, 5] rfl ?_
                      refine rn_iinc (a := p) (k := 1) (ls' := [(0, vr 7 k), (1, vi (nI p)), (2, vi (smT v p q)), (3, vi (nI (p + 1))), (4, vi (smT v p q)), (5, vi (nI q))]) C (dx dX7_first 42 rfl) rfl rfl (by decide) [1, 2, 3, 0, 4, 5] rfl ?_
                      refine r_goto (tgt := 6) C (dx dX7_first 43 rfl) (by decide) ?_
                      have e9p1 : (nI p) = ((fiR v (p + 1)).1) := by (simp only [fiR]; rw [if_neg (fun z => z.elim c15 (fun y => absurd y (Int32.not_lt.mpr None)))])
                      have e9p2 : (smT v p q) = ((fiR v (p + 1)).2) := by (simp only [fiR]; rw [if_neg (fun z => z.elim c15 (fun y => absurd y (Int32.not_lt.mpr None)))])
                      refine r_weak C [0, 1, 2, 3] rfl ?_
                      rw [e9p2, e9p1]
                      exact ihp)
            · first
              | (omega; done)
              | (
                  have c14 : q < vM v := c14
                  refine r_iload C (dx dX7_first 18 rfl) rfl ?_
                  refine r_aload_n C (dx dX7_first 19 rfl) rfl ?_
                  refine g_X7_49 C (dx dX7_first 20 rfl) ?_
                  refine r_iload C (dx dX7_first 21 rfl) rfl ?_
                  refine r_iald (j := q) (x := vF v 3 q) C rfl rfl (by decide) rfl (by omega) (dx dX7_first 22 rfl) (hm.e3 (by omega)) ?_
                  refine r_aload_n C (dx dX7_first 23 rfl) rfl ?_
                  refine r_iload C (dx dX7_first 24 rfl) rfl ?_
                  refine r_iload_n C (dx dX7_first 25 rfl) rfl ?_
                  refine r_cvP (as := [vi (nI q), vi (nI p)]) (st := [vi (vF v 3 q), vi (smT v p q)]) (v := vi (sumIf (pwP v q p) (turnF v) (2 ^ vN v))) C X I_X7_powerOf l_X7_274 (e_powerOf hm (m := q) (o := p) (by omega) (by omega)) (by decide) (Nat.le_of_ble_eq_true rfl) List.prefix_rfl rfl rfl (Nat.le_of_ble_eq_true rfl) rfl (dx dX7_first 26 rfl) ?_
                  refine r_imul C (dx dX7_first 27 rfl) ?_
                  refine r_iadd C (dx dX7_first 28 rfl) ?_
                  refine r_istore (ls' := [(0, vr 7 k), (1, vi ((fiR v p).1)), (2, vi ((fiR v p).2)), (3, vi (nI p)), (4, vi ((smT v p q) + ((vF v 3 q) * (sumIf (pwP v q p) (turnF v) (2 ^ vN v))))), (5, vi (nI q))]) C (dx dX7_first 29 rfl) (by decide) [1, 2, 3, 4, 0, 5] rfl ?_
                  refine rn_iinc (a := q) (k := 1) (ls' := [(0, vr 7 k), (1, vi ((fiR v p).1)), (2, vi ((fiR v p).2)), (3, vi (nI p)), (4, vi ((smT v p q) + ((vF v 3 q) * (sumIf (pwP v q p) (turnF v) (2 ^ vN v))))), (5, vi (nI (q + 1)))]) C (dx dX7_first 30 rfl) rfl rfl (by decide) [1, 2, 3, 4, 5, 0] rfl ?_
                  refine r_goto (tgt := 20) C (dx dX7_first 31 rfl) (by decide) ?_
                  have e9q4 : ((smT v p q) + ((vF v 3 q) * (sumIf (pwP v q p) (turnF v) (2 ^ vN v)))) = (smT v p (q + 1)) := by rfl
                  rw [e9q4]
                  exact ihq))
set_option maxHeartbeats 4000000 in
theorem e_key {l : Launch} {h : Hp} {k : Nat} {v : Vg} (hm : MilAt h k v)  : Ms l yX7_key cX7_key 7 (some .int) 8 [vr 7 k] h (xK h) (fun r h' => r = some (vi (keyR v)) ∧ MilAt h' k v ∧ Kp k h h') := by
  refine Ms.of (by decide) (Nat.le_of_ble_eq_true rfl) (fun G C X F => ?_)
  have C : Cx G cX7_key 7 RX7 := C
  show Rr G 0 [(0, vr 7 k)] [] h
  have bP := hm.bP
  have bM := hm.bM
  have bN := hm.bN
  refine r_iconst (v := -1) C (dx dX7_key 0 rfl) rfl ?_
  refine r_istore_n (ls' := [(0, vr 7 k), (1, vi (-1))]) C (dx dX7_key 1 rfl) (by decide) [1, 0] rfl ?_
  refine r_iconst (v := nI 0) C (dx dX7_key 2 rfl) rfl ?_
  refine r_istore_n (ls' := [(0, vr 7 k), (1, vi (-1)), (2, vi (nI 0))]) C (dx dX7_key 3 rfl) (by decide) [1, 2, 0] rfl ?_
  refine r_iconst (v := nI 0) C (dx dX7_key 4 rfl) rfl ?_
  refine r_istore_n (ls' := [(0, vr 7 k), (1, vi (-1)), (2, vi (nI 0)), (3, vi (nI 0))]) C (dx dX7_key 5 rfl) (by decide) [1, 2, 3, 0] rfl ?_
  refine loopU (Φ := fun p => Rr G 6 [(0, vr 7 k), (1, vi ((kyR v p).1)), (2, vi ((kyR v p).2)), (3, vi (nI p))] [] h) (N := vN v) ?_ ?_ 0 (Nat.zero_le _)
  ·
    skip
    refine r_iload_n C (dx dX7_key 6 rfl) rfl ?_
    refine r_aload_n C (dx dX7_key 7 rfl) rfl ?_
    refine g_X7_74 (x := nI (vN v)) C (dx dX7_key 8 rfl) hm.eN ?_
    refine rn_ge (a := (vN v)) (b := vN v) (tgt := 89) C (by omega) (by omega) (dx dX7_key 9 rfl) (by decide) (fun c1 => ?_) (fun c1 => ?_)
    · first
      | (omega; done)
      | (
          have c1 : vN v ≤ (vN v) := c1
          refine r_iload_n C (dx dX7_key 51 rfl) rfl ?_
          refine r_iconst (v := -1) C (dx dX7_key 52 rfl) rfl ?_
          refine r_icmp_ne (tgt := 103) C (dx dX7_key 53 rfl) (by decide) (fun c2 => ?_) (fun c2 => ?_)
          ·
            have c2 : ¬ (kyR v (vN v)).1 = -1 := c2
            refine r_iload_n C (dx dX7_key 58 rfl) rfl ?_
            have eA : keyR v = (kyR v (vN v)).1 := by (unfold keyR; rw [if_neg c2])
            exact F.1 _ _ _ _ .int rfl rfl (dx dX7_key 59 rfl) rfl ⟨by (rw [eA]; first | done | rfl), by exact hm, Kp.rf⟩
          ·
            have c2 : (kyR v (vN v)).1 = -1 := c2
            refine r_aload_n C (dx dX7_key 54 rfl) rfl ?_
            refine r_bipush (v := -5) C (dx dX7_key 55 rfl) rfl ?_
            refine r_cv (as := [vi (-5)]) (st := []) C X I_X7_refuse l_X7_83 (e_refuse hm (x := -5) (j := 5) (by decide) (by decide)) (by decide) (Nat.le_of_ble_eq_true rfl) List.prefix_rfl List.prefix_rfl rfl rfl (Nat.le_of_ble_eq_true rfl) rfl (dx dX7_key 56 rfl) ?_
            rintro _ h3 ⟨rfl, m9h3, qh3⟩ kkh3
            have mh3 : MilAt h3 k v := m9h3
            have ph3 : Kp k h h3 := qh3
            have kh3 : xK h3 = xK h := kkh3
            refine r_goto (tgt := 104) C (dx dX7_key 57 rfl) (by decide) ?_
            have eA : keyR v = -5 := by (unfold keyR; rw [if_pos c2])
            exact F.1 _ _ _ _ .int rfl rfl (dx dX7_key 59 rfl) kh3 ⟨by (rw [eA]; first | done | rfl), by exact mh3, ph3⟩)
    · first
      | (omega; done)
      | (
          have c1 : (vN v) < vN v := c1
          refine r_aload_n C (dx dX7_key 10 rfl) rfl ?_
          refine r_iconst (v := nI 1) C (dx dX7_key 11 rfl) rfl ?_
          refine r_iload_n C (dx dX7_key 12 rfl) rfl ?_
          refine r_ishl C (dx dX7_key 13 rfl) ?_
          refine r_cvP (as := [vi ((nI 1) <<< ((nI (vN v)) &&& 31))]) (st := []) (v := vi (hasP v ((nI 1) <<< ((nI (vN v)) &&& 31)))) C X I_X7_hasOf l_X7_247 (e_hasOf hm _) (by decide) (Nat.le_of_ble_eq_true rfl) List.prefix_rfl rfl rfl (Nat.le_of_ble_eq_true rfl) rfl (dx dX7_key 14 rfl) ?_
          refine r_istore (ls' := [(0, vr 7 k), (1, vi ((kyR v (vN v)).1)), (2, vi ((kyR v (vN v)).2)), (3, vi (nI (vN v))), (4, vi (hasP v ((nI 1) <<< ((nI (vN v)) &&& 31))))]) C (dx dX7_key 15 rfl) (by decide) [1, 2, 3, 4, 0] rfl ?_
          refine r_iconst (v := nI 0) C (dx dX7_key 16 rfl) rfl ?_
          refine r_istore (ls' := [(0, vr 7 k), (1, vi ((kyR v (vN v)).1)), (2, vi ((kyR v (vN v)).2)), (3, vi (nI (vN v))), (4, vi (hasP v ((nI 1) <<< ((nI (vN v)) &&& 31)))), (5, vi (nI 0))]) C (dx dX7_key 17 rfl) (by decide) [1, 2, 3, 4, 5, 0] rfl ?_
          refine r_iconst (v := nI 0) C (dx dX7_key 18 rfl) rfl ?_
          refine r_istore (ls' := [(0, vr 7 k), (1, vi ((kyR v (vN v)).1)), (2, vi ((kyR v (vN v)).2)), (3, vi (nI (vN v))), (4, vi (hasP v ((nI 1) <<< ((nI (vN v)) &&& 31)))), (5, vi (nI 0)), (6, vi (nI 0))]) C (dx dX7_key 19 rfl) (by decide) [1, 2, 3, 4, 5, 6, 0] rfl ?_
          refine loopU (Φ := fun q => Rr G 29 [(0, vr 7 k), (1, vi ((kyR v (vN v)).1)), (2, vi ((kyR v (vN v)).2)), (3, vi (nI (vN v))), (4, vi (hasP v ((nI 1) <<< ((nI (vN v)) &&& 31)))), (5, vi (nI (tchR v p q))), (6, vi (nI q))] [] h) (N := vM v) ?_ ?_ 0 (Nat.zero_le _)
          ·
            skip
            refine r_iload C (dx dX7_key 20 rfl) rfl ?_
            refine r_aload_n C (dx dX7_key 21 rfl) rfl ?_
            refine g_X7_71 (x := nI (vM v)) C (dx dX7_key 22 rfl) hm.eM ?_
            refine rn_ge (a := (vM v)) (b := vM v) (tgt := 67) C (by omega) (by omega) (dx dX7_key 23 rfl) (by decide) (fun c4 => ?_) (fun c4 => ?_)
            · first
              | (omega; done)
            · first
              | (omega; done)
          ·
            intro q hq ihq
            refine r_iload C (dx dX7_key 20 rfl) rfl ?_
            refine r_aload_n C (dx dX7_key 21 rfl) rfl ?_
            refine g_X7_71 (x := nI (vM v)) C (dx dX7_key 22 rfl) hm.eM ?_
            refine rn_ge (a := q) (b := vM v) (tgt := 67) C (by omega) (by omega) (dx dX7_key 23 rfl) (by decide) (fun c7 => ?_) (fun c7 => ?_)
            · first
              | (omega; done)
            · first
              | (omega; done)
              | (
                  have c7 : q < vM v := c7
                  refine r_iload C (dx dX7_key 24 rfl) rfl ?_
                  refine r_aload_n C (dx dX7_key 25 rfl) rfl ?_
                  refine g_X7_46 C (dx dX7_key 26 rfl) ?_
                  refine r_iload C (dx dX7_key 27 rfl) rfl ?_
                  refine r_iald (j := q) (x := vF v 2 q) C rfl rfl (by decide) rfl (by omega) (dx dX7_key 28 rfl) (hm.e2 (by omega)) ?_
                  refine r_iload C (dx dX7_key 29 rfl) rfl ?_
                  refine r_iand C (dx dX7_key 30 rfl) ?_
                  refine r_if_eq (tgt := 57) C (dx dX7_key 31 rfl) (by decide) (fun c9 => ?_) (fun c9 => ?_)
                  ·
                    have c9 : (vF v 2 q) &&& (hasP v ((nI 1) <<< ((nI (vN v)) &&& 31))) = 0 := c9
                    refine r_iconst (v := nI 0) C (dx dX7_key 34 rfl) rfl ?_
                    refine rn_iadd (a := tchR v p q) (b := 0) C (dx dX7_key 35 rfl) ?_
                    refine r_istore (ls' := [(0, vr 7 k), (1, vi ((kyR v (vN v)).1)), (2, vi ((kyR v (vN v)).2)), (3, vi (nI (vN v))), (4, vi (hasP v ((nI 1) <<< ((nI (vN v)) &&& 31)))), (5, vi (nI (tchR v p q + 0))), (6, vi (nI q))]) C (dx dX7_key 36 rfl) (by decide) [1, 2, 3, 4, 5, 0, 6] rfl ?_
                    refine rn_iinc (a := q) (k := 1) (ls' := [(0, vr 7 k), (1, vi ((kyR v (vN v)).1)), (2, vi ((kyR v (vN v)).2)), (3, vi (nI (vN v))), (4, vi (hasP v ((nI 1) <<< ((nI (vN v)) &&& 31)))), (5, vi (nI (tchR v p q + 0))), (6, vi (nI (q + 1)))]) C (dx dX7_key 37 rfl) rfl rfl (by decide) [1, 2, 3, 4, 5, 6, 0] rfl ?_
                    refine r_goto (tgt := 29) C (dx dX7_key 38 rfl) (by decide) ?_
                    have e9q5 : (nI (tchR v p q + 0)) = (nI (tchR v p (q + 1))) := by (congr 1; simp [tchR, cnt, c9])
                    rw [e9q5]
                    exact ihq
                  ·
                    have c9 : ¬ (vF v 2 q) &&& (hasP v ((nI 1) <<< ((nI (vN v)) &&& 31))) = 0 := c9
                    refine r_iconst (v := nI 1) C (dx dX7_key 32 rfl) rfl ?_
                    refine r_goto (tgt := 58) C (dx dX7_key 33 rfl) (by decide) ?_
                    refine rn_iadd (a := tchR v p q) (b := 1) C (dx dX7_key 35 rfl) ?_
                    refine r_istore (ls' := [(0, vr 7 k), (1, vi ((kyR v (vN v)).1)), (2, vi ((kyR v (vN v)).2)), (3, vi (nI (vN v))), (4, vi (hasP v ((nI 1) <<< ((nI (vN v)) &&& 31)))), (5, vi (nI (tchR v p q + 1))), (6, vi (nI q))]) C (dx dX7_key 36 rfl) (by decide) [1, 2, 3, 4, 5, 0, 6] rfl ?_
                    refine rn_iinc (a := q) (k := 1) (ls' := [(0, vr 7 k), (1, vi ((kyR v (vN v)).1)), (2, vi ((kyR v (vN v)).2)), (3, vi (nI (vN v))), (4, vi (hasP v ((nI 1) <<< ((nI (vN v)) &&& 31)))), (5, vi (nI (tchR v p q + 1))), (6, vi (nI (q + 1)))]) C (dx dX7_key 37 rfl) rfl rfl (by decide) [1, 2, 3, 4, 5, 6, 0] rfl ?_
                    refine r_goto (tgt := 29) C (dx dX7_key 38 rfl) (by decide) ?_
                    have e9q5 : (nI (tchR v p q + 1)) = (nI (tchR v p (q + 1))) := by (congr 1; simp [tchR, cnt, c9])
                    rw [e9q5]
                    exact ihq))
  ·
    intro p hp ihp
    refine r_iload_n C (dx dX7_key 6 rfl) rfl ?_
    refine r_aload_n C (dx dX7_key 7 rfl) rfl ?_
    refine g_X7_74 (x := nI (vN v)) C (dx dX7_key 8 rfl) hm.eN ?_
    refine rn_ge (a := p) (b := vN v) (tgt := 89) C (by omega) (by omega) (dx dX7_key 9 rfl) (by decide) (fun c10 => ?_) (fun c10 => ?_)
    · first
      | (omega; done)
      | (
          have c10 : vN v ≤ p := c10
          refine r_iload_n C (dx dX7_key 51 rfl) rfl ?_
          refine r_iconst (v := -1) C (dx dX7_key 52 rfl) rfl ?_
          refine r_icmp_ne (tgt := 103) C (dx dX7_key 53 rfl) (by decide) (fun c11 => ?_) (fun c11 => ?_)
          ·
            have c11 : ¬ (kyR v p).1 = -1 := c11
            refine r_iload_n C (dx dX7_key 58 rfl) rfl ?_
            have eA : keyR v = (kyR v p).1 := by (unfold keyR; rw [if_neg None])
            exact F.1 _ _ _ _ .int rfl rfl (dx dX7_key 59 rfl) rfl ⟨by (rw [eA]; first | done | rfl), by exact hm, Kp.rf⟩
          ·
            have c11 : (kyR v p).1 = -1 := c11
            refine r_aload_n C (dx dX7_key 54 rfl) rfl ?_
            refine r_bipush (v := -5) C (dx dX7_key 55 rfl) rfl ?_
            refine r_cv (as := [vi (-5)]) (st := []) C X I_X7_refuse l_X7_83 (e_refuse hm (x := -5) (j := 5) (by decide) (by decide)) (by decide) (Nat.le_of_ble_eq_true rfl) List.prefix_rfl List.prefix_rfl rfl rfl (Nat.le_of_ble_eq_true rfl) rfl (dx dX7_key 56 rfl) ?_
            rintro _ h12 ⟨rfl, m9h12, qh12⟩ kkh12
            have mh12 : MilAt h12 k v := m9h12
            have ph12 : Kp k h h12 := qh12
            have kh12 : xK h12 = xK h := kkh12
            refine r_goto (tgt := 104) C (dx dX7_key 57 rfl) (by decide) ?_
            have eA : keyR v = -5 := by (unfold keyR; rw [if_neg None])
            exact F.1 _ _ _ _ .int rfl rfl (dx dX7_key 59 rfl) kh12 ⟨by (rw [eA]; first | done | rfl), by exact mh12, ph12⟩)
    · first
      | (omega; done)
      | (
          have c10 : p < vN v := c10
          refine r_aload_n C (dx dX7_key 10 rfl) rfl ?_
          refine r_iconst (v := nI 1) C (dx dX7_key 11 rfl) rfl ?_
          refine r_iload_n C (dx dX7_key 12 rfl) rfl ?_
          refine r_ishl C (dx dX7_key 13 rfl) ?_
          refine r_cvP (as := [vi ((nI 1) <<< ((nI p) &&& 31))]) (st := []) (v := vi (hasP v ((nI 1) <<< ((nI p) &&& 31)))) C X I_X7_hasOf l_X7_247 (e_hasOf hm _) (by decide) (Nat.le_of_ble_eq_true rfl) List.prefix_rfl rfl rfl (Nat.le_of_ble_eq_true rfl) rfl (dx dX7_key 14 rfl) ?_
          refine r_istore (ls' := [(0, vr 7 k), (1, vi ((kyR v p).1)), (2, vi ((kyR v p).2)), (3, vi (nI p)), (4, vi (hasP v ((nI 1) <<< ((nI p) &&& 31))))]) C (dx dX7_key 15 rfl) (by decide) [1, 2, 3, 4, 0] rfl ?_
          refine r_iconst (v := nI 0) C (dx dX7_key 16 rfl) rfl ?_
          refine r_istore (ls' := [(0, vr 7 k), (1, vi ((kyR v p).1)), (2, vi ((kyR v p).2)), (3, vi (nI p)), (4, vi (hasP v ((nI 1) <<< ((nI p) &&& 31)))), (5, vi (nI 0))]) C (dx dX7_key 17 rfl) (by decide) [1, 2, 3, 4, 5, 0] rfl ?_
          refine r_iconst (v := nI 0) C (dx dX7_key 18 rfl) rfl ?_
          refine r_istore (ls' := [(0, vr 7 k), (1, vi ((kyR v p).1)), (2, vi ((kyR v p).2)), (3, vi (nI p)), (4, vi (hasP v ((nI 1) <<< ((nI p) &&& 31)))), (5, vi (nI 0)), (6, vi (nI 0))]) C (dx dX7_key 19 rfl) (by decide) [1, 2, 3, 4, 5, 6, 0] rfl ?_
          refine loopU (Φ := fun q => Rr G 29 [(0, vr 7 k), (1, vi ((kyR v p).1)), (2, vi ((kyR v p).2)), (3, vi (nI p)), (4, vi (hasP v ((nI 1) <<< ((nI p) &&& 31)))), (5, vi (nI (tchR v p q))), (6, vi (nI q))] [] h) (N := vM v) ?_ ?_ 0 (Nat.zero_le _)
          ·
            skip
            refine r_iload C (dx dX7_key 20 rfl) rfl ?_
            refine r_aload_n C (dx dX7_key 21 rfl) rfl ?_
            refine g_X7_71 (x := nI (vM v)) C (dx dX7_key 22 rfl) hm.eM ?_
            refine rn_ge (a := (vM v)) (b := vM v) (tgt := 67) C (by omega) (by omega) (dx dX7_key 23 rfl) (by decide) (fun c13 => ?_) (fun c13 => ?_)
            · first
              | (omega; done)
              | (
                  have c13 : vM v ≤ (vM v) := c13
                  refine r_iload_n C (dx dX7_key 39 rfl) rfl ?_
                  refine r_iconst (v := -1) C (dx dX7_key 40 rfl) rfl ?_
                  refine r_icmp_eq (tgt := 78) C (dx dX7_key 41 rfl) (by decide) (fun c14 => ?_) (fun c14 => ?_)
                  ·
                    have c14 : (kyR v p).1 = -1 := c14
                    refine r_iload_n C (dx dX7_key 45 rfl) rfl ?_
                    refine r_istore_n (ls' := [(0, vr 7 k), (1, vi (nI p)), (2, vi ((kyR v p).2)), (3, vi (nI p)), (4, vi (hasP v ((nI 1) <<< ((nI p) &&& 31)))), (5, vi (nI (tchR v p (vM v)))), (6, vi (nI (vM v)))]) C (dx dX7_key 46 rfl) (by decide) [1, 0, 2, 3, 4, 5, 6] rfl ?_
                    refine r_iload C (dx dX7_key 47 rfl) rfl ?_
                    refine r_istore_n (ls' := [(0, vr 7 k), (1, vi (nI p)), (2, vi (nI (tchR v p (vM v)))), (3, vi (nI p)), (4, vi (hasP v ((nI 1) <<< ((nI p) &&& 31)))), (5, vi (nI (tchR v p (vM v)))), (6, vi (nI (vM v)))]) C (dx dX7_key 48 rfl) (by decide) [1, 2, 0, 3, 4, 5, 6] rfl ?_
                    refine rn_iinc (a := p) (k := 1) (ls' := [(0, vr 7 k), (1, vi (nI p)), (2, vi (nI (tchR v p (vM v)))), (3, vi (nI (p + 1))), (4, vi (hasP v ((nI 1) <<< ((nI p) &&& 31)))), (5, vi (nI (tchR v p (vM v)))), (6, vi (nI (vM v)))]) C (dx dX7_key 49 rfl) rfl rfl (by decide) [1, 2, 3, 0, 4, 5, 6] rfl ?_
                    refine r_goto (tgt := 6) C (dx dX7_key 50 rfl) (by decide) ?_
                    have e9p1 : (nI p) = ((kyR v (p + 1)).1) := by (simp only [kyR]; rw [if_pos (Or.inl c14)])
                    have e9p2 : (nI (tchR v p (vM v))) = ((kyR v (p + 1)).2) := by (simp only [kyR]; rw [if_pos (Or.inl c14)])
                    refine r_weak C [0, 1, 2, 3] rfl ?_
                    rw [e9p2, e9p1]
                    exact ihp
                  ·
                    have c14 : ¬ (kyR v p).1 = -1 := c14
                    refine r_iload C (dx dX7_key 42 rfl) rfl ?_
                    refine r_iload_n C (dx dX7_key 43 rfl) rfl ?_
                    refine r_icmp_le (tgt := 83) C (dx dX7_key 44 rfl) (by decide) (fun c15 => ?_) (fun c15 => ?_)
                    ·
                      have c15 : nI (tchR v p (vM v)) ≤ (kyR v p).2 := c15
                      refine rn_iinc (a := p) (k := 1) (ls' := [(0, vr 7 k), (1, vi ((kyR v p).1)), (2, vi ((kyR v p).2)), (3, vi (nI (p + 1))), (4, vi (hasP v ((nI 1) <<< ((nI p) &&& 31)))), (5, vi (nI (tchR v p (vM v)))), (6, vi (nI (vM v)))]) C (dx dX7_key 49 rfl) rfl rfl (by decide) [1, 2, 3, 0, 4, 5, 6] rfl ?_
                      refine r_goto (tgt := 6) C (dx dX7_key 50 rfl) (by decide) ?_
                      have e9p1 : ((kyR v p).1) = ((kyR v (p + 1)).1) := by (simp only [kyR]; rw [if_neg (fun z => z.elim c14 (fun y => absurd y (Int32.not_lt.mpr c15)))])
                      have e9p2 : ((kyR v p).2) = ((kyR v (p + 1)).2) := by (simp only [kyR]; rw [if_neg (fun z => z.elim c14 (fun y => absurd y (Int32.not_lt.mpr c15)))])
                      refine r_weak C [0, 1, 2, 3] rfl ?_
                      rw [e9p2, e9p1]
                      exact ihp
                    ·
                      have c15 : ¬ nI (tchR v p (vM v)) ≤ (kyR v p).2 := c15
                      refine r_iload_n C (dx dX7_key 45 rfl) rfl ?_
                      refine r_istore_n (ls' := [(0, vr 7 k), (1, vi (nI p)), (2, vi ((kyR v p).2)), (3, vi (nI p)), (4, vi (hasP v ((nI 1) <<< ((nI p) &&& 31)))), (5, vi (nI (tchR v p (vM v)))), (6, vi (nI (vM v)))]) C (dx dX7_key 46 rfl) (by decide) [1, 0, 2, 3, 4, 5, 6] rfl ?_
                      refine r_iload C (dx dX7_key 47 rfl) rfl ?_
                      refine r_istore_n (ls' := [(0, vr 7 k), (1, vi (nI p)), (2, vi (nI (tchR v p (vM v)))), (3, vi (nI p)), (4, vi (hasP v ((nI 1) <<< ((nI p) &&& 31)))), (5, vi (nI (tchR v p (vM v)))), (6, vi (nI (vM v)))]) C (dx dX7_key 48 rfl) (by decide) [1, 2, 0, 3, 4, 5, 6] rfl ?_
                      refine rn_iinc (a := p) (k := 1) (ls' := [(0, vr 7 k), (1, vi (nI p)), (2, vi (nI (tchR v p (vM v)))), (3, vi (nI (p + 1))), (4, vi (hasP v ((nI 1) <<< ((nI p) &&& 31)))), (5, vi (nI (tchR v p (vM v)))), (6, vi (nI (vM v)))]) C (dx dX7_key 49 rfl) rfl rfl (by decide) [1, 2, 3, 0, 4, 5, 6] rfl ?_
                      refine r_goto (tgt := 6) C (dx dX7_key 50 rfl) (by decide) ?_
                      have e9p1 : (nI p) = ((kyR v (p + 1)).1) := by (simp only [kyR]; rw [if_pos (Or.inr (Int32.not_le.mp c15))])
                      have e9p2 : (nI (tchR v p (vM v))) = ((kyR v (p + 1)).2) := by (simp only [kyR]; rw [if_pos (Or.inr (Int32.not_le.mp c15))])
                      refine r_weak C [0, 1, 2, 3] rfl ?_
                      rw [e9p2, e9p1]
                      exact ihp)
            · first
              | (omega; done)
          ·
            intro q hq ihq
            refine r_iload C (dx dX7_key 20 rfl) rfl ?_
            refine r_aload_n C (dx dX7_key 21 rfl) rfl ?_
            refine g_X7_71 (x := nI (vM v)) C (dx dX7_key 22 rfl) hm.eM ?_
            refine rn_ge (a := q) (b := vM v) (tgt := 67) C (by omega) (by omega) (dx dX7_key 23 rfl) (by decide) (fun c17 => ?_) (fun c17 => ?_)
            · first
              | (omega; done)
              | (
                  have c17 : vM v ≤ q := c17
                  refine r_iload_n C (dx dX7_key 39 rfl) rfl ?_
                  refine r_iconst (v := -1) C (dx dX7_key 40 rfl) rfl ?_
                  refine r_icmp_eq (tgt := 78) C (dx dX7_key 41 rfl) (by decide) (fun c18 => ?_) (fun c18 => ?_)
                  ·
                    have c18 : (kyR v p).1 = -1 := c18
                    refine r_iload_n C (dx dX7_key 45 rfl) rfl ?_
                    refine r_istore_n (ls' := [(0, vr 7 k), (1, vi (nI p)), (2, vi ((kyR v p).2)), (3, vi (nI p)), (4, vi (hasP v ((nI 1) <<< ((nI p) &&& 31)))), (5, vi (nI (tchR v p q))), (6, vi (nI q))]) C (dx dX7_key 46 rfl) (by decide) [1, 0, 2, 3, 4, 5, 6] rfl ?_
                    refine r_iload C (dx dX7_key 47 rfl) rfl ?_
                    refine r_istore_n (ls' := [(0, vr 7 k), (1, vi (nI p)), (2, vi (nI (tchR v p q))), (3, vi (nI p)), (4, vi (hasP v ((nI 1) <<< ((nI p) &&& 31)))), (5, vi (nI (tchR v p q))), (6, vi (nI q))]) C (dx dX7_key 48 rfl) (by decide) [1, 2, 0, 3, 4, 5, 6] rfl ?_
                    refine rn_iinc (a := p) (k := 1) (ls' := [(0, vr 7 k), (1, vi (nI p)), (2, vi (nI (tchR v p q))), (3, vi (nI (p + 1))), (4, vi (hasP v ((nI 1) <<< ((nI p) &&& 31)))), (5, vi (nI (tchR v p q))), (6, vi (nI q))]) C (dx dX7_key 49 rfl) rfl rfl (by decide) [1, 2, 3, 0, 4, 5, 6] rfl ?_
                    refine r_goto (tgt := 6) C (dx dX7_key 50 rfl) (by decide) ?_
                    have e9p1 : (nI p) = ((kyR v (p + 1)).1) := by (simp only [kyR]; rw [if_pos (Or.inl c18)])
                    have e9p2 : (nI (tchR v p q)) = ((kyR v (p + 1)).2) := by (simp only [kyR]; rw [if_pos (Or.inl c18)])
                    refine r_weak C [0, 1, 2, 3] rfl ?_
                    rw [e9p2, e9p1]
                    exact ihp
                  ·
                    have c18 : ¬ (kyR v p).1 = -1 := c18
                    refine r_iload C (dx dX7_key 42 rfl) rfl ?_
                    refine r_iload_n C (dx dX7_key 43 rfl) rfl ?_
                    refine r_icmp_le (tgt := 83) C (dx dX7_key 44 rfl) (by decide) (fun c19 => ?_) (fun c19 => ?_)
                    ·
                      have c19 : nI (tchR v p q) ≤ (kyR v p).2 := c19
                      refine rn_iinc (a := p) (k := 1) (ls' := [(0, vr 7 k), (1, vi ((kyR v p).1)), (2, vi ((kyR v p).2)), (3, vi (nI (p + 1))), (4, vi (hasP v ((nI 1) <<< ((nI p) &&& 31)))), (5, vi (nI (tchR v p q))), (6, vi (nI q))]) C (dx dX7_key 49 rfl) rfl rfl (by decide) [1, 2, 3, 0, 4, 5, 6] rfl ?_
                      refine r_goto (tgt := 6) C (dx dX7_key 50 rfl) (by decide) ?_
                      have e9p1 : ((kyR v p).1) = ((kyR v (p + 1)).1) := by (simp only [kyR]; rw [if_neg (fun z => z.elim c18 (fun y => absurd y (Int32.not_lt.mpr None)))])
                      have e9p2 : ((kyR v p).2) = ((kyR v (p + 1)).2) := by (simp only [kyR]; rw [if_neg (fun z => z.elim c18 (fun y => absurd y (Int32.not_lt.mpr None)))])
                      refine r_weak C [0, 1, 2, 3] rfl ?_
                      rw [e9p2, e9p1]
                      exact ihp
                    ·
                      have c19 : ¬ nI (tchR v p q) ≤ (kyR v p).2 := c19
                      refine r_iload_n C (dx dX7_key 45 rfl) rfl ?_
                      refine r_istore_n (ls' := [(0, vr 7 k), (1, vi (nI p)), (2, vi ((kyR v p).2)), (3, vi (nI p)), (4, vi (hasP v ((nI 1) <<< ((nI p) &&& 31)))), (5, vi (nI (tchR v p q))), (6, vi (nI q))]) C (dx dX7_key 46 rfl) (by decide) [1, 0, 2, 3, 4, 5, 6] rfl ?_
                      refine r_iload C (dx dX7_key 47 rfl) rfl ?_
                      refine r_istore_n (ls' := [(0, vr 7 k), (1, vi (nI p)), (2, vi (nI (tchR v p q))), (3, vi (nI p)), (4, vi (hasP v ((nI 1) <<< ((nI p) &&& 31)))), (5, vi (nI (tchR v p q))), (6, vi (nI q))]) C (dx dX7_key 48 rfl) (by decide) [1, 2, 0, 3, 4, 5, 6] rfl ?_
                      refine rn_iinc (a := p) (k := 1) (ls' := [(0, vr 7 k), (1, vi (nI p)), (2, vi (nI (tchR v p q))), (3, vi (nI (p + 1))), (4, vi (hasP v ((nI 1) <<< ((nI p) &&& 31)))), (5, vi (nI (tchR v p q))), (6, vi (nI q))]) C (dx dX7_key 49 rfl) rfl rfl (by decide) [1, 2, 3, 0, 4, 5, 6] rfl ?_
                      refine r_goto (tgt := 6) C (dx dX7_key 50 rfl) (by decide) ?_
                      have e9p1 : (nI p) = ((kyR v (p + 1)).1) := by (simp only [kyR]; rw [if_neg (fun z => z.elim c18 (fun y => absurd y (Int32.not_lt.mpr None)))])
                      have e9p2 : (nI (tchR v p q)) = ((kyR v (p + 1)).2) := by (simp only [kyR]; rw [if_neg (fun z => z.elim c18 (fun y => absurd y (Int32.not_lt.mpr None)))])
                      refine r_weak C [0, 1, 2, 3] rfl ?_
                      rw [e9p2, e9p1]
                      exact ihp)
            · first
              | (omega; done)
              | (
                  have c17 : q < vM v := c17
                  refine r_iload C (dx dX7_key 24 rfl) rfl ?_
                  refine r_aload_n C (dx dX7_key 25 rfl) rfl ?_
                  refine g_X7_46 C (dx dX7_key 26 rfl) ?_
                  refine r_iload C (dx dX7_key 27 rfl) rfl ?_
                  refine r_iald (j := q) (x := vF v 2 q) C rfl rfl (by decide) rfl (by omega) (dx dX7_key 28 rfl) (hm.e2 (by omega)) ?_
                  refine r_iload C (dx dX7_key 29 rfl) rfl ?_
                  refine r_iand C (dx dX7_key 30 rfl) ?_
                  refine r_if_eq (tgt := 57) C (dx dX7_key 31 rfl) (by decide) (fun c20 => ?_) (fun c20 => ?_)
                  ·
                    have c20 : (vF v 2 q) &&& (hasP v ((nI 1) <<< ((nI p) &&& 31))) = 0 := c20
                    refine r_iconst (v := nI 0) C (dx dX7_key 34 rfl) rfl ?_
                    refine rn_iadd (a := tchR v p q) (b := 0) C (dx dX7_key 35 rfl) ?_
                    refine r_istore (ls' := [(0, vr 7 k), (1, vi ((kyR v p).1)), (2, vi ((kyR v p).2)), (3, vi (nI p)), (4, vi (hasP v ((nI 1) <<< ((nI p) &&& 31)))), (5, vi (nI (tchR v p q + 0))), (6, vi (nI q))]) C (dx dX7_key 36 rfl) (by decide) [1, 2, 3, 4, 5, 0, 6] rfl ?_
                    refine rn_iinc (a := q) (k := 1) (ls' := [(0, vr 7 k), (1, vi ((kyR v p).1)), (2, vi ((kyR v p).2)), (3, vi (nI p)), (4, vi (hasP v ((nI 1) <<< ((nI p) &&& 31)))), (5, vi (nI (tchR v p q + 0))), (6, vi (nI (q + 1)))]) C (dx dX7_key 37 rfl) rfl rfl (by decide) [1, 2, 3, 4, 5, 6, 0] rfl ?_
                    refine r_goto (tgt := 29) C (dx dX7_key 38 rfl) (by decide) ?_
                    have e9q5 : (nI (tchR v p q + 0)) = (nI (tchR v p (q + 1))) := by (congr 1; simp [tchR, cnt, c20])
                    rw [e9q5]
                    exact ihq
                  ·
                    have c20 : ¬ (vF v 2 q) &&& (hasP v ((nI 1) <<< ((nI p) &&& 31))) = 0 := c20
                    refine r_iconst (v := nI 1) C (dx dX7_key 32 rfl) rfl ?_
                    refine r_goto (tgt := 58) C (dx dX7_key 33 rfl) (by decide) ?_
                    refine rn_iadd (a := tchR v p q) (b := 1) C (dx dX7_key 35 rfl) ?_
                    refine r_istore (ls' := [(0, vr 7 k), (1, vi ((kyR v p).1)), (2, vi ((kyR v p).2)), (3, vi (nI p)), (4, vi (hasP v ((nI 1) <<< ((nI p) &&& 31)))), (5, vi (nI (tchR v p q + 1))), (6, vi (nI q))]) C (dx dX7_key 36 rfl) (by decide) [1, 2, 3, 4, 5, 0, 6] rfl ?_
                    refine rn_iinc (a := q) (k := 1) (ls' := [(0, vr 7 k), (1, vi ((kyR v p).1)), (2, vi ((kyR v p).2)), (3, vi (nI p)), (4, vi (hasP v ((nI 1) <<< ((nI p) &&& 31)))), (5, vi (nI (tchR v p q + 1))), (6, vi (nI (q + 1)))]) C (dx dX7_key 37 rfl) rfl rfl (by decide) [1, 2, 3, 4, 5, 6, 0] rfl ?_
                    refine r_goto (tgt := 29) C (dx dX7_key 38 rfl) (by decide) ?_
                    have e9q5 : (nI (tchR v p q + 1)) = (nI (tchR v p (q + 1))) := by (congr 1; simp [tchR, cnt, c20])
                    rw [e9q5]
                    exact ihq))
set_option maxHeartbeats 4000000 in
theorem e_with {l : Launch} {h : Hp} {k : Nat} {v : Vg} (hm : MilAt h k v) (m : Int32) : Ms l yX7_with cX7_with 4 (some .int) 8 [vr 7 k, vi m] h (xK h) (fun r h' => r = some (vi (wtR v m)) ∧ MilAt h' k v ∧ Kp k h h') := by
  refine Ms.of (by decide) (Nat.le_of_ble_eq_true rfl) (fun G C X F => ?_)
  have C : Cx G cX7_with 4 RX7 := C
  show Rr G 0 [(0, vr 7 k), (1, vi m)] [] h
  have bP := hm.bP
  have bM := hm.bM
  have bN := hm.bN
  obtain ⟨S, hS⟩ : ∃ S, S = 2 ^ vN v := ⟨_, rfl⟩
  have p8 := pow8 bN
  rw [← hS] at p8
  refine r_aload_n C (dx dX7_with 0 rfl) rfl ?_
  refine r_iload_n C (dx dX7_with 1 rfl) rfl ?_
  refine r_cvP (as := [vi m]) (st := []) (v := vi (b2i (inR m (vM v)))) C X I_X7_isMachine l_X7_241 (c_X7_isMachine hm _) (by decide) (Nat.le_of_ble_eq_true rfl) List.prefix_rfl rfl rfl (Nat.le_of_ble_eq_true rfl) rfl (dx dX7_with 2 rfl) ?_
  refine rb_ne (b := inR m (vM v)) (tgt := 15) C (dx dX7_with 3 rfl) (by decide) (fun c1 => ?_) (fun c1 => ?_)
  ·
    have c1 : (inR m (vM v)) = true := c1
    obtain ⟨μ, hμ, rfl⟩ := inR_ex (n := (vM v)) (by omega) c1
    refine r_iconst (v := -1) C (dx dX7_with 8 rfl) rfl ?_
    refine r_istore_n (ls' := [(0, vr 7 k), (1, vi (nI μ)), (2, vi (-1))]) C (dx dX7_with 9 rfl) (by decide) [1, 2, 0] rfl ?_
    refine r_iconst (v := nI 0) C (dx dX7_with 10 rfl) rfl ?_
    refine r_istore_n (ls' := [(0, vr 7 k), (1, vi (nI μ)), (2, vi (-1)), (3, vi (nI 0))]) C (dx dX7_with 11 rfl) (by decide) [1, 2, 3, 0] rfl ?_
    refine loopU (Φ := fun p => Rr G 19 [(0, vr 7 k), (1, vi (nI μ)), (2, vi (wiF (fun s => needW v (hasP v (nI s)) μ) p)), (3, vi (nI p))] [] h) (N := S) ?_ ?_ 0 (Nat.zero_le _)
    ·
      skip
      refine r_iload_n C (dx dX7_with 12 rfl) rfl ?_
      refine r_aload_n C (dx dX7_with 13 rfl) rfl ?_
      refine r_cvP (as := []) (st := [vi (nI S)]) (v := vi (nI (S - 1))) C X I_X7_all l_X7_253 (c_mallS hm hS) (by decide) (Nat.le_of_ble_eq_true rfl) List.prefix_rfl rfl rfl (Nat.le_of_ble_eq_true rfl) rfl (dx dX7_with 14 rfl) ?_
      refine rn_gt (a := S) (b := S - 1) (tgt := 64) C (by omega) (by omega) (dx dX7_with 15 rfl) (by decide) (fun c2 => ?_) (fun c2 => ?_)
      · first
        | (omega; done)
        | (
            have c2 : S - 1 < S := c2
            refine r_iload_n C (dx dX7_with 35 rfl) rfl ?_
            refine r_iconst (v := -1) C (dx dX7_with 36 rfl) rfl ?_
            refine r_icmp_ne (tgt := 78) C (dx dX7_with 37 rfl) (by decide) (fun c3 => ?_) (fun c3 => ?_)
            ·
              have c3 : ¬ wiF (fun s => needW v (hasP v (nI s)) μ) S = -1 := c3
              refine r_iload_n C (dx dX7_with 42 rfl) rfl ?_
              have eA : wtR v (nI μ) = wiF (fun s => needW v (hasP v (nI s)) μ) S := by (unfold wtR; rw [inN (show μ < 2 ^ 31 by omega) hμ, if_pos rfl, clN (show μ < 2 ^ 31 by omega), ← hS, if_neg c3])
              exact F.1 _ _ _ _ .int rfl rfl (dx dX7_with 43 rfl) rfl ⟨by (rw [eA]; first | done | rfl), by exact hm, Kp.rf⟩
            ·
              have c3 : wiF (fun s => needW v (hasP v (nI s)) μ) S = -1 := c3
              refine r_aload_n C (dx dX7_with 38 rfl) rfl ?_
              refine r_bipush (v := -5) C (dx dX7_with 39 rfl) rfl ?_
              refine r_cv (as := [vi (-5)]) (st := []) C X I_X7_refuse l_X7_83 (e_refuse hm (x := -5) (j := 5) (by decide) (by decide)) (by decide) (Nat.le_of_ble_eq_true rfl) List.prefix_rfl List.prefix_rfl rfl rfl (Nat.le_of_ble_eq_true rfl) rfl (dx dX7_with 40 rfl) ?_
              rintro _ h4 ⟨rfl, m9h4, qh4⟩ kkh4
              have mh4 : MilAt h4 k v := m9h4
              have ph4 : Kp k h h4 := qh4
              have kh4 : xK h4 = xK h := kkh4
              refine r_goto (tgt := 79) C (dx dX7_with 41 rfl) (by decide) ?_
              have eA : wtR v (nI μ) = -5 := by (unfold wtR; rw [inN (show μ < 2 ^ 31 by omega) hμ, if_pos rfl, clN (show μ < 2 ^ 31 by omega), ← hS, if_pos c3])
              exact F.1 _ _ _ _ .int rfl rfl (dx dX7_with 43 rfl) kh4 ⟨by (rw [eA]; first | done | rfl), by exact mh4, ph4⟩)
      · first
        | (omega; done)
    ·
      intro p hp ihp
      refine r_iload_n C (dx dX7_with 12 rfl) rfl ?_
      refine r_aload_n C (dx dX7_with 13 rfl) rfl ?_
      refine r_cvP (as := []) (st := [vi (nI p)]) (v := vi (nI (S - 1))) C X I_X7_all l_X7_253 (c_mallS hm hS) (by decide) (Nat.le_of_ble_eq_true rfl) List.prefix_rfl rfl rfl (Nat.le_of_ble_eq_true rfl) rfl (dx dX7_with 14 rfl) ?_
      refine rn_gt (a := p) (b := S - 1) (tgt := 64) C (by omega) (by omega) (dx dX7_with 15 rfl) (by decide) (fun c6 => ?_) (fun c6 => ?_)
      · first
        | (omega; done)
        | (
            have c6 : S - 1 < p := c6
            refine r_iload_n C (dx dX7_with 35 rfl) rfl ?_
            refine r_iconst (v := -1) C (dx dX7_with 36 rfl) rfl ?_
            refine r_icmp_ne (tgt := 78) C (dx dX7_with 37 rfl) (by decide) (fun c7 => ?_) (fun c7 => ?_)
            ·
              have c7 : ¬ wiF (fun s => needW v (hasP v (nI s)) μ) p = -1 := c7
              refine r_iload_n C (dx dX7_with 42 rfl) rfl ?_
              have eA : wtR v (nI μ) = wiF (fun s => needW v (hasP v (nI s)) μ) p := by (unfold wtR; rw [inN (show μ < 2 ^ 31 by omega) hμ, if_pos rfl, clN (show μ < 2 ^ 31 by omega), ← hS, if_neg c7])
              exact F.1 _ _ _ _ .int rfl rfl (dx dX7_with 43 rfl) rfl ⟨by (rw [eA]; first | done | rfl), by exact hm, Kp.rf⟩
            ·
              have c7 : wiF (fun s => needW v (hasP v (nI s)) μ) p = -1 := c7
              refine r_aload_n C (dx dX7_with 38 rfl) rfl ?_
              refine r_bipush (v := -5) C (dx dX7_with 39 rfl) rfl ?_
              refine r_cv (as := [vi (-5)]) (st := []) C X I_X7_refuse l_X7_83 (e_refuse hm (x := -5) (j := 5) (by decide) (by decide)) (by decide) (Nat.le_of_ble_eq_true rfl) List.prefix_rfl List.prefix_rfl rfl rfl (Nat.le_of_ble_eq_true rfl) rfl (dx dX7_with 40 rfl) ?_
              rintro _ h8 ⟨rfl, m9h8, qh8⟩ kkh8
              have mh8 : MilAt h8 k v := m9h8
              have ph8 : Kp k h h8 := qh8
              have kh8 : xK h8 = xK h := kkh8
              refine r_goto (tgt := 79) C (dx dX7_with 41 rfl) (by decide) ?_
              have eA : wtR v (nI μ) = -5 := by (unfold wtR; rw [inN (show μ < 2 ^ 31 by omega) hμ, if_pos rfl, clN (show μ < 2 ^ 31 by omega), ← hS, if_pos c7])
              exact F.1 _ _ _ _ .int rfl rfl (dx dX7_with 43 rfl) kh8 ⟨by (rw [eA]; first | done | rfl), by exact mh8, ph8⟩)
      · first
        | (omega; done)
        | (
            have c6 : p ≤ S - 1 := c6
            refine r_aload_n C (dx dX7_with 16 rfl) rfl ?_
            refine r_iload_n C (dx dX7_with 17 rfl) rfl ?_
            refine r_iload_n C (dx dX7_with 18 rfl) rfl ?_
            refine r_cvP (as := [vi (nI μ), vi (nI p)]) (st := []) (v := vi (b2i (needW v (hasP v (nI p)) μ))) C X I_X7_worksOf l_X7_250 (e_worksOf hm (m := μ) (by omega) _) (by decide) (Nat.le_of_ble_eq_true rfl) List.prefix_rfl rfl rfl (Nat.le_of_ble_eq_true rfl) rfl (dx dX7_with 19 rfl) ?_
            refine rb_eq (b := needW v (hasP v (nI p)) μ) (tgt := 56) C (dx dX7_with 20 rfl) (by decide) (fun c9 => ?_) (fun c9 => ?_)
            ·
              have c9 : (needW v (hasP v (nI p)) μ) = false := c9
              refine r_iload_n C (dx dX7_with 31 rfl) rfl ?_
              refine r_istore_n (ls' := [(0, vr 7 k), (1, vi (nI μ)), (2, vi (wiF (fun s => needW v (hasP v (nI s)) μ) p)), (3, vi (nI p))]) C (dx dX7_with 32 rfl) (by decide) [1, 2, 0, 3] rfl ?_
              refine rn_iinc (a := p) (k := 1) (ls' := [(0, vr 7 k), (1, vi (nI μ)), (2, vi (wiF (fun s => needW v (hasP v (nI s)) μ) p)), (3, vi (nI (p + 1)))]) C (dx dX7_with 33 rfl) rfl rfl (by decide) [1, 2, 3, 0] rfl ?_
              refine r_goto (tgt := 19) C (dx dX7_with 34 rfl) (by decide) ?_
              have e9p2 : (wiF (fun s => needW v (hasP v (nI s)) μ) p) = (wiF (fun s => needW v (hasP v (nI s)) μ) (p + 1)) := by first | rfl | exact (wiF_y (by assumption) (Or.inl (by assumption))).symm | exact (wiF_y (by assumption) (Or.inr (by first | assumption | omega))).symm | exact (wiF_1 (by assumption)).symm | exact (wiF_2 (by assumption) (by first | assumption | omega)).symm
              rw [e9p2]
              exact ihp
            ·
              have c9 : (needW v (hasP v (nI p)) μ) = true := c9
              refine r_iload_n C (dx dX7_with 21 rfl) rfl ?_
              refine r_iconst (v := -1) C (dx dX7_with 22 rfl) rfl ?_
              refine r_icmp_eq (tgt := 52) C (dx dX7_with 23 rfl) (by decide) (fun c10 => ?_) (fun c10 => ?_)
              ·
                have c10 : wiF (fun s => needW v (hasP v (nI s)) μ) p = -1 := c10
                refine r_iload_n C (dx dX7_with 29 rfl) rfl ?_
                refine r_goto (tgt := 57) C (dx dX7_with 30 rfl) (by decide) ?_
                refine r_istore_n (ls' := [(0, vr 7 k), (1, vi (nI μ)), (2, vi (nI p)), (3, vi (nI p))]) C (dx dX7_with 32 rfl) (by decide) [1, 2, 0, 3] rfl ?_
                refine rn_iinc (a := p) (k := 1) (ls' := [(0, vr 7 k), (1, vi (nI μ)), (2, vi (nI p)), (3, vi (nI (p + 1)))]) C (dx dX7_with 33 rfl) rfl rfl (by decide) [1, 2, 3, 0] rfl ?_
                refine r_goto (tgt := 19) C (dx dX7_with 34 rfl) (by decide) ?_
                have e9p2 : (nI p) = (wiF (fun s => needW v (hasP v (nI s)) μ) (p + 1)) := by first | rfl | exact (wiF_y (by assumption) (Or.inl (by assumption))).symm | exact (wiF_y (by assumption) (Or.inr (by first | assumption | omega))).symm | exact (wiF_1 (by assumption)).symm | exact (wiF_2 (by assumption) (by first | assumption | omega)).symm
                rw [e9p2]
                exact ihp
              ·
                have c10 : ¬ wiF (fun s => needW v (hasP v (nI s)) μ) p = -1 := c10
                refine r_iload_n C (dx dX7_with 24 rfl) rfl ?_
                have bc11 := pcn_12 (a := p) (by omega)
                have bc12 := pcn_12 (a := p) (by omega)
                refine r_csP (as := [vi (nI p)]) (st := []) (v := vi (nI (pcn p))) C X I_X7_bits l_X7_268 (e_bits (a := p) (by omega)) (by decide) (Nat.le_of_ble_eq_true rfl) List.prefix_rfl (Nat.le_of_ble_eq_true rfl) rfl (dx dX7_with 25 rfl) ?_
                refine r_iload_n C (dx dX7_with 26 rfl) rfl ?_
                have bc13 := pcn_h (bc_hi (by omega) (wiF_m (fun s => needW v (hasP v (nI s)) μ) p (by omega)) c10)
                have bc14 := pcn_h (bc_hi (by omega) (wiF_m (fun s => needW v (hasP v (nI s)) μ) p (by omega)) c10)
                refine r_csP (as := [vi (wiF (fun s => needW v (hasP v (nI s)) μ) p)]) (st := [vi (nI (pcn p))]) (v := vi (nI (pcn (wiF (fun s => needW v (hasP v (nI s)) μ) p).toNatClampNeg))) C X I_X7_bits l_X7_268 (e_bitsE (bc_hi (by omega) (wiF_m (fun s => needW v (hasP v (nI s)) μ) p (by omega)) c10)) (by decide) (Nat.le_of_ble_eq_true rfl) List.prefix_rfl (Nat.le_of_ble_eq_true rfl) rfl (dx dX7_with 27 rfl) ?_
                refine rn_ge (a := pcn p) (b := pcn (wiF (fun s => needW v (hasP v (nI s)) μ) p).toNatClampNeg) (tgt := 56) C (by omega) (by omega) (dx dX7_with 28 rfl) (by decide) (fun c15 => ?_) (fun c15 => ?_)
                · first
                  | (omega; done)
                  | (
                      have c15 : pcn (wiF (fun s => needW v (hasP v (nI s)) μ) p).toNatClampNeg ≤ pcn p := c15
                      refine r_iload_n C (dx dX7_with 31 rfl) rfl ?_
                      refine r_istore_n (ls' := [(0, vr 7 k), (1, vi (nI μ)), (2, vi (wiF (fun s => needW v (hasP v (nI s)) μ) p)), (3, vi (nI p))]) C (dx dX7_with 32 rfl) (by decide) [1, 2, 0, 3] rfl ?_
                      refine rn_iinc (a := p) (k := 1) (ls' := [(0, vr 7 k), (1, vi (nI μ)), (2, vi (wiF (fun s => needW v (hasP v (nI s)) μ) p)), (3, vi (nI (p + 1)))]) C (dx dX7_with 33 rfl) rfl rfl (by decide) [1, 2, 3, 0] rfl ?_
                      refine r_goto (tgt := 19) C (dx dX7_with 34 rfl) (by decide) ?_
                      have e9p2 : (wiF (fun s => needW v (hasP v (nI s)) μ) p) = (wiF (fun s => needW v (hasP v (nI s)) μ) (p + 1)) := by first | rfl | exact (wiF_y (by assumption) (Or.inl (by assumption))).symm | exact (wiF_y (by assumption) (Or.inr (by first | assumption | omega))).symm | exact (wiF_1 (by assumption)).symm | exact (wiF_2 (by assumption) (by first | assumption | omega)).symm
                      rw [e9p2]
                      exact ihp)
                · first
                  | (omega; done)
                  | (
                      have c15 : pcn p < pcn (wiF (fun s => needW v (hasP v (nI s)) μ) p).toNatClampNeg := c15
                      refine r_iload_n C (dx dX7_with 29 rfl) rfl ?_
                      refine r_goto (tgt := 57) C (dx dX7_with 30 rfl) (by decide) ?_
                      refine r_istore_n (ls' := [(0, vr 7 k), (1, vi (nI μ)), (2, vi (nI p)), (3, vi (nI p))]) C (dx dX7_with 32 rfl) (by decide) [1, 2, 0, 3] rfl ?_
                      refine rn_iinc (a := p) (k := 1) (ls' := [(0, vr 7 k), (1, vi (nI μ)), (2, vi (nI p)), (3, vi (nI (p + 1)))]) C (dx dX7_with 33 rfl) rfl rfl (by decide) [1, 2, 3, 0] rfl ?_
                      refine r_goto (tgt := 19) C (dx dX7_with 34 rfl) (by decide) ?_
                      have e9p2 : (nI p) = (wiF (fun s => needW v (hasP v (nI s)) μ) (p + 1)) := by first | rfl | exact (wiF_y (by assumption) (Or.inl (by assumption))).symm | exact (wiF_y (by assumption) (Or.inr (by first | assumption | omega))).symm | exact (wiF_1 (by assumption)).symm | exact (wiF_2 (by assumption) (by first | assumption | omega)).symm
                      rw [e9p2]
                      exact ihp))
  ·
    have c1 : (inR m (vM v)) = false := c1
    refine r_aload_n C (dx dX7_with 4 rfl) rfl ?_
    refine r_bipush (v := -2) C (dx dX7_with 5 rfl) rfl ?_
    refine r_cv (as := [vi (-2)]) (st := []) C X I_X7_refuse l_X7_83 (e_refuse hm (x := -2) (j := 2) (by decide) (by decide)) (by decide) (Nat.le_of_ble_eq_true rfl) List.prefix_rfl List.prefix_rfl rfl rfl (Nat.le_of_ble_eq_true rfl) rfl (dx dX7_with 6 rfl) ?_
    rintro _ h16 ⟨rfl, m9h16, qh16⟩ kkh16
    have mh16 : MilAt h16 k v := m9h16
    have ph16 : Kp k h h16 := qh16
    have kh16 : xK h16 = xK h := kkh16
    have eA : wtR v m = -2 := by (simp [wtR, c1] <;> rfl)
    exact F.1 _ _ _ _ .int rfl rfl (dx dX7_with 7 rfl) kh16 ⟨by (rw [eA]; first | done | rfl), by exact mh16, ph16⟩
set_option maxHeartbeats 4000000 in
theorem e_least {l : Launch} {h : Hp} {k : Nat} {v : Vg} (hm : MilAt h k v)  : Ms l yX7_least cX7_least 3 (some .int) 8 [vr 7 k] h (xK h) (fun r h' => r = some (vi (leaR v)) ∧ MilAt h' k v ∧ Kp k h h') := by
  refine Ms.of (by decide) (Nat.le_of_ble_eq_true rfl) (fun G C X F => ?_)
  have C : Cx G cX7_least 3 RX7 := C
  show Rr G 0 [(0, vr 7 k)] [] h
  have bP := hm.bP
  have bM := hm.bM
  have bN := hm.bN
  obtain ⟨S, hS⟩ : ∃ S, S = 2 ^ vN v := ⟨_, rfl⟩
  have p8 := pow8 bN
  rw [← hS] at p8
  refine r_aload_n C (dx dX7_least 0 rfl) rfl ?_
  refine r_cvP (as := []) (st := []) (v := vi (nI (S - 1))) C X I_X7_all l_X7_253 (c_mallS hm hS) (by decide) (Nat.le_of_ble_eq_true rfl) List.prefix_rfl rfl rfl (Nat.le_of_ble_eq_true rfl) rfl (dx dX7_least 1 rfl) ?_
  refine r_istore_n (ls' := [(0, vr 7 k), (1, vi (nI (S - 1)))]) C (dx dX7_least 2 rfl) (by decide) [1, 0] rfl ?_
  refine r_aload_n C (dx dX7_least 3 rfl) rfl ?_
  refine r_cvP (as := []) (st := []) (v := vi (nI (S - 1))) C X I_X7_all l_X7_253 (c_mallS hm hS) (by decide) (Nat.le_of_ble_eq_true rfl) List.prefix_rfl rfl rfl (Nat.le_of_ble_eq_true rfl) rfl (dx dX7_least 4 rfl) ?_
  refine r_istore_n (ls' := [(0, vr 7 k), (1, vi (nI (S - 1))), (2, vi (nI (S - 1)))]) C (dx dX7_least 5 rfl) (by decide) [1, 2, 0] rfl ?_
  have key : ∀ j, j ≤ S → Rr G 10 [(0, vr 7 k), (1, vi (nI (ldF (leaQ v S) (S - 1) (S - j)))), (2, vi (nI j - nI 1))] [] h := by
    refine loopDn (Φ := fun j => j ≤ S → Rr G 10 [(0, vr 7 k), (1, vi (nI (ldF (leaQ v S) (S - 1) (S - j)))), (2, vi (nI j - nI 1))] [] h) ?_ ?_
    ·
      intro hj
      rw [show nI 0 - nI 1 = -1 from by decide]
      refine r_iload_n C (dx dX7_least 6 rfl) rfl ?_
      refine r_if_lt (tgt := 53) C (dx dX7_least 7 rfl) (by decide) (fun c1 => ?_) (fun c1 => ?_)
      ·
        have c1 : (-1 : Int32) < 0 := c1
        refine r_iload_n C (dx dX7_least 29 rfl) rfl ?_
        have eA : leaR v = nI (ldF (leaQ v S) (S - 1) (S - 0)) := by (unfold leaR; rw [← hS, Nat.sub_zero])
        exact F.1 _ _ _ _ .int rfl rfl (dx dX7_least 30 rfl) rfl ⟨by (rw [eA]; first | done | rfl), by exact hm, Kp.rf⟩
      · exact absurd (show (-1 : Int32) < 0 by decide) c1
    ·
      intro j ihj hj
      rw [show nI (j + 1) - nI 1 = nI j from pk_sub (a := j + 1) (b := 1) (by omega)]
      have l9 := ldF_le (leaQ v S) (S - 1) (S - (j + 1))
      refine r_iload_n C (dx dX7_least 6 rfl) rfl ?_
      refine r_if_lt (tgt := 53) C (dx dX7_least 7 rfl) (by decide) (fun c2 => ?_) (fun c2 => ?_)
      · exact absurd c2 (nI_pos (by omega))
      ·
        have c2 : ¬ nI j < 0 := c2
        refine r_aload_n C (dx dX7_least 8 rfl) rfl ?_
        refine r_aload_n C (dx dX7_least 9 rfl) rfl ?_
        refine r_cvP (as := []) (st := [vr 7 k]) (v := vi (nI (S - 1))) C X I_X7_all l_X7_253 (c_mallS hm hS) (by decide) (Nat.le_of_ble_eq_true rfl) List.prefix_rfl rfl rfl (Nat.le_of_ble_eq_true rfl) rfl (dx dX7_least 10 rfl) ?_
        refine r_iload_n C (dx dX7_least 11 rfl) rfl ?_
        refine r_iconst (v := -1) C (dx dX7_least 12 rfl) rfl ?_
        refine r_ixor C (dx dX7_least 13 rfl) ?_
        refine r_iand C (dx dX7_least 14 rfl) ?_
        refine r_iconst (v := nI 0) C (dx dX7_least 15 rfl) rfl ?_
        refine r_cvP (as := [vi ((nI (S - 1)) &&& ((nI j) ^^^ (-1))), vi (nI 0)]) (st := []) (v := vi (b2i (!allF (anP v ((nI (S - 1)) &&& ((nI j) ^^^ (-1))) (nI 0)) (vM v)))) C X I_X7_anyWorks l_X7_317 (e_anyWorks hm _ _) (by decide) (Nat.le_of_ble_eq_true rfl) List.prefix_rfl rfl rfl (Nat.le_of_ble_eq_true rfl) rfl (dx dX7_least 16 rfl) ?_
        refine rb_ne (b := !allF (anP v ((nI (S - 1)) &&& ((nI j) ^^^ (-1))) (nI 0)) (vM v)) (tgt := 45) C (dx dX7_least 17 rfl) (by decide) (fun c3 => ?_) (fun c3 => ?_)
        ·
          have c3 : (!allF (anP v ((nI (S - 1)) &&& ((nI j) ^^^ (-1))) (nI 0)) (vM v)) = true := c3
          refine r_iload_n C (dx dX7_least 25 rfl) rfl ?_
          refine r_istore_n (ls' := [(0, vr 7 k), (1, vi (nI (ldF (leaQ v S) (S - 1) (S - (j + 1))))), (2, vi (nI j))]) C (dx dX7_least 26 rfl) (by decide) [1, 0, 2] rfl ?_
          refine r_iinc (ls' := [(0, vr 7 k), (1, vi (nI (ldF (leaQ v S) (S - 1) (S - (j + 1))))), (2, vi (nI j + (-1)))]) C (dx dX7_least 27 rfl) rfl rfl (by decide) [1, 2, 0] rfl ?_
          refine r_goto (tgt := 10) C (dx dX7_least 28 rfl) (by decide) ?_
          rw [add_m1]
          have e9 : (nI (ldF (leaQ v S) (S - 1) (S - (j + 1)))) = (nI (ldF (leaQ v S) (S - 1) (S - j))) := by (rw [ldF_s _ hj, if_neg (fun z => by have z1 := z.1; unfold leaQ at z1; rw [z1] at c3; exact absurd c3 (by decide))])
          have q9 := ihj (by omega)
          rw [← e9] at q9
          exact q9
        ·
          have c3 : (!allF (anP v ((nI (S - 1)) &&& ((nI j) ^^^ (-1))) (nI 0)) (vM v)) = false := c3
          refine r_iload_n C (dx dX7_least 18 rfl) rfl ?_
          have bc4 := pcn_12 (a := j) (by omega)
          have bc5 := pcn_12 (a := j) (by omega)
          refine r_csP (as := [vi (nI j)]) (st := []) (v := vi (nI (pcn j))) C X I_X7_bits l_X7_268 (e_bits (a := j) (by omega)) (by decide) (Nat.le_of_ble_eq_true rfl) List.prefix_rfl (Nat.le_of_ble_eq_true rfl) rfl (dx dX7_least 19 rfl) ?_
          refine r_iload_n C (dx dX7_least 20 rfl) rfl ?_
          have bc6 := pcn_12 (a := ldF (leaQ v S) (S - 1) (S - (j + 1))) (by omega)
          have bc7 := pcn_12 (a := ldF (leaQ v S) (S - 1) (S - (j + 1))) (by omega)
          refine r_csP (as := [vi (nI (ldF (leaQ v S) (S - 1) (S - (j + 1))))]) (st := [vi (nI (pcn j))]) (v := vi (nI (pcn (ldF (leaQ v S) (S - 1) (S - (j + 1)))))) C X I_X7_bits l_X7_268 (e_bits (a := ldF (leaQ v S) (S - 1) (S - (j + 1))) (by omega)) (by decide) (Nat.le_of_ble_eq_true rfl) List.prefix_rfl (Nat.le_of_ble_eq_true rfl) rfl (dx dX7_least 21 rfl) ?_
          refine rn_gt (a := pcn j) (b := pcn (ldF (leaQ v S) (S - 1) (S - (j + 1)))) (tgt := 45) C (by omega) (by omega) (dx dX7_least 22 rfl) (by decide) (fun c8 => ?_) (fun c8 => ?_)
          · first
            | (omega; done)
            | (
                have c8 : pcn (ldF (leaQ v S) (S - 1) (S - (j + 1))) < pcn j := c8
                refine r_iload_n C (dx dX7_least 25 rfl) rfl ?_
                refine r_istore_n (ls' := [(0, vr 7 k), (1, vi (nI (ldF (leaQ v S) (S - 1) (S - (j + 1))))), (2, vi (nI j))]) C (dx dX7_least 26 rfl) (by decide) [1, 0, 2] rfl ?_
                refine r_iinc (ls' := [(0, vr 7 k), (1, vi (nI (ldF (leaQ v S) (S - 1) (S - (j + 1))))), (2, vi (nI j + (-1)))]) C (dx dX7_least 27 rfl) rfl rfl (by decide) [1, 2, 0] rfl ?_
                refine r_goto (tgt := 10) C (dx dX7_least 28 rfl) (by decide) ?_
                rw [add_m1]
                have e9 : (nI (ldF (leaQ v S) (S - 1) (S - (j + 1)))) = (nI (ldF (leaQ v S) (S - 1) (S - j))) := by (rw [ldF_s _ hj, if_neg (fun z => by have := z.2; omega)])
                have q9 := ihj (by omega)
                rw [← e9] at q9
                exact q9)
          · first
            | (omega; done)
            | (
                have c8 : pcn j ≤ pcn (ldF (leaQ v S) (S - 1) (S - (j + 1))) := c8
                refine r_iload_n C (dx dX7_least 23 rfl) rfl ?_
                refine r_goto (tgt := 46) C (dx dX7_least 24 rfl) (by decide) ?_
                refine r_istore_n (ls' := [(0, vr 7 k), (1, vi (nI j)), (2, vi (nI j))]) C (dx dX7_least 26 rfl) (by decide) [1, 0, 2] rfl ?_
                refine r_iinc (ls' := [(0, vr 7 k), (1, vi (nI j)), (2, vi (nI j + (-1)))]) C (dx dX7_least 27 rfl) rfl rfl (by decide) [1, 2, 0] rfl ?_
                refine r_goto (tgt := 10) C (dx dX7_least 28 rfl) (by decide) ?_
                rw [add_m1]
                have e9 : (nI j) = (nI (ldF (leaQ v S) (S - 1) (S - j))) := by (rw [ldF_s _ hj, if_pos ⟨by unfold leaQ; exact (Bool.not_not _).symm.trans (congrArg Bool.not c3), c8⟩])
                have q9 := ihj (by omega)
                rw [← e9] at q9
                exact q9)
  have k9 := key S (Nat.le_refl _)
  rw [pk_sub (a := S) (b := 1) (by omega), Nat.sub_self] at k9
  exact k9
set_option maxHeartbeats 4000000 in
theorem e_stolen {l : Launch} {h : Hp} {k : Nat} {v : Vg} (hm : MilAt h k v)  : Ms l yX7_stolen cX7_stolen 3 (some .int) 8 [vr 7 k] h (xK h) (fun r h' => r = some (vi (stoR v)) ∧ MilAt h' k v ∧ Kp k h h') := by
  refine Ms.of (by decide) (Nat.le_of_ble_eq_true rfl) (fun G C X F => ?_)
  have C : Cx G cX7_stolen 3 RX7 := C
  show Rr G 0 [(0, vr 7 k)] [] h
  have bP := hm.bP
  have bM := hm.bM
  have bN := hm.bN
  obtain ⟨S, hS⟩ : ∃ S, S = 2 ^ vP v := ⟨_, rfl⟩
  have p12 := pow12 bP
  rw [← hS] at p12
  refine r_iconst (v := nI 1) C (dx dX7_stolen 0 rfl) rfl ?_
  refine r_aload_n C (dx dX7_stolen 1 rfl) rfl ?_
  refine g_X7_64 (x := nI (vP v)) C (dx dX7_stolen 2 rfl) hm.eP ?_
  refine r_ishl C (dx dX7_stolen 3 rfl) ?_
  refine r_iconst (v := nI 1) C (dx dX7_stolen 4 rfl) rfl ?_
  refine r_isub C (dx dX7_stolen 5 rfl) ?_
  rw [show (nI 1 <<< (nI (vP v) &&& 31)) - nI 1 = nI (S - 1) from by rw [full_sh bP, hS]; rfl]
  refine r_istore_n (ls' := [(0, vr 7 k), (1, vi (nI (S - 1)))]) C (dx dX7_stolen 6 rfl) (by decide) [1, 0] rfl ?_
  refine r_iload_n C (dx dX7_stolen 7 rfl) rfl ?_
  refine r_istore_n (ls' := [(0, vr 7 k), (1, vi (nI (S - 1))), (2, vi (nI (S - 1)))]) C (dx dX7_stolen 8 rfl) (by decide) [1, 2, 0] rfl ?_
  have key : ∀ j, j ≤ S → Rr G 11 [(0, vr 7 k), (1, vi (nI (ldF (stoQ v) (S - 1) (S - j)))), (2, vi (nI j - nI 1))] [] h := by
    refine loopDn (Φ := fun j => j ≤ S → Rr G 11 [(0, vr 7 k), (1, vi (nI (ldF (stoQ v) (S - 1) (S - j)))), (2, vi (nI j - nI 1))] [] h) ?_ ?_
    ·
      intro hj
      rw [show nI 0 - nI 1 = -1 from by decide]
      refine r_iload_n C (dx dX7_stolen 9 rfl) rfl ?_
      refine r_if_lt (tgt := 50) C (dx dX7_stolen 10 rfl) (by decide) (fun c1 => ?_) (fun c1 => ?_)
      ·
        have c1 : (-1 : Int32) < 0 := c1
        refine r_iload_n C (dx dX7_stolen 28 rfl) rfl ?_
        have eA : stoR v = nI (ldF (stoQ v) (S - 1) (S - 0)) := by (unfold stoR; rw [← hS, Nat.sub_zero])
        exact F.1 _ _ _ _ .int rfl rfl (dx dX7_stolen 29 rfl) rfl ⟨by (rw [eA]; first | done | rfl), by exact hm, Kp.rf⟩
      · exact absurd (show (-1 : Int32) < 0 by decide) c1
    ·
      intro j ihj hj
      rw [show nI (j + 1) - nI 1 = nI j from pk_sub (a := j + 1) (b := 1) (by omega)]
      have l9 := ldF_le (stoQ v) (S - 1) (S - (j + 1))
      refine r_iload_n C (dx dX7_stolen 9 rfl) rfl ?_
      refine r_if_lt (tgt := 50) C (dx dX7_stolen 10 rfl) (by decide) (fun c2 => ?_) (fun c2 => ?_)
      · exact absurd c2 (nI_pos (by omega))
      ·
        have c2 : ¬ nI j < 0 := c2
        refine r_iload_n C (dx dX7_stolen 11 rfl) rfl ?_
        have bc3 := pcn_12 (a := j) (by omega)
        have bc4 := pcn_12 (a := j) (by omega)
        refine r_csP (as := [vi (nI j)]) (st := []) (v := vi (nI (pcn j))) C X I_X7_bits l_X7_268 (e_bits (a := j) (by omega)) (by decide) (Nat.le_of_ble_eq_true rfl) List.prefix_rfl (Nat.le_of_ble_eq_true rfl) rfl (dx dX7_stolen 12 rfl) ?_
        refine r_iload_n C (dx dX7_stolen 13 rfl) rfl ?_
        have bc5 := pcn_12 (a := ldF (stoQ v) (S - 1) (S - (j + 1))) (by omega)
        have bc6 := pcn_12 (a := ldF (stoQ v) (S - 1) (S - (j + 1))) (by omega)
        refine r_csP (as := [vi (nI (ldF (stoQ v) (S - 1) (S - (j + 1))))]) (st := [vi (nI (pcn j))]) (v := vi (nI (pcn (ldF (stoQ v) (S - 1) (S - (j + 1)))))) C X I_X7_bits l_X7_268 (e_bits (a := ldF (stoQ v) (S - 1) (S - (j + 1))) (by omega)) (by decide) (Nat.le_of_ble_eq_true rfl) List.prefix_rfl (Nat.le_of_ble_eq_true rfl) rfl (dx dX7_stolen 14 rfl) ?_
        refine rn_gt (a := pcn j) (b := pcn (ldF (stoQ v) (S - 1) (S - (j + 1)))) (tgt := 42) C (by omega) (by omega) (dx dX7_stolen 15 rfl) (by decide) (fun c7 => ?_) (fun c7 => ?_)
        · first
          | (omega; done)
          | (
              have c7 : pcn (ldF (stoQ v) (S - 1) (S - (j + 1))) < pcn j := c7
              refine r_iload_n C (dx dX7_stolen 24 rfl) rfl ?_
              refine r_istore_n (ls' := [(0, vr 7 k), (1, vi (nI (ldF (stoQ v) (S - 1) (S - (j + 1))))), (2, vi (nI j))]) C (dx dX7_stolen 25 rfl) (by decide) [1, 0, 2] rfl ?_
              refine r_iinc (ls' := [(0, vr 7 k), (1, vi (nI (ldF (stoQ v) (S - 1) (S - (j + 1))))), (2, vi (nI j + (-1)))]) C (dx dX7_stolen 26 rfl) rfl rfl (by decide) [1, 2, 0] rfl ?_
              refine r_goto (tgt := 11) C (dx dX7_stolen 27 rfl) (by decide) ?_
              rw [add_m1]
              have e9 : (nI (ldF (stoQ v) (S - 1) (S - (j + 1)))) = (nI (ldF (stoQ v) (S - 1) (S - j))) := by (rw [ldF_s _ hj, if_neg (fun z => by have := z.2; omega)])
              have q9 := ihj (by omega)
              rw [← e9] at q9
              exact q9)
        · first
          | (omega; done)
          | (
              have c7 : pcn j ≤ pcn (ldF (stoQ v) (S - 1) (S - (j + 1))) := c7
              refine r_aload_n C (dx dX7_stolen 16 rfl) rfl ?_
              refine r_aload_n C (dx dX7_stolen 17 rfl) rfl ?_
              refine r_cvP (as := []) (st := [vr 7 k]) (v := vi (full (vN v))) C X I_X7_all l_X7_253 (c_X7_all hm) (by decide) (Nat.le_of_ble_eq_true rfl) List.prefix_rfl rfl rfl (Nat.le_of_ble_eq_true rfl) rfl (dx dX7_stolen 18 rfl) ?_
              refine r_iload_n C (dx dX7_stolen 19 rfl) rfl ?_
              refine r_cvP (as := [vi (full (vN v)), vi (nI j)]) (st := []) (v := vi (b2i (!allF (anP v (full (vN v)) (nI j)) (vM v)))) C X I_X7_anyWorks l_X7_317 (e_anyWorks hm _ _) (by decide) (Nat.le_of_ble_eq_true rfl) List.prefix_rfl rfl rfl (Nat.le_of_ble_eq_true rfl) rfl (dx dX7_stolen 20 rfl) ?_
              refine rb_ne (b := !allF (anP v (full (vN v)) (nI j)) (vM v)) (tgt := 42) C (dx dX7_stolen 21 rfl) (by decide) (fun c8 => ?_) (fun c8 => ?_)
              ·
                have c8 : (!allF (anP v (full (vN v)) (nI j)) (vM v)) = true := c8
                refine r_iload_n C (dx dX7_stolen 24 rfl) rfl ?_
                refine r_istore_n (ls' := [(0, vr 7 k), (1, vi (nI (ldF (stoQ v) (S - 1) (S - (j + 1))))), (2, vi (nI j))]) C (dx dX7_stolen 25 rfl) (by decide) [1, 0, 2] rfl ?_
                refine r_iinc (ls' := [(0, vr 7 k), (1, vi (nI (ldF (stoQ v) (S - 1) (S - (j + 1))))), (2, vi (nI j + (-1)))]) C (dx dX7_stolen 26 rfl) rfl rfl (by decide) [1, 2, 0] rfl ?_
                refine r_goto (tgt := 11) C (dx dX7_stolen 27 rfl) (by decide) ?_
                rw [add_m1]
                have e9 : (nI (ldF (stoQ v) (S - 1) (S - (j + 1)))) = (nI (ldF (stoQ v) (S - 1) (S - j))) := by (rw [ldF_s _ hj, if_neg (fun z => by have z1 := z.1; unfold stoQ at z1; rw [z1] at c8; exact absurd c8 (by decide))])
                have q9 := ihj (by omega)
                rw [← e9] at q9
                exact q9
              ·
                have c8 : (!allF (anP v (full (vN v)) (nI j)) (vM v)) = false := c8
                refine r_iload_n C (dx dX7_stolen 22 rfl) rfl ?_
                refine r_goto (tgt := 43) C (dx dX7_stolen 23 rfl) (by decide) ?_
                refine r_istore_n (ls' := [(0, vr 7 k), (1, vi (nI j)), (2, vi (nI j))]) C (dx dX7_stolen 25 rfl) (by decide) [1, 0, 2] rfl ?_
                refine r_iinc (ls' := [(0, vr 7 k), (1, vi (nI j)), (2, vi (nI j + (-1)))]) C (dx dX7_stolen 26 rfl) rfl rfl (by decide) [1, 2, 0] rfl ?_
                refine r_goto (tgt := 11) C (dx dX7_stolen 27 rfl) (by decide) ?_
                rw [add_m1]
                have e9 : (nI j) = (nI (ldF (stoQ v) (S - 1) (S - j))) := by (rw [ldF_s _ hj, if_pos ⟨by unfold stoQ; exact (Bool.not_not _).symm.trans (congrArg Bool.not c8), c7⟩])
                have q9 := ihj (by omega)
                rw [← e9] at q9
                exact q9)
  have k9 := key S (Nat.le_refl _)
  rw [pk_sub (a := S) (b := 1) (by omega), Nat.sub_self] at k9
  exact k9
set_option maxHeartbeats 4000000 in
theorem e_idle {l : Launch} {h : Hp} {k : Nat} {v : Vg} (hm : MilAt h k v)  : Ms l yX7_idle cX7_idle 5 (some .int) 8 [vr 7 k] h (xK h) (fun r h' => r = some (vi (idlR v)) ∧ MilAt h' k v ∧ Kp k h h') := by
  refine Ms.of (by decide) (Nat.le_of_ble_eq_true rfl) (fun G C X F => ?_)
  have C : Cx G cX7_idle 5 RX7 := C
  show Rr G 0 [(0, vr 7 k)] [] h
  have bP := hm.bP
  have bM := hm.bM
  have bN := hm.bN
  refine r_iconst (v := nI 0) C (dx dX7_idle 0 rfl) rfl ?_
  refine r_istore_n (ls' := [(0, vr 7 k), (1, vi (nI 0))]) C (dx dX7_idle 1 rfl) (by decide) [1, 0] rfl ?_
  refine r_iconst (v := nI 0) C (dx dX7_idle 2 rfl) rfl ?_
  refine r_istore_n (ls' := [(0, vr 7 k), (1, vi (nI 0)), (2, vi (nI 0))]) C (dx dX7_idle 3 rfl) (by decide) [1, 2, 0] rfl ?_
  refine loopU (Φ := fun p => Rr G 4 [(0, vr 7 k), (1, vi (bset (fun o => !anyB (trnB v o) (vM v)) p)), (2, vi (nI p))] [] h) (N := vN v) ?_ ?_ 0 (Nat.zero_le _)
  ·
    skip
    refine r_iload_n C (dx dX7_idle 4 rfl) rfl ?_
    refine r_aload_n C (dx dX7_idle 5 rfl) rfl ?_
    refine g_X7_74 (x := nI (vN v)) C (dx dX7_idle 6 rfl) hm.eN ?_
    refine rn_ge (a := (vN v)) (b := vN v) (tgt := 70) C (by omega) (by omega) (dx dX7_idle 7 rfl) (by decide) (fun c1 => ?_) (fun c1 => ?_)
    · first
      | (omega; done)
      | (
          have c1 : vN v ≤ (vN v) := c1
          refine r_iload_n C (dx dX7_idle 41 rfl) rfl ?_
          have eA : idlR v = bset (fun o => !anyB (trnB v o) (vM v)) (vN v) := by rfl
          exact F.1 _ _ _ _ .int rfl rfl (dx dX7_idle 42 rfl) rfl ⟨by (rw [eA]; first | done | rfl), by exact hm, Kp.rf⟩)
    · first
      | (omega; done)
      | (
          have c1 : (vN v) < vN v := c1
          refine r_iconst (v := nI 0) C (dx dX7_idle 8 rfl) rfl ?_
          refine r_istore_n (ls' := [(0, vr 7 k), (1, vi (bset (fun o => !anyB (trnB v o) (vM v)) (vN v))), (2, vi (nI (vN v))), (3, vi (nI 0))]) C (dx dX7_idle 9 rfl) (by decide) [1, 2, 3, 0] rfl ?_
          refine r_iconst (v := nI 0) C (dx dX7_idle 10 rfl) rfl ?_
          refine r_istore (ls' := [(0, vr 7 k), (1, vi (bset (fun o => !anyB (trnB v o) (vM v)) (vN v))), (2, vi (nI (vN v))), (3, vi (nI 0)), (4, vi (nI 0))]) C (dx dX7_idle 11 rfl) (by decide) [1, 2, 3, 4, 0] rfl ?_
          refine loopU (Φ := fun q => Rr G 17 [(0, vr 7 k), (1, vi (bset (fun o => !anyB (trnB v o) (vM v)) (vN v))), (2, vi (nI (vN v))), (3, vi (b2i (anyB (trnB v p) q))), (4, vi (nI q))] [] h) (N := vM v) ?_ ?_ 0 (Nat.zero_le _)
          ·
            skip
            refine r_iload C (dx dX7_idle 12 rfl) rfl ?_
            refine r_aload_n C (dx dX7_idle 13 rfl) rfl ?_
            refine g_X7_71 (x := nI (vM v)) C (dx dX7_idle 14 rfl) hm.eM ?_
            refine rn_ge (a := (vM v)) (b := vM v) (tgt := 50) C (by omega) (by omega) (dx dX7_idle 15 rfl) (by decide) (fun c2 => ?_) (fun c2 => ?_)
            · first
              | (omega; done)
            · first
              | (omega; done)
          ·
            intro q hq ihq
            refine r_iload C (dx dX7_idle 12 rfl) rfl ?_
            refine r_aload_n C (dx dX7_idle 13 rfl) rfl ?_
            refine g_X7_71 (x := nI (vM v)) C (dx dX7_idle 14 rfl) hm.eM ?_
            refine rn_ge (a := q) (b := vM v) (tgt := 50) C (by omega) (by omega) (dx dX7_idle 15 rfl) (by decide) (fun c5 => ?_) (fun c5 => ?_)
            · first
              | (omega; done)
            · first
              | (omega; done)
              | (
                  have c5 : q < vM v := c5
                  refine r_iload_n C (dx dX7_idle 16 rfl) rfl ?_
                  refine r_aload_n C (dx dX7_idle 17 rfl) rfl ?_
                  refine r_iload C (dx dX7_idle 18 rfl) rfl ?_
                  refine r_iload_n C (dx dX7_idle 19 rfl) rfl ?_
                  refine r_cvP (as := [vi (nI q), vi (nI (vN v))]) (st := [vi (b2i (anyB (trnB v p) q))]) (v := vi (sumIf (pwP v q (vN v)) (turnF v) (2 ^ vN v))) C X I_X7_powerOf l_X7_274 (e_powerOf hm (m := q) (o := (vN v)) (by omega) (by omega)) (by decide) (Nat.le_of_ble_eq_true rfl) List.prefix_rfl rfl rfl (Nat.le_of_ble_eq_true rfl) rfl (dx dX7_idle 20 rfl) ?_
                  refine r_if_le (tgt := 41) C (dx dX7_idle 21 rfl) (by decide) (fun c7 => ?_) (fun c7 => ?_)
                  ·
                    have c7 : sumIf (pwP v q (vN v)) (turnF v) (2 ^ vN v) ≤ 0 := c7
                    refine r_iconst (v := nI 0) C (dx dX7_idle 24 rfl) rfl ?_
                    refine r_ior C (dx dX7_idle 25 rfl) ?_
                    refine r_istore_n (ls' := [(0, vr 7 k), (1, vi (bset (fun o => !anyB (trnB v o) (vM v)) (vN v))), (2, vi (nI (vN v))), (3, vi ((b2i (anyB (trnB v p) q)) ||| (nI 0))), (4, vi (nI q))]) C (dx dX7_idle 26 rfl) (by decide) [1, 2, 3, 0, 4] rfl ?_
                    refine rn_iinc (a := q) (k := 1) (ls' := [(0, vr 7 k), (1, vi (bset (fun o => !anyB (trnB v o) (vM v)) (vN v))), (2, vi (nI (vN v))), (3, vi ((b2i (anyB (trnB v p) q)) ||| (nI 0))), (4, vi (nI (q + 1)))]) C (dx dX7_idle 27 rfl) rfl rfl (by decide) [1, 2, 3, 4, 0] rfl ?_
                    refine r_goto (tgt := 17) C (dx dX7_idle 28 rfl) (by decide) ?_
                    have e9q3 : ((b2i (anyB (trnB v p) q)) ||| (nI 0)) = (b2i (anyB (trnB v p) (q + 1))) := by (simp only [anyB]; rw [show trnB v p q = false from decide_eq_false (not_not_intro c7), Bool.or_false, or0])
                    rw [e9q3]
                    exact ihq
                  ·
                    have c7 : ¬ sumIf (pwP v q (vN v)) (turnF v) (2 ^ vN v) ≤ 0 := c7
                    refine r_iconst (v := nI 1) C (dx dX7_idle 22 rfl) rfl ?_
                    refine r_goto (tgt := 42) C (dx dX7_idle 23 rfl) (by decide) ?_
                    refine r_ior C (dx dX7_idle 25 rfl) ?_
                    refine r_istore_n (ls' := [(0, vr 7 k), (1, vi (bset (fun o => !anyB (trnB v o) (vM v)) (vN v))), (2, vi (nI (vN v))), (3, vi ((b2i (anyB (trnB v p) q)) ||| (nI 1))), (4, vi (nI q))]) C (dx dX7_idle 26 rfl) (by decide) [1, 2, 3, 0, 4] rfl ?_
                    refine rn_iinc (a := q) (k := 1) (ls' := [(0, vr 7 k), (1, vi (bset (fun o => !anyB (trnB v o) (vM v)) (vN v))), (2, vi (nI (vN v))), (3, vi ((b2i (anyB (trnB v p) q)) ||| (nI 1))), (4, vi (nI (q + 1)))]) C (dx dX7_idle 27 rfl) rfl rfl (by decide) [1, 2, 3, 4, 0] rfl ?_
                    refine r_goto (tgt := 17) C (dx dX7_idle 28 rfl) (by decide) ?_
                    have e9q3 : ((b2i (anyB (trnB v p) q)) ||| (nI 1)) = (b2i (anyB (trnB v p) (q + 1))) := by (simp only [anyB]; rw [show trnB v p q = true from decide_eq_true c7, Bool.or_true, b2i_or1])
                    rw [e9q3]
                    exact ihq))
  ·
    intro p hp ihp
    refine r_iload_n C (dx dX7_idle 4 rfl) rfl ?_
    refine r_aload_n C (dx dX7_idle 5 rfl) rfl ?_
    refine g_X7_74 (x := nI (vN v)) C (dx dX7_idle 6 rfl) hm.eN ?_
    refine rn_ge (a := p) (b := vN v) (tgt := 70) C (by omega) (by omega) (dx dX7_idle 7 rfl) (by decide) (fun c8 => ?_) (fun c8 => ?_)
    · first
      | (omega; done)
      | (
          have c8 : vN v ≤ p := c8
          refine r_iload_n C (dx dX7_idle 41 rfl) rfl ?_
          have eA : idlR v = bset (fun o => !anyB (trnB v o) (vM v)) p := by rfl
          exact F.1 _ _ _ _ .int rfl rfl (dx dX7_idle 42 rfl) rfl ⟨by (rw [eA]; first | done | rfl), by exact hm, Kp.rf⟩)
    · first
      | (omega; done)
      | (
          have c8 : p < vN v := c8
          refine r_iconst (v := nI 0) C (dx dX7_idle 8 rfl) rfl ?_
          refine r_istore_n (ls' := [(0, vr 7 k), (1, vi (bset (fun o => !anyB (trnB v o) (vM v)) p)), (2, vi (nI p)), (3, vi (nI 0))]) C (dx dX7_idle 9 rfl) (by decide) [1, 2, 3, 0] rfl ?_
          refine r_iconst (v := nI 0) C (dx dX7_idle 10 rfl) rfl ?_
          refine r_istore (ls' := [(0, vr 7 k), (1, vi (bset (fun o => !anyB (trnB v o) (vM v)) p)), (2, vi (nI p)), (3, vi (nI 0)), (4, vi (nI 0))]) C (dx dX7_idle 11 rfl) (by decide) [1, 2, 3, 4, 0] rfl ?_
          refine loopU (Φ := fun q => Rr G 17 [(0, vr 7 k), (1, vi (bset (fun o => !anyB (trnB v o) (vM v)) p)), (2, vi (nI p)), (3, vi (b2i (anyB (trnB v p) q))), (4, vi (nI q))] [] h) (N := vM v) ?_ ?_ 0 (Nat.zero_le _)
          ·
            skip
            refine r_iload C (dx dX7_idle 12 rfl) rfl ?_
            refine r_aload_n C (dx dX7_idle 13 rfl) rfl ?_
            refine g_X7_71 (x := nI (vM v)) C (dx dX7_idle 14 rfl) hm.eM ?_
            refine rn_ge (a := (vM v)) (b := vM v) (tgt := 50) C (by omega) (by omega) (dx dX7_idle 15 rfl) (by decide) (fun c9 => ?_) (fun c9 => ?_)
            · first
              | (omega; done)
              | (
                  have c9 : vM v ≤ (vM v) := c9
                  refine r_iload_n C (dx dX7_idle 29 rfl) rfl ?_
                  refine r_iload_n C (dx dX7_idle 30 rfl) rfl ?_
                  refine rb_eq (b := anyB (trnB v p) (vM v)) (tgt := 59) C (dx dX7_idle 31 rfl) (by decide) (fun c10 => ?_) (fun c10 => ?_)
                  ·
                    have c10 : (anyB (trnB v p) (vM v)) = false := c10
                    refine r_iconst (v := nI 1) C (dx dX7_idle 34 rfl) rfl ?_
                    refine r_iload_n C (dx dX7_idle 35 rfl) rfl ?_
                    refine r_ishl C (dx dX7_idle 36 rfl) ?_
                    refine r_ior C (dx dX7_idle 37 rfl) ?_
                    refine r_istore_n (ls' := [(0, vr 7 k), (1, vi ((bset (fun o => !anyB (trnB v o) (vM v)) p) ||| ((nI 1) <<< ((nI p) &&& 31)))), (2, vi (nI p)), (3, vi (b2i (anyB (trnB v p) (vM v)))), (4, vi (nI (vM v)))]) C (dx dX7_idle 38 rfl) (by decide) [1, 0, 2, 3, 4] rfl ?_
                    refine rn_iinc (a := p) (k := 1) (ls' := [(0, vr 7 k), (1, vi ((bset (fun o => !anyB (trnB v o) (vM v)) p) ||| ((nI 1) <<< ((nI p) &&& 31)))), (2, vi (nI (p + 1))), (3, vi (b2i (anyB (trnB v p) (vM v)))), (4, vi (nI (vM v)))]) C (dx dX7_idle 39 rfl) rfl rfl (by decide) [1, 2, 0, 3, 4] rfl ?_
                    refine r_goto (tgt := 4) C (dx dX7_idle 40 rfl) (by decide) ?_
                    have e9p1 : ((bset (fun o => !anyB (trnB v o) (vM v)) p) ||| ((nI 1) <<< ((nI p) &&& 31))) = (bset (fun o => !anyB (trnB v o) (vM v)) (p + 1)) := by (simp only [bset]; exact (if_pos (show (!anyB (trnB v p) (vM v)) = true by rw [c10]; rfl)).symm)
                    refine r_weak C [0, 1, 2] rfl ?_
                    rw [e9p1]
                    exact ihp
                  ·
                    have c10 : (anyB (trnB v p) (vM v)) = true := c10
                    refine r_iconst (v := nI 0) C (dx dX7_idle 32 rfl) rfl ?_
                    refine r_goto (tgt := 62) C (dx dX7_idle 33 rfl) (by decide) ?_
                    refine r_ior C (dx dX7_idle 37 rfl) ?_
                    refine r_istore_n (ls' := [(0, vr 7 k), (1, vi ((bset (fun o => !anyB (trnB v o) (vM v)) p) ||| (nI 0))), (2, vi (nI p)), (3, vi (b2i (anyB (trnB v p) (vM v)))), (4, vi (nI (vM v)))]) C (dx dX7_idle 38 rfl) (by decide) [1, 0, 2, 3, 4] rfl ?_
                    refine rn_iinc (a := p) (k := 1) (ls' := [(0, vr 7 k), (1, vi ((bset (fun o => !anyB (trnB v o) (vM v)) p) ||| (nI 0))), (2, vi (nI (p + 1))), (3, vi (b2i (anyB (trnB v p) (vM v)))), (4, vi (nI (vM v)))]) C (dx dX7_idle 39 rfl) rfl rfl (by decide) [1, 2, 0, 3, 4] rfl ?_
                    refine r_goto (tgt := 4) C (dx dX7_idle 40 rfl) (by decide) ?_
                    have e9p1 : ((bset (fun o => !anyB (trnB v o) (vM v)) p) ||| (nI 0)) = (bset (fun o => !anyB (trnB v o) (vM v)) (p + 1)) := by (simp only [bset]; rw [or0]; exact (if_neg (show ¬ (!anyB (trnB v p) (vM v)) = true by rw [c10]; decide)).symm)
                    refine r_weak C [0, 1, 2] rfl ?_
                    rw [e9p1]
                    exact ihp)
            · first
              | (omega; done)
          ·
            intro q hq ihq
            refine r_iload C (dx dX7_idle 12 rfl) rfl ?_
            refine r_aload_n C (dx dX7_idle 13 rfl) rfl ?_
            refine g_X7_71 (x := nI (vM v)) C (dx dX7_idle 14 rfl) hm.eM ?_
            refine rn_ge (a := q) (b := vM v) (tgt := 50) C (by omega) (by omega) (dx dX7_idle 15 rfl) (by decide) (fun c12 => ?_) (fun c12 => ?_)
            · first
              | (omega; done)
              | (
                  have c12 : vM v ≤ q := c12
                  refine r_iload_n C (dx dX7_idle 29 rfl) rfl ?_
                  refine r_iload_n C (dx dX7_idle 30 rfl) rfl ?_
                  refine rb_eq (b := anyB (trnB v p) q) (tgt := 59) C (dx dX7_idle 31 rfl) (by decide) (fun c13 => ?_) (fun c13 => ?_)
                  ·
                    have c13 : (anyB (trnB v p) q) = false := c13
                    refine r_iconst (v := nI 1) C (dx dX7_idle 34 rfl) rfl ?_
                    refine r_iload_n C (dx dX7_idle 35 rfl) rfl ?_
                    refine r_ishl C (dx dX7_idle 36 rfl) ?_
                    refine r_ior C (dx dX7_idle 37 rfl) ?_
                    refine r_istore_n (ls' := [(0, vr 7 k), (1, vi ((bset (fun o => !anyB (trnB v o) (vM v)) p) ||| ((nI 1) <<< ((nI p) &&& 31)))), (2, vi (nI p)), (3, vi (b2i (anyB (trnB v p) q))), (4, vi (nI q))]) C (dx dX7_idle 38 rfl) (by decide) [1, 0, 2, 3, 4] rfl ?_
                    refine rn_iinc (a := p) (k := 1) (ls' := [(0, vr 7 k), (1, vi ((bset (fun o => !anyB (trnB v o) (vM v)) p) ||| ((nI 1) <<< ((nI p) &&& 31)))), (2, vi (nI (p + 1))), (3, vi (b2i (anyB (trnB v p) q))), (4, vi (nI q))]) C (dx dX7_idle 39 rfl) rfl rfl (by decide) [1, 2, 0, 3, 4] rfl ?_
                    refine r_goto (tgt := 4) C (dx dX7_idle 40 rfl) (by decide) ?_
                    have e9p1 : ((bset (fun o => !anyB (trnB v o) (vM v)) p) ||| ((nI 1) <<< ((nI p) &&& 31))) = (bset (fun o => !anyB (trnB v o) (vM v)) (p + 1)) := by (simp only [bset]; exact (if_pos (show (!anyB (trnB v p) (vM v)) = true by rw [None]; rfl)).symm)
                    refine r_weak C [0, 1, 2] rfl ?_
                    rw [e9p1]
                    exact ihp
                  ·
                    have c13 : (anyB (trnB v p) q) = true := c13
                    refine r_iconst (v := nI 0) C (dx dX7_idle 32 rfl) rfl ?_
                    refine r_goto (tgt := 62) C (dx dX7_idle 33 rfl) (by decide) ?_
                    refine r_ior C (dx dX7_idle 37 rfl) ?_
                    refine r_istore_n (ls' := [(0, vr 7 k), (1, vi ((bset (fun o => !anyB (trnB v o) (vM v)) p) ||| (nI 0))), (2, vi (nI p)), (3, vi (b2i (anyB (trnB v p) q))), (4, vi (nI q))]) C (dx dX7_idle 38 rfl) (by decide) [1, 0, 2, 3, 4] rfl ?_
                    refine rn_iinc (a := p) (k := 1) (ls' := [(0, vr 7 k), (1, vi ((bset (fun o => !anyB (trnB v o) (vM v)) p) ||| (nI 0))), (2, vi (nI (p + 1))), (3, vi (b2i (anyB (trnB v p) q))), (4, vi (nI q))]) C (dx dX7_idle 39 rfl) rfl rfl (by decide) [1, 2, 0, 3, 4] rfl ?_
                    refine r_goto (tgt := 4) C (dx dX7_idle 40 rfl) (by decide) ?_
                    have e9p1 : ((bset (fun o => !anyB (trnB v o) (vM v)) p) ||| (nI 0)) = (bset (fun o => !anyB (trnB v o) (vM v)) (p + 1)) := by (simp only [bset]; exact (if_pos (show (!anyB (trnB v p) (vM v)) = true by rw [None]; rfl)).symm)
                    refine r_weak C [0, 1, 2] rfl ?_
                    rw [e9p1]
                    exact ihp)
            · first
              | (omega; done)
              | (
                  have c12 : q < vM v := c12
                  refine r_iload_n C (dx dX7_idle 16 rfl) rfl ?_
                  refine r_aload_n C (dx dX7_idle 17 rfl) rfl ?_
                  refine r_iload C (dx dX7_idle 18 rfl) rfl ?_
                  refine r_iload_n C (dx dX7_idle 19 rfl) rfl ?_
                  refine r_cvP (as := [vi (nI q), vi (nI p)]) (st := [vi (b2i (anyB (trnB v p) q))]) (v := vi (sumIf (pwP v q p) (turnF v) (2 ^ vN v))) C X I_X7_powerOf l_X7_274 (e_powerOf hm (m := q) (o := p) (by omega) (by omega)) (by decide) (Nat.le_of_ble_eq_true rfl) List.prefix_rfl rfl rfl (Nat.le_of_ble_eq_true rfl) rfl (dx dX7_idle 20 rfl) ?_
                  refine r_if_le (tgt := 41) C (dx dX7_idle 21 rfl) (by decide) (fun c14 => ?_) (fun c14 => ?_)
                  ·
                    have c14 : sumIf (pwP v q p) (turnF v) (2 ^ vN v) ≤ 0 := c14
                    refine r_iconst (v := nI 0) C (dx dX7_idle 24 rfl) rfl ?_
                    refine r_ior C (dx dX7_idle 25 rfl) ?_
                    refine r_istore_n (ls' := [(0, vr 7 k), (1, vi (bset (fun o => !anyB (trnB v o) (vM v)) p)), (2, vi (nI p)), (3, vi ((b2i (anyB (trnB v p) q)) ||| (nI 0))), (4, vi (nI q))]) C (dx dX7_idle 26 rfl) (by decide) [1, 2, 3, 0, 4] rfl ?_
                    refine rn_iinc (a := q) (k := 1) (ls' := [(0, vr 7 k), (1, vi (bset (fun o => !anyB (trnB v o) (vM v)) p)), (2, vi (nI p)), (3, vi ((b2i (anyB (trnB v p) q)) ||| (nI 0))), (4, vi (nI (q + 1)))]) C (dx dX7_idle 27 rfl) rfl rfl (by decide) [1, 2, 3, 4, 0] rfl ?_
                    refine r_goto (tgt := 17) C (dx dX7_idle 28 rfl) (by decide) ?_
                    have e9q3 : ((b2i (anyB (trnB v p) q)) ||| (nI 0)) = (b2i (anyB (trnB v p) (q + 1))) := by (simp only [anyB]; rw [show trnB v p q = false from decide_eq_false (not_not_intro c14), Bool.or_false, or0])
                    rw [e9q3]
                    exact ihq
                  ·
                    have c14 : ¬ sumIf (pwP v q p) (turnF v) (2 ^ vN v) ≤ 0 := c14
                    refine r_iconst (v := nI 1) C (dx dX7_idle 22 rfl) rfl ?_
                    refine r_goto (tgt := 42) C (dx dX7_idle 23 rfl) (by decide) ?_
                    refine r_ior C (dx dX7_idle 25 rfl) ?_
                    refine r_istore_n (ls' := [(0, vr 7 k), (1, vi (bset (fun o => !anyB (trnB v o) (vM v)) p)), (2, vi (nI p)), (3, vi ((b2i (anyB (trnB v p) q)) ||| (nI 1))), (4, vi (nI q))]) C (dx dX7_idle 26 rfl) (by decide) [1, 2, 3, 0, 4] rfl ?_
                    refine rn_iinc (a := q) (k := 1) (ls' := [(0, vr 7 k), (1, vi (bset (fun o => !anyB (trnB v o) (vM v)) p)), (2, vi (nI p)), (3, vi ((b2i (anyB (trnB v p) q)) ||| (nI 1))), (4, vi (nI (q + 1)))]) C (dx dX7_idle 27 rfl) rfl rfl (by decide) [1, 2, 3, 4, 0] rfl ?_
                    refine r_goto (tgt := 17) C (dx dX7_idle 28 rfl) (by decide) ?_
                    have e9q3 : ((b2i (anyB (trnB v p) q)) ||| (nI 1)) = (b2i (anyB (trnB v p) (q + 1))) := by (simp only [anyB]; rw [show trnB v p q = true from decide_eq_true c14, Bool.or_true, b2i_or1])
                    rw [e9q3]
                    exact ihq))
set_option maxHeartbeats 4000000 in
theorem e_comeOn {l : Launch} {h : Hp} {k : Nat} {v : Vg} (hm : MilAt h k v) {σ i : Nat} (hσ : σ < 8) (hi : i < 40) : Mp l yX7_comeOn cX7_comeOn 3 (some .int) 4 [vr 7 k, vi (nI σ), vi (nI i)] h (vi ((xL h (k + 5 + σ) i).toInt32 &&& full (vN v) &&& (crR v (vN v) ^^^ -1))) := by
  refine Ms.of (by decide) (Nat.le_of_ble_eq_true rfl) (fun G C X F => ?_)
  have C : Cx G cX7_comeOn 3 RX7 := C
  show Rr G 0 [(0, vr 7 k), (1, vi (nI σ)), (2, vi (nI i))] [] h
  have bP := hm.bP
  have bM := hm.bM
  have bN := hm.bN
  refine r_aload_n C (dx dX7_comeOn 0 rfl) rfl ?_
  refine g_X7_21 C (dx dX7_comeOn 1 rfl) ?_
  refine r_iload_n C (dx dX7_comeOn 2 rfl) rfl ?_
  refine r_aald5 (j := σ) C rfl rfl (by decide) rfl (by omega) (dx dX7_comeOn 3 rfl) ?_
  refine r_iload_n C (dx dX7_comeOn 4 rfl) rfl ?_
  refine r_lald (j := i) (x := xL h (k + 5 + σ) i) C rfl rfl (by decide) rfl (by omega) (dx dX7_comeOn 5 rfl) rfl ?_
  refine r_l2i C (dx dX7_comeOn 6 rfl) ?_
  refine r_aload_n C (dx dX7_comeOn 7 rfl) rfl ?_
  refine r_cvP (as := []) (st := [vi ((xL h (k + 5 + σ) i).toInt32)]) (v := vi (full (vN v))) C X I_X7_all l_X7_253 (c_X7_all hm) (by decide) (Nat.le_of_ble_eq_true rfl) List.prefix_rfl rfl rfl (Nat.le_of_ble_eq_true rfl) rfl (dx dX7_comeOn 8 rfl) ?_
  refine r_iand C (dx dX7_comeOn 9 rfl) ?_
  refine r_aload_n C (dx dX7_comeOn 10 rfl) rfl ?_
  refine r_cvP (as := []) (st := [vi (((xL h (k + 5 + σ) i).toInt32) &&& (full (vN v)))]) (v := vi (crR v (vN v))) C X I_X7_crossOnes l_X7_322 (e_crossOnes hm) (by decide) (Nat.le_of_ble_eq_true rfl) List.prefix_rfl rfl rfl (Nat.le_of_ble_eq_true rfl) rfl (dx dX7_comeOn 11 rfl) ?_
  refine r_iconst (v := -1) C (dx dX7_comeOn 12 rfl) rfl ?_
  refine r_ixor C (dx dX7_comeOn 13 rfl) ?_
  refine r_iand C (dx dX7_comeOn 14 rfl) ?_
  exact F.1 _ _ _ _ _ rfl rfl (dx dX7_comeOn 15 rfl) rfl ⟨congrArg (fun x => some (vi x)) (show (((xL h (k + 5 + σ) i).toInt32) &&& (full (vN v))) &&& ((crR v (vN v)) ^^^ (-1)) = (xL h (k + 5 + σ) i).toInt32 &&& full (vN v) &&& (crR v (vN v) ^^^ -1) by simp), rfl⟩
theorem e_comeG {l : Launch} {h : Hp} {k : Nat} {v : Vg} {g : Sg} (hm : MilAt h k v) (ms : MshAt h k g) {σ ν i : Nat} (hσ : σ < 8) (hν : ν < 21) (tf : tfV g (nI σ) (nI ν) = 0) (hi : i < ν) : Mp l yX7_comeOn cX7_comeOn 3 (some .int) 4 [vr 7 k, vi (nI σ), vi (nI i)] h (vi (cmO v g (nI σ) (nI i))) := by
  unfold cmO
  rw [← row_el ms hσ hν tf hi]
  exact e_comeOn hm hσ (by omega)
set_option maxHeartbeats 4000000 in
theorem e_judge {l : Launch} {h : Hp} {k : Nat} {v : Vg} {g : Sg} (hm : MilAt h k v) (hs : MshAt h k g) (m s n : Int32) : Ms l yX7_judge cX7_judge 6 (some .int) 8 [vr 7 k, vi m, vi s, vi n] h (xK h) (fun r h' => r = some (vi (judR v g m s n)) ∧ MilAt h' k v ∧ Kp k h h') := by
  refine Ms.of (by decide) (Nat.le_of_ble_eq_true rfl) (fun G C X F => ?_)
  have C : Cx G cX7_judge 6 RX7 := C
  show Rr G 0 [(0, vr 7 k), (1, vi m), (2, vi s), (3, vi n)] [] h
  have bP := hm.bP
  have bM := hm.bM
  have bN := hm.bN
  refine r_aload_n C (dx dX7_judge 0 rfl) rfl ?_
  refine r_iload_n C (dx dX7_judge 1 rfl) rfl ?_
  refine r_cvP (as := [vi m]) (st := []) (v := vi (b2i (inR m (vM v)))) C X I_X7_isMachine l_X7_241 (c_X7_isMachine hm _) (by decide) (Nat.le_of_ble_eq_true rfl) List.prefix_rfl rfl rfl (Nat.le_of_ble_eq_true rfl) rfl (dx dX7_judge 2 rfl) ?_
  refine rb_ne (b := inR m (vM v)) (tgt := 15) C (dx dX7_judge 3 rfl) (by decide) (fun c1 => ?_) (fun c1 => ?_)
  ·
    have c1 : (inR m (vM v)) = true := c1
    obtain ⟨μ, hμ, rfl⟩ := inR_ex (n := (vM v)) (by omega) c1
    refine r_aload_n C (dx dX7_judge 8 rfl) rfl ?_
    refine r_iload_n C (dx dX7_judge 9 rfl) rfl ?_
    refine r_iload_n C (dx dX7_judge 10 rfl) rfl ?_
    refine r_cv (as := [vi s, vi n]) (st := []) C X I_X7_noTold l_X7_329 (v_X7_noTold hm hs _ _) (by decide) (Nat.le_of_ble_eq_true rfl) List.prefix_rfl List.prefix_rfl rfl rfl (Nat.le_of_ble_eq_true rfl) rfl (dx dX7_judge 11 rfl) ?_
    rintro _ h2 ⟨rfl, m9h2, qh2⟩ kkh2
    have mh2 : MilAt h2 k v := m9h2
    have ph2 : Kp k h h2 := qh2
    have kh2 : xK h2 = xK h := kkh2
    refine r_istore (ls' := [(0, vr 7 k), (1, vi (nI μ)), (2, vi s), (3, vi n), (4, vi (tfV g s n))]) C (dx dX7_judge 12 rfl) (by decide) [1, 2, 3, 4, 0] rfl ?_
    refine r_iload C (dx dX7_judge 13 rfl) rfl ?_
    refine r_if_eq (tgt := 31) C (dx dX7_judge 14 rfl) (by decide) (fun c3 => ?_) (fun c3 => ?_)
    ·
      have c3 : tfV g s n = 0 := c3
      obtain ⟨σ, hσ, ν, hν, rfl, rfl⟩ := tf_ok2 c3
      refine r_iconst (v := nI 0) C (dx dX7_judge 17 rfl) rfl ?_
      refine r_istore (ls' := [(0, vr 7 k), (1, vi (nI μ)), (2, vi (nI σ)), (3, vi (nI ν)), (4, vi (tfV g (nI σ) (nI ν))), (5, vi (nI 0))]) C (dx dX7_judge 18 rfl) (by decide) [1, 2, 3, 4, 5, 0] rfl ?_
      refine loopU (Φ := fun p => (∀ d, d < p → (fun d => needW v (hasP v (cmO v g (nI σ) (nI d))) μ) d = true) → Rr G 34 [(0, vr 7 k), (1, vi (nI μ)), (2, vi (nI σ)), (3, vi (nI ν)), (4, vi (tfV g (nI σ) (nI ν))), (5, vi (nI p))] [] h2) (N := ν) ?_ ?_ 0 (Nat.zero_le _) (fun d hd => absurd hd (by omega))
      ·
        intro q9
        refine r_iload C (dx dX7_judge 19 rfl) rfl ?_
        refine r_iload_n C (dx dX7_judge 20 rfl) rfl ?_
        refine rn_ge (a := ν) (b := ν) (tgt := 64) C (by omega) (by omega) (dx dX7_judge 21 rfl) (by decide) (fun c4 => ?_) (fun c4 => ?_)
        · first
          | (omega; done)
          | (
              have c4 : ν ≤ ν := c4
              refine r_iconst (v := -1) C (dx dX7_judge 34 rfl) rfl ?_
              have eA : judR v g (nI μ) (nI σ) (nI ν) = -1 := by (unfold judR; rw [inN (show μ < 2 ^ 31 by omega) hμ, if_pos rfl, if_pos c3, clN (show ν < 2 ^ 31 by omega), clN (show μ < 2 ^ 31 by omega), jdF_no ν q9])
              exact F.1 _ _ _ _ .int rfl rfl (dx dX7_judge 35 rfl) kh2 ⟨by (rw [eA]; first | done | rfl), by exact mh2, ph2⟩)
        · first
          | (omega; done)
      ·
        intro p hp ih q9
        refine r_iload C (dx dX7_judge 19 rfl) rfl ?_
        refine r_iload_n C (dx dX7_judge 20 rfl) rfl ?_
        refine rn_ge (a := p) (b := ν) (tgt := 64) C (by omega) (by omega) (dx dX7_judge 21 rfl) (by decide) (fun c6 => ?_) (fun c6 => ?_)
        · first
          | (omega; done)
          | (
              have c6 : ν ≤ p := c6
              refine r_iconst (v := -1) C (dx dX7_judge 34 rfl) rfl ?_
              have eA : judR v g (nI μ) (nI σ) (nI ν) = -1 := by (unfold judR; rw [inN (show μ < 2 ^ 31 by omega) hμ, if_pos rfl, if_pos c3, clN (show ν < 2 ^ 31 by omega), clN (show μ < 2 ^ 31 by omega), jdF_no ν q9])
              exact F.1 _ _ _ _ .int rfl rfl (dx dX7_judge 35 rfl) kh2 ⟨by (rw [eA]; first | done | rfl), by exact mh2, ph2⟩)
        · first
          | (omega; done)
          | (
              have c6 : p < ν := c6
              refine r_aload_n C (dx dX7_judge 22 rfl) rfl ?_
              refine r_iload_n C (dx dX7_judge 23 rfl) rfl ?_
              refine r_aload_n C (dx dX7_judge 24 rfl) rfl ?_
              refine r_iload_n C (dx dX7_judge 25 rfl) rfl ?_
              refine r_iload C (dx dX7_judge 26 rfl) rfl ?_
              refine r_cvP (as := [vi (nI σ), vi (nI p)]) (st := [vi (nI μ), vr 7 k]) (v := vi (cmO v g (nI σ) (nI p))) C X I_X7_comeOn l_X7_332 (e_comeG mh2 (hs.kp ph2) hσ hν c3 (i := p) (by omega)) (by decide) (Nat.le_of_ble_eq_true rfl) (pfx_eq kh2) rfl rfl (Nat.le_of_ble_eq_true rfl) rfl (dx dX7_judge 27 rfl) ?_
              refine r_cvP (as := [vi (nI μ), vi (cmO v g (nI σ) (nI p))]) (st := []) (v := vi (b2i (needW v (hasP v (cmO v g (nI σ) (nI p))) μ))) C X I_X7_worksOf l_X7_250 (e_worksOf mh2 (m := μ) (by omega) _) (by decide) (Nat.le_of_ble_eq_true rfl) (pfx_eq kh2) rfl rfl (Nat.le_of_ble_eq_true rfl) rfl (dx dX7_judge 28 rfl) ?_
              refine rb_ne (b := needW v (hasP v (cmO v g (nI σ) (nI p))) μ) (tgt := 58) C (dx dX7_judge 29 rfl) (by decide) (fun c7 => ?_) (fun c7 => ?_)
              ·
                have c7 : (needW v (hasP v (cmO v g (nI σ) (nI p))) μ) = true := c7
                refine rn_iinc (a := p) (k := 1) (ls' := [(0, vr 7 k), (1, vi (nI μ)), (2, vi (nI σ)), (3, vi (nI ν)), (4, vi (tfV g (nI σ) (nI ν))), (5, vi (nI (p + 1)))]) C (dx dX7_judge 32 rfl) rfl rfl (by decide) [1, 2, 3, 4, 5, 0] rfl ?_
                refine r_goto (tgt := 34) C (dx dX7_judge 33 rfl) (by decide) ?_
                exact ih (jd_s q9 c7)
              ·
                have c7 : (needW v (hasP v (cmO v g (nI σ) (nI p))) μ) = false := c7
                refine r_iload C (dx dX7_judge 30 rfl) rfl ?_
                have eA : judR v g (nI μ) (nI σ) (nI ν) = nI p := by (unfold judR; rw [inN (show μ < 2 ^ 31 by omega) hμ, if_pos rfl, if_pos c3, clN (show ν < 2 ^ 31 by omega), clN (show μ < 2 ^ 31 by omega), jdF_at q9 c7 (by omega) ν (by omega)])
                exact F.1 _ _ _ _ .int rfl rfl (dx dX7_judge 31 rfl) kh2 ⟨by (rw [eA]; first | done | rfl), by exact mh2, ph2⟩)
    ·
      have c3 : ¬ tfV g s n = 0 := c3
      refine r_iload C (dx dX7_judge 15 rfl) rfl ?_
      have eA : judR v g (nI μ) s n = tfV g s n := by (simp [judR, clN (show μ < 2 ^ 31 by omega), c1, c3] <;> rfl)
      exact F.1 _ _ _ _ .int rfl rfl (dx dX7_judge 16 rfl) kh2 ⟨by (rw [eA]; first | done | rfl), by exact mh2, ph2⟩
  ·
    have c1 : (inR m (vM v)) = false := c1
    refine r_aload_n C (dx dX7_judge 4 rfl) rfl ?_
    refine r_bipush (v := -2) C (dx dX7_judge 5 rfl) rfl ?_
    refine r_cv (as := [vi (-2)]) (st := []) C X I_X7_refuse l_X7_83 (e_refuse hm (x := -2) (j := 2) (by decide) (by decide)) (by decide) (Nat.le_of_ble_eq_true rfl) List.prefix_rfl List.prefix_rfl rfl rfl (Nat.le_of_ble_eq_true rfl) rfl (dx dX7_judge 6 rfl) ?_
    rintro _ h8 ⟨rfl, m9h8, qh8⟩ kkh8
    have mh8 : MilAt h8 k v := m9h8
    have ph8 : Kp k h h8 := qh8
    have kh8 : xK h8 = xK h := kkh8
    have eA : judR v g m s n = -2 := by (simp [judR, c1] <;> rfl)
    exact F.1 _ _ _ _ .int rfl rfl (dx dX7_judge 7 rfl) kh8 ⟨by (rw [eA]; first | done | rfl), by exact mh8, ph8⟩
set_option maxHeartbeats 4000000 in
theorem e_told {l : Launch} {h : Hp} {k : Nat} {v : Vg} {g : Sg} (hm : MilAt h k v) (hs : MshAt h k g) (s n : Int32) : Ms l yX7_told cX7_told 7 (some .int) 8 [vr 7 k, vi s, vi n] h (xK h) (fun r h' => r = some (vi (tolR v g s n)) ∧ MilAt h' k v ∧ Kp k h h') := by
  refine Ms.of (by decide) (Nat.le_of_ble_eq_true rfl) (fun G C X F => ?_)
  have C : Cx G cX7_told 7 RX7 := C
  show Rr G 0 [(0, vr 7 k), (1, vi s), (2, vi n)] [] h
  have bP := hm.bP
  have bM := hm.bM
  have bN := hm.bN
  refine r_aload_n C (dx dX7_told 0 rfl) rfl ?_
  refine r_iload_n C (dx dX7_told 1 rfl) rfl ?_
  refine r_iload_n C (dx dX7_told 2 rfl) rfl ?_
  refine r_cv (as := [vi s, vi n]) (st := []) C X I_X7_noTold l_X7_329 (v_X7_noTold hm hs _ _) (by decide) (Nat.le_of_ble_eq_true rfl) List.prefix_rfl List.prefix_rfl rfl rfl (Nat.le_of_ble_eq_true rfl) rfl (dx dX7_told 3 rfl) ?_
  rintro _ h1 ⟨rfl, m9h1, qh1⟩ kkh1
  have mh1 : MilAt h1 k v := m9h1
  have ph1 : Kp k h h1 := qh1
  have kh1 : xK h1 = xK h := kkh1
  refine r_istore_n (ls' := [(0, vr 7 k), (1, vi s), (2, vi n), (3, vi (tfV g s n))]) C (dx dX7_told 4 rfl) (by decide) [1, 2, 3, 0] rfl ?_
  refine r_iload_n C (dx dX7_told 5 rfl) rfl ?_
  refine r_if_eq (tgt := 13) C (dx dX7_told 6 rfl) (by decide) (fun c2 => ?_) (fun c2 => ?_)
  ·
    have c2 : tfV g s n = 0 := c2
    obtain ⟨σ, hσ, ν, hν, rfl, rfl⟩ := tf_ok2 c2
    refine r_iconst (v := nI 0) C (dx dX7_told 9 rfl) rfl ?_
    refine r_istore (ls' := [(0, vr 7 k), (1, vi (nI σ)), (2, vi (nI ν)), (3, vi (tfV g (nI σ) (nI ν))), (4, vi (nI 0))]) C (dx dX7_told 10 rfl) (by decide) [1, 2, 3, 4, 0] rfl ?_
    refine r_iconst (v := nI 0) C (dx dX7_told 11 rfl) rfl ?_
    refine r_istore (ls' := [(0, vr 7 k), (1, vi (nI σ)), (2, vi (nI ν)), (3, vi (tfV g (nI σ) (nI ν))), (4, vi (nI 0)), (5, vi (nI 0))]) C (dx dX7_told 12 rfl) (by decide) [1, 2, 3, 4, 5, 0] rfl ?_
    refine loopU (Φ := fun p => Rr G 19 [(0, vr 7 k), (1, vi (nI σ)), (2, vi (nI ν)), (3, vi (tfV g (nI σ) (nI ν))), (4, vi (tdR v g (nI σ) p)), (5, vi (nI p))] [] h1) (N := ν) ?_ ?_ 0 (Nat.zero_le _)
    ·
      skip
      refine r_iload C (dx dX7_told 13 rfl) rfl ?_
      refine r_iload_n C (dx dX7_told 14 rfl) rfl ?_
      refine rn_ge (a := ν) (b := ν) (tgt := 81) C (by omega) (by omega) (dx dX7_told 15 rfl) (by decide) (fun c3 => ?_) (fun c3 => ?_)
      · first
        | (omega; done)
        | (
            have c3 : ν ≤ ν := c3
            refine r_iload C (dx dX7_told 43 rfl) rfl ?_
            have eA : tolR v g (nI σ) (nI ν) = tdR v g (nI σ) ν := by (unfold tolR; rw [if_pos c2, clN (show ν < 2 ^ 31 by omega)])
            exact F.1 _ _ _ _ .int rfl rfl (dx dX7_told 44 rfl) kh1 ⟨by (rw [eA]; first | done | rfl), by exact mh1, ph1⟩)
      · first
        | (omega; done)
        | (
            have c3 : ν < ν := c3
            refine r_iconst (v := nI 0) C (dx dX7_told 16 rfl) rfl ?_
            refine r_istore (ls' := [(0, vr 7 k), (1, vi (nI σ)), (2, vi (nI ν)), (3, vi (tfV g (nI σ) (nI ν))), (4, vi (tdR v g (nI σ) ν)), (5, vi (nI ν)), (6, vi (nI 0))]) C (dx dX7_told 17 rfl) (by decide) [1, 2, 3, 4, 5, 6, 0] rfl ?_
            refine loopU (Φ := fun q => Rr G 28 [(0, vr 7 k), (1, vi (nI σ)), (2, vi (nI ν)), (3, vi (tfV g (nI σ) (nI ν))), (4, vi (tdI v (tdR v g (nI σ) p) (cmO v g (nI σ) (nI p)) q)), (5, vi (nI ν)), (6, vi (nI q))] [] h1) (N := vM v) ?_ ?_ 0 (Nat.zero_le _)
            ·
              skip
              refine r_iload C (dx dX7_told 18 rfl) rfl ?_
              refine r_aload_n C (dx dX7_told 19 rfl) rfl ?_
              refine g_X7_71 (x := nI (vM v)) C (dx dX7_told 20 rfl) mh1.eM ?_
              refine rn_ge (a := (vM v)) (b := vM v) (tgt := 75) C (by omega) (by omega) (dx dX7_told 21 rfl) (by decide) (fun c4 => ?_) (fun c4 => ?_)
              · first
                | (omega; done)
              · first
                | (omega; done)
            ·
              intro q hq ihq
              refine r_iload C (dx dX7_told 18 rfl) rfl ?_
              refine r_aload_n C (dx dX7_told 19 rfl) rfl ?_
              refine g_X7_71 (x := nI (vM v)) C (dx dX7_told 20 rfl) mh1.eM ?_
              refine rn_ge (a := q) (b := vM v) (tgt := 75) C (by omega) (by omega) (dx dX7_told 21 rfl) (by decide) (fun c6 => ?_) (fun c6 => ?_)
              · first
                | (omega; done)
              · first
                | (omega; done)
                | (
                    have c6 : q < vM v := c6
                    refine r_iload C (dx dX7_told 22 rfl) rfl ?_
                    refine r_aload_n C (dx dX7_told 23 rfl) rfl ?_
                    refine r_iload C (dx dX7_told 24 rfl) rfl ?_
                    refine r_aload_n C (dx dX7_told 25 rfl) rfl ?_
                    refine r_iload_n C (dx dX7_told 26 rfl) rfl ?_
                    refine r_iload C (dx dX7_told 27 rfl) rfl ?_
                    refine r_cvP (as := [vi (nI σ), vi (nI ν)]) (st := [vi (nI q), vr 7 k, vi (tdI v (tdR v g (nI σ) p) (cmO v g (nI σ) (nI p)) q)]) (v := vi (cmO v g (nI σ) (nI ν))) C X I_X7_comeOn l_X7_332 (e_comeG mh1 (hs.kp ph1) hσ hν c2 (i := ν) (by omega)) (by decide) (Nat.le_of_ble_eq_true rfl) (pfx_eq kh1) rfl rfl (Nat.le_of_ble_eq_true rfl) rfl (dx dX7_told 28 rfl) ?_
                    refine r_cvP (as := [vi (nI q), vi (cmO v g (nI σ) (nI ν))]) (st := [vi (tdI v (tdR v g (nI σ) p) (cmO v g (nI σ) (nI p)) q)]) (v := vi (b2i (needW v (hasP v (cmO v g (nI σ) (nI ν))) q))) C X I_X7_worksOf l_X7_250 (e_worksOf mh1 (m := q) (by omega) _) (by decide) (Nat.le_of_ble_eq_true rfl) (pfx_eq kh1) rfl rfl (Nat.le_of_ble_eq_true rfl) rfl (dx dX7_told 29 rfl) ?_
                    refine rb_eq (b := needW v (hasP v (cmO v g (nI σ) (nI ν))) q) (tgt := 65) C (dx dX7_told 30 rfl) (by decide) (fun c7 => ?_) (fun c7 => ?_)
                    ·
                      have c7 : (needW v (hasP v (cmO v g (nI σ) (nI ν))) q) = false := c7
                      refine r_iconst (v := nI 0) C (dx dX7_told 36 rfl) rfl ?_
                      refine r_iadd C (dx dX7_told 37 rfl) ?_
                      refine r_istore (ls' := [(0, vr 7 k), (1, vi (nI σ)), (2, vi (nI ν)), (3, vi (tfV g (nI σ) (nI ν))), (4, vi ((tdI v (tdR v g (nI σ) p) (cmO v g (nI σ) (nI p)) q) + (nI 0))), (5, vi (nI ν)), (6, vi (nI q))]) C (dx dX7_told 38 rfl) (by decide) [1, 2, 3, 4, 0, 5, 6] rfl ?_
                      refine rn_iinc (a := q) (k := 1) (ls' := [(0, vr 7 k), (1, vi (nI σ)), (2, vi (nI ν)), (3, vi (tfV g (nI σ) (nI ν))), (4, vi ((tdI v (tdR v g (nI σ) p) (cmO v g (nI σ) (nI p)) q) + (nI 0))), (5, vi (nI ν)), (6, vi (nI (q + 1)))]) C (dx dX7_told 39 rfl) rfl rfl (by decide) [1, 2, 3, 4, 5, 6, 0] rfl ?_
                      refine r_goto (tgt := 28) C (dx dX7_told 40 rfl) (by decide) ?_
                      have e9q4 : ((tdI v (tdR v g (nI σ) p) (cmO v g (nI σ) (nI p)) q) + (nI 0)) = (tdI v (tdR v g (nI σ) p) (cmO v g (nI σ) (nI p)) (q + 1)) := by (simp only [tdI]; rw [if_neg (by rw [c7]; decide)])
                      rw [e9q4]
                      exact ihq
                    ·
                      have c7 : (needW v (hasP v (cmO v g (nI σ) (nI ν))) q) = true := c7
                      refine r_aload_n C (dx dX7_told 31 rfl) rfl ?_
                      refine g_X7_49 C (dx dX7_told 32 rfl) ?_
                      refine r_iload C (dx dX7_told 33 rfl) rfl ?_
                      refine r_iald (j := q) (x := vF v 3 q) C rfl rfl (by decide) rfl (by omega) (dx dX7_told 34 rfl) (mh1.e3 (by omega)) ?_
                      refine r_goto (tgt := 66) C (dx dX7_told 35 rfl) (by decide) ?_
                      refine r_iadd C (dx dX7_told 37 rfl) ?_
                      refine r_istore (ls' := [(0, vr 7 k), (1, vi (nI σ)), (2, vi (nI ν)), (3, vi (tfV g (nI σ) (nI ν))), (4, vi ((tdI v (tdR v g (nI σ) p) (cmO v g (nI σ) (nI p)) q) + (vF v 3 q))), (5, vi (nI ν)), (6, vi (nI q))]) C (dx dX7_told 38 rfl) (by decide) [1, 2, 3, 4, 0, 5, 6] rfl ?_
                      refine rn_iinc (a := q) (k := 1) (ls' := [(0, vr 7 k), (1, vi (nI σ)), (2, vi (nI ν)), (3, vi (tfV g (nI σ) (nI ν))), (4, vi ((tdI v (tdR v g (nI σ) p) (cmO v g (nI σ) (nI p)) q) + (vF v 3 q))), (5, vi (nI ν)), (6, vi (nI (q + 1)))]) C (dx dX7_told 39 rfl) rfl rfl (by decide) [1, 2, 3, 4, 5, 6, 0] rfl ?_
                      refine r_goto (tgt := 28) C (dx dX7_told 40 rfl) (by decide) ?_
                      have e9q4 : ((tdI v (tdR v g (nI σ) p) (cmO v g (nI σ) (nI p)) q) + (vF v 3 q)) = (tdI v (tdR v g (nI σ) p) (cmO v g (nI σ) (nI p)) (q + 1)) := by (simp only [tdI]; rw [if_pos c7])
                      rw [e9q4]
                      exact ihq))
    ·
      intro p hp ihp
      refine r_iload C (dx dX7_told 13 rfl) rfl ?_
      refine r_iload_n C (dx dX7_told 14 rfl) rfl ?_
      refine rn_ge (a := p) (b := ν) (tgt := 81) C (by omega) (by omega) (dx dX7_told 15 rfl) (by decide) (fun c8 => ?_) (fun c8 => ?_)
      · first
        | (omega; done)
        | (
            have c8 : ν ≤ p := c8
            refine r_iload C (dx dX7_told 43 rfl) rfl ?_
            have eA : tolR v g (nI σ) (nI ν) = tdR v g (nI σ) p := by (unfold tolR; rw [if_pos c2, clN (show ν < 2 ^ 31 by omega)])
            exact F.1 _ _ _ _ .int rfl rfl (dx dX7_told 44 rfl) kh1 ⟨by (rw [eA]; first | done | rfl), by exact mh1, ph1⟩)
      · first
        | (omega; done)
        | (
            have c8 : p < ν := c8
            refine r_iconst (v := nI 0) C (dx dX7_told 16 rfl) rfl ?_
            refine r_istore (ls' := [(0, vr 7 k), (1, vi (nI σ)), (2, vi (nI ν)), (3, vi (tfV g (nI σ) (nI ν))), (4, vi (tdR v g (nI σ) p)), (5, vi (nI p)), (6, vi (nI 0))]) C (dx dX7_told 17 rfl) (by decide) [1, 2, 3, 4, 5, 6, 0] rfl ?_
            refine loopU (Φ := fun q => Rr G 28 [(0, vr 7 k), (1, vi (nI σ)), (2, vi (nI ν)), (3, vi (tfV g (nI σ) (nI ν))), (4, vi (tdI v (tdR v g (nI σ) p) (cmO v g (nI σ) (nI p)) q)), (5, vi (nI p)), (6, vi (nI q))] [] h1) (N := vM v) ?_ ?_ 0 (Nat.zero_le _)
            ·
              skip
              refine r_iload C (dx dX7_told 18 rfl) rfl ?_
              refine r_aload_n C (dx dX7_told 19 rfl) rfl ?_
              refine g_X7_71 (x := nI (vM v)) C (dx dX7_told 20 rfl) mh1.eM ?_
              refine rn_ge (a := (vM v)) (b := vM v) (tgt := 75) C (by omega) (by omega) (dx dX7_told 21 rfl) (by decide) (fun c9 => ?_) (fun c9 => ?_)
              · first
                | (omega; done)
                | (
                    have c9 : vM v ≤ (vM v) := c9
                    refine rn_iinc (a := p) (k := 1) (ls' := [(0, vr 7 k), (1, vi (nI σ)), (2, vi (nI ν)), (3, vi (tfV g (nI σ) (nI ν))), (4, vi (tdI v (tdR v g (nI σ) p) (cmO v g (nI σ) (nI p)) (vM v))), (5, vi (nI (p + 1))), (6, vi (nI (vM v)))]) C (dx dX7_told 41 rfl) rfl rfl (by decide) [1, 2, 3, 4, 5, 0, 6] rfl ?_
                    refine r_goto (tgt := 19) C (dx dX7_told 42 rfl) (by decide) ?_
                    have e9p4 : (tdI v (tdR v g (nI σ) p) (cmO v g (nI σ) (nI p)) (vM v)) = (tdR v g (nI σ) (p + 1)) := by rfl
                    refine r_weak C [0, 1, 2, 3, 4, 5] rfl ?_
                    rw [e9p4]
                    exact ihp)
              · first
                | (omega; done)
            ·
              intro q hq ihq
              refine r_iload C (dx dX7_told 18 rfl) rfl ?_
              refine r_aload_n C (dx dX7_told 19 rfl) rfl ?_
              refine g_X7_71 (x := nI (vM v)) C (dx dX7_told 20 rfl) mh1.eM ?_
              refine rn_ge (a := q) (b := vM v) (tgt := 75) C (by omega) (by omega) (dx dX7_told 21 rfl) (by decide) (fun c11 => ?_) (fun c11 => ?_)
              · first
                | (omega; done)
                | (
                    have c11 : vM v ≤ q := c11
                    refine rn_iinc (a := p) (k := 1) (ls' := [(0, vr 7 k), (1, vi (nI σ)), (2, vi (nI ν)), (3, vi (tfV g (nI σ) (nI ν))), (4, vi (tdI v (tdR v g (nI σ) p) (cmO v g (nI σ) (nI p)) q)), (5, vi (nI (p + 1))), (6, vi (nI q))]) C (dx dX7_told 41 rfl) rfl rfl (by decide) [1, 2, 3, 4, 5, 0, 6] rfl ?_
                    refine r_goto (tgt := 19) C (dx dX7_told 42 rfl) (by decide) ?_
                    have e9p4 : (tdI v (tdR v g (nI σ) p) (cmO v g (nI σ) (nI p)) q) = (tdR v g (nI σ) (p + 1)) := by rfl
                    refine r_weak C [0, 1, 2, 3, 4, 5] rfl ?_
                    rw [e9p4]
                    exact ihp)
              · first
                | (omega; done)
                | (
                    have c11 : q < vM v := c11
                    refine r_iload C (dx dX7_told 22 rfl) rfl ?_
                    refine r_aload_n C (dx dX7_told 23 rfl) rfl ?_
                    refine r_iload C (dx dX7_told 24 rfl) rfl ?_
                    refine r_aload_n C (dx dX7_told 25 rfl) rfl ?_
                    refine r_iload_n C (dx dX7_told 26 rfl) rfl ?_
                    refine r_iload C (dx dX7_told 27 rfl) rfl ?_
                    refine r_cvP (as := [vi (nI σ), vi (nI p)]) (st := [vi (nI q), vr 7 k, vi (tdI v (tdR v g (nI σ) p) (cmO v g (nI σ) (nI p)) q)]) (v := vi (cmO v g (nI σ) (nI p))) C X I_X7_comeOn l_X7_332 (e_comeG mh1 (hs.kp ph1) hσ hν c2 (i := p) (by omega)) (by decide) (Nat.le_of_ble_eq_true rfl) (pfx_eq kh1) rfl rfl (Nat.le_of_ble_eq_true rfl) rfl (dx dX7_told 28 rfl) ?_
                    refine r_cvP (as := [vi (nI q), vi (cmO v g (nI σ) (nI p))]) (st := [vi (tdI v (tdR v g (nI σ) p) (cmO v g (nI σ) (nI p)) q)]) (v := vi (b2i (needW v (hasP v (cmO v g (nI σ) (nI p))) q))) C X I_X7_worksOf l_X7_250 (e_worksOf mh1 (m := q) (by omega) _) (by decide) (Nat.le_of_ble_eq_true rfl) (pfx_eq kh1) rfl rfl (Nat.le_of_ble_eq_true rfl) rfl (dx dX7_told 29 rfl) ?_
                    refine rb_eq (b := needW v (hasP v (cmO v g (nI σ) (nI p))) q) (tgt := 65) C (dx dX7_told 30 rfl) (by decide) (fun c12 => ?_) (fun c12 => ?_)
                    ·
                      have c12 : (needW v (hasP v (cmO v g (nI σ) (nI p))) q) = false := c12
                      refine r_iconst (v := nI 0) C (dx dX7_told 36 rfl) rfl ?_
                      refine r_iadd C (dx dX7_told 37 rfl) ?_
                      refine r_istore (ls' := [(0, vr 7 k), (1, vi (nI σ)), (2, vi (nI ν)), (3, vi (tfV g (nI σ) (nI ν))), (4, vi ((tdI v (tdR v g (nI σ) p) (cmO v g (nI σ) (nI p)) q) + (nI 0))), (5, vi (nI p)), (6, vi (nI q))]) C (dx dX7_told 38 rfl) (by decide) [1, 2, 3, 4, 0, 5, 6] rfl ?_
                      refine rn_iinc (a := q) (k := 1) (ls' := [(0, vr 7 k), (1, vi (nI σ)), (2, vi (nI ν)), (3, vi (tfV g (nI σ) (nI ν))), (4, vi ((tdI v (tdR v g (nI σ) p) (cmO v g (nI σ) (nI p)) q) + (nI 0))), (5, vi (nI p)), (6, vi (nI (q + 1)))]) C (dx dX7_told 39 rfl) rfl rfl (by decide) [1, 2, 3, 4, 5, 6, 0] rfl ?_
                      refine r_goto (tgt := 28) C (dx dX7_told 40 rfl) (by decide) ?_
                      have e9q4 : ((tdI v (tdR v g (nI σ) p) (cmO v g (nI σ) (nI p)) q) + (nI 0)) = (tdI v (tdR v g (nI σ) p) (cmO v g (nI σ) (nI p)) (q + 1)) := by (simp only [tdI]; rw [if_neg (by rw [c12]; decide)])
                      rw [e9q4]
                      exact ihq
                    ·
                      have c12 : (needW v (hasP v (cmO v g (nI σ) (nI p))) q) = true := c12
                      refine r_aload_n C (dx dX7_told 31 rfl) rfl ?_
                      refine g_X7_49 C (dx dX7_told 32 rfl) ?_
                      refine r_iload C (dx dX7_told 33 rfl) rfl ?_
                      refine r_iald (j := q) (x := vF v 3 q) C rfl rfl (by decide) rfl (by omega) (dx dX7_told 34 rfl) (mh1.e3 (by omega)) ?_
                      refine r_goto (tgt := 66) C (dx dX7_told 35 rfl) (by decide) ?_
                      refine r_iadd C (dx dX7_told 37 rfl) ?_
                      refine r_istore (ls' := [(0, vr 7 k), (1, vi (nI σ)), (2, vi (nI ν)), (3, vi (tfV g (nI σ) (nI ν))), (4, vi ((tdI v (tdR v g (nI σ) p) (cmO v g (nI σ) (nI p)) q) + (vF v 3 q))), (5, vi (nI p)), (6, vi (nI q))]) C (dx dX7_told 38 rfl) (by decide) [1, 2, 3, 4, 0, 5, 6] rfl ?_
                      refine rn_iinc (a := q) (k := 1) (ls' := [(0, vr 7 k), (1, vi (nI σ)), (2, vi (nI ν)), (3, vi (tfV g (nI σ) (nI ν))), (4, vi ((tdI v (tdR v g (nI σ) p) (cmO v g (nI σ) (nI p)) q) + (vF v 3 q))), (5, vi (nI p)), (6, vi (nI (q + 1)))]) C (dx dX7_told 39 rfl) rfl rfl (by decide) [1, 2, 3, 4, 5, 6, 0] rfl ?_
                      refine r_goto (tgt := 28) C (dx dX7_told 40 rfl) (by decide) ?_
                      have e9q4 : ((tdI v (tdR v g (nI σ) p) (cmO v g (nI σ) (nI p)) q) + (vF v 3 q)) = (tdI v (tdR v g (nI σ) p) (cmO v g (nI σ) (nI p)) (q + 1)) := by (simp only [tdI]; rw [if_pos c12])
                      rw [e9q4]
                      exact ihq))
  ·
    have c2 : ¬ tfV g s n = 0 := c2
    refine r_iload_n C (dx dX7_told 7 rfl) rfl ?_
    have eA : tolR v g s n = tfV g s n := by (simp [tolR, c2] <;> rfl)
    exact F.1 _ _ _ _ .int rfl rfl (dx dX7_told 8 rfl) kh1 ⟨by (rw [eA]; first | done | rfl), by exact mh1, ph1⟩

