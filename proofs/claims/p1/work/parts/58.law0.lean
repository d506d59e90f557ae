/-! PART 39: the law: what holds between its calls, its rows -/
/-! THE CLAIM OUT OF ONE WALK OF THE LAW'S BODY. Your part is whole_start (and what it stands on); all else here is the same for every law, but numbers. -/
def R_law : String := "OnlyWhatFitsLaw"
def lw_P (b : Addr) (xs : List Int32) (args : Array Value) (s : State) : Prop := args = #[.ref b] ∧ s.IntsAt b xs ∧ xs.length ≤ 6 ∧ (Jvm.Cond.and given_1 narrow_1).before args s = true
def lw_Q (_ : Array Value) (s : State) (o : Outcome) (t : State) : Prop := o = .returned (some (.int 1)) ∧ Framed s o t [] 600000 7302250
def lw_Z (below : List Frame) (a : Array Value) (s : State) : State → Prop := fun t => ∃ o, t.status = .running ∧ Ended t below o ∧ lw_Q a s o t
/-- the law's own end, with 1 on the stack, nothing written that was there before, its room as the claim has it -/
theorem lw_ret {p : Program} {l : Launch} {e : Env} {s : State} {m : MethodId} {below : List Frame} {meth : Method} {c : Code} {b : Nat} (hx : p.tables.exec = Jvm.exec) (hb : c.code = code) (hr : meth.sig.returnType = ret) (hlocks : meth.locks = false) {pc : Nat} {H : Heap} {ls : Array Slot} (hdg : decode code pc = .ok (.ireturn, 1)) : W p l e room_1 s m #[Value.ref b] below meth c H [] 600000 7302250 (lw_Z below #[Value.ref b] s) (F0 m pc ls [.int 1]) := by
  intro T hT X
  obtain ⟨fs, hret, hrun, hended, hW, hframe⟩ := X.leave (v := some (.int 1)) (hlocks := hlocks) (fun h => by rw [hr] at h; cases h)
  have hmeth' : T.vm.method? m = some meth := X.method'
  refine ⟨T.setFrames fs, ?_, .returned (some (.int 1)), hrun, hended, rfl, ⟨_, rfl⟩, hW, hframe⟩
  jvm_step X.here [X.here.top, hx, hb, hdg, hmeth', hr, ret, narrow_b1]
  (try refine ⟨rfl, ?_⟩); (try refine ⟨rfl, ?_⟩)
  first | (intro acts; rw [hret _ acts rfl rfl rfl]) | rw [hret _ _ rfl rfl rfl]
  exact Steps.refl _
/-- what holds at the law's entry: the machine, the code, the tables' words (any of lw_tbl by 'hts w (by decide +kernel)'), the script of L ints xs at the cell b, what the Statement gives of the start (any of its parts by flat_of_before) -/
def lw_At (p : Program) (s : State) (m : MethodId) (meth : Method) (c : Code) (b L : Nat) (xs : Nat → Int32) : Prop :=
  p.tables.exec = Jvm.exec ∧ c.code = code ∧ meth.sig.returnType = ret ∧ c.maxLocals = 4 ∧ s.vm.findClass R_law = some m.cls ∧ (∀ w ∈ lw_tbl, w.before #[Value.ref b] s = true) ∧ va_X b L xs s s.heap ∧ b < s.heap.size ∧ meth.locks = false ∧ (Jvm.Cond.and given_1 narrow_1).before #[Value.ref b] s = true
def RL : String := "OnlyWhatFitsLaw"
def P63 : List Nat := [6, 5, 20, 20, 21, 21, 22, 22, 23, 22, 5, 20, 20, 21, 21, 22, 22, 23, 22, 5, 20, 20, 21, 21, 22, 22, 23, 22, 4, 24, 25, 22, 0, 22, 1, 21, 21, 27, 32, 21, 21, 21, 21, 21, 21, 21, 28, 3, 29, 2, 22, 22, 33, 31, 31, 31, 31, 31, 31, 31, 31, 22, 26]
theorem cl_RL_7 : Cond.classLink RL 7 "OnlyWhatFits" ∈ lw_g := tb_1 17 rfl rfl
theorem l_L_9 : Cond.methodLink RL 9 yX6_init ∈ lw_g := tb_1 19 rfl rfl
theorem l_L_13 : Cond.methodLink RL 13 yX6_row ∈ lw_g := tb_2 6 rfl rfl
theorem l_L_20 : Cond.methodLink RL 20 yX6_set ∈ lw_g := tb_2 26 rfl rfl
theorem l_L_25 : Cond.methodLink RL 25 yX6_copy ∈ lw_g := tb_2 62 rfl rfl
theorem l_L_30 : Cond.methodLink RL 30 yX6_element ∈ lw_g := tb_2 76 rfl rfl
theorem l_L_35 : Cond.methodLink RL 35 yX6_holds ∈ lw_g := tb_2 84 rfl rfl
theorem l_L_40 : Cond.methodLink RL 40 yX6_holding ∈ lw_g := tb_2 88 rfl rfl
theorem l_L_44 : Cond.methodLink RL 44 yX6_says ∈ lw_g := tb_2 96 rfl rfl
theorem l_L_49 : Cond.methodLink RL 49 yX6_part ∈ lw_g := tb_2 179 rfl rfl
theorem l_L_54 : Cond.methodLink RL 54 yX6_machine ∈ lw_g := tb_2 187 rfl rfl
theorem l_L_58 : Cond.methodLink RL 58 yX6_one ∈ lw_g := tb_2 203 rfl rfl
theorem l_L_62 : Cond.methodLink RL 62 yX6_away ∈ lw_g := tb_2 211 rfl rfl
theorem l_L_66 : Cond.methodLink RL 66 yX6_cross ∈ lw_g := tb_2 219 rfl rfl
theorem l_L_71 : Cond.methodLink RL 71 yX6_give ∈ lw_g := tb_2 223 rfl rfl
theorem l_L_76 : Cond.methodLink RL 76 yX6_feed ∈ lw_g := tb_3 0 rfl rfl
theorem l_L_80 : Cond.methodLink RL 80 yX6_wipe ∈ lw_g := tb_3 12 rfl rfl
theorem l_L_84 : Cond.methodLink RL 84 yX6_village ∈ lw_g := tb_3 20 rfl rfl
theorem l_L_88 : Cond.methodLink RL 88 yX6_partOf ∈ lw_g := tb_3 137 rfl rfl
theorem l_L_92 : Cond.methodLink RL 92 yX6_machineOf ∈ lw_g := tb_3 141 rfl rfl
theorem l_L_96 : Cond.methodLink RL 96 yX6_oneOf ∈ lw_g := tb_3 149 rfl rfl
theorem l_L_100 : Cond.methodLink RL 100 yX6_has ∈ lw_g := tb_3 154 rfl rfl
theorem l_L_104 : Cond.methodLink RL 104 yX6_works ∈ lw_g := tb_3 170 rfl rfl
theorem l_L_108 : Cond.methodLink RL 108 yX6_both ∈ lw_g := tb_3 179 rfl rfl
theorem l_L_112 : Cond.methodLink RL 112 yX6_odds ∈ lw_g := tb_3 197 rfl rfl
theorem l_L_117 : Cond.methodLink RL 117 yX6_atOnce ∈ lw_g := tb_3 219 rfl rfl
theorem l_L_121 : Cond.methodLink RL 121 yX6_day ∈ lw_g := tb_3 228 rfl rfl
theorem l_L_126 : Cond.methodLink RL 126 yX6_power ∈ lw_g := tb_4 4 rfl rfl
theorem l_L_130 : Cond.methodLink RL 130 yX6_first ∈ lw_g := tb_4 27 rfl rfl
theorem l_L_134 : Cond.methodLink RL 134 yX6_lay ∈ lw_g := tb_4 37 rfl rfl
theorem l_L_138 : Cond.methodLink RL 138 yX6_would ∈ lw_g := tb_4 41 rfl rfl
theorem l_L_142 : Cond.methodLink RL 142 yX6_head ∈ lw_g := tb_4 45 rfl rfl
theorem l_L_146 : Cond.methodLink RL 146 yX6_best ∈ lw_g := tb_4 49 rfl rfl
theorem l_L_150 : Cond.methodLink RL 150 yX6_bestDay ∈ lw_g := tb_4 82 rfl rfl
theorem l_L_154 : Cond.methodLink RL 154 yX6_bears ∈ lw_g := tb_4 90 rfl rfl
theorem l_L_158 : Cond.methodLink RL 158 yX6_harms ∈ lw_g := tb_4 103 rfl rfl
theorem l_L_162 : Cond.methodLink RL 162 yX6_least ∈ lw_g := tb_4 107 rfl rfl
theorem l_L_166 : Cond.methodLink RL 166 yX6_stolen ∈ lw_g := tb_4 122 rfl rfl
theorem l_L_170 : Cond.methodLink RL 170 yX6_spare ∈ lw_g := tb_4 127 rfl rfl
theorem l_L_174 : Cond.methodLink RL 174 yX6_gift ∈ lw_g := tb_4 132 rfl rfl
theorem l_L_178 : Cond.methodLink RL 178 yX6_never ∈ lw_g := tb_4 138 rfl rfl
theorem l_L_183 : Cond.methodLink RL 183 yX6_with ∈ lw_g := tb_4 147 rfl rfl
theorem l_L_187 : Cond.methodLink RL 187 yX6_safe ∈ lw_g := tb_4 151 rfl rfl
theorem l_L_191 : Cond.methodLink RL 191 yX6_alone ∈ lw_g := tb_4 155 rfl rfl
theorem l_L_195 : Cond.methodLink RL 195 yX6_key ∈ lw_g := tb_4 160 rfl rfl
theorem l_L_199 : Cond.methodLink RL 199 yX6_idle ∈ lw_g := tb_4 168 rfl rfl
theorem l_L_203 : Cond.methodLink RL 203 yX6_room ∈ lw_g := tb_4 172 rfl rfl
theorem l_L_207 : Cond.methodLink RL 207 yX6_swap ∈ lw_g := tb_4 176 rfl rfl
theorem l_L_211 : Cond.methodLink RL 211 yX6_trust ∈ lw_g := tb_4 180 rfl rfl
theorem l_L_215 : Cond.methodLink RL 215 yX6_judge ∈ lw_g := tb_4 188 rfl rfl
theorem l_L_219 : Cond.methodLink RL 219 yX6_told ∈ lw_g := tb_4 201 rfl rfl
theorem l_L_223 : Cond.methodLink RL 223 yX6_days ∈ lw_g := tb_4 206 rfl rfl
theorem l_L_227 : Cond.methodLink RL 227 yX6_seed ∈ lw_g := tb_4 224 rfl rfl
theorem l_L_231 : Cond.methodLink RL 231 yX6_image ∈ lw_g := tb_4 228 rfl rfl
theorem l_L_235 : Cond.methodLink RL 235 yX6_back ∈ lw_g := tb_4 232 rfl rfl
theorem l_L_239 : Cond.methodLink RL 239 yX6_status ∈ lw_g := tb_4 236 rfl rfl
theorem cl_RL_10 : Cond.classLink RL 10 "OnlyWhatFitsModel" ∈ lw_g := tb_5 4 rfl rfl
theorem l_L_12 : Cond.methodLink RL 12 yX7_init ∈ lw_g := tb_5 6 rfl rfl
theorem l_L_17 : Cond.methodLink RL 17 yX7_row ∈ lw_g := tb_5 109 rfl rfl
theorem l_L_24 : Cond.methodLink RL 24 yX7_set ∈ lw_g := tb_5 123 rfl rfl
theorem l_L_29 : Cond.methodLink RL 29 yX7_copy ∈ lw_g := tb_5 134 rfl rfl
theorem l_L_34 : Cond.methodLink RL 34 yX7_element ∈ lw_g := tb_5 138 rfl rfl
theorem l_L_39 : Cond.methodLink RL 39 yX7_holds ∈ lw_g := tb_5 142 rfl rfl
theorem l_L_43 : Cond.methodLink RL 43 yX7_holding ∈ lw_g := tb_5 146 rfl rfl
theorem l_L_48 : Cond.methodLink RL 48 yX7_says ∈ lw_g := tb_5 152 rfl rfl
theorem l_L_53 : Cond.methodLink RL 53 yX7_part ∈ lw_g := tb_5 207 rfl rfl
theorem l_L_57 : Cond.methodLink RL 57 yX7_machine ∈ lw_g := tb_5 211 rfl rfl
theorem l_L_61 : Cond.methodLink RL 61 yX7_one ∈ lw_g := tb_5 215 rfl rfl
theorem l_L_65 : Cond.methodLink RL 65 yX7_away ∈ lw_g := tb_5 225 rfl rfl
theorem l_L_70 : Cond.methodLink RL 70 yX7_cross ∈ lw_g := tb_5 233 rfl rfl
theorem l_L_75 : Cond.methodLink RL 75 yX7_give ∈ lw_g := tb_5 237 rfl rfl
theorem l_L_79 : Cond.methodLink RL 79 yX7_feed ∈ lw_g := tb_6 5 rfl rfl
theorem l_L_83 : Cond.methodLink RL 83 yX7_wipe ∈ lw_g := tb_6 9 rfl rfl
theorem l_L_87 : Cond.methodLink RL 87 yX7_village ∈ lw_g := tb_6 13 rfl rfl
theorem l_L_91 : Cond.methodLink RL 91 yX7_partOf ∈ lw_g := tb_6 78 rfl rfl
theorem l_L_95 : Cond.methodLink RL 95 yX7_machineOf ∈ lw_g := tb_6 82 rfl rfl
theorem l_L_99 : Cond.methodLink RL 99 yX7_oneOf ∈ lw_g := tb_6 90 rfl rfl
theorem l_L_103 : Cond.methodLink RL 103 yX7_has ∈ lw_g := tb_6 94 rfl rfl
theorem l_L_107 : Cond.methodLink RL 107 yX7_works ∈ lw_g := tb_6 106 rfl rfl
theorem l_L_111 : Cond.methodLink RL 111 yX7_both ∈ lw_g := tb_6 114 rfl rfl
theorem l_L_116 : Cond.methodLink RL 116 yX7_odds ∈ lw_g := tb_6 122 rfl rfl
theorem l_L_120 : Cond.methodLink RL 120 yX7_atOnce ∈ lw_g := tb_6 134 rfl rfl
theorem l_L_125 : Cond.methodLink RL 125 yX7_day ∈ lw_g := tb_6 138 rfl rfl
theorem l_L_129 : Cond.methodLink RL 129 yX7_power ∈ lw_g := tb_6 142 rfl rfl
theorem l_L_133 : Cond.methodLink RL 133 yX7_first ∈ lw_g := tb_6 156 rfl rfl
theorem l_L_137 : Cond.methodLink RL 137 yX7_lay ∈ lw_g := tb_6 160 rfl rfl
theorem l_L_141 : Cond.methodLink RL 141 yX7_would ∈ lw_g := tb_6 168 rfl rfl
theorem l_L_145 : Cond.methodLink RL 145 yX7_head ∈ lw_g := tb_6 177 rfl rfl
theorem l_L_149 : Cond.methodLink RL 149 yX7_best ∈ lw_g := tb_6 181 rfl rfl
theorem l_L_153 : Cond.methodLink RL 153 yX7_bestDay ∈ lw_g := tb_6 194 rfl rfl
theorem l_L_157 : Cond.methodLink RL 157 yX7_bears ∈ lw_g := tb_6 198 rfl rfl
theorem l_L_161 : Cond.methodLink RL 161 yX7_harms ∈ lw_g := tb_6 210 rfl rfl
theorem l_L_165 : Cond.methodLink RL 165 yX7_least ∈ lw_g := tb_6 214 rfl rfl
theorem l_L_169 : Cond.methodLink RL 169 yX7_stolen ∈ lw_g := tb_6 222 rfl rfl
theorem l_L_173 : Cond.methodLink RL 173 yX7_spare ∈ lw_g := tb_6 226 rfl rfl
theorem l_L_177 : Cond.methodLink RL 177 yX7_gift ∈ lw_g := tb_6 230 rfl rfl
theorem l_L_182 : Cond.methodLink RL 182 yX7_never ∈ lw_g := tb_6 235 rfl rfl
theorem l_L_186 : Cond.methodLink RL 186 yX7_with ∈ lw_g := tb_6 239 rfl rfl
theorem l_L_190 : Cond.methodLink RL 190 yX7_safe ∈ lw_g := tb_7 3 rfl rfl
theorem l_L_194 : Cond.methodLink RL 194 yX7_alone ∈ lw_g := tb_7 8 rfl rfl
theorem l_L_198 : Cond.methodLink RL 198 yX7_key ∈ lw_g := tb_7 12 rfl rfl
theorem l_L_202 : Cond.methodLink RL 202 yX7_idle ∈ lw_g := tb_7 16 rfl rfl
theorem l_L_206 : Cond.methodLink RL 206 yX7_room ∈ lw_g := tb_7 20 rfl rfl
theorem l_L_210 : Cond.methodLink RL 210 yX7_swap ∈ lw_g := tb_7 24 rfl rfl
theorem l_L_214 : Cond.methodLink RL 214 yX7_trust ∈ lw_g := tb_7 28 rfl rfl
theorem l_L_218 : Cond.methodLink RL 218 yX7_judge ∈ lw_g := tb_7 32 rfl rfl
theorem l_L_222 : Cond.methodLink RL 222 yX7_told ∈ lw_g := tb_7 45 rfl rfl
theorem l_L_226 : Cond.methodLink RL 226 yX7_days ∈ lw_g := tb_7 49 rfl rfl
theorem l_L_230 : Cond.methodLink RL 230 yX7_seed ∈ lw_g := tb_7 63 rfl rfl
theorem l_L_234 : Cond.methodLink RL 234 yX7_image ∈ lw_g := tb_7 67 rfl rfl
theorem l_L_238 : Cond.methodLink RL 238 yX7_back ∈ lw_g := tb_7 71 rfl rfl
theorem l_L_242 : Cond.methodLink RL 242 yX7_status ∈ lw_g := tb_7 75 rfl rfl
theorem n_L_18 : Cond.constantLong RL 18 (4294967295 : Int64) ∈ lw_g := tb_7 81 rfl rfl
/-- the script lies where it lay -/
def SLw (G : Gt) (b L : Nat) (xs : Nat → Int32) : Prop := match G with
  | (p, l, e, R, s, m, args, below, meth, c, D, dA, A, f0, al0, Q, nL) => f0 9000 = b ∧ va_X b L xs s s.heap ∧ b < s.heap.size ∧ ¬ A b
section LW
variable {G : Gt} {cc : ByteArray} {nL pc : Nat} {own : String} {ls : List (Nat × V)} {st : List V} {h : Hp} {b L : Nat} {xs : Nat → Int32}
theorem r_sld (C : Cx G cc nL own) (S : SLw G b L xs) {i : Nat} (hi : i < L) (hL : L < 2 ^ 31) (d : decode cc pc = .ok (.iaload, 1)) (kk : Rr G (pc + 1) ls (vi (xs i) :: st) h) : Rr G pc ls (vi (nI i) :: vt 9000 :: st) h := by
  obtain ⟨p, l, e, R, s, m, args, below, meth, c, D, dA, A, f0, al0, Q, nL'⟩ := G
  obtain ⟨rfl, hx, hb, hml, hown, hts, hlk, hK, hAz, hSF⟩ := C
  obtain ⟨S1, S2, S3, S4⟩ := S
  intro f H locs LS h1 h2 h3 hP hD hS hl w1 w2
  have ef : f 9000 = b := (h1 9000 (Or.inr (by decide))).trans S1
  show W p l e R s m args below meth c H locs _ _ Q (F0 m pc LS (.int (nI i) :: .ref (f 9000) :: st.map (rep f)))
  rw [ef]
  refine va_sld hx hb S2 S3 S4 hS (vp_in_nI hi (by omega)) d ?_
  rw [nI_clamp (by omega)]
  exact kk f H locs LS h1 h2 h3 hP hD hS hl w1 (w_1 (w_t (w_t w2)))
theorem r_slen (C : Cx G cc nL own) (S : SLw G b L xs) (d : decode cc pc = .ok (.arraylength, 1)) (kk : Rr G (pc + 1) ls (vi (nI L) :: st) h) : Rr G pc ls (vt 9000 :: st) h := by
  obtain ⟨p, l, e, R, s, m, args, below, meth, c, D, dA, A, f0, al0, Q, nL'⟩ := G
  obtain ⟨rfl, hx, hb, hml, hown, hts, hlk, hK, hAz, hSF⟩ := C
  obtain ⟨S1, S2, S3, S4⟩ := S
  intro f H locs LS h1 h2 h3 hP hD hS hl w1 w2
  have ef : f 9000 = b := (h1 9000 (Or.inr (by decide))).trans S1
  show W p l e R s m args below meth c H locs _ _ Q (F0 m pc LS (.ref (f 9000) :: st.map (rep f)))
  rw [ef]
  exact va_slen hx hb S2 S3 S4 hS d (kk f H locs LS h1 h2 h3 hP hD hS hl w1 (w_1 (w_t w2)))
end LW
/-- between two calls: both have the same shelves, the same number of bytes, both one kept or none -/
def Lv (h : Hp) : Prop := ∃ v u w g B Bt z κ τ, Ow h v u w g B z (b2i κ) ∧ GOk g ∧ Md h P63 63 v g z κ τ ∧ XT h 63 κ w Bt ∧ ByT B Bt z ∧ VOk v ∧ (κ = true → VOk w)
theorem P_tab : ∀ i : Fin 63, ((P63[i.1]?).bind (fun kb => fkL[kb]?)).all (fun L => L.all (fun d => decide (d.1 < 3))) = true := by decide +kernel
theorem low_no {h : Hp} {κ τ : Bool} (al : xK h = AL P63 κ τ) {a k' : Nat} (ha : a < 63) (hk : (xK h)[a]? = some k') {L : List Fd3} (hL : fkL[k']? = some L) {j t o k2 : Nat} (hj : L[j]? = some (t, o, k2)) (ht : 3 ≤ t) : False := by
  rw [al] at hk
  unfold AL at hk
  rw [List.getElem?_append_left (show a < P63.length from ha)] at hk
  have q := P_tab ⟨a, ha⟩
  rw [show P63[(⟨a, ha⟩ : Fin 63).1]? = some k' from hk] at q
  simp only [Option.bind_some, hL, Option.all_some] at q
  have := of_decide_eq_true (List.all_eq_true.mp q _ (List.mem_of_getElem? hj))
  omega
theorem Md.fr9 {h h1 : Hp} {z : Nat} {v : Vg} {g : Sg} {κ τ : Bool} (M : Md h P63 63 v g z κ τ) (f : Fr 0 63 h h1) (kk : xK h1 = xK h) : Md h1 P63 63 v g z κ τ := by
  generalize hk9 : (63 : Nat) = k at M f ⊢
  obtain ⟨m, ms, e8, bz, nok, hP, hk, al, fk, ft, sk, st, ap⟩ := M
  have ek : xI h1 k = xI h k := (f k (by omega)).1
  have en : ∀ a, k ≤ a → xN h1 a = xN h a := fun a ha => (f a (by omega)).2.2
  have sub : ∀ x, Sub h k x → Sub h1 k x := fun x q => by
    rcases q with q | ⟨b, w, q1, q2, q3, q4⟩
    · exact Or.inl q
    · exact Or.inr ⟨b, w, q1, q2, by rw [kk]; exact q3, q4.fr f (by omega)⟩
  refine ⟨m.fr f (by omega), ms.ag f.fs (fun b q1 q2 q3 => by omega), by rw [ek]; exact e8, bz, ?_, hP, hk, kk.trans al, by rw [en k (Nat.le_refl _)]; exact fk, by rw [en k (Nat.le_refl _)]; exact ft, by rw [en k (Nat.le_refl _)]; exact sub _ sk, by rw [en k (Nat.le_refl _)]; exact sub _ st, by rw [en k (Nat.le_refl _)]; exact ap⟩
  intro a k' L j t o k2 ha hL hj ht
  rw [kk] at ha ⊢
  by_cases z : k ≤ a
  · rw [en a z]; exact nok a k' L j t o k2 ha hL hj ht
  · exact (low_no al (by omega) ha hL hj ht).elim
theorem XT.fr9 {h h1 : Hp} {z : Nat} {v ω : Vg} {g : Sg} {κ τ : Bool} {Bt : Nat → Int32} (x : XT h 63 κ ω Bt) (M : Md h P63 63 v g z κ τ) (f : Fr 0 63 h h1) : XT h1 63 κ ω Bt :=
  ⟨fun i hi => by rw [(f (63 + 16) (by omega)).1]; exact x.1 i hi, fun e => by
    obtain ⟨c, e1, m⟩ := x.2 e
    exact ⟨c, by rw [(f 63 (by omega)).2.2]; exact e1, m.fr f (by have := (M.kc e1).1; omega)⟩⟩
theorem bv_eq {κ : Bool} {v w : Vg} : (if b2i κ = 0 then v else w) = if κ then w else v := by cases κ <;> rfl
theorem ok_back {κ : Bool} {v w : Vg} (h : VOk v) (h2 : κ = true → VOk w) : VOk (if κ then w else v) := by cases κ with | true => exact h2 rfl | false => exact h
theorem ok_00 : VOk v00 := ⟨fun o h => absurd h (Nat.not_lt_zero o), fun o h => absurd h (Nat.not_lt_zero o), fun o h => absurd h (Nat.not_lt_zero o), fun o h => absurd h (Nat.not_lt_zero o), fun o h => absurd h (Nat.not_lt_zero o), fun o h => absurd h (Nat.not_lt_zero o), fun o h => absurd h (Nat.not_lt_zero o), Nat.zero_le _, Nat.zero_le _, Nat.zero_le _⟩
theorem Ow.lo {h h1 : Hp} {v u w : Vg} {g : Sg} {B : Nat → Int32} {z : Nat} {κ : Int32} (o : Ow h v u w g B z κ) (f : Lo 63 h h1) : Ow h1 v u w g B z κ :=
  o.mv f.fs (Or.inr ⟨rfl, fun b _ _ q => by omega⟩) (Or.inr ⟨rfl, fun b _ _ q => by omega⟩) (Or.inr ⟨rfl, fun b _ _ q => by omega⟩) (fun b _ _ q => by omega) (Or.inr (fun b _ _ q => by omega)) (Or.inr ⟨⟨rfl, rfl⟩, fun b _ _ q => by omega⟩) (Or.inr ⟨rfl, fun b _ _ q => by omega⟩) (Or.inr ⟨rfl, fun q => by omega⟩)
theorem GOk.row {g : Sg} (a : GOk g) (s t n : Int32) : GOk (rowG g s t n) := by
  unfold rowG
  by_cases q : rowB9 s t n = true
  · rw [if_pos q]
    unfold rowB9 at q
    simp only [Bool.and_eq_true] at q
    obtain ⟨σ, hσ, rfl⟩ := inR_ex (by omega) q.1
    obtain ⟨η, hη, rfl⟩ := inR_ex (by omega) q.2.1
    obtain ⟨ν, hν, rfl⟩ := inR_ex (by omega) q.2.2
    rw [clN (by omega), clN (by omega)]
    refine ⟨fun s hs => ?_, fun s hs => ?_⟩
    · show inR (sf (gZ g) σ (nI ν) s) 41 = true
      by_cases e : s = σ
      · subst e; rw [sf_at]; exact inN (by omega) hν
      · rw [sf_ne e]; exact a.1 s hs
    · show (sf (gT g) σ (nI η) s = -1) ∨ (∃ t, t < 5 ∧ sf (gT g) σ (nI η) s = nI t) ∨ (∃ κ b, 1 ≤ κ ∧ κ ≤ 5 ∧ b < 100 ∧ sf (gT g) σ (nI η) s = nI (10 + κ) ∧ gY g s = nI b)
      by_cases e : s = σ
      · subst e; rw [sf_at]; exact Or.inr (Or.inl ⟨η, hη, rfl⟩)
      · rw [sf_ne e]; exact a.2 s hs
  · rw [if_neg q]; exact a
theorem GOk.hld {g : Sg} (a : GOk g) (s k x : Int32) : GOk (hldG g s k x) := by
  unfold hldG
  by_cases q : hldB s k x = true
  · rw [if_pos q]
    rw [hldB_eq] at q
    simp only [Bool.and_eq_true] at q
    obtain ⟨σ, hσ, rfl⟩ := inR_ex (by omega) q.1
    obtain ⟨η, hη, hη2, rfl⟩ := btw_ex (by omega) (by omega) q.2.1
    obtain ⟨β, hβ, rfl⟩ := inR_ex (by omega) q.2.2
    rw [clN (by omega), clN (by omega), clN (by omega)]
    refine ⟨fun s hs => ?_, fun s hs => ?_⟩
    · show inR (sf (gZ g) σ (nI 0) s) 41 = true
      by_cases e : s = σ
      · subst e; rw [sf_at]; decide
      · rw [sf_ne e]; exact a.1 s hs
    · show (sf (gT g) σ (nI (10 + η)) s = -1) ∨ (∃ t, t < 5 ∧ sf (gT g) σ (nI (10 + η)) s = nI t) ∨ (∃ κ b, 1 ≤ κ ∧ κ ≤ 5 ∧ b < 100 ∧ sf (gT g) σ (nI (10 + η)) s = nI (10 + κ) ∧ sf (gY g) σ (nI β) s = nI b)
      by_cases e : s = σ
      · subst e; rw [sf_at, sf_at]; exact Or.inr (Or.inr ⟨η, β, hη, hη2, hβ, rfl, rfl⟩)
      · rw [sf_ne e, sf_ne e]; exact a.2 s hs
  · rw [if_neg q]; exact a
theorem GOk.set {g : Sg} (a : GOk g) (s i : Int32) (x : Int64) : GOk (setG g s i x) := by
  unfold setG
  by_cases q : setB g s i = true
  · rw [if_pos q]; unfold pEl
    split
    · exact a
    · exact a
  · rw [if_neg q]; exact a
theorem GOk.cop {g : Sg} (a : GOk g) (p q i j n : Int32) : GOk (copG g p q i j n) := by
  unfold copG
  split
  · exact a
  · exact a
theorem bk_eq {κ : Bool} : backA (b2i κ) = if κ then nI 1 else -5 := by cases κ <;> rfl
theorem sc6 {i L : Nat} (hi : i < 2 ^ 30) (hL : L < 2 ^ 30) (c : ¬ nI L - nI 6 < nI i) : i + 6 ≤ L := by
  rw [Int32.lt_iff_toInt_lt, nI_toInt (by omega)] at c
  have e : (nI L - nI 6).toInt = (L : Int) - 6 := by
    rw [Int32.toInt_sub, nI_toInt (by omega), nI_toInt (by omega)]
    exact Int.bmod_eq_of_le (by omega) (by omega)
  rw [e] at c; omega
theorem and63 (x : Int32) : ∃ j, j < 64 ∧ x &&& nI 63 = nI j := by
  obtain ⟨j, rfl⟩ := nI_ex x
  exact ⟨j &&& 63, by have : j &&& 63 ≤ 63 := Nat.and_le_right; omega, nI_and⟩
theorem ALall {κ τ : Bool} : AL P63 κ τ <+: AL P63 true true := AL_pre (fun _ => rfl) (fun _ => rfl)

/-- a new object of both -/
def St (h : Hp) : Prop := (∃ B, Ow h v00 v00 v00 g00 B 0 (b2i false)) ∧ xI h 0 10 = 0 ∧ xI h 0 11 = 0 ∧ (∀ i, xI h 62 i = 0) ∧ Md h P63 63 v00 g00 0 false false ∧ (∃ Bt, XT h 63 false v00 Bt) ∧ xI h 63 18 = 0 ∧ xI h 63 19 = 0 ∧ (∀ i, xI h (63 + 17) i = 0) ∧ (∀ i, xI h (63 + 1) i = 0)
theorem gk_00 : GOk g00 := ⟨fun s hs => by show inR (0 : Int32) 41 = true; decide, fun s hs => Or.inl rfl⟩

