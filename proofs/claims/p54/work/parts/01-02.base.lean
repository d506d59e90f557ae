section
-- ===== PART A: goes FIRST, ahead of the names: the tables' words, and 'selects' of the private methods out of them =====
/-- a private method of a class that the tables say can be made, by its rows of tables_1 -/
def lw_okq (q : MethodName × Nat) : Prop := (q.1.cls ≠ "java/lang/invoke/MethodHandle" ∧ q.1.cls ≠ "java/lang/invoke/VarHandle") ∧ Cond.instantiable q.1.cls q.2 ∈ tables_1 ∧ Cond.privateMethod q.1 ∈ tables_1 ∧ Cond.instanceMethod q.1 ∈ tables_1
theorem mt_1 {w : Cond} (i : Nat) (h : tables_1_1[i]? = some w) : w ∈ tables_1 := by
  have h1 := List.mem_of_getElem? h
  exact List.mem_append_left _ h1
theorem mt_2 {w : Cond} (i : Nat) (h : tables_1_2[i]? = some w) : w ∈ tables_1 := by
  have h1 := List.mem_of_getElem? h
  exact List.mem_append_right _ (List.mem_append_left _ h1)
theorem mt_3 {w : Cond} (i : Nat) (h : tables_1_3[i]? = some w) : w ∈ tables_1 := by
  have h1 := List.mem_of_getElem? h
  exact List.mem_append_right _ (List.mem_append_right _ (List.mem_append_left _ h1))
theorem mt_4 {w : Cond} (i : Nat) (h : tables_1_4[i]? = some w) : w ∈ tables_1 := by
  have h1 := List.mem_of_getElem? h
  exact List.mem_append_right _ (List.mem_append_right _ (List.mem_append_right _ (List.mem_append_left _ h1)))
theorem mt_5 {w : Cond} (i : Nat) (h : tables_1_5[i]? = some w) : w ∈ tables_1 := by
  have h1 := List.mem_of_getElem? h
  exact List.mem_append_right _ (List.mem_append_right _ (List.mem_append_right _ (List.mem_append_right _ (List.mem_append_left _ h1))))
theorem mt_6 {w : Cond} (i : Nat) (h : tables_1_6[i]? = some w) : w ∈ tables_1 := by
  have h1 := List.mem_of_getElem? h
  exact List.mem_append_right _ (List.mem_append_right _ (List.mem_append_right _ (List.mem_append_right _ (List.mem_append_right _ (List.mem_append_left _ h1)))))
theorem mt_7 {w : Cond} (i : Nat) (h : tables_1_7[i]? = some w) : w ∈ tables_1 := by
  have h1 := List.mem_of_getElem? h
  exact List.mem_append_right _ (List.mem_append_right _ (List.mem_append_right _ (List.mem_append_right _ (List.mem_append_right _ (List.mem_append_right _ (h1))))))
theorem lw_p0 : lw_okq (⟨"OnlyWhatFits", "refuse", "(I)I"⟩, 12) := ⟨⟨by decide +kernel, by decide +kernel⟩, mt_1 18 rfl, mt_2 15 rfl, mt_2 16 rfl⟩
theorem lw_p1 : lw_okq (⟨"OnlyWhatFits", "tryHolding", "(I)V"⟩, 12) := ⟨⟨by decide +kernel, by decide +kernel⟩, mt_1 18 rfl, mt_2 116 rfl, mt_2 117 rfl⟩
theorem lw_p2 : lw_okq (⟨"OnlyWhatFits$Rules", "giveWhole", "(LOnlyWhatFits$Village;I)V"⟩, 1) := ⟨⟨by decide +kernel, by decide +kernel⟩, mt_1 128 rfl, mt_2 129 rfl, mt_2 130 rfl⟩
theorem lw_p3 : lw_okq (⟨"OnlyWhatFits$Rules", "worthiest", "(LOnlyWhatFits$Village;I)I"⟩, 1) := ⟨⟨by decide +kernel, by decide +kernel⟩, mt_1 128 rfl, mt_2 133 rfl, mt_2 134 rfl⟩
theorem lw_p4 : lw_okq (⟨"OnlyWhatFits$Rules", "giveNeeds", "(LOnlyWhatFits$Village;II)V"⟩, 1) := ⟨⟨by decide +kernel, by decide +kernel⟩, mt_1 128 rfl, mt_2 137 rfl, mt_2 138 rfl⟩
theorem lw_p5 : lw_okq (⟨"OnlyWhatFits$Rules", "firstWithRoom", "(II)I"⟩, 1) := ⟨⟨by decide +kernel, by decide +kernel⟩, mt_1 128 rfl, mt_2 141 rfl, mt_2 142 rfl⟩
theorem lw_p6 : lw_okq (⟨"OnlyWhatFits$Rules", "taken", "(I)I"⟩, 1) := ⟨⟨by decide +kernel, by decide +kernel⟩, mt_1 128 rfl, mt_2 149 rfl, mt_2 150 rfl⟩
theorem lw_p7 : lw_okq (⟨"OnlyWhatFits$Rules", "giveRound", "(LOnlyWhatFits$Village;I)I"⟩, 1) := ⟨⟨by decide +kernel, by decide +kernel⟩, mt_1 128 rfl, mt_2 153 rfl, mt_2 154 rfl⟩
theorem lw_p8 : lw_okq (⟨"OnlyWhatFits$Rules", "nextWithRoom", "(LOnlyWhatFits$Village;II)I"⟩, 1) := ⟨⟨by decide +kernel, by decide +kernel⟩, mt_1 128 rfl, mt_2 157 rfl, mt_2 158 rfl⟩
theorem lw_p9 : lw_okq (⟨"OnlyWhatFits$Rules", "giveRoundAgain", "(LOnlyWhatFits$Village;I)V"⟩, 1) := ⟨⟨by decide +kernel, by decide +kernel⟩, mt_1 128 rfl, mt_2 161 rfl, mt_2 162 rfl⟩
theorem lw_p10 : lw_okq (⟨"OnlyWhatFits$Rules", "giveSure", "(LOnlyWhatFits$Village;)V"⟩, 1) := ⟨⟨by decide +kernel, by decide +kernel⟩, mt_1 128 rfl, mt_2 165 rfl, mt_2 166 rfl⟩
theorem lw_p11 : lw_okq (⟨"OnlyWhatFits$Tape", "step", "()V"⟩, 5) := ⟨⟨by decide +kernel, by decide +kernel⟩, mt_1 166 rfl, mt_3 29 rfl, mt_3 30 rfl⟩
theorem lw_p12 : lw_okq (⟨"OnlyWhatFits$Tape", "endOf", "(II)I"⟩, 5) := ⟨⟨by decide +kernel, by decide +kernel⟩, mt_1 166 rfl, mt_3 33 rfl, mt_3 34 rfl⟩
theorem lw_p13 : lw_okq (⟨"OnlyWhatFits$Tape", "byteAt", "(I)I"⟩, 5) := ⟨⟨by decide +kernel, by decide +kernel⟩, mt_1 166 rfl, mt_3 37 rfl, mt_3 38 rfl⟩
theorem lw_p14 : lw_okq (⟨"OnlyWhatFits$Tape", "readStatement", "(LOnlyWhatFits$Village;)Z"⟩, 5) := ⟨⟨by decide +kernel, by decide +kernel⟩, mt_1 166 rfl, mt_3 44 rfl, mt_3 45 rfl⟩
theorem lw_p15 : lw_okq (⟨"OnlyWhatFits$Tape", "isWord", "(Ljava/lang/String;)Z"⟩, 5) := ⟨⟨by decide +kernel, by decide +kernel⟩, mt_1 166 rfl, mt_3 49 rfl, mt_3 50 rfl⟩
def lw_privs_1 : List (MethodName × Nat) := [(⟨"OnlyWhatFits", "refuse", "(I)I"⟩, 12), (⟨"OnlyWhatFits", "tryHolding", "(I)V"⟩, 12), (⟨"OnlyWhatFits$Rules", "giveWhole", "(LOnlyWhatFits$Village;I)V"⟩, 1), (⟨"OnlyWhatFits$Rules", "worthiest", "(LOnlyWhatFits$Village;I)I"⟩, 1), (⟨"OnlyWhatFits$Rules", "giveNeeds", "(LOnlyWhatFits$Village;II)V"⟩, 1), (⟨"OnlyWhatFits$Rules", "firstWithRoom", "(II)I"⟩, 1), (⟨"OnlyWhatFits$Rules", "taken", "(I)I"⟩, 1), (⟨"OnlyWhatFits$Rules", "giveRound", "(LOnlyWhatFits$Village;I)I"⟩, 1), (⟨"OnlyWhatFits$Rules", "nextWithRoom", "(LOnlyWhatFits$Village;II)I"⟩, 1), (⟨"OnlyWhatFits$Rules", "giveRoundAgain", "(LOnlyWhatFits$Village;I)V"⟩, 1), (⟨"OnlyWhatFits$Rules", "giveSure", "(LOnlyWhatFits$Village;)V"⟩, 1), (⟨"OnlyWhatFits$Tape", "step", "()V"⟩, 5), (⟨"OnlyWhatFits$Tape", "endOf", "(II)I"⟩, 5), (⟨"OnlyWhatFits$Tape", "byteAt", "(I)I"⟩, 5), (⟨"OnlyWhatFits$Tape", "readStatement", "(LOnlyWhatFits$Village;)Z"⟩, 5), (⟨"OnlyWhatFits$Tape", "isWord", "(Ljava/lang/String;)Z"⟩, 5)]
theorem lw_r1 : ∀ q ∈ lw_privs_1, lw_okq q := List.forall_mem_cons.mpr ⟨lw_p0, List.forall_mem_cons.mpr ⟨lw_p1, List.forall_mem_cons.mpr ⟨lw_p2, List.forall_mem_cons.mpr ⟨lw_p3, List.forall_mem_cons.mpr ⟨lw_p4, List.forall_mem_cons.mpr ⟨lw_p5, List.forall_mem_cons.mpr ⟨lw_p6, List.forall_mem_cons.mpr ⟨lw_p7, List.forall_mem_cons.mpr ⟨lw_p8, List.forall_mem_cons.mpr ⟨lw_p9, List.forall_mem_cons.mpr ⟨lw_p10, List.forall_mem_cons.mpr ⟨lw_p11, List.forall_mem_cons.mpr ⟨lw_p12, List.forall_mem_cons.mpr ⟨lw_p13, List.forall_mem_cons.mpr ⟨lw_p14, List.forall_mem_cons.mpr ⟨lw_p15, fun _ h => absurd h List.not_mem_nil⟩⟩⟩⟩⟩⟩⟩⟩⟩⟩⟩⟩⟩⟩⟩⟩
theorem lw_p16 : lw_okq (⟨"OnlyWhatFits$Tape", "readPart", "(LOnlyWhatFits$Village;)Z"⟩, 5) := ⟨⟨by decide +kernel, by decide +kernel⟩, mt_1 166 rfl, mt_3 101 rfl, mt_3 102 rfl⟩
theorem lw_p17 : lw_okq (⟨"OnlyWhatFits$Tape", "numberIn", "(II)I"⟩, 5) := ⟨⟨by decide +kernel, by decide +kernel⟩, mt_1 166 rfl, mt_3 107 rfl, mt_3 108 rfl⟩
theorem lw_p18 : lw_okq (⟨"OnlyWhatFits$Tape", "readMachine", "(LOnlyWhatFits$Village;)Z"⟩, 5) := ⟨⟨by decide +kernel, by decide +kernel⟩, mt_1 166 rfl, mt_3 114 rfl, mt_3 115 rfl⟩
theorem lw_p19 : lw_okq (⟨"OnlyWhatFits$Tape", "readOne", "(LOnlyWhatFits$Village;)Z"⟩, 5) := ⟨⟨by decide +kernel, by decide +kernel⟩, mt_1 166 rfl, mt_3 122 rfl, mt_3 123 rfl⟩
theorem lw_p20 : lw_okq (⟨"OnlyWhatFits$Tape", "readGives", "(LOnlyWhatFits$Village;)Z"⟩, 5) := ⟨⟨by decide +kernel, by decide +kernel⟩, mt_1 166 rfl, mt_3 130 rfl, mt_3 131 rfl⟩
theorem lw_p21 : lw_okq (⟨"OnlyWhatFits$Teams", "ordersOf", "(I)I"⟩, 3) := ⟨⟨by decide +kernel, by decide +kernel⟩, mt_1 111 rfl, mt_4 24 rfl, mt_4 25 rfl⟩
theorem lw_p22 : lw_okq (⟨"OnlyWhatFits", "isTooBigForBest", "()Z"⟩, 12) := ⟨⟨by decide +kernel, by decide +kernel⟩, mt_1 18 rfl, mt_4 54 rfl, mt_4 55 rfl⟩
theorem lw_p23 : lw_okq (⟨"OnlyWhatFits$Search", "oddsThatAllCome", "(LOnlyWhatFits$Village;I)J"⟩, 6) := ⟨⟨by decide +kernel, by decide +kernel⟩, mt_1 138 rfl, mt_4 62 rfl, mt_4 63 rfl⟩
theorem lw_p24 : lw_okq (⟨"OnlyWhatFits$Search", "weigh", "(LOnlyWhatFits$Village;I)V"⟩, 6) := ⟨⟨by decide +kernel, by decide +kernel⟩, mt_1 138 rfl, mt_4 70 rfl, mt_4 71 rfl⟩
theorem lw_p25 : lw_okq (⟨"OnlyWhatFits$Search", "take", "(LOnlyWhatFits$Village;II)V"⟩, 6) := ⟨⟨by decide +kernel, by decide +kernel⟩, mt_1 138 rfl, mt_4 75 rfl, mt_4 76 rfl⟩
theorem lw_p26 : lw_okq (⟨"OnlyWhatFits", "toldFault", "(II)I"⟩, 12) := ⟨⟨by decide +kernel, by decide +kernel⟩, mt_1 18 rfl, mt_4 193 rfl, mt_4 194 rfl⟩
theorem lw_p27 : lw_okq (⟨"OnlyWhatFits", "partsOnToldDay", "(II)I"⟩, 12) := ⟨⟨by decide +kernel, by decide +kernel⟩, mt_1 18 rfl, mt_4 197 rfl, mt_4 198 rfl⟩
theorem lw_p28 : lw_okq (⟨"OnlyWhatFitsModel", "refuse", "(I)I"⟩, 32) := ⟨⟨by decide +kernel, by decide +kernel⟩, mt_5 5 rfl, mt_5 120 rfl, mt_5 121 rfl⟩
theorem lw_p29 : lw_okq (⟨"OnlyWhatFitsModel", "noRow", "(I)I"⟩, 32) := ⟨⟨by decide +kernel, by decide +kernel⟩, mt_5 5 rfl, mt_5 128 rfl, mt_5 129 rfl⟩
theorem lw_p30 : lw_okq (⟨"OnlyWhatFitsModel", "fresh", "()LOnlyWhatFitsModel;"⟩, 32) := ⟨⟨by decide +kernel, by decide +kernel⟩, mt_5 5 rfl, mt_5 160 rfl, mt_5 161 rfl⟩
theorem lw_p31 : lw_okq (⟨"OnlyWhatFitsModel", "takeFrom", "(LOnlyWhatFitsModel;)V"⟩, 32) := ⟨⟨by decide +kernel, by decide +kernel⟩, mt_5 5 rfl, mt_5 166 rfl, mt_5 167 rfl⟩
def lw_privs_2 : List (MethodName × Nat) := [(⟨"OnlyWhatFits$Tape", "readPart", "(LOnlyWhatFits$Village;)Z"⟩, 5), (⟨"OnlyWhatFits$Tape", "numberIn", "(II)I"⟩, 5), (⟨"OnlyWhatFits$Tape", "readMachine", "(LOnlyWhatFits$Village;)Z"⟩, 5), (⟨"OnlyWhatFits$Tape", "readOne", "(LOnlyWhatFits$Village;)Z"⟩, 5), (⟨"OnlyWhatFits$Tape", "readGives", "(LOnlyWhatFits$Village;)Z"⟩, 5), (⟨"OnlyWhatFits$Teams", "ordersOf", "(I)I"⟩, 3), (⟨"OnlyWhatFits", "isTooBigForBest", "()Z"⟩, 12), (⟨"OnlyWhatFits$Search", "oddsThatAllCome", "(LOnlyWhatFits$Village;I)J"⟩, 6), (⟨"OnlyWhatFits$Search", "weigh", "(LOnlyWhatFits$Village;I)V"⟩, 6), (⟨"OnlyWhatFits$Search", "take", "(LOnlyWhatFits$Village;II)V"⟩, 6), (⟨"OnlyWhatFits", "toldFault", "(II)I"⟩, 12), (⟨"OnlyWhatFits", "partsOnToldDay", "(II)I"⟩, 12), (⟨"OnlyWhatFitsModel", "refuse", "(I)I"⟩, 32), (⟨"OnlyWhatFitsModel", "noRow", "(I)I"⟩, 32), (⟨"OnlyWhatFitsModel", "fresh", "()LOnlyWhatFitsModel;"⟩, 32), (⟨"OnlyWhatFitsModel", "takeFrom", "(LOnlyWhatFitsModel;)V"⟩, 32)]
theorem lw_r2 : ∀ q ∈ lw_privs_2, lw_okq q := List.forall_mem_cons.mpr ⟨lw_p16, List.forall_mem_cons.mpr ⟨lw_p17, List.forall_mem_cons.mpr ⟨lw_p18, List.forall_mem_cons.mpr ⟨lw_p19, List.forall_mem_cons.mpr ⟨lw_p20, List.forall_mem_cons.mpr ⟨lw_p21, List.forall_mem_cons.mpr ⟨lw_p22, List.forall_mem_cons.mpr ⟨lw_p23, List.forall_mem_cons.mpr ⟨lw_p24, List.forall_mem_cons.mpr ⟨lw_p25, List.forall_mem_cons.mpr ⟨lw_p26, List.forall_mem_cons.mpr ⟨lw_p27, List.forall_mem_cons.mpr ⟨lw_p28, List.forall_mem_cons.mpr ⟨lw_p29, List.forall_mem_cons.mpr ⟨lw_p30, List.forall_mem_cons.mpr ⟨lw_p31, fun _ h => absurd h List.not_mem_nil⟩⟩⟩⟩⟩⟩⟩⟩⟩⟩⟩⟩⟩⟩⟩⟩
theorem lw_p32 : lw_okq (⟨"OnlyWhatFitsModel", "holdAll", "(II)V"⟩, 32) := ⟨⟨by decide +kernel, by decide +kernel⟩, mt_5 5 rfl, mt_5 173 rfl, mt_5 174 rfl⟩
theorem lw_p33 : lw_okq (⟨"OnlyWhatFitsModel", "holdWhole", "(I)V"⟩, 32) := ⟨⟨by decide +kernel, by decide +kernel⟩, mt_5 5 rfl, mt_5 177 rfl, mt_5 178 rfl⟩
theorem lw_p34 : lw_okq (⟨"OnlyWhatFitsModel", "firstWithRoom", "(II)I"⟩, 32) := ⟨⟨by decide +kernel, by decide +kernel⟩, mt_5 5 rfl, mt_5 184 rfl, mt_5 185 rfl⟩
theorem lw_p35 : lw_okq (⟨"OnlyWhatFitsModel", "hasRoom", "(I)Z"⟩, 32) := ⟨⟨by decide +kernel, by decide +kernel⟩, mt_5 5 rfl, mt_5 188 rfl, mt_5 189 rfl⟩
theorem lw_p36 : lw_okq (⟨"OnlyWhatFitsModel", "piecesOf", "(I)I"⟩, 32) := ⟨⟨by decide +kernel, by decide +kernel⟩, mt_5 5 rfl, mt_5 192 rfl, mt_5 193 rfl⟩
theorem lw_p37 : lw_okq (⟨"OnlyWhatFitsModel", "surest", "()I"⟩, 32) := ⟨⟨by decide +kernel, by decide +kernel⟩, mt_5 5 rfl, mt_5 196 rfl, mt_5 197 rfl⟩
theorem lw_p38 : lw_okq (⟨"OnlyWhatFitsModel", "nextWithRoom", "(II)I"⟩, 32) := ⟨⟨by decide +kernel, by decide +kernel⟩, mt_5 5 rfl, mt_5 200 rfl, mt_5 201 rfl⟩
theorem lw_p39 : lw_okq (⟨"OnlyWhatFitsModel", "held", "(Z)I"⟩, 32) := ⟨⟨by decide +kernel, by decide +kernel⟩, mt_5 5 rfl, mt_5 204 rfl, mt_5 205 rfl⟩
theorem lw_p40 : lw_okq (⟨"OnlyWhatFitsModel", "newOne", "()V"⟩, 32) := ⟨⟨by decide +kernel, by decide +kernel⟩, mt_5 5 rfl, mt_5 222 rfl, mt_5 223 rfl⟩
theorem lw_p41 : lw_okq (⟨"OnlyWhatFitsModel", "isOne", "(I)Z"⟩, 32) := ⟨⟨by decide +kernel, by decide +kernel⟩, mt_5 5 rfl, mt_5 230 rfl, mt_5 231 rfl⟩
theorem lw_p42 : lw_okq (⟨"OnlyWhatFitsModel", "isPart", "(I)Z"⟩, 32) := ⟨⟨by decide +kernel, by decide +kernel⟩, mt_5 5 rfl, mt_6 2 rfl, mt_6 3 rfl⟩
theorem lw_p43 : lw_okq (⟨"OnlyWhatFitsModel", "readAll", "()Z"⟩, 32) := ⟨⟨by decide +kernel, by decide +kernel⟩, mt_5 5 rfl, mt_6 18 rfl, mt_6 19 rfl⟩
theorem lw_p44 : lw_okq (⟨"OnlyWhatFitsModel", "look", "()V"⟩, 32) := ⟨⟨by decide +kernel, by decide +kernel⟩, mt_5 5 rfl, mt_6 22 rfl, mt_6 23 rfl⟩
theorem lw_p45 : lw_okq (⟨"OnlyWhatFitsModel", "statement", "()Z"⟩, 32) := ⟨⟨by decide +kernel, by decide +kernel⟩, mt_5 5 rfl, mt_6 34 rfl, mt_6 35 rfl⟩
theorem lw_p46 : lw_okq (⟨"OnlyWhatFitsModel", "isWord", "(Ljava/lang/String;)Z"⟩, 32) := ⟨⟨by decide +kernel, by decide +kernel⟩, mt_5 5 rfl, mt_6 39 rfl, mt_6 40 rfl⟩
theorem lw_p47 : lw_okq (⟨"OnlyWhatFitsModel", "partTold", "()Z"⟩, 32) := ⟨⟨by decide +kernel, by decide +kernel⟩, mt_5 5 rfl, mt_6 45 rfl, mt_6 46 rfl⟩
def lw_privs_3 : List (MethodName × Nat) := [(⟨"OnlyWhatFitsModel", "holdAll", "(II)V"⟩, 32), (⟨"OnlyWhatFitsModel", "holdWhole", "(I)V"⟩, 32), (⟨"OnlyWhatFitsModel", "firstWithRoom", "(II)I"⟩, 32), (⟨"OnlyWhatFitsModel", "hasRoom", "(I)Z"⟩, 32), (⟨"OnlyWhatFitsModel", "piecesOf", "(I)I"⟩, 32), (⟨"OnlyWhatFitsModel", "surest", "()I"⟩, 32), (⟨"OnlyWhatFitsModel", "nextWithRoom", "(II)I"⟩, 32), (⟨"OnlyWhatFitsModel", "held", "(Z)I"⟩, 32), (⟨"OnlyWhatFitsModel", "newOne", "()V"⟩, 32), (⟨"OnlyWhatFitsModel", "isOne", "(I)Z"⟩, 32), (⟨"OnlyWhatFitsModel", "isPart", "(I)Z"⟩, 32), (⟨"OnlyWhatFitsModel", "readAll", "()Z"⟩, 32), (⟨"OnlyWhatFitsModel", "look", "()V"⟩, 32), (⟨"OnlyWhatFitsModel", "statement", "()Z"⟩, 32), (⟨"OnlyWhatFitsModel", "isWord", "(Ljava/lang/String;)Z"⟩, 32), (⟨"OnlyWhatFitsModel", "partTold", "()Z"⟩, 32)]
theorem lw_r3 : ∀ q ∈ lw_privs_3, lw_okq q := List.forall_mem_cons.mpr ⟨lw_p32, List.forall_mem_cons.mpr ⟨lw_p33, List.forall_mem_cons.mpr ⟨lw_p34, List.forall_mem_cons.mpr ⟨lw_p35, List.forall_mem_cons.mpr ⟨lw_p36, List.forall_mem_cons.mpr ⟨lw_p37, List.forall_mem_cons.mpr ⟨lw_p38, List.forall_mem_cons.mpr ⟨lw_p39, List.forall_mem_cons.mpr ⟨lw_p40, List.forall_mem_cons.mpr ⟨lw_p41, List.forall_mem_cons.mpr ⟨lw_p42, List.forall_mem_cons.mpr ⟨lw_p43, List.forall_mem_cons.mpr ⟨lw_p44, List.forall_mem_cons.mpr ⟨lw_p45, List.forall_mem_cons.mpr ⟨lw_p46, List.forall_mem_cons.mpr ⟨lw_p47, fun _ h => absurd h List.not_mem_nil⟩⟩⟩⟩⟩⟩⟩⟩⟩⟩⟩⟩⟩⟩⟩⟩
theorem lw_p48 : lw_okq (⟨"OnlyWhatFitsModel", "gets", "(IZ)Z"⟩, 32) := ⟨⟨by decide +kernel, by decide +kernel⟩, mt_5 5 rfl, mt_6 51 rfl, mt_6 52 rfl⟩
theorem lw_p49 : lw_okq (⟨"OnlyWhatFitsModel", "wrong", "()Z"⟩, 32) := ⟨⟨by decide +kernel, by decide +kernel⟩, mt_5 5 rfl, mt_6 55 rfl, mt_6 56 rfl⟩
theorem lw_p50 : lw_okq (⟨"OnlyWhatFitsModel", "machineTold", "()Z"⟩, 32) := ⟨⟨by decide +kernel, by decide +kernel⟩, mt_5 5 rfl, mt_6 61 rfl, mt_6 62 rfl⟩
theorem lw_p51 : lw_okq (⟨"OnlyWhatFitsModel", "tells", "(Ljava/lang/String;II)Z"⟩, 32) := ⟨⟨by decide +kernel, by decide +kernel⟩, mt_5 5 rfl, mt_6 65 rfl, mt_6 66 rfl⟩
theorem lw_p52 : lw_okq (⟨"OnlyWhatFitsModel", "number", "(II)Z"⟩, 32) := ⟨⟨by decide +kernel, by decide +kernel⟩, mt_5 5 rfl, mt_6 69 rfl, mt_6 70 rfl⟩
theorem lw_p53 : lw_okq (⟨"OnlyWhatFitsModel", "isMachine", "(I)Z"⟩, 32) := ⟨⟨by decide +kernel, by decide +kernel⟩, mt_5 5 rfl, mt_6 87 rfl, mt_6 88 rfl⟩
theorem lw_p54 : lw_okq (⟨"OnlyWhatFitsModel", "all", "()I"⟩, 32) := ⟨⟨by decide +kernel, by decide +kernel⟩, mt_5 5 rfl, mt_6 99 rfl, mt_6 100 rfl⟩
theorem lw_p55 : lw_okq (⟨"OnlyWhatFitsModel", "hasOf", "(I)I"⟩, 32) := ⟨⟨by decide +kernel, by decide +kernel⟩, mt_5 5 rfl, mt_6 103 rfl, mt_6 104 rfl⟩
theorem lw_p56 : lw_okq (⟨"OnlyWhatFitsModel", "worksOf", "(II)Z"⟩, 32) := ⟨⟨by decide +kernel, by decide +kernel⟩, mt_5 5 rfl, mt_6 111 rfl, mt_6 112 rfl⟩
theorem lw_p57 : lw_okq (⟨"OnlyWhatFitsModel", "bothOf", "(III)Z"⟩, 32) := ⟨⟨by decide +kernel, by decide +kernel⟩, mt_5 5 rfl, mt_6 119 rfl, mt_6 120 rfl⟩
theorem lw_p58 : lw_okq (⟨"OnlyWhatFitsModel", "sumOf", "(II)J"⟩, 32) := ⟨⟨by decide +kernel, by decide +kernel⟩, mt_5 5 rfl, mt_6 127 rfl, mt_6 128 rfl⟩
theorem lw_p59 : lw_okq (⟨"OnlyWhatFitsModel", "oddsOf", "(I)J"⟩, 32) := ⟨⟨by decide +kernel, by decide +kernel⟩, mt_5 5 rfl, mt_6 131 rfl, mt_6 132 rfl⟩
theorem lw_p60 : lw_okq (⟨"OnlyWhatFitsModel", "powerOf", "(II)I"⟩, 32) := ⟨⟨by decide +kernel, by decide +kernel⟩, mt_5 5 rfl, mt_6 147 rfl, mt_6 148 rfl⟩
theorem lw_p61 : lw_okq (⟨"OnlyWhatFitsModel", "noHolding", "(I)I"⟩, 32) := ⟨⟨by decide +kernel, by decide +kernel⟩, mt_5 5 rfl, mt_6 165 rfl, mt_6 166 rfl⟩
theorem lw_p62 : lw_okq (⟨"OnlyWhatFitsModel", "wouldBy", "(I)J"⟩, 32) := ⟨⟨by decide +kernel, by decide +kernel⟩, mt_5 5 rfl, mt_6 173 rfl, mt_6 174 rfl⟩
theorem lw_p63 : lw_okq (⟨"OnlyWhatFitsModel", "findBest", "()Z"⟩, 32) := ⟨⟨by decide +kernel, by decide +kernel⟩, mt_5 5 rfl, mt_6 186 rfl, mt_6 187 rfl⟩
def lw_privs_4 : List (MethodName × Nat) := [(⟨"OnlyWhatFitsModel", "gets", "(IZ)Z"⟩, 32), (⟨"OnlyWhatFitsModel", "wrong", "()Z"⟩, 32), (⟨"OnlyWhatFitsModel", "machineTold", "()Z"⟩, 32), (⟨"OnlyWhatFitsModel", "tells", "(Ljava/lang/String;II)Z"⟩, 32), (⟨"OnlyWhatFitsModel", "number", "(II)Z"⟩, 32), (⟨"OnlyWhatFitsModel", "isMachine", "(I)Z"⟩, 32), (⟨"OnlyWhatFitsModel", "all", "()I"⟩, 32), (⟨"OnlyWhatFitsModel", "hasOf", "(I)I"⟩, 32), (⟨"OnlyWhatFitsModel", "worksOf", "(II)Z"⟩, 32), (⟨"OnlyWhatFitsModel", "bothOf", "(III)Z"⟩, 32), (⟨"OnlyWhatFitsModel", "sumOf", "(II)J"⟩, 32), (⟨"OnlyWhatFitsModel", "oddsOf", "(I)J"⟩, 32), (⟨"OnlyWhatFitsModel", "powerOf", "(II)I"⟩, 32), (⟨"OnlyWhatFitsModel", "noHolding", "(I)I"⟩, 32), (⟨"OnlyWhatFitsModel", "wouldBy", "(I)J"⟩, 32), (⟨"OnlyWhatFitsModel", "findBest", "()Z"⟩, 32)]
theorem lw_r4 : ∀ q ∈ lw_privs_4, lw_okq q := List.forall_mem_cons.mpr ⟨lw_p48, List.forall_mem_cons.mpr ⟨lw_p49, List.forall_mem_cons.mpr ⟨lw_p50, List.forall_mem_cons.mpr ⟨lw_p51, List.forall_mem_cons.mpr ⟨lw_p52, List.forall_mem_cons.mpr ⟨lw_p53, List.forall_mem_cons.mpr ⟨lw_p54, List.forall_mem_cons.mpr ⟨lw_p55, List.forall_mem_cons.mpr ⟨lw_p56, List.forall_mem_cons.mpr ⟨lw_p57, List.forall_mem_cons.mpr ⟨lw_p58, List.forall_mem_cons.mpr ⟨lw_p59, List.forall_mem_cons.mpr ⟨lw_p60, List.forall_mem_cons.mpr ⟨lw_p61, List.forall_mem_cons.mpr ⟨lw_p62, List.forall_mem_cons.mpr ⟨lw_p63, fun _ h => absurd h List.not_mem_nil⟩⟩⟩⟩⟩⟩⟩⟩⟩⟩⟩⟩⟩⟩⟩⟩
theorem lw_p64 : lw_okq (⟨"OnlyWhatFitsModel", "tryFrom", "(LOnlyWhatFitsModel;I)V"⟩, 32) := ⟨⟨by decide +kernel, by decide +kernel⟩, mt_5 5 rfl, mt_6 191 rfl, mt_6 192 rfl⟩
theorem lw_p65 : lw_okq (⟨"OnlyWhatFitsModel", "worstOf", "(I)I"⟩, 32) := ⟨⟨by decide +kernel, by decide +kernel⟩, mt_5 5 rfl, mt_6 203 rfl, mt_6 204 rfl⟩
theorem lw_p66 : lw_okq (⟨"OnlyWhatFitsModel", "crossOnes", "()I"⟩, 32) := ⟨⟨by decide +kernel, by decide +kernel⟩, mt_5 5 rfl, mt_6 207 rfl, mt_6 208 rfl⟩
theorem lw_p67 : lw_okq (⟨"OnlyWhatFitsModel", "anyWorks", "(II)Z"⟩, 32) := ⟨⟨by decide +kernel, by decide +kernel⟩, mt_5 5 rfl, mt_6 219 rfl, mt_6 220 rfl⟩
theorem lw_p68 : lw_okq (⟨"OnlyWhatFitsModel", "noTold", "(II)I"⟩, 32) := ⟨⟨by decide +kernel, by decide +kernel⟩, mt_5 5 rfl, mt_7 37 rfl, mt_7 38 rfl⟩
theorem lw_p69 : lw_okq (⟨"OnlyWhatFitsModel", "comeOn", "(II)I"⟩, 32) := ⟨⟨by decide +kernel, by decide +kernel⟩, mt_5 5 rfl, mt_7 42 rfl, mt_7 43 rfl⟩
theorem lw_p70 : lw_okq (⟨"OnlyWhatFitsModel", "goes", "()I"⟩, 32) := ⟨⟨by decide +kernel, by decide +kernel⟩, mt_5 5 rfl, mt_7 55 rfl, mt_7 56 rfl⟩
theorem lw_p71 : lw_okq (⟨"OnlyWhatFitsModel", "draw", "(I)I"⟩, 32) := ⟨⟨by decide +kernel, by decide +kernel⟩, mt_5 5 rfl, mt_7 59 rfl, mt_7 60 rfl⟩
def lw_privs_5 : List (MethodName × Nat) := [(⟨"OnlyWhatFitsModel", "tryFrom", "(LOnlyWhatFitsModel;I)V"⟩, 32), (⟨"OnlyWhatFitsModel", "worstOf", "(I)I"⟩, 32), (⟨"OnlyWhatFitsModel", "crossOnes", "()I"⟩, 32), (⟨"OnlyWhatFitsModel", "anyWorks", "(II)Z"⟩, 32), (⟨"OnlyWhatFitsModel", "noTold", "(II)I"⟩, 32), (⟨"OnlyWhatFitsModel", "comeOn", "(II)I"⟩, 32), (⟨"OnlyWhatFitsModel", "goes", "()I"⟩, 32), (⟨"OnlyWhatFitsModel", "draw", "(I)I"⟩, 32)]
theorem lw_r5 : ∀ q ∈ lw_privs_5, lw_okq q := List.forall_mem_cons.mpr ⟨lw_p64, List.forall_mem_cons.mpr ⟨lw_p65, List.forall_mem_cons.mpr ⟨lw_p66, List.forall_mem_cons.mpr ⟨lw_p67, List.forall_mem_cons.mpr ⟨lw_p68, List.forall_mem_cons.mpr ⟨lw_p69, List.forall_mem_cons.mpr ⟨lw_p70, List.forall_mem_cons.mpr ⟨lw_p71, fun _ h => absurd h List.not_mem_nil⟩⟩⟩⟩⟩⟩⟩⟩
def lw_privs : List (MethodName × Nat) := lw_privs_1 ++ (lw_privs_2 ++ (lw_privs_3 ++ (lw_privs_4 ++ (lw_privs_5))))
def lw_tbl : List Cond := k2_sels lw_privs ++ tables_1
theorem lw_privs_ok : ∀ q ∈ lw_privs, lw_okq q := by
  show ∀ q ∈ lw_privs_1 ++ (lw_privs_2 ++ (lw_privs_3 ++ (lw_privs_4 ++ (lw_privs_5)))), lw_okq q
  exact List.forall_mem_append.mpr ⟨lw_r1, List.forall_mem_append.mpr ⟨lw_r2, List.forall_mem_append.mpr ⟨lw_r3, List.forall_mem_append.mpr ⟨lw_r4, lw_r5⟩⟩⟩⟩
def RX0 : String := "OnlyWhatFits$Rules"
def TX0 : u_T := fun k => match k with
  | _ => ("OnlyWhatFits$Rules", "room", "[I", true)
def tyX0 : Nat → FieldType := fun k => match k with
  | _ => .array .int
theorem nmX0 : ∀ a, a < 1 → ∀ b, b < 1 → a ≠ b → (TX0 a).2.1 ≠ (TX0 b).2.1 := by decide +kernel
theorem tyX0_ok : ∀ k, k < 1 → parseFieldDescriptor (TX0 k).2.2.1 = some (tyX0 k) := by decide +kernel
abbrev cX0_init : ByteArray := prog_2_method_1_code
def yX0_init : MethodName := ⟨RX0, "<init>", "()V"⟩
abbrev cX0_tellAnew : ByteArray := prog_2_method_2_code
def yX0_tellAnew : MethodName := ⟨RX0, "tellAnew", "(LOnlyWhatFits$Village;II)V"⟩
abbrev cX0_giveWhole : ByteArray := prog_2_method_3_code
def yX0_giveWhole : MethodName := ⟨RX0, "giveWhole", "(LOnlyWhatFits$Village;I)V"⟩
abbrev cX0_worthiest : ByteArray := prog_2_method_4_code
def yX0_worthiest : MethodName := ⟨RX0, "worthiest", "(LOnlyWhatFits$Village;I)I"⟩
abbrev cX0_giveNeeds : ByteArray := prog_2_method_5_code
def yX0_giveNeeds : MethodName := ⟨RX0, "giveNeeds", "(LOnlyWhatFits$Village;II)V"⟩
abbrev cX0_firstWithRoom : ByteArray := prog_2_method_6_code
def yX0_firstWithRoom : MethodName := ⟨RX0, "firstWithRoom", "(II)I"⟩
abbrev cX0_taken : ByteArray := prog_2_method_7_code
def yX0_taken : MethodName := ⟨RX0, "taken", "(I)I"⟩
abbrev cX0_giveRound : ByteArray := prog_2_method_8_code
def yX0_giveRound : MethodName := ⟨RX0, "giveRound", "(LOnlyWhatFits$Village;I)I"⟩
abbrev cX0_giveRoundAgain : ByteArray := prog_2_method_9_code
def yX0_giveRoundAgain : MethodName := ⟨RX0, "giveRoundAgain", "(LOnlyWhatFits$Village;I)V"⟩
abbrev cX0_nextWithRoom : ByteArray := prog_2_method_10_code
def yX0_nextWithRoom : MethodName := ⟨RX0, "nextWithRoom", "(LOnlyWhatFits$Village;II)I"⟩
abbrev cX0_giveSure : ByteArray := prog_2_method_11_code
def yX0_giveSure : MethodName := ⟨RX0, "giveSure", "(LOnlyWhatFits$Village;)V"⟩
def RX1 : String := "OnlyWhatFits$Search"
def TX1 : u_T := fun k => match k with
  | 0 => ("OnlyWhatFits$Search", "chosen", "[I", true)
  | 1 => ("OnlyWhatFits$Search", "greatest", "[I", true)
  | 2 => ("OnlyWhatFits$Search", "room", "[I", true)
  | 3 => ("OnlyWhatFits$Search", "owners", "[[I", true)
  | 4 => ("OnlyWhatFits$Search", "odds", "[J", true)
  | _ => ("OnlyWhatFits$Search", "most", "J", false)
def tyX1 : Nat → FieldType := fun k => match k with
  | 0 => .array .int
  | 1 => .array .int
  | 2 => .array .int
  | 3 => .array (.array .int)
  | 4 => .array .long
  | _ => .long
theorem nmX1 : ∀ a, a < 6 → ∀ b, b < 6 → a ≠ b → (TX1 a).2.1 ≠ (TX1 b).2.1 := by decide +kernel
theorem tyX1_ok : ∀ k, k < 6 → parseFieldDescriptor (TX1 k).2.2.1 = some (tyX1 k) := by decide +kernel
abbrev cX1_init : ByteArray := prog_3_method_1_code
def yX1_init : MethodName := ⟨RX1, "<init>", "()V"⟩
abbrev cX1_run : ByteArray := prog_3_method_2_code
def yX1_run : MethodName := ⟨RX1, "run", "(LOnlyWhatFits$Village;)V"⟩
abbrev cX1_holderOf : ByteArray := prog_3_method_3_code
def yX1_holderOf : MethodName := ⟨RX1, "holderOf", "(I)I"⟩
abbrev cX1_greatestDay : ByteArray := prog_3_method_4_code
def yX1_greatestDay : MethodName := ⟨RX1, "greatestDay", "()J"⟩
abbrev cX1_oddsThatAllCome : ByteArray := prog_3_method_5_code
def yX1_oddsThatAllCome : MethodName := ⟨RX1, "oddsThatAllCome", "(LOnlyWhatFits$Village;I)J"⟩
abbrev cX1_choose : ByteArray := prog_3_method_6_code
def yX1_choose : MethodName := ⟨RX1, "choose", "(LOnlyWhatFits$Search;LOnlyWhatFits$Village;I)V"⟩
abbrev cX1_take : ByteArray := prog_3_method_7_code
def yX1_take : MethodName := ⟨RX1, "take", "(LOnlyWhatFits$Village;II)V"⟩
abbrev cX1_weigh : ByteArray := prog_3_method_8_code
def yX1_weigh : MethodName := ⟨RX1, "weigh", "(LOnlyWhatFits$Village;I)V"⟩
def RX2 : String := "OnlyWhatFits$Shelves"
def TX2 : u_T := fun k => match k with
  | 0 => ("OnlyWhatFits$Shelves", "thing", "[I", true)
  | 1 => ("OnlyWhatFits$Shelves", "size", "[I", true)
  | 2 => ("OnlyWhatFits$Shelves", "elements", "[[J", true)
  | _ => ("OnlyWhatFits$Shelves", "by", "[I", true)
def tyX2 : Nat → FieldType := fun k => match k with
  | 0 => .array .int
  | 1 => .array .int
  | 2 => .array (.array .long)
  | _ => .array .int
theorem nmX2 : ∀ a, a < 4 → ∀ b, b < 4 → a ≠ b → (TX2 a).2.1 ≠ (TX2 b).2.1 := by decide +kernel
theorem tyX2_ok : ∀ k, k < 4 → parseFieldDescriptor (TX2 k).2.2.1 = some (tyX2 k) := by decide +kernel
abbrev cX2_init : ByteArray := prog_4_method_1_code
def yX2_init : MethodName := ⟨RX2, "<init>", "()V"⟩
abbrev cX2_isShelf : ByteArray := prog_4_method_2_code
def yX2_isShelf : MethodName := ⟨RX2, "isShelf", "(I)Z"⟩
abbrev cX2_thingOn : ByteArray := prog_4_method_3_code
def yX2_thingOn : MethodName := ⟨RX2, "thingOn", "(I)I"⟩
abbrev cX2_isBare : ByteArray := prog_4_method_4_code
def yX2_isBare : MethodName := ⟨RX2, "isBare", "(I)Z"⟩
abbrev cX2_isOfHolding : ByteArray := prog_4_method_5_code
def yX2_isOfHolding : MethodName := ⟨RX2, "isOfHolding", "(I)Z"⟩
abbrev cX2_isOfRow : ByteArray := prog_4_method_6_code
def yX2_isOfRow : MethodName := ⟨RX2, "isOfRow", "(I)Z"⟩
abbrev cX2_fullCount : ByteArray := prog_4_method_7_code
def yX2_fullCount : MethodName := ⟨RX2, "fullCount", "()I"⟩
abbrev cX2_rowFault : ByteArray := prog_4_method_8_code
def yX2_rowFault : MethodName := ⟨RX2, "rowFault", "(I)I"⟩
abbrev cX2_holdingFault : ByteArray := prog_4_method_9_code
def yX2_holdingFault : MethodName := ⟨RX2, "holdingFault", "(I)I"⟩
abbrev cX2_putRow : ByteArray := prog_4_method_10_code
def yX2_putRow : MethodName := ⟨RX2, "putRow", "(III)V"⟩
abbrev cX2_putHolding : ByteArray := prog_4_method_11_code
def yX2_putHolding : MethodName := ⟨RX2, "putHolding", "(III)V"⟩
abbrev cX2_kindOn : ByteArray := prog_4_method_12_code
def yX2_kindOn : MethodName := ⟨RX2, "kindOn", "(I)I"⟩
abbrev cX2_byOn : ByteArray := prog_4_method_13_code
def yX2_byOn : MethodName := ⟨RX2, "byOn", "(I)I"⟩
abbrev cX2_sizeOf : ByteArray := prog_4_method_14_code
def yX2_sizeOf : MethodName := ⟨RX2, "sizeOf", "(I)I"⟩
abbrev cX2_elementAt : ByteArray := prog_4_method_15_code
def yX2_elementAt : MethodName := ⟨RX2, "elementAt", "(II)J"⟩
abbrev cX2_putElement : ByteArray := prog_4_method_16_code
def yX2_putElement : MethodName := ⟨RX2, "putElement", "(IIJ)V"⟩
abbrev cX2_lowestBits : ByteArray := prog_4_method_17_code
def yX2_lowestBits : MethodName := ⟨RX2, "lowestBits", "(IJ)J"⟩
abbrev cX2_copyElements : ByteArray := prog_4_method_18_code
def yX2_copyElements : MethodName := ⟨RX2, "copyElements", "(IIIII)V"⟩
def RX3 : String := "OnlyWhatFits$Tape"
def TX3 : u_T := fun k => match k with
  | 0 => ("OnlyWhatFits$Tape", "bytes", "[B", true)
  | 1 => ("OnlyWhatFits$Tape", "size", "I", false)
  | 2 => ("OnlyWhatFits$Tape", "token", "I", false)
  | 3 => ("OnlyWhatFits$Tape", "start", "I", false)
  | _ => ("OnlyWhatFits$Tape", "end", "I", false)
def tyX3 : Nat → FieldType := fun k => match k with
  | 0 => .array .byte
  | 1 => .int
  | 2 => .int
  | 3 => .int
  | _ => .int
theorem nmX3 : ∀ a, a < 5 → ∀ b, b < 5 → a ≠ b → (TX3 a).2.1 ≠ (TX3 b).2.1 := by decide +kernel
theorem tyX3_ok : ∀ k, k < 5 → parseFieldDescriptor (TX3 k).2.2.1 = some (tyX3 k) := by decide +kernel
abbrev cX3_init : ByteArray := prog_5_method_1_code
def yX3_init : MethodName := ⟨RX3, "<init>", "()V"⟩
abbrev cX3_length : ByteArray := prog_5_method_2_code
def yX3_length : MethodName := ⟨RX3, "length", "()I"⟩
abbrev cX3_append : ByteArray := prog_5_method_3_code
def yX3_append : MethodName := ⟨RX3, "append", "(I)V"⟩
abbrev cX3_clear : ByteArray := prog_5_method_4_code
def yX3_clear : MethodName := ⟨RX3, "clear", "()V"⟩
abbrev cX3_faultPlace : ByteArray := prog_5_method_5_code
def yX3_faultPlace : MethodName := ⟨RX3, "faultPlace", "()I"⟩
abbrev cX3_readInto : ByteArray := prog_5_method_6_code
def yX3_readInto : MethodName := ⟨RX3, "readInto", "(LOnlyWhatFits$Village;)I"⟩
abbrev cX3_readStatement : ByteArray := prog_5_method_7_code
def yX3_readStatement : MethodName := ⟨RX3, "readStatement", "(LOnlyWhatFits$Village;)Z"⟩
abbrev cX3_readPart : ByteArray := prog_5_method_8_code
def yX3_readPart : MethodName := ⟨RX3, "readPart", "(LOnlyWhatFits$Village;)Z"⟩
abbrev cX3_readMachine : ByteArray := prog_5_method_9_code
def yX3_readMachine : MethodName := ⟨RX3, "readMachine", "(LOnlyWhatFits$Village;)Z"⟩
abbrev cX3_readOne : ByteArray := prog_5_method_10_code
def yX3_readOne : MethodName := ⟨RX3, "readOne", "(LOnlyWhatFits$Village;)Z"⟩
abbrev cX3_readGives : ByteArray := prog_5_method_11_code
def yX3_readGives : MethodName := ⟨RX3, "readGives", "(LOnlyWhatFits$Village;)Z"⟩
abbrev cX3_step : ByteArray := prog_5_method_12_code
def yX3_step : MethodName := ⟨RX3, "step", "()V"⟩
abbrev cX3_isOf : ByteArray := prog_5_method_13_code
def yX3_isOf : MethodName := ⟨RX3, "isOf", "(II)Z"⟩
abbrev cX3_endOf : ByteArray := prog_5_method_14_code
def yX3_endOf : MethodName := ⟨RX3, "endOf", "(II)I"⟩
abbrev cX3_byteAt : ByteArray := prog_5_method_15_code
def yX3_byteAt : MethodName := ⟨RX3, "byteAt", "(I)I"⟩
abbrev cX3_isWord : ByteArray := prog_5_method_16_code
def yX3_isWord : MethodName := ⟨RX3, "isWord", "(Ljava/lang/String;)Z"⟩
abbrev cX3_numberIn : ByteArray := prog_5_method_17_code
def yX3_numberIn : MethodName := ⟨RX3, "numberIn", "(II)I"⟩
def RX4 : String := "OnlyWhatFits$Teams"
def TX4 : u_T := fun k => match k with
  | 0 => ("OnlyWhatFits$Teams", "weights", "[J", true)
  | 1 => ("OnlyWhatFits$Teams", "partsOfSet", "[I", true)
  | _ => ("OnlyWhatFits$Teams", "orders", "[I", true)
def tyX4 : Nat → FieldType := fun k => match k with
  | 0 => .array .long
  | 1 => .array .int
  | _ => .array .int
theorem nmX4 : ∀ a, a < 3 → ∀ b, b < 3 → a ≠ b → (TX4 a).2.1 ≠ (TX4 b).2.1 := by decide +kernel
theorem tyX4_ok : ∀ k, k < 3 → parseFieldDescriptor (TX4 k).2.2.1 = some (tyX4 k) := by decide +kernel
abbrev cX4_init : ByteArray := prog_6_method_1_code
def yX4_init : MethodName := ⟨RX4, "<init>", "()V"⟩
abbrev cX4_weigh : ByteArray := prog_6_method_2_code
def yX4_weigh : MethodName := ⟨RX4, "weigh", "(LOnlyWhatFits$Village;)V"⟩
abbrev cX4_gather : ByteArray := prog_6_method_3_code
def yX4_gather : MethodName := ⟨RX4, "gather", "(LOnlyWhatFits$Village;)V"⟩
abbrev cX4_partsOf : ByteArray := prog_6_method_4_code
def yX4_partsOf : MethodName := ⟨RX4, "partsOf", "(I)I"⟩
abbrev cX4_oddsOf : ByteArray := prog_6_method_5_code
def yX4_oddsOf : MethodName := ⟨RX4, "oddsOf", "(LOnlyWhatFits$Village;I)J"⟩
abbrev cX4_oddsOfPair : ByteArray := prog_6_method_6_code
def yX4_oddsOfPair : MethodName := ⟨RX4, "oddsOfPair", "(LOnlyWhatFits$Village;II)J"⟩
abbrev cX4_worthOfDay : ByteArray := prog_6_method_7_code
def yX4_worthOfDay : MethodName := ⟨RX4, "worthOfDay", "(LOnlyWhatFits$Village;)J"⟩
abbrev cX4_worthAsWeighed : ByteArray := prog_6_method_8_code
def yX4_worthAsWeighed : MethodName := ⟨RX4, "worthAsWeighed", "(LOnlyWhatFits$Village;)J"⟩
abbrev cX4_turnsOn : ByteArray := prog_6_method_9_code
def yX4_turnsOn : MethodName := ⟨RX4, "turnsOn", "(LOnlyWhatFits$Village;II)I"⟩
abbrev cX4_ordersOf : ByteArray := prog_6_method_10_code
def yX4_ordersOf : MethodName := ⟨RX4, "ordersOf", "(I)I"⟩
abbrev cX4_worthOfTurnsOn : ByteArray := prog_6_method_11_code
def yX4_worthOfTurnsOn : MethodName := ⟨RX4, "worthOfTurnsOn", "(LOnlyWhatFits$Village;I)J"⟩
abbrev cX4_bornBy : ByteArray := prog_6_method_12_code
def yX4_bornBy : MethodName := ⟨RX4, "bornBy", "(LOnlyWhatFits$Village;I)I"⟩
def RX5 : String := "OnlyWhatFits$Village"
def TX5 : u_T := fun k => match k with
  | 0 => ("OnlyWhatFits$Village", "parts", "I", false)
  | 1 => ("OnlyWhatFits$Village", "holder", "[I", true)
  | 2 => ("OnlyWhatFits$Village", "second", "[I", true)
  | 3 => ("OnlyWhatFits$Village", "machines", "I", false)
  | 4 => ("OnlyWhatFits$Village", "needs", "[I", true)
  | 5 => ("OnlyWhatFits$Village", "worth", "[I", true)
  | 6 => ("OnlyWhatFits$Village", "people", "I", false)
  | 7 => ("OnlyWhatFits$Village", "hand", "[I", true)
  | 8 => ("OnlyWhatFits$Village", "away", "[I", true)
  | 9 => ("OnlyWhatFits$Village", "isCross", "[Z", true)
  | 10 => ("OnlyWhatFits$Village", "shares", "[I", true)
  | _ => ("OnlyWhatFits$Village", "seed", "I", false)
def tyX5 : Nat → FieldType := fun k => match k with
  | 0 => .int
  | 1 => .array .int
  | 2 => .array .int
  | 3 => .int
  | 4 => .array .int
  | 5 => .array .int
  | 6 => .int
  | 7 => .array .int
  | 8 => .array .int
  | 9 => .array .boolean
  | 10 => .array .int
  | _ => .int
theorem nmX5 : ∀ a, a < 12 → ∀ b, b < 12 → a ≠ b → (TX5 a).2.1 ≠ (TX5 b).2.1 := by decide +kernel
theorem tyX5_ok : ∀ k, k < 12 → parseFieldDescriptor (TX5 k).2.2.1 = some (tyX5 k) := by decide +kernel
abbrev cX5_init : ByteArray := prog_7_method_1_code
def yX5_init : MethodName := ⟨RX5, "<init>", "()V"⟩
abbrev cX5_takeOver : ByteArray := prog_7_method_2_code
def yX5_takeOver : MethodName := ⟨RX5, "takeOver", "(LOnlyWhatFits$Village;)V"⟩
abbrev cX5_addPart : ByteArray := prog_7_method_3_code
def yX5_addPart : MethodName := ⟨RX5, "addPart", "()I"⟩
abbrev cX5_addMachine : ByteArray := prog_7_method_4_code
def yX5_addMachine : MethodName := ⟨RX5, "addMachine", "(II)I"⟩
abbrev cX5_addOne : ByteArray := prog_7_method_5_code
def yX5_addOne : MethodName := ⟨RX5, "addOne", "(II)I"⟩
abbrev cX5_isPart : ByteArray := prog_7_method_6_code
def yX5_isPart : MethodName := ⟨RX5, "isPart", "(I)Z"⟩
abbrev cX5_isMachine : ByteArray := prog_7_method_7_code
def yX5_isMachine : MethodName := ⟨RX5, "isMachine", "(I)Z"⟩
abbrev cX5_isPair : ByteArray := prog_7_method_8_code
def yX5_isPair : MethodName := ⟨RX5, "isPair", "(II)Z"⟩
abbrev cX5_isOne : ByteArray := prog_7_method_9_code
def yX5_isOne : MethodName := ⟨RX5, "isOne", "(I)Z"⟩
abbrev cX5_allParts : ByteArray := prog_7_method_10_code
def yX5_allParts : MethodName := ⟨RX5, "allParts", "()I"⟩
abbrev cX5_allMachines : ByteArray := prog_7_method_11_code
def yX5_allMachines : MethodName := ⟨RX5, "allMachines", "()I"⟩
abbrev cX5_allPeople : ByteArray := prog_7_method_12_code
def yX5_allPeople : MethodName := ⟨RX5, "allPeople", "()I"⟩
abbrev cX5_isSetOfParts : ByteArray := prog_7_method_13_code
def yX5_isSetOfParts : MethodName := ⟨RX5, "isSetOfParts", "(I)Z"⟩
abbrev cX5_isSetOfPeople : ByteArray := prog_7_method_14_code
def yX5_isSetOfPeople : MethodName := ⟨RX5, "isSetOfPeople", "(I)Z"⟩
abbrev cX5_crossPeople : ByteArray := prog_7_method_15_code
def yX5_crossPeople : MethodName := ⟨RX5, "crossPeople", "()I"⟩
abbrev cX5_piecesOf : ByteArray := prog_7_method_16_code
def yX5_piecesOf : MethodName := ⟨RX5, "piecesOf", "(I)I"⟩
abbrev cX5_hasRoom : ByteArray := prog_7_method_17_code
def yX5_hasRoom : MethodName := ⟨RX5, "hasRoom", "(I)Z"⟩
abbrev cX5_holderCount : ByteArray := prog_7_method_18_code
def yX5_holderCount : MethodName := ⟨RX5, "holderCount", "()I"⟩
abbrev cX5_secondCount : ByteArray := prog_7_method_19_code
def yX5_secondCount : MethodName := ⟨RX5, "secondCount", "()I"⟩
abbrev cX5_partsOfOne : ByteArray := prog_7_method_20_code
def yX5_partsOfOne : MethodName := ⟨RX5, "partsOfOne", "(I)I"⟩
abbrev cX5_partsWith : ByteArray := prog_7_method_21_code
def yX5_partsWith : MethodName := ⟨RX5, "partsWith", "(I)I"⟩
abbrev cX5_doublesWith : ByteArray := prog_7_method_22_code
def yX5_doublesWith : MethodName := ⟨RX5, "doublesWith", "(I)I"⟩
abbrev cX5_isIn : ByteArray := prog_7_method_23_code
def yX5_isIn : MethodName := ⟨RX5, "isIn", "(II)Z"⟩
abbrev cX5_isWorkedWith : ByteArray := prog_7_method_24_code
def yX5_isWorkedWith : MethodName := ⟨RX5, "isWorkedWith", "(II)Z"⟩
abbrev cX5_isAnyWorkedWith : ByteArray := prog_7_method_25_code
def yX5_isAnyWorkedWith : MethodName := ⟨RX5, "isAnyWorkedWith", "(I)Z"⟩
abbrev cX5_machinesWith : ByteArray := prog_7_method_26_code
def yX5_machinesWith : MethodName := ⟨RX5, "machinesWith", "(I)I"⟩
abbrev cX5_machinesTouchedBy : ByteArray := prog_7_method_27_code
def yX5_machinesTouchedBy : MethodName := ⟨RX5, "machinesTouchedBy", "(I)I"⟩
abbrev cX5_areBothWorked : ByteArray := prog_7_method_28_code
def yX5_areBothWorked : MethodName := ⟨RX5, "areBothWorked", "(III)Z"⟩
abbrev cX5_worthWith : ByteArray := prog_7_method_29_code
def yX5_worthWith : MethodName := ⟨RX5, "worthWith", "(I)I"⟩
abbrev cX5_handOver : ByteArray := prog_7_method_30_code
def yX5_handOver : MethodName := ⟨RX5, "handOver", "(II)V"⟩
abbrev cX5_passDay : ByteArray := prog_7_method_31_code
def yX5_passDay : MethodName := ⟨RX5, "passDay", "()I"⟩
abbrev cX5_drawTenth : ByteArray := prog_7_method_32_code
def yX5_drawTenth : MethodName := ⟨RX5, "drawTenth", "()I"⟩
abbrev cX5_shareOut : ByteArray := prog_7_method_33_code
def yX5_shareOut : MethodName := ⟨RX5, "shareOut", "(I)V"⟩
def RX6 : String := "OnlyWhatFits"
def TX6 : u_T := fun k => match k with
  | 0 => ("OnlyWhatFits", "now", "LOnlyWhatFits$Village;", true)
  | 1 => ("OnlyWhatFits", "trial", "LOnlyWhatFits$Village;", true)
  | 2 => ("OnlyWhatFits", "kept", "LOnlyWhatFits$Village;", true)
  | 3 => ("OnlyWhatFits", "isKept", "Z", false)
  | 4 => ("OnlyWhatFits", "teams", "LOnlyWhatFits$Teams;", true)
  | 5 => ("OnlyWhatFits", "rules", "LOnlyWhatFits$Rules;", true)
  | 6 => ("OnlyWhatFits", "search", "LOnlyWhatFits$Search;", true)
  | 7 => ("OnlyWhatFits", "tape", "LOnlyWhatFits$Tape;", true)
  | 8 => ("OnlyWhatFits", "shelves", "LOnlyWhatFits$Shelves;", true)
  | 9 => ("OnlyWhatFits", "refusals", "[I", true)
  | 10 => ("OnlyWhatFits", "daysGone", "I", false)
  | _ => ("OnlyWhatFits", "yielded", "I", false)
def tyX6 : Nat → FieldType := fun k => match k with
  | 0 => .object "OnlyWhatFits$Village"
  | 1 => .object "OnlyWhatFits$Village"
  | 2 => .object "OnlyWhatFits$Village"
  | 3 => .boolean
  | 4 => .object "OnlyWhatFits$Teams"
  | 5 => .object "OnlyWhatFits$Rules"
  | 6 => .object "OnlyWhatFits$Search"
  | 7 => .object "OnlyWhatFits$Tape"
  | 8 => .object "OnlyWhatFits$Shelves"
  | 9 => .array .int
  | 10 => .int
  | _ => .int
theorem nmX6 : ∀ a, a < 12 → ∀ b, b < 12 → a ≠ b → (TX6 a).2.1 ≠ (TX6 b).2.1 := by decide +kernel
theorem tyX6_ok : ∀ k, k < 12 → parseFieldDescriptor (TX6 k).2.2.1 = some (tyX6 k) := by decide +kernel
abbrev cX6_init : ByteArray := prog_1_method_1_code
def yX6_init : MethodName := ⟨RX6, "<init>", "()V"⟩
abbrev cX6_row : ByteArray := prog_1_method_2_code
def yX6_row : MethodName := ⟨RX6, "row", "(III)I"⟩
abbrev cX6_set : ByteArray := prog_1_method_3_code
def yX6_set : MethodName := ⟨RX6, "set", "(IIJ)I"⟩
abbrev cX6_copy : ByteArray := prog_1_method_4_code
def yX6_copy : MethodName := ⟨RX6, "copy", "(IIIII)I"⟩
abbrev cX6_element : ByteArray := prog_1_method_5_code
def yX6_element : MethodName := ⟨RX6, "element", "(II)J"⟩
abbrev cX6_holds : ByteArray := prog_1_method_6_code
def yX6_holds : MethodName := ⟨RX6, "holds", "(I)I"⟩
abbrev cX6_holding : ByteArray := prog_1_method_7_code
def yX6_holding : MethodName := ⟨RX6, "holding", "(III)I"⟩
abbrev cX6_says : ByteArray := prog_1_method_8_code
def yX6_says : MethodName := ⟨RX6, "says", "(II)I"⟩
abbrev cX6_part : ByteArray := prog_1_method_9_code
def yX6_part : MethodName := ⟨RX6, "part", "()I"⟩
abbrev cX6_machine : ByteArray := prog_1_method_10_code
def yX6_machine : MethodName := ⟨RX6, "machine", "(II)I"⟩
abbrev cX6_one : ByteArray := prog_1_method_11_code
def yX6_one : MethodName := ⟨RX6, "one", "(II)I"⟩
abbrev cX6_away : ByteArray := prog_1_method_12_code
def yX6_away : MethodName := ⟨RX6, "away", "(II)I"⟩
abbrev cX6_cross : ByteArray := prog_1_method_13_code
def yX6_cross : MethodName := ⟨RX6, "cross", "(IZ)I"⟩
abbrev cX6_give : ByteArray := prog_1_method_14_code
def yX6_give : MethodName := ⟨RX6, "give", "(IIZ)I"⟩
abbrev cX6_feed : ByteArray := prog_1_method_15_code
def yX6_feed : MethodName := ⟨RX6, "feed", "(II)I"⟩
abbrev cX6_wipe : ByteArray := prog_1_method_16_code
def yX6_wipe : MethodName := ⟨RX6, "wipe", "()I"⟩
abbrev cX6_village : ByteArray := prog_1_method_17_code
def yX6_village : MethodName := ⟨RX6, "village", "()I"⟩
abbrev cX6_partOf : ByteArray := prog_1_method_18_code
def yX6_partOf : MethodName := ⟨RX6, "partOf", "(II)I"⟩
abbrev cX6_machineOf : ByteArray := prog_1_method_19_code
def yX6_machineOf : MethodName := ⟨RX6, "machineOf", "(II)I"⟩
abbrev cX6_oneOf : ByteArray := prog_1_method_20_code
def yX6_oneOf : MethodName := ⟨RX6, "oneOf", "(II)I"⟩
abbrev cX6_has : ByteArray := prog_1_method_21_code
def yX6_has : MethodName := ⟨RX6, "has", "(I)I"⟩
abbrev cX6_works : ByteArray := prog_1_method_22_code
def yX6_works : MethodName := ⟨RX6, "works", "(II)I"⟩
abbrev cX6_both : ByteArray := prog_1_method_23_code
def yX6_both : MethodName := ⟨RX6, "both", "(III)I"⟩
abbrev cX6_odds : ByteArray := prog_1_method_24_code
def yX6_odds : MethodName := ⟨RX6, "odds", "(I)J"⟩
abbrev cX6_atOnce : ByteArray := prog_1_method_25_code
def yX6_atOnce : MethodName := ⟨RX6, "atOnce", "(II)J"⟩
abbrev cX6_day : ByteArray := prog_1_method_26_code
def yX6_day : MethodName := ⟨RX6, "day", "()J"⟩
abbrev cX6_power : ByteArray := prog_1_method_27_code
def yX6_power : MethodName := ⟨RX6, "power", "(II)I"⟩
abbrev cX6_first : ByteArray := prog_1_method_28_code
def yX6_first : MethodName := ⟨RX6, "first", "()I"⟩
abbrev cX6_lay : ByteArray := prog_1_method_29_code
def yX6_lay : MethodName := ⟨RX6, "lay", "(I)I"⟩
abbrev cX6_would : ByteArray := prog_1_method_30_code
def yX6_would : MethodName := ⟨RX6, "would", "(I)J"⟩
abbrev cX6_head : ByteArray := prog_1_method_31_code
def yX6_head : MethodName := ⟨RX6, "head", "()I"⟩
abbrev cX6_best : ByteArray := prog_1_method_32_code
def yX6_best : MethodName := ⟨RX6, "best", "(I)I"⟩
abbrev cX6_bestDay : ByteArray := prog_1_method_33_code
def yX6_bestDay : MethodName := ⟨RX6, "bestDay", "()J"⟩
abbrev cX6_bears : ByteArray := prog_1_method_34_code
def yX6_bears : MethodName := ⟨RX6, "bears", "(I)I"⟩
abbrev cX6_harms : ByteArray := prog_1_method_35_code
def yX6_harms : MethodName := ⟨RX6, "harms", "()I"⟩
abbrev cX6_least : ByteArray := prog_1_method_36_code
def yX6_least : MethodName := ⟨RX6, "least", "()I"⟩
abbrev cX6_stolen : ByteArray := prog_1_method_37_code
def yX6_stolen : MethodName := ⟨RX6, "stolen", "()I"⟩
abbrev cX6_spare : ByteArray := prog_1_method_38_code
def yX6_spare : MethodName := ⟨RX6, "spare", "()I"⟩
abbrev cX6_gift : ByteArray := prog_1_method_39_code
def yX6_gift : MethodName := ⟨RX6, "gift", "(II)J"⟩
abbrev cX6_never : ByteArray := prog_1_method_40_code
def yX6_never : MethodName := ⟨RX6, "never", "(Z)I"⟩
abbrev cX6_with : ByteArray := prog_1_method_41_code
def yX6_with : MethodName := ⟨RX6, "with", "(I)I"⟩
abbrev cX6_safe : ByteArray := prog_1_method_42_code
def yX6_safe : MethodName := ⟨RX6, "safe", "(I)I"⟩
abbrev cX6_alone : ByteArray := prog_1_method_43_code
def yX6_alone : MethodName := ⟨RX6, "alone", "(I)I"⟩
abbrev cX6_key : ByteArray := prog_1_method_44_code
def yX6_key : MethodName := ⟨RX6, "key", "()I"⟩
abbrev cX6_idle : ByteArray := prog_1_method_45_code
def yX6_idle : MethodName := ⟨RX6, "idle", "()I"⟩
abbrev cX6_room : ByteArray := prog_1_method_46_code
def yX6_room : MethodName := ⟨RX6, "room", "()I"⟩
abbrev cX6_swap : ByteArray := prog_1_method_47_code
def yX6_swap : MethodName := ⟨RX6, "swap", "(II)I"⟩
abbrev cX6_trust : ByteArray := prog_1_method_48_code
def yX6_trust : MethodName := ⟨RX6, "trust", "(II)J"⟩
abbrev cX6_judge : ByteArray := prog_1_method_49_code
def yX6_judge : MethodName := ⟨RX6, "judge", "(III)I"⟩
abbrev cX6_told : ByteArray := prog_1_method_50_code
def yX6_told : MethodName := ⟨RX6, "told", "(II)I"⟩
abbrev cX6_days : ByteArray := prog_1_method_51_code
def yX6_days : MethodName := ⟨RX6, "days", "(I)I"⟩
abbrev cX6_seed : ByteArray := prog_1_method_52_code
def yX6_seed : MethodName := ⟨RX6, "seed", "(I)I"⟩
abbrev cX6_image : ByteArray := prog_1_method_53_code
def yX6_image : MethodName := ⟨RX6, "image", "()I"⟩
abbrev cX6_back : ByteArray := prog_1_method_54_code
def yX6_back : MethodName := ⟨RX6, "back", "()I"⟩
abbrev cX6_status : ByteArray := prog_1_method_55_code
def yX6_status : MethodName := ⟨RX6, "status", "(I)I"⟩
abbrev cX6_refuse : ByteArray := prog_1_method_56_code
def yX6_refuse : MethodName := ⟨RX6, "refuse", "(I)I"⟩
abbrev cX6_isUnder : ByteArray := prog_1_method_57_code
def yX6_isUnder : MethodName := ⟨RX6, "isUnder", "(II)Z"⟩
abbrev cX6_tryHolding : ByteArray := prog_1_method_58_code
def yX6_tryHolding : MethodName := ⟨RX6, "tryHolding", "(I)V"⟩
abbrev cX6_isTooBigForBest : ByteArray := prog_1_method_59_code
def yX6_isTooBigForBest : MethodName := ⟨RX6, "isTooBigForBest", "()Z"⟩
abbrev cX6_toldFault : ByteArray := prog_1_method_60_code
def yX6_toldFault : MethodName := ⟨RX6, "toldFault", "(II)I"⟩
abbrev cX6_partsOnToldDay : ByteArray := prog_1_method_61_code
def yX6_partsOnToldDay : MethodName := ⟨RX6, "partsOnToldDay", "(II)I"⟩
def RX7 : String := "OnlyWhatFitsModel"
def TX7 : u_T := fun k => match k with
  | 0 => ("OnlyWhatFitsModel", "shelf", "[I", true)
  | 1 => ("OnlyWhatFitsModel", "rowSort", "[I", true)
  | 2 => ("OnlyWhatFitsModel", "rowSize", "[I", true)
  | 3 => ("OnlyWhatFitsModel", "rows", "[[J", true)
  | 4 => ("OnlyWhatFitsModel", "moved", "[J", true)
  | 5 => ("OnlyWhatFitsModel", "holdKind", "[I", true)
  | 6 => ("OnlyWhatFitsModel", "holdBy", "[I", true)
  | 7 => ("OnlyWhatFitsModel", "tape", "[I", true)
  | 8 => ("OnlyWhatFitsModel", "tapeSize", "I", false)
  | 9 => ("OnlyWhatFitsModel", "refused", "[I", true)
  | 10 => ("OnlyWhatFitsModel", "parts", "I", false)
  | 11 => ("OnlyWhatFitsModel", "holder", "[I", true)
  | 12 => ("OnlyWhatFitsModel", "second", "[I", true)
  | 13 => ("OnlyWhatFitsModel", "machines", "I", false)
  | 14 => ("OnlyWhatFitsModel", "needs", "[I", true)
  | 15 => ("OnlyWhatFitsModel", "worth", "[I", true)
  | 16 => ("OnlyWhatFitsModel", "people", "I", false)
  | 17 => ("OnlyWhatFitsModel", "one", "[[I", true)
  | 18 => ("OnlyWhatFitsModel", "gone", "I", false)
  | 19 => ("OnlyWhatFitsModel", "yielded", "I", false)
  | 20 => ("OnlyWhatFitsModel", "seed", "I", false)
  | 21 => ("OnlyWhatFitsModel", "kept", "LOnlyWhatFitsModel;", false)
  | 22 => ("OnlyWhatFitsModel", "tried", "LOnlyWhatFitsModel;", false)
  | 23 => ("OnlyWhatFitsModel", "at", "I", false)
  | 24 => ("OnlyWhatFitsModel", "token", "I", false)
  | 25 => ("OnlyWhatFitsModel", "from", "I", false)
  | 26 => ("OnlyWhatFitsModel", "figures", "J", false)
  | 27 => ("OnlyWhatFitsModel", "fault", "I", false)
  | 28 => ("OnlyWhatFitsModel", "told", "I", false)
  | 29 => ("OnlyWhatFitsModel", "statements", "I", false)
  | 30 => ("OnlyWhatFitsModel", "bestHolder", "[I", true)
  | _ => ("OnlyWhatFitsModel", "bestValue", "J", false)
def tyX7 : Nat → FieldType := fun k => match k with
  | 0 => .array .int
  | 1 => .array .int
  | 2 => .array .int
  | 3 => .array (.array .long)
  | 4 => .array .long
  | 5 => .array .int
  | 6 => .array .int
  | 7 => .array .int
  | 8 => .int
  | 9 => .array .int
  | 10 => .int
  | 11 => .array .int
  | 12 => .array .int
  | 13 => .int
  | 14 => .array .int
  | 15 => .array .int
  | 16 => .int
  | 17 => .array (.array .int)
  | 18 => .int
  | 19 => .int
  | 20 => .int
  | 21 => .object "OnlyWhatFitsModel"
  | 22 => .object "OnlyWhatFitsModel"
  | 23 => .int
  | 24 => .int
  | 25 => .int
  | 26 => .long
  | 27 => .int
  | 28 => .int
  | 29 => .int
  | 30 => .array .int
  | _ => .long
theorem nmX7 : ∀ a, a < 32 → ∀ b, b < 32 → a ≠ b → (TX7 a).2.1 ≠ (TX7 b).2.1 := by decide +kernel
theorem tyX7_ok : ∀ k, k < 32 → parseFieldDescriptor (TX7 k).2.2.1 = some (tyX7 k) := by decide +kernel
abbrev cX7_init : ByteArray := prog_9_method_1_code
def yX7_init : MethodName := ⟨RX7, "<init>", "()V"⟩
abbrev cX7_refuse : ByteArray := prog_9_method_2_code
def yX7_refuse : MethodName := ⟨RX7, "refuse", "(I)I"⟩
abbrev cX7_in : ByteArray := prog_9_method_3_code
def yX7_in : MethodName := ⟨RX7, "in", "(JJJ)Z"⟩
abbrev cX7_isPart : ByteArray := prog_9_method_4_code
def yX7_isPart : MethodName := ⟨RX7, "isPart", "(I)Z"⟩
abbrev cX7_isMachine : ByteArray := prog_9_method_5_code
def yX7_isMachine : MethodName := ⟨RX7, "isMachine", "(I)Z"⟩
abbrev cX7_isOne : ByteArray := prog_9_method_6_code
def yX7_isOne : MethodName := ⟨RX7, "isOne", "(I)Z"⟩
abbrev cX7_all : ByteArray := prog_9_method_7_code
def yX7_all : MethodName := ⟨RX7, "all", "()I"⟩
abbrev cX7_bits : ByteArray := prog_9_method_8_code
def yX7_bits : MethodName := ⟨RX7, "bits", "(I)I"⟩
abbrev cX7_isIn : ByteArray := prog_9_method_9_code
def yX7_isIn : MethodName := ⟨RX7, "isIn", "(II)Z"⟩
abbrev cX7_row : ByteArray := prog_9_method_10_code
def yX7_row : MethodName := ⟨RX7, "row", "(III)I"⟩
abbrev cX7_fit : ByteArray := prog_9_method_11_code
def yX7_fit : MethodName := ⟨RX7, "fit", "(IJ)J"⟩
abbrev cX7_noRow : ByteArray := prog_9_method_12_code
def yX7_noRow : MethodName := ⟨RX7, "noRow", "(I)I"⟩
abbrev cX7_noHolding : ByteArray := prog_9_method_13_code
def yX7_noHolding : MethodName := ⟨RX7, "noHolding", "(I)I"⟩
abbrev cX7_set : ByteArray := prog_9_method_14_code
def yX7_set : MethodName := ⟨RX7, "set", "(IIJ)I"⟩
abbrev cX7_copy : ByteArray := prog_9_method_15_code
def yX7_copy : MethodName := ⟨RX7, "copy", "(IIIII)I"⟩
abbrev cX7_element : ByteArray := prog_9_method_16_code
def yX7_element : MethodName := ⟨RX7, "element", "(II)J"⟩
abbrev cX7_holds : ByteArray := prog_9_method_17_code
def yX7_holds : MethodName := ⟨RX7, "holds", "(I)I"⟩
abbrev cX7_holding : ByteArray := prog_9_method_18_code
def yX7_holding : MethodName := ⟨RX7, "holding", "(III)I"⟩
abbrev cX7_isUnder : ByteArray := prog_9_method_19_code
def yX7_isUnder : MethodName := ⟨RX7, "isUnder", "(II)Z"⟩
abbrev cX7_says : ByteArray := prog_9_method_20_code
def yX7_says : MethodName := ⟨RX7, "says", "(II)I"⟩
abbrev cX7_held : ByteArray := prog_9_method_21_code
def yX7_held : MethodName := ⟨RX7, "held", "(Z)I"⟩
abbrev cX7_part : ByteArray := prog_9_method_22_code
def yX7_part : MethodName := ⟨RX7, "part", "()I"⟩
abbrev cX7_machine : ByteArray := prog_9_method_23_code
def yX7_machine : MethodName := ⟨RX7, "machine", "(II)I"⟩
abbrev cX7_newOne : ByteArray := prog_9_method_24_code
def yX7_newOne : MethodName := ⟨RX7, "newOne", "()V"⟩
abbrev cX7_one : ByteArray := prog_9_method_25_code
def yX7_one : MethodName := ⟨RX7, "one", "(II)I"⟩
abbrev cX7_away : ByteArray := prog_9_method_26_code
def yX7_away : MethodName := ⟨RX7, "away", "(II)I"⟩
abbrev cX7_cross : ByteArray := prog_9_method_27_code
def yX7_cross : MethodName := ⟨RX7, "cross", "(IZ)I"⟩
abbrev cX7_piecesOf : ByteArray := prog_9_method_28_code
def yX7_piecesOf : MethodName := ⟨RX7, "piecesOf", "(I)I"⟩
abbrev cX7_hasRoom : ByteArray := prog_9_method_29_code
def yX7_hasRoom : MethodName := ⟨RX7, "hasRoom", "(I)Z"⟩
abbrev cX7_give : ByteArray := prog_9_method_30_code
def yX7_give : MethodName := ⟨RX7, "give", "(IIZ)I"⟩
abbrev cX7_feed : ByteArray := prog_9_method_31_code
def yX7_feed : MethodName := ⟨RX7, "feed", "(II)I"⟩
abbrev cX7_wipe : ByteArray := prog_9_method_32_code
def yX7_wipe : MethodName := ⟨RX7, "wipe", "()I"⟩
abbrev cX7_isLetter : ByteArray := prog_9_method_33_code
def yX7_isLetter : MethodName := ⟨RX7, "isLetter", "(I)Z"⟩
abbrev cX7_isDigit : ByteArray := prog_9_method_34_code
def yX7_isDigit : MethodName := ⟨RX7, "isDigit", "(I)Z"⟩
abbrev cX7_look : ByteArray := prog_9_method_35_code
def yX7_look : MethodName := ⟨RX7, "look", "()V"⟩
abbrev cX7_wrong : ByteArray := prog_9_method_36_code
def yX7_wrong : MethodName := ⟨RX7, "wrong", "()Z"⟩
abbrev cX7_isWord : ByteArray := prog_9_method_37_code
def yX7_isWord : MethodName := ⟨RX7, "isWord", "(Ljava/lang/String;)Z"⟩
abbrev cX7_number : ByteArray := prog_9_method_38_code
def yX7_number : MethodName := ⟨RX7, "number", "(II)Z"⟩
abbrev cX7_tells : ByteArray := prog_9_method_39_code
def yX7_tells : MethodName := ⟨RX7, "tells", "(Ljava/lang/String;II)Z"⟩
abbrev cX7_gets : ByteArray := prog_9_method_40_code
def yX7_gets : MethodName := ⟨RX7, "gets", "(IZ)Z"⟩
abbrev cX7_partTold : ByteArray := prog_9_method_41_code
def yX7_partTold : MethodName := ⟨RX7, "partTold", "()Z"⟩
abbrev cX7_machineTold : ByteArray := prog_9_method_42_code
def yX7_machineTold : MethodName := ⟨RX7, "machineTold", "()Z"⟩
abbrev cX7_statement : ByteArray := prog_9_method_43_code
def yX7_statement : MethodName := ⟨RX7, "statement", "()Z"⟩
abbrev cX7_readAll : ByteArray := prog_9_method_44_code
def yX7_readAll : MethodName := ⟨RX7, "readAll", "()Z"⟩
abbrev cX7_village : ByteArray := prog_9_method_45_code
def yX7_village : MethodName := ⟨RX7, "village", "()I"⟩
abbrev cX7_partOf : ByteArray := prog_9_method_46_code
def yX7_partOf : MethodName := ⟨RX7, "partOf", "(II)I"⟩
abbrev cX7_machineOf : ByteArray := prog_9_method_47_code
def yX7_machineOf : MethodName := ⟨RX7, "machineOf", "(II)I"⟩
abbrev cX7_oneOf : ByteArray := prog_9_method_48_code
def yX7_oneOf : MethodName := ⟨RX7, "oneOf", "(II)I"⟩
abbrev cX7_hasOf : ByteArray := prog_9_method_49_code
def yX7_hasOf : MethodName := ⟨RX7, "hasOf", "(I)I"⟩
abbrev cX7_worksOf : ByteArray := prog_9_method_50_code
def yX7_worksOf : MethodName := ⟨RX7, "worksOf", "(II)Z"⟩
abbrev cX7_bothOf : ByteArray := prog_9_method_51_code
def yX7_bothOf : MethodName := ⟨RX7, "bothOf", "(III)Z"⟩
abbrev cX7_has : ByteArray := prog_9_method_52_code
def yX7_has : MethodName := ⟨RX7, "has", "(I)I"⟩
abbrev cX7_works : ByteArray := prog_9_method_53_code
def yX7_works : MethodName := ⟨RX7, "works", "(II)I"⟩
abbrev cX7_both : ByteArray := prog_9_method_54_code
def yX7_both : MethodName := ⟨RX7, "both", "(III)I"⟩
abbrev cX7_crossOnes : ByteArray := prog_9_method_55_code
def yX7_crossOnes : MethodName := ⟨RX7, "crossOnes", "()I"⟩
abbrev cX7_oddsOf : ByteArray := prog_9_method_56_code
def yX7_oddsOf : MethodName := ⟨RX7, "oddsOf", "(I)J"⟩
abbrev cX7_sumOf : ByteArray := prog_9_method_57_code
def yX7_sumOf : MethodName := ⟨RX7, "sumOf", "(II)J"⟩
abbrev cX7_odds : ByteArray := prog_9_method_58_code
def yX7_odds : MethodName := ⟨RX7, "odds", "(I)J"⟩
abbrev cX7_atOnce : ByteArray := prog_9_method_59_code
def yX7_atOnce : MethodName := ⟨RX7, "atOnce", "(II)J"⟩
abbrev cX7_day : ByteArray := prog_9_method_60_code
def yX7_day : MethodName := ⟨RX7, "day", "()J"⟩
abbrev cX7_orders : ByteArray := prog_9_method_61_code
def yX7_orders : MethodName := ⟨RX7, "orders", "(I)I"⟩
abbrev cX7_powerOf : ByteArray := prog_9_method_62_code
def yX7_powerOf : MethodName := ⟨RX7, "powerOf", "(II)I"⟩
abbrev cX7_power : ByteArray := prog_9_method_63_code
def yX7_power : MethodName := ⟨RX7, "power", "(II)I"⟩
abbrev cX7_first : ByteArray := prog_9_method_64_code
def yX7_first : MethodName := ⟨RX7, "first", "()I"⟩
abbrev cX7_fresh : ByteArray := prog_9_method_65_code
def yX7_fresh : MethodName := ⟨RX7, "fresh", "()LOnlyWhatFitsModel;"⟩
abbrev cX7_firstWithRoom : ByteArray := prog_9_method_66_code
def yX7_firstWithRoom : MethodName := ⟨RX7, "firstWithRoom", "(II)I"⟩
abbrev cX7_holdWhole : ByteArray := prog_9_method_67_code
def yX7_holdWhole : MethodName := ⟨RX7, "holdWhole", "(I)V"⟩
abbrev cX7_nextWithRoom : ByteArray := prog_9_method_68_code
def yX7_nextWithRoom : MethodName := ⟨RX7, "nextWithRoom", "(II)I"⟩
abbrev cX7_surest : ByteArray := prog_9_method_69_code
def yX7_surest : MethodName := ⟨RX7, "surest", "()I"⟩
abbrev cX7_holdAll : ByteArray := prog_9_method_70_code
def yX7_holdAll : MethodName := ⟨RX7, "holdAll", "(II)V"⟩
abbrev cX7_lay : ByteArray := prog_9_method_71_code
def yX7_lay : MethodName := ⟨RX7, "lay", "(I)I"⟩
abbrev cX7_wouldBy : ByteArray := prog_9_method_72_code
def yX7_wouldBy : MethodName := ⟨RX7, "wouldBy", "(I)J"⟩
abbrev cX7_would : ByteArray := prog_9_method_73_code
def yX7_would : MethodName := ⟨RX7, "would", "(I)J"⟩
abbrev cX7_head : ByteArray := prog_9_method_74_code
def yX7_head : MethodName := ⟨RX7, "head", "()I"⟩
abbrev cX7_tryFrom : ByteArray := prog_9_method_75_code
def yX7_tryFrom : MethodName := ⟨RX7, "tryFrom", "(LOnlyWhatFitsModel;I)V"⟩
abbrev cX7_findBest : ByteArray := prog_9_method_76_code
def yX7_findBest : MethodName := ⟨RX7, "findBest", "()Z"⟩
abbrev cX7_best : ByteArray := prog_9_method_77_code
def yX7_best : MethodName := ⟨RX7, "best", "(I)I"⟩
abbrev cX7_bestDay : ByteArray := prog_9_method_78_code
def yX7_bestDay : MethodName := ⟨RX7, "bestDay", "()J"⟩
abbrev cX7_bears : ByteArray := prog_9_method_79_code
def yX7_bears : MethodName := ⟨RX7, "bears", "(I)I"⟩
abbrev cX7_harms : ByteArray := prog_9_method_80_code
def yX7_harms : MethodName := ⟨RX7, "harms", "()I"⟩
abbrev cX7_anyWorks : ByteArray := prog_9_method_81_code
def yX7_anyWorks : MethodName := ⟨RX7, "anyWorks", "(II)Z"⟩
abbrev cX7_least : ByteArray := prog_9_method_82_code
def yX7_least : MethodName := ⟨RX7, "least", "()I"⟩
abbrev cX7_stolen : ByteArray := prog_9_method_83_code
def yX7_stolen : MethodName := ⟨RX7, "stolen", "()I"⟩
abbrev cX7_spare : ByteArray := prog_9_method_84_code
def yX7_spare : MethodName := ⟨RX7, "spare", "()I"⟩
abbrev cX7_gift : ByteArray := prog_9_method_85_code
def yX7_gift : MethodName := ⟨RX7, "gift", "(II)J"⟩
abbrev cX7_never : ByteArray := prog_9_method_86_code
def yX7_never : MethodName := ⟨RX7, "never", "(Z)I"⟩
abbrev cX7_with : ByteArray := prog_9_method_87_code
def yX7_with : MethodName := ⟨RX7, "with", "(I)I"⟩
abbrev cX7_worstOf : ByteArray := prog_9_method_88_code
def yX7_worstOf : MethodName := ⟨RX7, "worstOf", "(I)I"⟩
abbrev cX7_safe : ByteArray := prog_9_method_89_code
def yX7_safe : MethodName := ⟨RX7, "safe", "(I)I"⟩
abbrev cX7_alone : ByteArray := prog_9_method_90_code
def yX7_alone : MethodName := ⟨RX7, "alone", "(I)I"⟩
abbrev cX7_key : ByteArray := prog_9_method_91_code
def yX7_key : MethodName := ⟨RX7, "key", "()I"⟩
abbrev cX7_idle : ByteArray := prog_9_method_92_code
def yX7_idle : MethodName := ⟨RX7, "idle", "()I"⟩
abbrev cX7_room : ByteArray := prog_9_method_93_code
def yX7_room : MethodName := ⟨RX7, "room", "()I"⟩
abbrev cX7_swap : ByteArray := prog_9_method_94_code
def yX7_swap : MethodName := ⟨RX7, "swap", "(II)I"⟩
abbrev cX7_trust : ByteArray := prog_9_method_95_code
def yX7_trust : MethodName := ⟨RX7, "trust", "(II)J"⟩
abbrev cX7_noTold : ByteArray := prog_9_method_96_code
def yX7_noTold : MethodName := ⟨RX7, "noTold", "(II)I"⟩
abbrev cX7_comeOn : ByteArray := prog_9_method_97_code
def yX7_comeOn : MethodName := ⟨RX7, "comeOn", "(II)I"⟩
abbrev cX7_judge : ByteArray := prog_9_method_98_code
def yX7_judge : MethodName := ⟨RX7, "judge", "(III)I"⟩
abbrev cX7_told : ByteArray := prog_9_method_99_code
def yX7_told : MethodName := ⟨RX7, "told", "(II)I"⟩
abbrev cX7_draw : ByteArray := prog_9_method_100_code
def yX7_draw : MethodName := ⟨RX7, "draw", "(I)I"⟩
abbrev cX7_goes : ByteArray := prog_9_method_101_code
def yX7_goes : MethodName := ⟨RX7, "goes", "()I"⟩
abbrev cX7_days : ByteArray := prog_9_method_102_code
def yX7_days : MethodName := ⟨RX7, "days", "(I)I"⟩
abbrev cX7_seed : ByteArray := prog_9_method_103_code
def yX7_seed : MethodName := ⟨RX7, "seed", "(I)I"⟩
abbrev cX7_over : ByteArray := prog_9_method_104_code
def yX7_over : MethodName := ⟨RX7, "over", "([I[I)V"⟩
abbrev cX7_takeFrom : ByteArray := prog_9_method_105_code
def yX7_takeFrom : MethodName := ⟨RX7, "takeFrom", "(LOnlyWhatFitsModel;)V"⟩
abbrev cX7_image : ByteArray := prog_9_method_106_code
def yX7_image : MethodName := ⟨RX7, "image", "()I"⟩
abbrev cX7_back : ByteArray := prog_9_method_107_code
def yX7_back : MethodName := ⟨RX7, "back", "()I"⟩
abbrev cX7_status : ByteArray := prog_9_method_108_code
def yX7_status : MethodName := ⟨RX7, "status", "(I)I"⟩
def RJ6 : String := "java/lang/Integer"
abbrev cJ6_bitCount_0f7a4 : ByteArray := prog_10_method_49_code
def yJ6_bitCount_0f7a4 : MethodName := ⟨RJ6, "bitCount", "(I)I"⟩
def RJ0 : String := "java/lang/String"
abbrev cJ0_length_8abf5 : ByteArray := prog_12_method_54_code
def yJ0_length_8abf5 : MethodName := ⟨RJ0, "length", "()I"⟩
abbrev cJ0_charAt_5068e : ByteArray := prog_12_method_56_code
def yJ0_charAt_5068e : MethodName := ⟨RJ0, "charAt", "(I)C"⟩
abbrev cJ0_coder_7d493 : ByteArray := prog_12_method_152_code
def yJ0_coder_7d493 : MethodName := ⟨RJ0, "coder", "()B"⟩
abbrev cJ0_isLatin1_aae02 : ByteArray := prog_12_method_154_code
def yJ0_isLatin1_aae02 : MethodName := ⟨RJ0, "isLatin1", "()Z"⟩
abbrev cJ0_checkIndex_df160 : ByteArray := prog_12_method_155_code
def yJ0_checkIndex_df160 : MethodName := ⟨RJ0, "checkIndex", "(II)V"⟩
def RJ1 : String := "java/lang/StringLatin1"
abbrev cJ1_charAt_3b067 : ByteArray := prog_13_method_2_code
def yJ1_charAt_3b067 : MethodName := ⟨RJ1, "charAt", "([BI)C"⟩
def RJ7 : String := "java/util/Arrays"
abbrev cJ7_fill_d0a16 : ByteArray := prog_16_method_101_code
def yJ7_fill_d0a16 : MethodName := ⟨RJ7, "fill", "([JJ)V"⟩
def RJ3 : String := "jdk/internal/util/Preconditions"
abbrev cJ3_checkIndex_8e157 : ByteArray := prog_17_method_11_code
def yJ3_checkIndex_8e157 : MethodName := ⟨RJ3, "checkIndex", "(IILjava/util/function/BiFunction;)I"⟩
abbrev vwCl : List vw_C := [(RX0, TX0, 1), (RX1, TX1, 6), (RX2, TX2, 4), (RX3, TX3, 5), (RX4, TX4, 3), (RX5, TX5, 12), (RX6, TX6, 12), (RX7, TX7, 32), (RX0, TX0, 1), (RX1, TX1, 6), (RX2, TX2, 4), (RX3, TX3, 5), (RX4, TX4, 3), (RX5, TX5, 12), (RX6, TX6, 12), (RX7, TX7, 32)]
/-! KINDS of cells: 0 .. 7 the objects of the classes, 8 .. 15 the same while they are made (each cell or null), 20 on the arrays (sort: 0 ints, 1 longs, 2 bytes, 3 booleans, 4 rows of ints, 5 rows of longs; length; the rows' kind) -/
abbrev Fd3 : Type := Nat × Nat × Nat
def fkL : List (List Fd3) := [
  [(2, 1, 22)],
  [(2, 1, 21), (2, 2, 21), (2, 3, 27), (2, 4, 32), (2, 12, 28), (1, 0, 0)],
  [(2, 1, 22), (2, 2, 22), (2, 3, 33), (2, 12, 22)],
  [(2, 1, 29), (0, 0, 0), (0, 0, 0), (0, 0, 0), (0, 0, 0)],
  [(2, 1, 24), (2, 2, 25), (2, 3, 22)],
  [(0, 0, 0), (2, 1, 20), (2, 2, 20), (0, 0, 0), (2, 3, 21), (2, 4, 21), (0, 0, 0), (2, 5, 22), (2, 6, 22), (2, 7, 23), (2, 8, 22), (0, 0, 0)],
  [(2, 1, 5), (2, 10, 5), (2, 19, 5), (0, 0, 0), (2, 28, 4), (2, 32, 0), (2, 34, 1), (2, 47, 3), (2, 49, 2), (2, 62, 26), (0, 0, 0), (0, 0, 0)],
  [(2, 1, 22), (2, 2, 22), (2, 3, 22), (2, 4, 33), (2, 13, 31), (2, 14, 22), (2, 15, 22), (2, 16, 30), (0, 0, 0), (2, 17, 22), (0, 0, 0), (2, 18, 20), (2, 19, 20), (0, 0, 0), (2, 20, 21), (2, 21, 21), (0, 0, 0), (2, 22, 34), (0, 0, 0), (0, 0, 0), (0, 0, 0), (3, 0, 7), (3, 0, 7), (0, 0, 0), (0, 0, 0), (0, 0, 0), (1, 0, 0), (0, 0, 0), (0, 0, 0), (0, 0, 0), (2, 31, 20), (1, 0, 0)],
  [(3, 0, 22)],
  [(3, 0, 21), (3, 0, 21), (3, 0, 27), (3, 0, 32), (3, 0, 28), (1, 0, 0)],
  [(3, 0, 22), (3, 0, 22), (3, 0, 33), (3, 0, 22)],
  [(3, 0, 29), (0, 0, 0), (0, 0, 0), (0, 0, 0), (0, 0, 0)],
  [(3, 0, 24), (3, 0, 25), (3, 0, 22)],
  [(0, 0, 0), (3, 0, 20), (3, 0, 20), (0, 0, 0), (3, 0, 21), (3, 0, 21), (0, 0, 0), (3, 0, 22), (3, 0, 22), (3, 0, 23), (3, 0, 22), (0, 0, 0)],
  [(3, 0, 5), (3, 0, 5), (3, 0, 5), (0, 0, 0), (3, 0, 4), (3, 0, 0), (3, 0, 1), (3, 0, 3), (3, 0, 2), (3, 0, 26), (0, 0, 0), (0, 0, 0)],
  [(3, 0, 22), (3, 0, 22), (3, 0, 22), (3, 0, 33), (3, 0, 31), (3, 0, 22), (3, 0, 22), (3, 0, 30), (0, 0, 0), (3, 0, 22), (0, 0, 0), (3, 0, 20), (3, 0, 20), (0, 0, 0), (3, 0, 21), (3, 0, 21), (0, 0, 0), (3, 0, 34), (0, 0, 0), (0, 0, 0), (0, 0, 0), (3, 0, 7), (3, 0, 7), (0, 0, 0), (0, 0, 0), (0, 0, 0), (1, 0, 0), (0, 0, 0), (0, 0, 0), (0, 0, 0), (3, 0, 20), (1, 0, 0)]]
def akL : List Fd3 := [(0, 12, 0), (0, 6, 0), (0, 8, 0), (3, 8, 0), (1, 256, 0), (0, 256, 0), (0, 5, 0), (0, 4, 0), (1, 32, 0), (2, 250, 0), (0, 250, 0), (1, 40, 0), (4, 7, 21), (5, 8, 31), (4, 8, 27)]
def clTy (k : Nat) : Nat → FieldType := match k with
  | 0 => tyX0 | 1 => tyX1 | 2 => tyX2 | 3 => tyX3 | 4 => tyX4 | 5 => tyX5 | 6 => tyX6 | 7 => tyX7 | 8 => tyX0 | 9 => tyX1 | 10 => tyX2 | 11 => tyX3 | 12 => tyX4 | 13 => tyX5 | 14 => tyX6 | _ => tyX7
/-- the words that serve everywhere -/
def lw_g : List Cond := lw_tbl.filter goodWord
theorem lw_g_good : GoodIn lw_g lw_g := fun w hw => ⟨hw, good_of_word (List.mem_filter.mp hw).2⟩
theorem lw_g_in {w : Cond} (i : Nat) (h : tables_1[i]? = some w) (hg : goodWord w = true) : w ∈ lw_g := List.mem_filter.mpr ⟨List.mem_append_right _ (List.mem_of_getElem? h), hg⟩
theorem lw_g_sel {w : Cond} (i : Nat) (h : (k2_sels lw_privs)[i]? = some w) (hg : goodWord w = true) : w ∈ lw_g := List.mem_filter.mpr ⟨List.mem_append_left _ (List.mem_of_getElem? h), hg⟩
theorem tb_1 {w : Cond} (i : Nat) (h : tables_1_1[i]? = some w) (hg : goodWord w = true) : w ∈ lw_g := by
  have h1 := List.mem_of_getElem? h
  have h2 : w ∈ tables_1 := List.mem_append_left _ h1
  exact List.mem_filter.mpr ⟨List.mem_append_right _ h2, hg⟩
theorem tb_2 {w : Cond} (i : Nat) (h : tables_1_2[i]? = some w) (hg : goodWord w = true) : w ∈ lw_g := by
  have h1 := List.mem_of_getElem? h
  have h2 : w ∈ tables_1 := List.mem_append_right _ (List.mem_append_left _ h1)
  exact List.mem_filter.mpr ⟨List.mem_append_right _ h2, hg⟩
theorem tb_3 {w : Cond} (i : Nat) (h : tables_1_3[i]? = some w) (hg : goodWord w = true) : w ∈ lw_g := by
  have h1 := List.mem_of_getElem? h
  have h2 : w ∈ tables_1 := List.mem_append_right _ (List.mem_append_right _ (List.mem_append_left _ h1))
  exact List.mem_filter.mpr ⟨List.mem_append_right _ h2, hg⟩
theorem tb_4 {w : Cond} (i : Nat) (h : tables_1_4[i]? = some w) (hg : goodWord w = true) : w ∈ lw_g := by
  have h1 := List.mem_of_getElem? h
  have h2 : w ∈ tables_1 := List.mem_append_right _ (List.mem_append_right _ (List.mem_append_right _ (List.mem_append_left _ h1)))
  exact List.mem_filter.mpr ⟨List.mem_append_right _ h2, hg⟩
theorem tb_5 {w : Cond} (i : Nat) (h : tables_1_5[i]? = some w) (hg : goodWord w = true) : w ∈ lw_g := by
  have h1 := List.mem_of_getElem? h
  have h2 : w ∈ tables_1 := List.mem_append_right _ (List.mem_append_right _ (List.mem_append_right _ (List.mem_append_right _ (List.mem_append_left _ h1))))
  exact List.mem_filter.mpr ⟨List.mem_append_right _ h2, hg⟩
theorem tb_6 {w : Cond} (i : Nat) (h : tables_1_6[i]? = some w) (hg : goodWord w = true) : w ∈ lw_g := by
  have h1 := List.mem_of_getElem? h
  have h2 : w ∈ tables_1 := List.mem_append_right _ (List.mem_append_right _ (List.mem_append_right _ (List.mem_append_right _ (List.mem_append_right _ (List.mem_append_left _ h1)))))
  exact List.mem_filter.mpr ⟨List.mem_append_right _ h2, hg⟩
theorem tb_7 {w : Cond} (i : Nat) (h : tables_1_7[i]? = some w) (hg : goodWord w = true) : w ∈ lw_g := by
  have h1 := List.mem_of_getElem? h
  have h2 : w ∈ tables_1 := List.mem_append_right _ (List.mem_append_right _ (List.mem_append_right _ (List.mem_append_right _ (List.mem_append_right _ (List.mem_append_right _ (h1))))))
  exact List.mem_filter.mpr ⟨List.mem_append_right _ h2, hg⟩
theorem cl_in0 : ∀ w ∈ u_ws RX0 TX0 1, w ∈ lw_g := by
  intro w hw
  have h : u_ws RX0 TX0 1 = [134].filterMap (fun i => tables_1[i]?) := by decide +kernel
  have hg : (u_ws RX0 TX0 1).all goodWord = true := by decide +kernel
  have h3 := List.all_eq_true.mp hg w hw
  rw [h] at hw
  obtain ⟨i, -, hi⟩ := List.mem_filterMap.mp hw
  exact lw_g_in i hi h3
theorem cl_in1 : ∀ w ∈ u_ws RX1 TX1 6, w ∈ lw_g := by
  intro w hw
  have h : u_ws RX1 TX1 6 = [152, 154, 156, 158, 160, 162].filterMap (fun i => tables_1[i]?) := by decide +kernel
  have hg : (u_ws RX1 TX1 6).all goodWord = true := by decide +kernel
  have h3 := List.all_eq_true.mp hg w hw
  rw [h] at hw
  obtain ⟨i, -, hi⟩ := List.mem_filterMap.mp hw
  exact lw_g_in i hi h3
theorem cl_in2 : ∀ w ∈ u_ws RX2 TX2 4, w ∈ lw_g := by
  intro w hw
  have h : u_ws RX2 TX2 4 = [200, 202, 204, 206].filterMap (fun i => tables_1[i]?) := by decide +kernel
  have hg : (u_ws RX2 TX2 4).all goodWord = true := by decide +kernel
  have h3 := List.all_eq_true.mp hg w hw
  rw [h] at hw
  obtain ⟨i, -, hi⟩ := List.mem_filterMap.mp hw
  exact lw_g_in i hi h3
theorem cl_in3 : ∀ w ∈ u_ws RX3 TX3 5, w ∈ lw_g := by
  intro w hw
  have h : u_ws RX3 TX3 5 = [176, 178, 180, 182, 184].filterMap (fun i => tables_1[i]?) := by decide +kernel
  have hg : (u_ws RX3 TX3 5).all goodWord = true := by decide +kernel
  have h3 := List.all_eq_true.mp hg w hw
  rw [h] at hw
  obtain ⟨i, -, hi⟩ := List.mem_filterMap.mp hw
  exact lw_g_in i hi h3
theorem cl_in4 : ∀ w ∈ u_ws RX4 TX4 3, w ∈ lw_g := by
  intro w hw
  have h : u_ws RX4 TX4 3 = [119, 121, 123].filterMap (fun i => tables_1[i]?) := by decide +kernel
  have hg : (u_ws RX4 TX4 3).all goodWord = true := by decide +kernel
  have h3 := List.all_eq_true.mp hg w hw
  rw [h] at hw
  obtain ⟨i, -, hi⟩ := List.mem_filterMap.mp hw
  exact lw_g_in i hi h3
theorem cl_in5 : ∀ w ∈ u_ws RX5 TX5 12, w ∈ lw_g := by
  intro w hw
  have h : u_ws RX5 TX5 12 = [83, 85, 87, 89, 91, 93, 95, 97, 99, 101, 103, 105].filterMap (fun i => tables_1[i]?) := by decide +kernel
  have hg : (u_ws RX5 TX5 12).all goodWord = true := by decide +kernel
  have h3 := List.all_eq_true.mp hg w hw
  rw [h] at hw
  obtain ⟨i, -, hi⟩ := List.mem_filterMap.mp hw
  exact lw_g_in i hi h3
theorem cl_in6 : ∀ w ∈ u_ws RX6 TX6 12, w ∈ lw_g := by
  intro w hw
  have h : u_ws RX6 TX6 12 = [221, 223, 225, 227, 229, 231, 233, 235, 237, 239, 241, 243].filterMap (fun i => tables_1[i]?) := by decide +kernel
  have hg : (u_ws RX6 TX6 12).all goodWord = true := by decide +kernel
  have h3 := List.all_eq_true.mp hg w hw
  rw [h] at hw
  obtain ⟨i, -, hi⟩ := List.mem_filterMap.mp hw
  exact lw_g_in i hi h3
theorem cl_in7 : ∀ w ∈ u_ws RX7 TX7 32, w ∈ lw_g := by
  intro w hw
  have h : u_ws RX7 TX7 32 = [1004, 1006, 1008, 1010, 1012, 1014, 1016, 1018, 1020, 1022, 1024, 1026, 1028, 1030, 1032, 1034, 1036, 1038, 1040, 1042, 1044, 1046, 1048, 1050, 1052, 1054, 1056, 1058, 1060, 1062, 1064, 1066].filterMap (fun i => tables_1[i]?) := by decide +kernel
  have hg : (u_ws RX7 TX7 32).all goodWord = true := by decide +kernel
  have h3 := List.all_eq_true.mp hg w hw
  rw [h] at hw
  obtain ⟨i, -, hi⟩ := List.mem_filterMap.mp hw
  exact lw_g_in i hi h3
theorem cl_in {k : Nat} {C : String} {T : u_T} {N : Nat} (h : vwCl[k]? = some (C, T, N)) : ∀ w ∈ u_ws C T N, w ∈ lw_g := by
  match k, h with
  | 0, h => cases h; exact cl_in0
  | 1, h => cases h; exact cl_in1
  | 2, h => cases h; exact cl_in2
  | 3, h => cases h; exact cl_in3
  | 4, h => cases h; exact cl_in4
  | 5, h => cases h; exact cl_in5
  | 6, h => cases h; exact cl_in6
  | 7, h => cases h; exact cl_in7
  | 8, h => cases h; exact cl_in0
  | 9, h => cases h; exact cl_in1
  | 10, h => cases h; exact cl_in2
  | 11, h => cases h; exact cl_in3
  | 12, h => cases h; exact cl_in4
  | 13, h => cases h; exact cl_in5
  | 14, h => cases h; exact cl_in6
  | 15, h => cases h; exact cl_in7
  | k + 16, h => simp [vwCl] at h
theorem cl_ty {k : Nat} {C : String} {T : u_T} {N : Nat} (h : vwCl[k]? = some (C, T, N)) : ∀ j, j < N → parseFieldDescriptor (T j).2.2.1 = some (clTy k j) := by
  match k, h with
  | 0, h => cases h; exact tyX0_ok
  | 1, h => cases h; exact tyX1_ok
  | 2, h => cases h; exact tyX2_ok
  | 3, h => cases h; exact tyX3_ok
  | 4, h => cases h; exact tyX4_ok
  | 5, h => cases h; exact tyX5_ok
  | 6, h => cases h; exact tyX6_ok
  | 7, h => cases h; exact tyX7_ok
  | 8, h => cases h; exact tyX0_ok
  | 9, h => cases h; exact tyX1_ok
  | 10, h => cases h; exact tyX2_ok
  | 11, h => cases h; exact tyX3_ok
  | 12, h => cases h; exact tyX4_ok
  | 13, h => cases h; exact tyX5_ok
  | 14, h => cases h; exact tyX6_ok
  | 15, h => cases h; exact tyX7_ok
  | k + 16, h => simp [vwCl] at h
theorem cl_nm {k : Nat} {C : String} {T : u_T} {N : Nat} (h : vwCl[k]? = some (C, T, N)) : ∀ a, a < N → ∀ b, b < N → a ≠ b → (T a).2.1 ≠ (T b).2.1 := by
  match k, h with
  | 0, h => cases h; exact nmX0
  | 1, h => cases h; exact nmX1
  | 2, h => cases h; exact nmX2
  | 3, h => cases h; exact nmX3
  | 4, h => cases h; exact nmX4
  | 5, h => cases h; exact nmX5
  | 6, h => cases h; exact nmX6
  | 7, h => cases h; exact nmX7
  | 8, h => cases h; exact nmX0
  | 9, h => cases h; exact nmX1
  | 10, h => cases h; exact nmX2
  | 11, h => cases h; exact nmX3
  | 12, h => cases h; exact nmX4
  | 13, h => cases h; exact nmX5
  | 14, h => cases h; exact nmX6
  | 15, h => cases h; exact nmX7
  | k + 16, h => simp [vwCl] at h
end
section
/-! PART 02: the abstract heap, and the rows of the machine told over it -/
/-- int slots, long slots, numbers of cells (+ 1; 0: null) in fields that may be null, the kinds of the cells in the order of their making -/
abbrev Hp : Type := (Nat → Nat → Int32) × (Nat → Nat → Int64) × (Nat → Nat → Nat) × List Nat
abbrev xI (h : Hp) : Nat → Nat → Int32 := h.1
abbrev xL (h : Hp) : Nat → Nat → Int64 := h.2.1
abbrev xN (h : Hp) : Nat → Nat → Nat := h.2.2.1
abbrev xK (h : Hp) : List Nat := h.2.2.2
/-- values: int, long, cell of a kind, cell of a kind or null, text -/
abbrev V : Type := Int32 ⊕ Int64 ⊕ (Nat × Nat) ⊕ (Nat × Nat) ⊕ Nat
abbrev vi (x : Int32) : V := .inl x
abbrev vl (x : Int64) : V := .inr (.inl x)
abbrev vr (k a : Nat) : V := .inr (.inr (.inl (k, a)))
abbrev vn (k a : Nat) : V := .inr (.inr (.inr (.inl (k, a))))
abbrev vt (a : Nat) : V := .inr (.inr (.inr (.inr a)))
def rep (f : Nat → Nat) : V → Value
  | .inl x => .int x
  | .inr (.inl x) => .long x
  | .inr (.inr (.inl q)) => .ref (f q.2)
  | .inr (.inr (.inr (.inl q))) => if q.2 = 0 then .null else .ref (f (q.2 - 1))
  | .inr (.inr (.inr (.inr a))) => .ref (f a)
/-- of a field: its sort (0 int, 1 long, 2 a cell that lies so much behind, of a kind; 3 a cell of a kind or null) -/
def fval (f : Nat → Nat) (h : Hp) (a j : Nat) (d : Fd3) : Value :=
  match d.1 with
  | 0 => .int (xI h a j)
  | 1 => .long (xL h a j)
  | 2 => .ref (f (a + d.2.1))
  | _ => if xN h a j = 0 then .null else .ref (f (xN h a j - 1))
def fvals (f : Nat → Nat) (h : Hp) (a : Nat) : Nat → List Fd3 → List Value
  | _, [] => []
  | j, d :: t => fval f h a j d :: fvals f h a (j + 1) t
theorem fvals_get (f : Nat → Nat) (h : Hp) (a : Nat) : ∀ (L : List Fd3) (j0 j : Nat), (fvals f h a j0 L)[j]? = (L[j]?).map (fval f h a (j0 + j))
  | [], j0, j => by simp [fvals]
  | d :: t, j0, 0 => by simp [fvals]
  | d :: t, j0, j + 1 => by
    simp only [fvals, List.getElem?_cons_succ]
    rw [fvals_get f h a t (j0 + 1) j, show j0 + 1 + j = j0 + (j + 1) by omega]
theorem fvals_len (f : Nat → Nat) (h : Hp) (a : Nat) : ∀ (L : List Fd3) (j0 : Nat), (fvals f h a j0 L).length = L.length
  | [], j0 => rfl
  | d :: t, j0 => by simp [fvals, fvals_len f h a t (j0 + 1)]
/-- the word lists' array classes: int, long, byte, boolean, rows of ints, rows of longs -/
def tysD (dA : Nat → ClassId) : List (ClassId × FieldType) := [(dA 0, .int), (dA 1, .long), (dA 2, .byte), (dA 3, .boolean), (dA 4, .array .int), (dA 5, .array .long)]
def entA (dA : Nat → ClassId) (f : Nat → Nat) (h : Hp) (a : Nat) (q : Fd3) : va_E :=
  match q.1 with
  | 0 => .inl (dA 0, q.2.1, .inl (xI h a))
  | 1 => .inl (dA 1, q.2.1, .inr (.inl (xL h a)))
  | 2 => .inl (dA 2, q.2.1, .inl (xI h a))
  | 3 => .inl (dA 3, q.2.1, .inl (xI h a))
  | 4 => .inl (dA 4, q.2.1, .inr (.inr (.inr (.inr (fun i => some (f (a + 1 + i)))))))
  | _ => .inl (dA 5, q.2.1, .inr (.inr (.inr (.inr (fun i => some (f (a + 1 + i)))))))
def ent (dA : Nat → ClassId) (f : Nat → Nat) (h : Hp) (k a : Nat) : va_E :=
  match fkL[k]? with
  | some L => .inr (k, fvals f h a 0 L)
  | none => entA dA f h a (akL.getD (k - 20) (0, 0, 0))
def wd (dA : Nat → ClassId) (f : Nat → Nat) (h : Hp) : va_W := (List.range (xK h).length).map fun a => (f a, ent dA f h ((xK h).getD a 0) a)
theorem wd_len (dA : Nat → ClassId) (f : Nat → Nat) (h : Hp) : (wd dA f h).length = (xK h).length := by simp [wd]
theorem wd_get (dA : Nat → ClassId) (f : Nat → Nat) (h : Hp) {a k : Nat} (ha : (xK h)[a]? = some k) : (wd dA f h)[a]? = some (f a, ent dA f h k a) := by
  have hl := (List.getElem?_eq_some_iff.mp ha).1
  unfold wd
  rw [List.getElem?_map, List.getElem?_range hl]
  simp [List.getD_eq_getElem?_getD, ha]
theorem wd_inv (dA : Nat → ClassId) (f : Nat → Nat) (h : Hp) {a : Nat} {q : Nat × va_E} (hq : (wd dA f h)[a]? = some q) : ∃ k, (xK h)[a]? = some k ∧ q = (f a, ent dA f h k a) := by
  have hl : a < (xK h).length := by
    have := (List.getElem?_eq_some_iff.mp hq).1
    rwa [wd_len] at this
  obtain ⟨k, hk⟩ : ∃ k, (xK h)[a]? = some k := ⟨_, List.getElem?_eq_getElem hl⟩
  exact ⟨k, hk, Option.some.inj (hq.symm.trans (wd_get dA f h hk))⟩
theorem fval_agree {f : Nat → Nat} {h h' : Hp} {a : Nat} (e1 : xI h' a = xI h a) (e2 : xL h' a = xL h a) (e3 : xN h' a = xN h a) (j : Nat) (d : Fd3) : fval f h' a j d = fval f h a j d := by
  unfold fval
  rw [e1, e2, e3]
theorem fvals_agree {f : Nat → Nat} {h h' : Hp} {a : Nat} (e1 : xI h' a = xI h a) (e2 : xL h' a = xL h a) (e3 : xN h' a = xN h a) : ∀ (L : List Fd3) (j : Nat), fvals f h' a j L = fvals f h a j L
  | [], _ => rfl
  | d :: t, j => by simp only [fvals, fval_agree e1 e2 e3, fvals_agree e1 e2 e3 t]
theorem ent_agree {dA : Nat → ClassId} {f : Nat → Nat} {h h' : Hp} {a : Nat} (e1 : xI h' a = xI h a) (e2 : xL h' a = xL h a) (e3 : xN h' a = xN h a) (k : Nat) : ent dA f h' k a = ent dA f h k a := by
  unfold ent entA
  rw [e1, e2]
  simp only [fvals_agree e1 e2 e3]
theorem wd_set {dA : Nat → ClassId} {f : Nat → Nat} {h h' : Hp} {a k : Nat} (ha : (xK h)[a]? = some k) (hal : xK h' = xK h) (o : ∀ b, b ≠ a → xI h' b = xI h b ∧ xL h' b = xL h b ∧ xN h' b = xN h b) {e : va_E} (he : ent dA f h' k a = e) :
    (wd dA f h).set a (f a, e) = wd dA f h' := by
  have hl := (List.getElem?_eq_some_iff.mp ha).1
  apply List.ext_getElem?
  intro i
  by_cases hi : i = a
  · subst hi
    rw [List.getElem?_set_self (by rw [wd_len]; exact hl), wd_get dA f h' (by rw [hal]; exact ha), he]
  · rw [List.getElem?_set_ne (Ne.symm hi)]
    by_cases hil : i < (xK h).length
    · obtain ⟨k2, hk2⟩ : ∃ k, (xK h)[i]? = some k := ⟨_, List.getElem?_eq_getElem hil⟩
      rw [wd_get dA f h hk2, wd_get dA f h' (by rw [hal]; exact hk2), ent_agree (o i hi).1 (o i hi).2.1 (o i hi).2.2]
    · rw [List.getElem?_eq_none (by rw [wd_len]; omega), List.getElem?_eq_none (by rw [wd_len, hal]; omega)]
/-- what a heap is behind a store -/
def sI (h : Hp) (a j : Nat) (x : Int32) : Hp := (fun b => if b = a then upd (xI h a) j x else xI h b, h.2)
def sL (h : Hp) (a j : Nat) (x : Int64) : Hp := (h.1, fun b => if b = a then vp_updL (xL h a) j x else xL h b, h.2.2)
def sN (h : Hp) (a j : Nat) (x : Nat) : Hp := (h.1, h.2.1, fun b => if b = a then (fun i => if i = j then x else xN h a i) else xN h b, h.2.2.2)
/-- the kinds fit: what a field or a row of rows is to lead to stands there -/
def okK (al : List Nat) (a k : Nat) : Prop := (∀ (L : List Fd3), fkL[k]? = some L → ∀ (j : Nat) (o k' : Nat), L[j]? = some (2, o, k') → al[a + o]? = some k') ∧
  (fkL[k]? = none → ∀ (t n k' : Nat), akL[k - 20]? = some (t, n, k') → 4 ≤ t → ∀ i, i < n → al[a + 1 + i]? = some k')
def GoodAl (al : List Nat) : Prop := ∀ a k, al[a]? = some k → okK al a k
/-- a value is of what it says -/
def wv (al : List Nat) : V → Prop
  | .inr (.inr (.inl q)) => al[q.2]? = some q.1
  | .inr (.inr (.inr (.inl q))) => q.2 = 0 ∨ al[q.2 - 1]? = some q.1
  | .inr (.inr (.inr (.inr a))) => 1000 ≤ a
  | _ => True
def wl (al : List Nat) (ls : List (Nat × V)) : Prop := ∀ q ∈ ls, wv al q.2
def ws9 (al : List Nat) (st : List V) : Prop := ∀ q ∈ st, wv al q
def lrep (f : Nat → Nat) (ls : List (Nat × V)) : List (Nat × Value) := ls.map fun q => (q.1, rep f q.2)
/-- slots of the cells -/
def slk (k : Nat) : Nat := match fkL[k]? with
  | some L => L.length
  | none => (akL.getD (k - 20) (0, 0, 0)).2.1
def slo : List Nat → Nat
  | [] => 0
  | k :: t => slk k + slo t
theorem slo_app : ∀ (a b : List Nat), slo (a ++ b) = slo a + slo b
  | [], b => by simp [slo]
  | k :: t, b => by simp [slo, slo_app t b, Nat.add_assoc]
/-! texts and the JDK's statics -/
def txt : List String := ["part", "by", "second", "machine", "need", "and", "one", "away", "cross", "gives"]
def txL : List Nat := [4, 2, 6, 7, 4, 3, 3, 4, 5, 5]
def txB : List (List Int32) := [[112, 97, 114, 116], [98, 121], [115, 101, 99, 111, 110, 100], [109, 97, 99, 104, 105, 110, 101], [110, 101, 101, 100], [97, 110, 100], [111, 110, 101], [97, 119, 97, 121], [99, 114, 111, 115, 115], [103, 105, 118, 101, 115]]
def txR : List (String × Nat × Nat) := [("OnlyWhatFits$Tape", 35, 0), ("OnlyWhatFits$Tape", 65, 1), ("OnlyWhatFits$Tape", 82, 2), ("OnlyWhatFits$Tape", 44, 3), ("OnlyWhatFits$Tape", 89, 4), ("OnlyWhatFits$Tape", 94, 5), ("OnlyWhatFits$Tape", 49, 6), ("OnlyWhatFits$Tape", 99, 7), ("OnlyWhatFits$Tape", 104, 8), ("OnlyWhatFits$Tape", 54, 9), ("OnlyWhatFitsModel", 214, 0), ("OnlyWhatFitsModel", 197, 1), ("OnlyWhatFitsModel", 203, 2), ("OnlyWhatFitsModel", 204, 3), ("OnlyWhatFitsModel", 210, 4), ("OnlyWhatFitsModel", 212, 5), ("OnlyWhatFitsModel", 221, 6), ("OnlyWhatFitsModel", 222, 7), ("OnlyWhatFitsModel", 224, 8), ("OnlyWhatFitsModel", 226, 9)]
def lnR : List (String × Nat × MethodName) := [("OnlyWhatFits", 9, yX5_init), ("OnlyWhatFits", 35, yX0_init), ("OnlyWhatFits", 42, yX1_init), ("OnlyWhatFits", 49, yX3_init)]
/-- what the tables say that isn't a word: rows of rows, and the constructors of nest mates -/
def SX (U : State) : Prop := (Cond.arrayOver (.array .int)).before #[] U = true ∧ (Cond.arrayOver (.array .long)).before #[] U = true ∧ ∀ (i : Nat) (q : String × Nat × MethodName), lnR[i]? = some q → va_Nw (.methodLinkNest q.1 q.2.1 q.2.2 "OnlyWhatFits") U
theorem SX.warm {s U : State} (hW : s.WarmedH U.vm) (h : SX s) : SX U := ⟨over_moved hW.alike h.1, over_moved hW.alike h.2.1, fun i q hq => va_Nw.warmM hW (h.2.2 i q hq)⟩
theorem SX.same {u U : State} (hv : U.vm = u.vm) (h : SX u) : SX U :=
  have hal : u.vm.Alike U.vm := by rw [hv]; exact Vm.Alike.refl _
  ⟨over_moved hal h.1, over_moved hal h.2.1, fun i q hq => va_tabs rfl hv.symm (h.2.2 i q hq)⟩
def SF (f : Nat → Nat) (A : Nat → Prop) (U : State) (H : Heap) : Prop :=
  vk_S 10 txL txB (fun i => f (1000 + i)) (fun i => f (2000 + i)) A U H ∧ va_Z "java/lang/String" "COMPACT_STRINGS" "Z" (.int 1) A U H ∧
  (va_Z "jdk/internal/util/Preconditions" "SIOOBE_FORMATTER" "Ljava/util/function/BiFunction;" .null A U H ∨ va_Z "jdk/internal/util/Preconditions" "SIOOBE_FORMATTER" "Ljava/util/function/BiFunction;" (.ref (f 3000)) A U H) ∧
  (∀ (k : Nat) (q : String × Nat × Nat), txR[k]? = some q → vk_R q.1 q.2.1 (txt.getD q.2.2 "") (f (1000 + q.2.2)) U) ∧ SX U
theorem SF.to {f f0 : Nat → Nat} {A B : Nat → Prop} {s U : State} {H : Heap} (h : SF f0 A s s.heap) (hq : ∀ a : Nat, a < s.heap.size → ¬ A a → H[a]? = s.heap[a]?) (hW : s.WarmedH U.vm) (hAB : ∀ q, B q → A q) (hf : ∀ a, 1000 ≤ a → f a = f0 a) : SF f B U H := by
  have e1 : (fun i => f (1000 + i)) = (fun i => f0 (1000 + i)) := funext fun i => hf _ (by omega)
  have e2 : (fun i => f (2000 + i)) = (fun i => f0 (2000 + i)) := funext fun i => hf _ (by omega)
  obtain ⟨h1, h2, h3, h4, h5⟩ := h
  refine ⟨?_, ?_, ?_, fun k q hk => ?_, h5.warm hW⟩
  · rw [e1, e2]; exact ((h1.kept hq).narrow hAB).moved hW.alike
  · exact ((h2.kept hq).narrow hAB).moved hW.alike
  · rw [hf 3000 (by omega)]
    exact h3.imp (fun h3 => ((h3.kept hq).narrow hAB).moved hW.alike) (fun h3 => ((h3.kept hq).narrow hAB).moved hW.alike)
  · rw [hf _ (by omega)]; exact (h4 k q hk).warm hW
theorem SF.same {f : Nat → Nat} {A : Nat → Prop} {u U : State} {H : Heap} (hv : U.vm = u.vm) (h : SF f A u H) : SF f A U H := by
  have hal : u.vm.Alike U.vm := by rw [hv]; exact Vm.Alike.refl _
  obtain ⟨h1, h2, h3, h4, h5⟩ := h
  exact ⟨h1.moved hal, h2.moved hal, h3.imp (fun h => h.moved hal) (fun h => h.moved hal), fun k q hk => (h4 k q hk).same hv, h5.same hv⟩
/-- all that stays the same in a method's body -/
abbrev Gt : Type := Program × Launch × Env × Room × State × MethodId × Array Value × List Frame × Method × Code × va_G × (Nat → ClassId) × (Nat → Prop) × (Nat → Nat) × List Nat × (State → Prop) × Nat
def Rr (G : Gt) (pc : Nat) (ls : List (Nat × V)) (st : List V) (h : Hp) : Prop := match G with
  | (p, l, e, R, s, m, args, below, meth, c, D, dA, A, f0, al0, Q, nL) =>
    ∀ (f : Nat → Nat) (H : Heap) (locs : List Loc) (LS : Array Slot), (∀ a, a < al0.length ∨ 1000 ≤ a → f a = f0 a) → al0 <+: xK h → GoodAl (xK h) → va_P D vwCl (wd dA f h) H → va_D A (wd dA f h) → va_S A s.heap H locs → lv_has LS nL (lrep f ls) → wl (xK h) ls → ws9 (xK h) st →
      W p l e R s m args below meth c H locs ((xK h).length - al0.length) (slo (xK h) - slo al0) Q (F0 m pc LS (st.map (rep f)))
/-- what stands at a method's entry -/
def Cx (G : Gt) (cc : ByteArray) (nL : Nat) (own : String) : Prop := match G with
  | (p, l, e, R, s, m, args, below, meth, c, D, dA, A, f0, al0, Q, nL') =>
    nL' = nL ∧ p.tables.exec = Jvm.exec ∧ c.code = cc ∧ c.maxLocals = nL ∧ s.vm.findClass own = some m.cls ∧ (∀ w ∈ lw_g, w.before args s = true) ∧ meth.locks = false ∧ va_K D vwCl (tysD dA) s ∧ (∀ q : Nat, s.heap.size ≤ q → A q) ∧ SF f0 A s s.heap
section ROWS
variable {G : Gt} {cc : ByteArray} {nL pc : Nat} {own : String} {ls : List (Nat × V)} {st : List V} {h : Hp}
/-- a row of the kit's that changes neither heap nor locals -/
theorem r_of {pc2 : Nat} {ls2 : List (Nat × V)} {st2 : List V} (C : Cx G cc nL own)
    (k : ∀ (f : Nat → Nat) (H : Heap) (locs : List Loc) (LS : Array Slot) (cells slots : Nat), match G with
      | (p, l, e, R, s, m, args, below, meth, c, D, dA, A, f0, al0, Q, nL) => GoodAl (xK h) → va_P D vwCl (wd dA f h) H → va_D A (wd dA f h) → va_S A s.heap H locs → lv_has LS nL (lrep f ls) → wl (xK h) ls → ws9 (xK h) st → p.tables.exec = Jvm.exec → c.code = cc → s.vm.findClass own = some m.cls → (∀ w ∈ lw_g, w.before args s = true) → va_K D vwCl (tysD dA) s →
        lv_has LS nL (lrep f ls2) ∧ wl (xK h) ls2 ∧ ws9 (xK h) st2 ∧ (W p l e R s m args below meth c H locs cells slots Q (F0 m pc2 LS (st2.map (rep f))) → W p l e R s m args below meth c H locs cells slots Q (F0 m pc LS (st.map (rep f)))))
    (kk : Rr G pc2 ls2 st2 h) : Rr G pc ls st h := by
  obtain ⟨p, l, e, R, s, m, args, below, meth, c, D, dA, A, f0, al0, Q, nL'⟩ := G
  obtain ⟨rfl, hx, hb, hml, hown, hts, hlk, hK, hAz, hSF⟩ := C
  intro f H locs LS h1 h2 h3 hP hD hS hl hw1 hw2
  obtain ⟨k1, k2, k3, k4⟩ := k f H locs LS _ _ h3 hP hD hS hl hw1 hw2 hx hb hown hts hK
  exact k4 (kk f H locs LS h1 h2 h3 hP hD hS k1 k2 k3)
/-- .. of operands alone -/
theorem r_op {pc2 : Nat} {st2 : List V} (C : Cx G cc nL own) (hw : ∀ al, ws9 al st → ws9 al st2)
    (k : ∀ {p : Program} {l : Launch} {e : Env} {R : Room} {s : State} {m : MethodId} {args : Array Value} {below : List Frame} {meth : Method} {c : Code} {H : Heap} {locs : List Loc} {cells slots : Nat} {Q : State → Prop} {LS : Array Slot} (f : Nat → Nat), p.tables.exec = Jvm.exec → c.code = cc →
      W p l e R s m args below meth c H locs cells slots Q (F0 m pc2 LS (st2.map (rep f))) → W p l e R s m args below meth c H locs cells slots Q (F0 m pc LS (st.map (rep f))))
    (kk : Rr G pc2 ls st2 h) : Rr G pc ls st h := by
  refine r_of (ls2 := ls) C ?_ kk
  intro f H locs LS cells slots
  obtain ⟨p, l, e, R, s, m, args, below, meth, c, D, dA, A, f0, al0, Q, nL'⟩ := G
  intro _ _ _ _ hl hw1 hw2 hx hb _ _ _
  exact ⟨hl, hw1, hw _ hw2, k f hx hb⟩
theorem w_1 {al : List Nat} {x : Int32} {st : List V} (h : ws9 al st) : ws9 al (vi x :: st) := fun q hq => by
  rcases List.mem_cons.mp hq with rfl | hq
  · trivial
  · exact h q hq
theorem w_L {al : List Nat} {x : Int64} {st : List V} (h : ws9 al st) : ws9 al (vl x :: st) := fun q hq => by
  rcases List.mem_cons.mp hq with rfl | hq
  · trivial
  · exact h q hq
theorem w_c {al : List Nat} {v : V} {st : List V} (hv : wv al v) (h : ws9 al st) : ws9 al (v :: st) := fun q hq => by
  rcases List.mem_cons.mp hq with rfl | hq
  · exact hv
  · exact h q hq
theorem w_t {al : List Nat} {v : V} {st : List V} (h : ws9 al (v :: st)) : ws9 al st := fun q hq => h q (List.mem_cons_of_mem _ hq)
theorem w_h {al : List Nat} {v : V} {st : List V} (h : ws9 al (v :: st)) : wv al v := h v List.mem_cons_self
theorem r_iadd (C : Cx G cc nL own) {x y : Int32} (d : decode cc pc = .ok (.iadd, 1)) (kk : Rr G (pc + 1) ls (vi (x + y) :: st) h) : Rr G pc ls (vi y :: vi x :: st) h :=
  r_op C (fun al hw => w_1 (w_t (w_t hw))) (fun f hx hb k => lv_iadd hx hb d k) kk
theorem r_isub (C : Cx G cc nL own) {x y : Int32} (d : decode cc pc = .ok (.isub, 1)) (kk : Rr G (pc + 1) ls (vi (x - y) :: st) h) : Rr G pc ls (vi y :: vi x :: st) h :=
  r_op C (fun al hw => w_1 (w_t (w_t hw))) (fun f hx hb k => lv_isub hx hb d k) kk
theorem r_imul (C : Cx G cc nL own) {x y : Int32} (d : decode cc pc = .ok (.imul, 1)) (kk : Rr G (pc + 1) ls (vi (x * y) :: st) h) : Rr G pc ls (vi y :: vi x :: st) h :=
  r_op C (fun al hw => w_1 (w_t (w_t hw))) (fun f hx hb k => lv_imul hx hb d k) kk
theorem r_iand (C : Cx G cc nL own) {x y : Int32} (d : decode cc pc = .ok (.iand, 1)) (kk : Rr G (pc + 1) ls (vi (x &&& y) :: st) h) : Rr G pc ls (vi y :: vi x :: st) h :=
  r_op C (fun al hw => w_1 (w_t (w_t hw))) (fun f hx hb k => lv_iand hx hb d k) kk
theorem r_ior (C : Cx G cc nL own) {x y : Int32} (d : decode cc pc = .ok (.ior, 1)) (kk : Rr G (pc + 1) ls (vi (x ||| y) :: st) h) : Rr G pc ls (vi y :: vi x :: st) h :=
  r_op C (fun al hw => w_1 (w_t (w_t hw))) (fun f hx hb k => lv_ior hx hb d k) kk
theorem r_ixor (C : Cx G cc nL own) {x y : Int32} (d : decode cc pc = .ok (.ixor, 1)) (kk : Rr G (pc + 1) ls (vi (x ^^^ y) :: st) h) : Rr G pc ls (vi y :: vi x :: st) h :=
  r_op C (fun al hw => w_1 (w_t (w_t hw))) (fun f hx hb k => lv_ixor hx hb d k) kk
theorem r_ishl (C : Cx G cc nL own) {x y : Int32} (d : decode cc pc = .ok (.ishl, 1)) (kk : Rr G (pc + 1) ls (vi (x <<< (y &&& 31)) :: st) h) : Rr G pc ls (vi y :: vi x :: st) h :=
  r_op C (fun al hw => w_1 (w_t (w_t hw))) (fun f hx hb k => lv_ishl hx hb d k) kk
theorem r_ishr (C : Cx G cc nL own) {x y : Int32} (d : decode cc pc = .ok (.ishr, 1)) (kk : Rr G (pc + 1) ls (vi (x >>> (y &&& 31)) :: st) h) : Rr G pc ls (vi y :: vi x :: st) h :=
  r_op C (fun al hw => w_1 (w_t (w_t hw))) (fun f hx hb k => lv_ishr hx hb d k) kk
theorem r_irem (C : Cx G cc nL own) {x y : Int32} (d : decode cc pc = .ok (.irem, 1)) (hne : ¬ y = 0) (kk : Rr G (pc + 1) ls (vi (x - x / y * y) :: st) h) : Rr G pc ls (vi y :: vi x :: st) h :=
  r_op C (fun al hw => w_1 (w_t (w_t hw))) (fun f hx hb k => lv_irem hx hb d hne k) kk
theorem r_ineg (C : Cx G cc nL own) {x : Int32} (d : decode cc pc = .ok (.ineg, 1)) (kk : Rr G (pc + 1) ls (vi (-x) :: st) h) : Rr G pc ls (vi x :: st) h :=
  r_op C (fun al hw => w_1 (w_t hw)) (fun f hx hb k => lv_ineg hx hb d k) kk
theorem r_ladd (C : Cx G cc nL own) {x y : Int64} (d : decode cc pc = .ok (.ladd, 1)) (kk : Rr G (pc + 1) ls (vl (x + y) :: st) h) : Rr G pc ls (vl y :: vl x :: st) h :=
  r_op C (fun al hw => w_L (w_t (w_t hw))) (fun f hx hb k => lv_ladd hx hb d k) kk
theorem r_lsub (C : Cx G cc nL own) {x y : Int64} (d : decode cc pc = .ok (.lsub, 1)) (kk : Rr G (pc + 1) ls (vl (x - y) :: st) h) : Rr G pc ls (vl y :: vl x :: st) h :=
  r_op C (fun al hw => w_L (w_t (w_t hw))) (fun f hx hb k => lv_lsub hx hb d k) kk
theorem r_lmul (C : Cx G cc nL own) {x y : Int64} (d : decode cc pc = .ok (.lmul, 1)) (kk : Rr G (pc + 1) ls (vl (x * y) :: st) h) : Rr G pc ls (vl y :: vl x :: st) h :=
  r_op C (fun al hw => w_L (w_t (w_t hw))) (fun f hx hb k => lv_lmul hx hb d k) kk
theorem r_land (C : Cx G cc nL own) {x y : Int64} (d : decode cc pc = .ok (.land, 1)) (kk : Rr G (pc + 1) ls (vl (x &&& y) :: st) h) : Rr G pc ls (vl y :: vl x :: st) h :=
  r_op C (fun al hw => w_L (w_t (w_t hw))) (fun f hx hb k => lv_land hx hb d k) kk
theorem r_lor (C : Cx G cc nL own) {x y : Int64} (d : decode cc pc = .ok (.lor, 1)) (kk : Rr G (pc + 1) ls (vl (x ||| y) :: st) h) : Rr G pc ls (vl y :: vl x :: st) h :=
  r_op C (fun al hw => w_L (w_t (w_t hw))) (fun f hx hb k => lv_lor hx hb d k) kk
theorem r_i2l (C : Cx G cc nL own) {x : Int32} (d : decode cc pc = .ok (.i2l, 1)) (kk : Rr G (pc + 1) ls (vl x.toInt64 :: st) h) : Rr G pc ls (vi x :: st) h :=
  r_op C (fun al hw => w_L (w_t hw)) (fun f hx hb k => lv_i2l hx hb d rfl k) kk
theorem r_l2i (C : Cx G cc nL own) {x : Int64} (d : decode cc pc = .ok (.l2i, 1)) (kk : Rr G (pc + 1) ls (vi x.toInt32 :: st) h) : Rr G pc ls (vl x :: st) h :=
  r_op C (fun al hw => w_1 (w_t hw)) (fun f hx hb k => lv_l2i hx hb d rfl k) kk
theorem r_i2b (C : Cx G cc nL own) {x : Int32} (d : decode cc pc = .ok (.i2b, 1)) (kk : Rr G (pc + 1) ls (vi x.toInt8.toInt32 :: st) h) : Rr G pc ls (vi x :: st) h :=
  r_op C (fun al hw => w_1 (w_t hw)) (fun f hx hb k => lv_i2b hx hb d rfl k) kk
theorem r_i2s (C : Cx G cc nL own) {x : Int32} (d : decode cc pc = .ok (.i2s, 1)) (kk : Rr G (pc + 1) ls (vi x.toInt16.toInt32 :: st) h) : Rr G pc ls (vi x :: st) h :=
  r_op C (fun al hw => w_1 (w_t hw)) (fun f hx hb k => lv_i2s hx hb d rfl k) kk
theorem r_iushr (C : Cx G cc nL own) {x y : Int32} (d : decode cc pc = .ok (.iushr, 1)) (kk : Rr G (pc + 1) ls (vi ((x.toUInt32 >>> (y.toUInt32 &&& Int32.toUInt32 31)).toInt32) :: st) h) : Rr G pc ls (vi y :: vi x :: st) h :=
  r_op C (fun al hw => w_1 (w_t (w_t hw))) (fun f hx hb k => lv_iushr hx hb d rfl k) kk
theorem r_lshl (C : Cx G cc nL own) {x : Int64} {y : Int32} (d : decode cc pc = .ok (.lshl, 1)) (kk : Rr G (pc + 1) ls (vl (x <<< (y.toInt64 &&& 63)) :: st) h) : Rr G pc ls (vi y :: vl x :: st) h :=
  r_op C (fun al hw => w_L (w_t (w_t hw))) (fun f hx hb k => lv_lshl hx hb d rfl k) kk
theorem r_lcmp (C : Cx G cc nL own) {x y : Int64} (d : decode cc pc = .ok (.lcmp, 1)) (kk : Rr G (pc + 1) ls (vi (lg_cmp x y) :: st) h) : Rr G pc ls (vl y :: vl x :: st) h :=
  r_op C (fun al hw => w_1 (w_t (w_t hw))) (fun f hx hb k => W.lcmp hx hb d k) kk
theorem r_iconst (C : Cx G cc nL own) {n : Int} {v : Int32} (d : decode cc pc = .ok (.iconst n, 1)) (hv : Int32.ofInt n = v) (kk : Rr G (pc + 1) ls (vi v :: st) h) : Rr G pc ls (st) h :=
  r_op C (fun al hw => w_1 hw) (fun f hx hb k => lv_iconst hx hb d hv k) kk
theorem r_bipush (C : Cx G cc nL own) {n : Int} {v : Int32} (d : decode cc pc = .ok (.bipush n, 2)) (hv : (Int8.ofInt n).toInt32 = v) (kk : Rr G (pc + 2) ls (vi v :: st) h) : Rr G pc ls (st) h :=
  r_op C (fun al hw => w_1 hw) (fun f hx hb k => lv_bipush hx hb d hv k) kk
theorem r_sipush (C : Cx G cc nL own) {n : Int} {v : Int32} (d : decode cc pc = .ok (.sipush n, 3)) (hv : (Int16.ofInt n).toInt32 = v) (kk : Rr G (pc + 3) ls (vi v :: st) h) : Rr G pc ls (st) h :=
  r_op C (fun al hw => w_1 hw) (fun f hx hb k => lv_sipush hx hb d hv k) kk
theorem r_lconst (C : Cx G cc nL own) {n : Fin 2} {v : Int64} (d : decode cc pc = .ok (.lconst n, 1)) (hv : Int64.ofNat (n : Nat) = v) (kk : Rr G (pc + 1) ls (vl v :: st) h) : Rr G pc ls (st) h :=
  r_op C (fun al hw => w_L hw) (fun f hx hb k => lv_lconst hx hb d hv k) kk
theorem r_dupR (C : Cx G cc nL own) {q a : Nat} (d : decode cc pc = .ok (.dup, 1)) (kk : Rr G (pc + 1) ls (vr q a :: vr q a :: st) h) : Rr G pc ls (vr q a :: st) h :=
  r_op C (fun al hw => w_c (w_h hw) hw) (fun f hx hb k => lv_dup hx hb d rfl k) kk
theorem r_popI (C : Cx G cc nL own) {x : Int32} (d : decode cc pc = .ok (.pop, 1)) (kk : Rr G (pc + 1) ls (st) h) : Rr G pc ls (vi x :: st) h :=
  r_op C (fun al hw => w_t hw) (fun f hx hb k => lv_pop hx hb d rfl k) kk
theorem r_pop2L (C : Cx G cc nL own) {x : Int64} (d : decode cc pc = .ok (.pop2, 1)) (kk : Rr G (pc + 1) ls (st) h) : Rr G pc ls (vl x :: st) h :=
  r_op C (fun al hw => w_t hw) (fun f hx hb k => lv_pop2_2 hx hb d rfl k) kk
theorem r_dup2 (C : Cx G cc nL own) {x : Int32} {q a : Nat} (d : decode cc pc = .ok (.dup2, 1)) (kk : Rr G (pc + 1) ls (vi x :: vr q a :: vi x :: vr q a :: st) h) : Rr G pc ls (vi x :: vr q a :: st) h :=
  r_op C (fun al hw => w_1 (w_c (w_h (w_t hw)) hw)) (fun f hx hb k => lv_dup2_11 hx hb d rfl rfl k) kk
theorem r_dup_x1 (C : Cx G cc nL own) {x : Int32} {q a : Nat} (d : decode cc pc = .ok (.dup_x1, 1)) (kk : Rr G (pc + 1) ls (vi x :: vr q a :: vi x :: st) h) : Rr G pc ls (vi x :: vr q a :: st) h :=
  r_op C (fun al hw => w_1 (w_c (w_h (w_t hw)) (w_1 (w_t (w_t hw))))) (fun f hx hb k => lv_dup_x1 hx hb d rfl rfl k) kk
/-- a branch -/
theorem r_br {P : Prop} {pc1 pc2 : Nat} {st2 : List V} (C : Cx G cc nL own) (hw : ∀ al, ws9 al st → ws9 al st2)
    (k : ∀ {p : Program} {l : Launch} {e : Env} {R : Room} {s : State} {m : MethodId} {args : Array Value} {below : List Frame} {meth : Method} {c : Code} {H : Heap} {locs : List Loc} {cells slots : Nat} {Q : State → Prop} {LS : Array Slot} (f : Nat → Nat), p.tables.exec = Jvm.exec → c.code = cc →
      (P → W p l e R s m args below meth c H locs cells slots Q (F0 m pc1 LS (st2.map (rep f)))) → (¬ P → W p l e R s m args below meth c H locs cells slots Q (F0 m pc2 LS (st2.map (rep f)))) → W p l e R s m args below meth c H locs cells slots Q (F0 m pc LS (st.map (rep f))))
    (k1 : P → Rr G pc1 ls st2 h) (k2 : ¬ P → Rr G pc2 ls st2 h) : Rr G pc ls st h := by
  by_cases hp : P
  · refine r_op C hw (fun f hx hb k3 => ?_) (k1 hp)
    exact k f hx hb (fun _ => k3) (fun hn => absurd hp hn)
  · refine r_op C hw (fun f hx hb k3 => ?_) (k2 hp)
    exact k f hx hb (fun q => absurd q hp) (fun _ => k3)
theorem r_if_eq (C : Cx G cc nL own) {x : Int32} {off : Int} {tgt : Nat} (d : decode cc pc = .ok (.ifCond .eq off, 3)) (ht : (pc : Int) + off = (tgt : Int)) (k1 : (x = 0) → Rr G tgt ls st h) (k2 : ¬ (x = 0) → Rr G (pc + 3) ls st h) : Rr G pc ls (vi x :: st) h :=
  r_br C (fun al hw => w_t hw) (fun f hx hb q1 q2 => lv_if_eq hx hb d ht q1 q2) k1 k2
theorem r_icmp_eq (C : Cx G cc nL own) {x y : Int32} {off : Int} {tgt : Nat} (d : decode cc pc = .ok (.if_icmp .eq off, 3)) (ht : (pc : Int) + off = (tgt : Int)) (k1 : (x = y) → Rr G tgt ls st h) (k2 : ¬ (x = y) → Rr G (pc + 3) ls st h) : Rr G pc ls (vi y :: vi x :: st) h :=
  r_br C (fun al hw => w_t (w_t hw)) (fun f hx hb q1 q2 => lv_icmp_eq hx hb d ht q1 q2) k1 k2
theorem r_if_ne (C : Cx G cc nL own) {x : Int32} {off : Int} {tgt : Nat} (d : decode cc pc = .ok (.ifCond .ne off, 3)) (ht : (pc : Int) + off = (tgt : Int)) (k1 : ¬ x = 0 → Rr G tgt ls st h) (k2 : x = 0 → Rr G (pc + 3) ls st h) : Rr G pc ls (vi x :: st) h :=
  r_br C (fun al hw => w_t hw) (fun f hx hb q1 q2 => lv_if_ne hx hb d ht q2 q1) k2 k1
theorem r_icmp_ne (C : Cx G cc nL own) {x y : Int32} {off : Int} {tgt : Nat} (d : decode cc pc = .ok (.if_icmp .ne off, 3)) (ht : (pc : Int) + off = (tgt : Int)) (k1 : ¬ x = y → Rr G tgt ls st h) (k2 : x = y → Rr G (pc + 3) ls st h) : Rr G pc ls (vi y :: vi x :: st) h :=
  r_br C (fun al hw => w_t (w_t hw)) (fun f hx hb q1 q2 => lv_icmp_ne hx hb d ht q2 q1) k2 k1
theorem r_if_lt (C : Cx G cc nL own) {x : Int32} {off : Int} {tgt : Nat} (d : decode cc pc = .ok (.ifCond .lt off, 3)) (ht : (pc : Int) + off = (tgt : Int)) (k1 : (x < 0) → Rr G tgt ls st h) (k2 : ¬ (x < 0) → Rr G (pc + 3) ls st h) : Rr G pc ls (vi x :: st) h :=
  r_br C (fun al hw => w_t hw) (fun f hx hb q1 q2 => lv_if_lt hx hb d ht q1 q2) k1 k2
theorem r_icmp_lt (C : Cx G cc nL own) {x y : Int32} {off : Int} {tgt : Nat} (d : decode cc pc = .ok (.if_icmp .lt off, 3)) (ht : (pc : Int) + off = (tgt : Int)) (k1 : (x < y) → Rr G tgt ls st h) (k2 : ¬ (x < y) → Rr G (pc + 3) ls st h) : Rr G pc ls (vi y :: vi x :: st) h :=
  r_br C (fun al hw => w_t (w_t hw)) (fun f hx hb q1 q2 => lv_icmp_lt hx hb d ht q1 q2) k1 k2
theorem r_if_ge (C : Cx G cc nL own) {x : Int32} {off : Int} {tgt : Nat} (d : decode cc pc = .ok (.ifCond .ge off, 3)) (ht : (pc : Int) + off = (tgt : Int)) (k1 : (0 ≤ x) → Rr G tgt ls st h) (k2 : ¬ (0 ≤ x) → Rr G (pc + 3) ls st h) : Rr G pc ls (vi x :: st) h :=
  r_br C (fun al hw => w_t hw) (fun f hx hb q1 q2 => lv_if_ge hx hb d ht q1 q2) k1 k2
theorem r_icmp_ge (C : Cx G cc nL own) {x y : Int32} {off : Int} {tgt : Nat} (d : decode cc pc = .ok (.if_icmp .ge off, 3)) (ht : (pc : Int) + off = (tgt : Int)) (k1 : (y ≤ x) → Rr G tgt ls st h) (k2 : ¬ (y ≤ x) → Rr G (pc + 3) ls st h) : Rr G pc ls (vi y :: vi x :: st) h :=
  r_br C (fun al hw => w_t (w_t hw)) (fun f hx hb q1 q2 => lv_icmp_ge hx hb d ht q1 q2) k1 k2
theorem r_if_gt (C : Cx G cc nL own) {x : Int32} {off : Int} {tgt : Nat} (d : decode cc pc = .ok (.ifCond .gt off, 3)) (ht : (pc : Int) + off = (tgt : Int)) (k1 : (0 < x) → Rr G tgt ls st h) (k2 : ¬ (0 < x) → Rr G (pc + 3) ls st h) : Rr G pc ls (vi x :: st) h :=
  r_br C (fun al hw => w_t hw) (fun f hx hb q1 q2 => lv_if_gt hx hb d ht q1 q2) k1 k2
theorem r_icmp_gt (C : Cx G cc nL own) {x y : Int32} {off : Int} {tgt : Nat} (d : decode cc pc = .ok (.if_icmp .gt off, 3)) (ht : (pc : Int) + off = (tgt : Int)) (k1 : (y < x) → Rr G tgt ls st h) (k2 : ¬ (y < x) → Rr G (pc + 3) ls st h) : Rr G pc ls (vi y :: vi x :: st) h :=
  r_br C (fun al hw => w_t (w_t hw)) (fun f hx hb q1 q2 => lv_icmp_gt hx hb d ht q1 q2) k1 k2
theorem r_if_le (C : Cx G cc nL own) {x : Int32} {off : Int} {tgt : Nat} (d : decode cc pc = .ok (.ifCond .le off, 3)) (ht : (pc : Int) + off = (tgt : Int)) (k1 : (x ≤ 0) → Rr G tgt ls st h) (k2 : ¬ (x ≤ 0) → Rr G (pc + 3) ls st h) : Rr G pc ls (vi x :: st) h :=
  r_br C (fun al hw => w_t hw) (fun f hx hb q1 q2 => lv_if_le hx hb d ht q1 q2) k1 k2
theorem r_icmp_le (C : Cx G cc nL own) {x y : Int32} {off : Int} {tgt : Nat} (d : decode cc pc = .ok (.if_icmp .le off, 3)) (ht : (pc : Int) + off = (tgt : Int)) (k1 : (x ≤ y) → Rr G tgt ls st h) (k2 : ¬ (x ≤ y) → Rr G (pc + 3) ls st h) : Rr G pc ls (vi y :: vi x :: st) h :=
  r_br C (fun al hw => w_t (w_t hw)) (fun f hx hb q1 q2 => lv_icmp_le hx hb d ht q1 q2) k1 k2
theorem r_goto (C : Cx G cc nL own) {off : Int} {tgt : Nat} (d : decode cc pc = .ok (.goto off, 3)) (ht : (pc : Int) + off = (tgt : Int)) (kk : Rr G tgt ls st h) : Rr G pc ls st h :=
  r_op C (fun al hw => hw) (fun f hx hb k => lv_goto hx hb d ht k) kk
/-! locals -/
def lkv (i : Nat) : List (Nat × V) → Option V
  | [] => none
  | (j, v) :: t => if Nat.beq j i then some v else lkv i t
theorem lkv_mem {i : Nat} {v : V} : ∀ {ls : List (Nat × V)}, lkv i ls = some v → (i, v) ∈ ls
  | (j, w) :: t, h => by
    unfold lkv at h
    by_cases hj : Nat.beq j i = true
    · rw [if_pos hj] at h
      rw [Nat.beq_eq] at hj
      subst hj
      cases h
      exact List.mem_cons_self
    · rw [if_neg hj] at h
      exact List.mem_cons_of_mem _ (lkv_mem h)
theorem lkv_slot {i nL : Nat} {v : V} {ls : List (Nat × V)} {LS : Array Slot} {f : Nat → Nat} (hl : lv_has LS nL (lrep f ls)) (h : lkv i ls = some v) : LS[i]? = some (.val (rep f v)) :=
  hl.2.2 (i, rep f v) (List.mem_map.mpr ⟨(i, v), lkv_mem h, rfl⟩)
def cat2 : V → Bool
  | .inr (.inl _) => true
  | _ => false
def lpick (l : List (Nat × V)) (ks : List Nat) : List (Nat × V) := ks.filterMap (fun k => l[k]?)
theorem lpick_mem {l : List (Nat × V)} {ks : List Nat} {q : Nat × V} (h : q ∈ lpick l ks) : q ∈ l := by
  obtain ⟨k, -, hk⟩ := List.mem_filterMap.mp h
  exact List.mem_of_getElem? hk
/-- locals behind a store: of an int or a cell; of a long -/
def stv (i : Nat) (v : V) (ls : List (Nat × V)) : List (Nat × V) := (i, v) :: ls.filter (fun q => !(Nat.beq q.1 i) && !(Nat.beq (q.1 + 1) i && cat2 q.2))
def stw (i : Nat) (v : V) (ls : List (Nat × V)) : List (Nat × V) := (i, v) :: ls.filter (fun q => !(Nat.beq q.1 i) && (!(Nat.beq q.1 (i + 1)) && !(Nat.beq (q.1 + 1) i && cat2 q.2)))
theorem beq_nat (a b : Nat) : (a == b) = Nat.beq a b := by
  rw [Bool.eq_iff_iff, Nat.beq_eq, beq_iff_eq]
theorem cat_rep (f : Nat → Nat) (v : V) : ((rep f v).category == 2) = cat2 v := by
  rcases v with x | x | q | q | a
  · rfl
  · rfl
  · rfl
  · show ((if q.2 = 0 then Value.null else Value.ref (f (q.2 - 1))).category == 2) = false
    split <;> rfl
  · rfl
theorem stv_rep (f : Nat → Nat) (i : Nat) (v : V) (ls : List (Nat × V)) : (i, rep f v) :: (lrep f ls).filter (fun q => !(q.1 == i) && !(q.1 + 1 == i && q.2.category == 2)) = lrep f (stv i v ls) := by
  unfold lrep stv
  rw [List.map_cons, List.filter_map]
  congr 2
  apply List.filter_congr
  intro q _
  show (!(q.1 == i) && !(q.1 + 1 == i && (rep f q.2).category == 2)) = _
  rw [cat_rep, beq_nat, beq_nat]
theorem stw_rep (f : Nat → Nat) (i : Nat) (v : V) (ls : List (Nat × V)) : (i, rep f v) :: (lrep f ls).filter (fun q => !(q.1 == i) && (!(q.1 == i + 1) && !(q.1 + 1 == i && q.2.category == 2))) = lrep f (stw i v ls) := by
  unfold lrep stw
  rw [List.map_cons, List.filter_map]
  congr 2
  apply List.filter_congr
  intro q _
  show (!(q.1 == i) && (!(q.1 == i + 1) && !(q.1 + 1 == i && (rep f q.2).category == 2))) = _
  rw [cat_rep, beq_nat, beq_nat, beq_nat]
theorem wl_stv {al : List Nat} {i : Nat} {v : V} {ls : List (Nat × V)} (hv : wv al v) (h : wl al ls) : wl al (stv i v ls) := fun q hq => by
  rcases List.mem_cons.mp hq with rfl | hq
  · exact hv
  · exact h q (List.mem_filter.mp hq).1
theorem wl_stw {al : List Nat} {i : Nat} {v : V} {ls : List (Nat × V)} (hv : wv al v) (h : wl al ls) : wl al (stw i v ls) := fun q hq => by
  rcases List.mem_cons.mp hq with rfl | hq
  · exact hv
  · exact h q (List.mem_filter.mp hq).1
theorem lv_less {LS : Array Slot} {nL : Nat} {f : Nat → Nat} {l l' : List (Nat × V)} (h : lv_has LS nL (lrep f l)) (hs : ∀ q ∈ l', q ∈ l) : lv_has LS nL (lrep f l') :=
  ⟨h.1, h.2.1, fun q hq => by
    obtain ⟨q0, h0, rfl⟩ := List.mem_map.mp hq
    exact h.2.2 _ (List.mem_map.mpr ⟨q0, hs q0 h0, rfl⟩)⟩
theorem r_weak {ls' : List (Nat × V)} (C : Cx G cc nL own) (ks : List Nat) (hk : lpick ls ks = ls') (kk : Rr G pc ls' st h) : Rr G pc ls st h := by
  subst hk
  refine r_of (st2 := st) C ?_ kk
  intro f H locs LS cells slots
  obtain ⟨p, l, e, R, s, m, args, below, meth, c, D, dA, A, f0, al0, Q, nL'⟩ := G
  intro _ _ _ _ hl hw1 hw2 hx hb _ _ _
  exact ⟨lv_less hl (fun q hq => lpick_mem hq), fun q hq => hw1 q (lpick_mem hq), hw2, fun k => k⟩
/-- a load -/
theorem r_ld {v : V} {i dl : Nat} (C : Cx G cc nL own) (hv : lkv i ls = some v)
    (k : ∀ {p : Program} {l : Launch} {e : Env} {R : Room} {s : State} {m : MethodId} {args : Array Value} {below : List Frame} {meth : Method} {c : Code} {H : Heap} {locs : List Loc} {cells slots : Nat} {Q : State → Prop} {LS : Array Slot} {rest : List Value} (f : Nat → Nat), p.tables.exec = Jvm.exec → c.code = cc → LS[i]? = some (.val (rep f v)) →
      W p l e R s m args below meth c H locs cells slots Q (F0 m (pc + dl) LS (rep f v :: rest)) → W p l e R s m args below meth c H locs cells slots Q (F0 m pc LS rest))
    (kk : Rr G (pc + dl) ls (v :: st) h) : Rr G pc ls st h := by
  refine r_of (ls2 := ls) C ?_ kk
  intro f H locs LS cells slots
  obtain ⟨p, l, e, R, s, m, args, below, meth, c, D, dA, A, f0, al0, Q, nL'⟩ := G
  intro _ _ _ _ hl hw1 hw2 hx hb _ _ _
  exact ⟨hl, hw1, w_c (hw1 _ (lkv_mem hv)) hw2, k f hx hb (lkv_slot hl hv)⟩
theorem r_iload_n (C : Cx G cc nL own) {k : Fin 4} {x : Int32} (d : decode cc pc = .ok (.iload_n k, 1)) (hl : lkv k ls = some (vi x)) (kk : Rr G (pc + 1) ls (vi x :: st) h) : Rr G pc ls st h :=
  r_ld C hl (fun f hx hb q k => lv_iload_n hx hb d rfl q k) kk
theorem r_iload (C : Cx G cc nL own) {i : Nat} {x : Int32} (d : decode cc pc = .ok (.iload i, 2)) (hl : lkv i ls = some (vi x)) (kk : Rr G (pc + 2) ls (vi x :: st) h) : Rr G pc ls st h :=
  r_ld C hl (fun f hx hb q k => lv_iload hx hb d q k) kk
theorem r_lload_n (C : Cx G cc nL own) {k : Fin 4} {x : Int64} (d : decode cc pc = .ok (.lload_n k, 1)) (hl : lkv k ls = some (vl x)) (kk : Rr G (pc + 1) ls (vl x :: st) h) : Rr G pc ls st h :=
  r_ld C hl (fun f hx hb q k => lv_lload_n hx hb d rfl q k) kk
theorem r_lload (C : Cx G cc nL own) {i : Nat} {x : Int64} (d : decode cc pc = .ok (.lload i, 2)) (hl : lkv i ls = some (vl x)) (kk : Rr G (pc + 2) ls (vl x :: st) h) : Rr G pc ls st h :=
  r_ld C hl (fun f hx hb q k => lv_lload hx hb d q k) kk
theorem r_aload_n (C : Cx G cc nL own) {k : Fin 4} {q a : Nat} (d : decode cc pc = .ok (.aload_n k, 1)) (hl : lkv k ls = some (vr q a)) (kk : Rr G (pc + 1) ls (vr q a :: st) h) : Rr G pc ls st h :=
  r_ld C hl (fun f hx hb q k => lv_aload_n hx hb d rfl q k) kk
theorem r_aload (C : Cx G cc nL own) {i q a : Nat} (d : decode cc pc = .ok (.aload i, 2)) (hl : lkv i ls = some (vr q a)) (kk : Rr G (pc + 2) ls (vr q a :: st) h) : Rr G pc ls st h :=
  r_ld C hl (fun f hx hb q k => lv_aload hx hb d q k) kk
theorem r_aload_nT (C : Cx G cc nL own) {k : Fin 4} {a : Nat} (d : decode cc pc = .ok (.aload_n k, 1)) (hl : lkv k ls = some (vt a)) (kk : Rr G (pc + 1) ls (vt a :: st) h) : Rr G pc ls st h :=
  r_ld C hl (fun f hx hb q k => lv_aload_n hx hb d rfl q k) kk
/-- a store -/
theorem r_sto {v : V} {dl : Nat} {ls1 ls' : List (Nat × V)} (C : Cx G cc nL own) (ks : List Nat) (hk : lpick ls1 ks = ls') (hw1 : ∀ al, wv al v → wl al ls → wl al ls1)
    (k : ∀ {p : Program} {l : Launch} {e : Env} {R : Room} {s : State} {m : MethodId} {args : Array Value} {below : List Frame} {meth : Method} {c : Code} {H : Heap} {locs : List Loc} {cells slots : Nat} {Q : State → Prop} {LS : Array Slot} {rest : List Value} (f : Nat → Nat), p.tables.exec = Jvm.exec → c.code = cc → lv_has LS nL (lrep f ls) →
      (∀ LS' : Array Slot, lv_has LS' nL (lrep f ls1) → W p l e R s m args below meth c H locs cells slots Q (F0 m (pc + dl) LS' rest)) → W p l e R s m args below meth c H locs cells slots Q (F0 m pc LS (rep f v :: rest)))
    (kk : Rr G (pc + dl) ls' st h) : Rr G pc ls (v :: st) h := by
  subst hk
  obtain ⟨p, l, e, R, s, m, args, below, meth, c, D, dA, A, f0, al0, Q, nL'⟩ := G
  obtain ⟨rfl, hx, hb, hml, hown, hts, hlk, hK, hAz, hSF⟩ := C
  intro f H locs LS h1 h2 h3 hP hD hS hl w1 w2
  refine k f hx hb hl fun LS' hl' => ?_
  have w3 := hw1 _ (w_h w2) w1
  exact kk f H locs LS' h1 h2 h3 hP hD hS (lv_less hl' (fun q hq => lpick_mem hq)) (fun q hq => w3 q (lpick_mem hq)) (w_t w2)
theorem r_istore_n (C : Cx G cc nL own) {k : Fin 4} {x : Int32} {ls' : List (Nat × V)} (d : decode cc pc = .ok (.istore_n k, 1)) (hn : (k : Nat) < nL) (ks : List Nat) (hk : lpick (stv k (vi x) ls) ks = ls') (kk : Rr G (pc + 1) ls' st h) : Rr G pc ls (vi x :: st) h :=
  r_sto C ks hk (fun al hv hw => wl_stv hv hw) (fun f hx hb hl q => lv_istore_n hx hb d rfl hl hn (stv_rep f k (vi x) ls) q) kk
theorem r_istore (C : Cx G cc nL own) {i : Nat} {x : Int32} {ls' : List (Nat × V)} (d : decode cc pc = .ok (.istore i, 2)) (hn : i < nL) (ks : List Nat) (hk : lpick (stv i (vi x) ls) ks = ls') (kk : Rr G (pc + 2) ls' st h) : Rr G pc ls (vi x :: st) h :=
  r_sto C ks hk (fun al hv hw => wl_stv hv hw) (fun f hx hb hl q => lv_istore hx hb d hl hn (stv_rep f i (vi x) ls) q) kk
theorem r_lstore_n (C : Cx G cc nL own) {k : Fin 4} {x : Int64} {ls' : List (Nat × V)} (d : decode cc pc = .ok (.lstore_n k, 1)) (hn : (k : Nat) + 1 < nL) (ks : List Nat) (hk : lpick (stw k (vl x) ls) ks = ls') (kk : Rr G (pc + 1) ls' st h) : Rr G pc ls (vl x :: st) h :=
  r_sto C ks hk (fun al hv hw => wl_stw hv hw) (fun f hx hb hl q => lv_lstore_n hx hb d rfl hl hn (stw_rep f k (vl x) ls) q) kk
theorem r_lstore (C : Cx G cc nL own) {i : Nat} {x : Int64} {ls' : List (Nat × V)} (d : decode cc pc = .ok (.lstore i, 2)) (hn : i + 1 < nL) (ks : List Nat) (hk : lpick (stw i (vl x) ls) ks = ls') (kk : Rr G (pc + 2) ls' st h) : Rr G pc ls (vl x :: st) h :=
  r_sto C ks hk (fun al hv hw => wl_stw hv hw) (fun f hx hb hl q => lv_lstore hx hb d hl hn (stw_rep f i (vl x) ls) q) kk
theorem r_astore_n (C : Cx G cc nL own) {k : Fin 4} {q a : Nat} {ls' : List (Nat × V)} (d : decode cc pc = .ok (.astore_n k, 1)) (hn : (k : Nat) < nL) (ks : List Nat) (hk : lpick (stv k (vr q a) ls) ks = ls') (kk : Rr G (pc + 1) ls' st h) : Rr G pc ls (vr q a :: st) h :=
  r_sto C ks hk (fun al hv hw => wl_stv hv hw) (fun f hx hb hl z => lv_astore_n hx hb d rfl hl hn (stv_rep f k (vr q a) ls) z) kk
theorem r_astore (C : Cx G cc nL own) {i : Nat} {q a : Nat} {ls' : List (Nat × V)} (d : decode cc pc = .ok (.astore i, 2)) (hn : i < nL) (ks : List Nat) (hk : lpick (stv i (vr q a) ls) ks = ls') (kk : Rr G (pc + 2) ls' st h) : Rr G pc ls (vr q a :: st) h :=
  r_sto C ks hk (fun al hv hw => wl_stv hv hw) (fun f hx hb hl z => lv_astore hx hb d hl hn (stv_rep f i (vr q a) ls) z) kk
theorem r_iinc (C : Cx G cc nL own) {i : Nat} {n : Int} {x v : Int32} {ls' : List (Nat × V)} (d : decode cc pc = .ok (.iinc i n, 3)) (hl : lkv i ls = some (vi x)) (hv : x + Int32.ofInt n = v) (hn : i < nL) (ks : List Nat) (hk : lpick (stv i (vi v) ls) ks = ls') (kk : Rr G (pc + 3) ls' st h) : Rr G pc ls st h := by
  subst hk
  obtain ⟨p, l, e, R, s, m, args, below, meth, c, D, dA, A, f0, al0, Q, nL'⟩ := G
  obtain ⟨rfl, hx, hb, hml, hown, hts, hlk, hK, hAz, hSF⟩ := C
  intro f H locs LS h1 h2 h3 hP hD hS hL w1 w2
  obtain ⟨k0, hk0⟩ := List.getElem?_of_mem (show (i, Value.int x) ∈ lrep f ls from List.mem_map.mpr ⟨(i, vi x), lkv_mem hl, rfl⟩)
  refine lv_iinc hx hb d hL hk0 hv hn (stv_rep f i (vi v) ls) (fun LS' hl' => ?_)
  have w3 : wl (xK h) (stv i (vi v) ls) := wl_stv trivial w1
  exact kk f H locs LS' h1 h2 h3 hP hD hS (lv_less hl' (fun q hq => lpick_mem hq)) (fun q hq => w3 q (lpick_mem hq)) w2
/-! cells -/
theorem ent_obj {dA : Nat → ClassId} {f : Nat → Nat} {h : Hp} {k a : Nat} {L : List Fd3} (hL : fkL[k]? = some L) : ent dA f h k a = .inr (k, fvals f h a 0 L) := by
  unfold ent; rw [hL]
theorem ent_arr {dA : Nat → ClassId} {f : Nat → Nat} {h : Hp} {k a : Nat} {q : Fd3} (hL : fkL[k]? = none) (hq : akL[k - 20]? = some q) : ent dA f h k a = entA dA f h a q := by
  unfold ent; rw [hL]; simp [List.getD_eq_getElem?_getD, hq]
theorem fvals_at {f : Nat → Nat} {h : Hp} {a j : Nat} {L : List Fd3} {d : Fd3} (hj : L[j]? = some d) : (fvals f h a 0 L)[j]? = some (fval f h a j d) := by
  rw [fvals_get, hj, Nat.zero_add]; rfl
theorem r_getI (C : Cx G cc nL own) {k a j o k' N index : Nat} {C0 : String} {T : u_T} {L : List Fd3} {x : Int32} (hc : vwCl[k]? = some (C0, T, N)) (hL : fkL[k]? = some L) (hj : L[j]? = some (0, o, k')) (hjN : j < N) (hlk : Cond.fieldLink own index (T j).1 (T j).2.1 (T j).2.2.1 ∈ lw_g)
    (d : decode cc pc = .ok (.getfield index, 3)) (hx : xI h a j = x) (kk : Rr G (pc + 3) ls (vi x :: st) h) : Rr G pc ls (vr k a :: st) h := by
  subst hx
  refine r_of (ls2 := ls) C ?_ kk
  intro f H locs LS cells slots
  obtain ⟨p, l, e, R, s, m, args, below, meth, c, D, dA, A, f0, al0, Q, nL'⟩ := G
  intro _ hP _ _ hl hw1 hw2 hx hb hown hts hK
  refine ⟨hl, hw1, w_1 (w_t hw2), fun kk => ?_⟩
  exact va_get hx hb hts (cl_in hc) hown hK hP a ((wd_get dA f h (w_h hw2)).trans (by rw [ent_obj hL])) hc j hjN (hts _ hlk) (fun _ h9 => h9) (fvals_at hj) d kk
theorem r_getL (C : Cx G cc nL own) {k a j o k' N index : Nat} {C0 : String} {T : u_T} {L : List Fd3} {x : Int64} (hc : vwCl[k]? = some (C0, T, N)) (hL : fkL[k]? = some L) (hj : L[j]? = some (1, o, k')) (hjN : j < N) (hlk : Cond.fieldLink own index (T j).1 (T j).2.1 (T j).2.2.1 ∈ lw_g)
    (d : decode cc pc = .ok (.getfield index, 3)) (hx : xL h a j = x) (kk : Rr G (pc + 3) ls (vl x :: st) h) : Rr G pc ls (vr k a :: st) h := by
  subst hx
  refine r_of (ls2 := ls) C ?_ kk
  intro f H locs LS cells slots
  obtain ⟨p, l, e, R, s, m, args, below, meth, c, D, dA, A, f0, al0, Q, nL'⟩ := G
  intro _ hP _ _ hl hw1 hw2 hx hb hown hts hK
  refine ⟨hl, hw1, w_L (w_t hw2), fun kk => ?_⟩
  exact va_get hx hb hts (cl_in hc) hown hK hP a ((wd_get dA f h (w_h hw2)).trans (by rw [ent_obj hL])) hc j hjN (hts _ hlk) (fun _ h9 => h9) (fvals_at hj) d kk
theorem r_getP (C : Cx G cc nL own) {k a j o k' N index : Nat} {C0 : String} {T : u_T} {L : List Fd3} (hc : vwCl[k]? = some (C0, T, N)) (hL : fkL[k]? = some L) (hj : L[j]? = some (2, o, k')) (hjN : j < N) (hlk : Cond.fieldLink own index (T j).1 (T j).2.1 (T j).2.2.1 ∈ lw_g)
    (d : decode cc pc = .ok (.getfield index, 3)) (kk : Rr G (pc + 3) ls (vr k' (a + o) :: st) h) : Rr G pc ls (vr k a :: st) h := by
  refine r_of (ls2 := ls) C ?_ kk
  intro f H locs LS cells slots
  obtain ⟨p, l, e, R, s, m, args, below, meth, c, D, dA, A, f0, al0, Q, nL'⟩ := G
  intro hG hP _ _ hl hw1 hw2 hx hb hown hts hK
  refine ⟨hl, hw1, w_c ((hG a k (w_h hw2)).1 L hL j o k' hj) (w_t hw2), fun kk => ?_⟩
  exact va_get hx hb hts (cl_in hc) hown hK hP a ((wd_get dA f h (w_h hw2)).trans (by rw [ent_obj hL])) hc j hjN (hts _ hlk) (fun _ h9 => h9) (fvals_at hj) d kk
/-- what a heap must know for a cell or null in a field -/
theorem r_getN (C : Cx G cc nL own) {k a j o k' N index : Nat} {C0 : String} {T : u_T} {L : List Fd3} {x : Nat} (hc : vwCl[k]? = some (C0, T, N)) (hL : fkL[k]? = some L) (hj : L[j]? = some (3, o, k')) (hjN : j < N) (hlk : Cond.fieldLink own index (T j).1 (T j).2.1 (T j).2.2.1 ∈ lw_g)
    (d : decode cc pc = .ok (.getfield index, 3)) (hx : xN h a j = x) (hv : x = 0 ∨ (xK h)[x - 1]? = some k') (kk : Rr G (pc + 3) ls (vn k' x :: st) h) : Rr G pc ls (vr k a :: st) h := by
  subst hx
  refine r_of (ls2 := ls) C ?_ kk
  intro f H locs LS cells slots
  obtain ⟨p, l, e, R, s, m, args, below, meth, c, D, dA, A, f0, al0, Q, nL'⟩ := G
  intro hG hP _ _ hl hw1 hw2 hx hb hown hts hK
  refine ⟨hl, hw1, w_c hv (w_t hw2), fun kk => ?_⟩
  exact va_get hx hb hts (cl_in hc) hown hK hP a ((wd_get dA f h (w_h hw2)).trans (by rw [ent_obj hL])) hc j hjN (hts _ hlk) (fun _ h9 => h9) (fvals_at hj) d kk
/-- a cell or null that is a cell -/
theorem r_some (C : Cx G cc nL own) {k a : Nat} (kk : Rr G pc ls (vr k a :: st) h) : Rr G pc ls (vn k (a + 1) :: st) h := by
  refine r_of (ls2 := ls) C ?_ kk
  intro f H locs LS cells slots
  obtain ⟨p, l, e, R, s, m, args, below, meth, c, D, dA, A, f0, al0, Q, nL'⟩ := G
  intro hG hP _ _ hl hw1 hw2 hx hb hown hts hK
  have h1 : wv (xK h) (vr k a) := by
    rcases w_h hw2 with h0 | h0
    · exact absurd h0 (by simp)
    · simpa [wv] using h0
  exact ⟨hl, hw1, w_c h1 (w_t hw2), fun kk => by simpa [rep] using kk⟩
theorem fvals_sI {f : Nat → Nat} {h : Hp} {a j o k' : Nat} {x : Int32} {L : List Fd3} (hj : L[j]? = some (0, o, k')) : fvals f (sI h a j x) a 0 L = (fvals f h a 0 L).set j (.int x) := by
  apply List.ext_getElem?
  intro i
  by_cases hi : i = j
  · subst hi
    have hl : i < (fvals f h a 0 L).length := by rw [fvals_len]; exact (List.getElem?_eq_some_iff.mp hj).1
    rw [List.getElem?_set_self hl, fvals_at hj]
    simp [fval, sI, xI, upd]
  · rw [List.getElem?_set_ne (Ne.symm hi), fvals_get, fvals_get]
    congr 1
    funext d
    simp [fval, sI, xI, xL, xN, upd, hi]
theorem fvals_sL {f : Nat → Nat} {h : Hp} {a j o k' : Nat} {x : Int64} {L : List Fd3} (hj : L[j]? = some (1, o, k')) : fvals f (sL h a j x) a 0 L = (fvals f h a 0 L).set j (.long x) := by
  apply List.ext_getElem?
  intro i
  by_cases hi : i = j
  · subst hi
    have hl : i < (fvals f h a 0 L).length := by rw [fvals_len]; exact (List.getElem?_eq_some_iff.mp hj).1
    rw [List.getElem?_set_self hl, fvals_at hj]
    simp [fval, sL, xL, vp_updL]
  · rw [List.getElem?_set_ne (Ne.symm hi), fvals_get, fvals_get]
    congr 1
    funext d
    simp [fval, sL, xI, xL, xN, vp_updL, hi]
/-- a row that writes one cell -/
theorem r_put {st2 : List V} {pc2 a k : Nat} {h2 : Hp} (C : Cx G cc nL own) (hal : xK h2 = xK h) (ho : ∀ b, b ≠ a → xI h2 b = xI h b ∧ xL h2 b = xL h b ∧ xN h2 b = xN h b) (hw : ∀ al, ws9 al st → ws9 al st2) (hk : ∀ al, ws9 al st → al[a]? = some k)
    (kit : ∀ (f : Nat → Nat) (H : Heap) (locs : List Loc) (LS : Array Slot) (cells slots : Nat), match G with
      | (p, l, e, R, s, m, args, below, meth, c, D, dA, A, f0, al0, Q, nL) => va_P D vwCl (wd dA f h) H → va_D A (wd dA f h) → va_S A s.heap H locs → p.tables.exec = Jvm.exec → c.code = cc → s.vm.findClass own = some m.cls → (∀ w ∈ lw_g, w.before args s = true) → va_K D vwCl (tysD dA) s → (wd dA f h)[a]? = some (f a, ent dA f h k a) →
        (∀ (H1 : Heap) (locs1 : List Loc), va_P D vwCl ((wd dA f h).set a (f a, ent dA f h2 k a)) H1 → va_D A ((wd dA f h).set a (f a, ent dA f h2 k a)) → va_S A s.heap H1 locs1 → W p l e R s m args below meth c H1 locs1 cells slots Q (F0 m pc2 LS (st2.map (rep f)))) → W p l e R s m args below meth c H locs cells slots Q (F0 m pc LS (st.map (rep f))))
    (kk : Rr G pc2 ls st2 h2) : Rr G pc ls st h := by
  obtain ⟨p, l, e, R, s, m, args, below, meth, c, D, dA, A, f0, al0, Q, nL'⟩ := G
  obtain ⟨rfl, hx, hb, hml, hown, hts, hlk, hK, hAz, hSF⟩ := C
  intro f H locs LS h1 h2a h3 hP hD hS hl w1 w2
  have hka := hk _ w2
  refine kit f H locs LS _ _ hP hD hS hx hb hown hts hK (wd_get dA f h hka) (fun H1 locs1 hP1 hD1 hS1 => ?_)
  rw [wd_set hka hal ho rfl] at hP1 hD1
  have := kk f H1 locs1 LS h1 (by rw [hal]; exact h2a) (by rw [hal]; exact h3) hP1 hD1 hS1 hl (by rw [hal]; exact w1) (by rw [hal]; exact hw _ w2)
  rw [hal] at this
  exact this
theorem oth_sI {h : Hp} {a j : Nat} {x : Int32} : ∀ b, b ≠ a → xI (sI h a j x) b = xI h b ∧ xL (sI h a j x) b = xL h b ∧ xN (sI h a j x) b = xN h b := fun b hb => ⟨by simp [sI, xI, hb], rfl, rfl⟩
theorem oth_sL {h : Hp} {a j : Nat} {x : Int64} : ∀ b, b ≠ a → xI (sL h a j x) b = xI h b ∧ xL (sL h a j x) b = xL h b ∧ xN (sL h a j x) b = xN h b := fun b hb => ⟨rfl, by simp [sL, xL, hb], rfl⟩
theorem r_putI (C : Cx G cc nL own) {k a j o k' N index : Nat} {C0 : String} {T : u_T} {L : List Fd3} {x : Int32} (hc : vwCl[k]? = some (C0, T, N)) (hL : fkL[k]? = some L) (hj : L[j]? = some (0, o, k')) (hjN : j < N) (hlk : Cond.fieldLink own index (T j).1 (T j).2.1 (T j).2.2.1 ∈ lw_g)
    (hfin : (T j).2.2.2 = false) (hn : narrow (clTy k j) (.int x) = .int x) (hfit : fits (clTy k j) (.int x) = true)
    (d : decode cc pc = .ok (.putfield index, 3)) (kk : Rr G (pc + 3) ls st (sI h a j x)) : Rr G pc ls (vi x :: vr k a :: st) h := by
  refine r_put (h2 := sI h a j x) (a := a) (k := k) (st2 := st) C rfl oth_sI (fun al hw => w_t (w_t hw)) (fun al hw => w_h (w_t hw)) ?_ kk
  intro f H locs LS cells slots
  obtain ⟨p, l, e, R, s, m, args, below, meth, c, D, dA, A, f0, al0, Q, nL'⟩ := G
  intro hP hD hS hx hb hown hts hK hg kk
  rw [ent_obj hL] at hg
  have hl9 : j < (fvals f h a 0 L).length := by rw [fvals_len]; exact (List.getElem?_eq_some_iff.mp hj).1
  refine va_put hx hb hts (cl_in hc) (clTy k) (cl_ty hc) (cl_nm hc) hown hK hP hD hS a hg hc j hjN (hts _ hlk) (fun _ h9 => h9) hfin (cl_ty hc j hjN) hn hfit hl9 d (fun H1 locs1 a1 a2 a3 => kk H1 locs1 ?_ ?_ a3)
  · rw [ent_obj hL, fvals_sI hj]; exact a1
  · rw [ent_obj hL, fvals_sI hj]; exact a2
theorem r_putL (C : Cx G cc nL own) {k a j o k' N index : Nat} {C0 : String} {T : u_T} {L : List Fd3} {x : Int64} (hc : vwCl[k]? = some (C0, T, N)) (hL : fkL[k]? = some L) (hj : L[j]? = some (1, o, k')) (hjN : j < N) (hlk : Cond.fieldLink own index (T j).1 (T j).2.1 (T j).2.2.1 ∈ lw_g)
    (hfin : (T j).2.2.2 = false) (hn : narrow (clTy k j) (.long x) = .long x) (hfit : fits (clTy k j) (.long x) = true)
    (d : decode cc pc = .ok (.putfield index, 3)) (kk : Rr G (pc + 3) ls st (sL h a j x)) : Rr G pc ls (vl x :: vr k a :: st) h := by
  refine r_put (h2 := sL h a j x) (a := a) (k := k) (st2 := st) C rfl oth_sL (fun al hw => w_t (w_t hw)) (fun al hw => w_h (w_t hw)) ?_ kk
  intro f H locs LS cells slots
  obtain ⟨p, l, e, R, s, m, args, below, meth, c, D, dA, A, f0, al0, Q, nL'⟩ := G
  intro hP hD hS hx hb hown hts hK hg kk
  rw [ent_obj hL] at hg
  have hl9 : j < (fvals f h a 0 L).length := by rw [fvals_len]; exact (List.getElem?_eq_some_iff.mp hj).1
  refine va_put hx hb hts (cl_in hc) (clTy k) (cl_ty hc) (cl_nm hc) hown hK hP hD hS a hg hc j hjN (hts _ hlk) (fun _ h9 => h9) hfin (cl_ty hc j hjN) hn hfit hl9 d (fun H1 locs1 a1 a2 a3 => kk H1 locs1 ?_ ?_ a3)
  · rw [ent_obj hL, fvals_sL hj]; exact a1
  · rw [ent_obj hL, fvals_sL hj]; exact a2
theorem r_iald (C : Cx G cc nL own) {k a n o j : Nat} {i : Int32} {x : Int32} (hL : fkL[k]? = none) (hq : akL[k - 20]? = some (0, n, o)) (hn : n < 2 ^ 31) (hi : i = nI j) (hj : j < n) (d : decode cc pc = .ok (.iaload, 1)) (hx : xI h a j = x) (kk : Rr G (pc + 1) ls (vi x :: st) h) : Rr G pc ls (vi i :: vr k a :: st) h := by
  subst hx; subst hi
  refine r_of (ls2 := ls) C ?_ kk
  intro f H locs LS cells slots
  obtain ⟨p, l, e, R, s, m, args, below, meth, c, D, dA, A, f0, al0, Q, nL'⟩ := G
  intro _ hP _ _ hl hw1 hw2 hx hb hown hts hK
  refine ⟨hl, hw1, w_1 (w_t (w_t hw2)), fun kk => ?_⟩
  refine va_iald hx hb hK hP a 0 ((wd_get dA f h (w_h (w_t hw2))).trans (by rw [ent_arr hL hq]; rfl)) rfl (vp_in_nI hj hn) d ?_
  rw [nI_clamp (Nat.lt_trans hj hn)]
  exact kk
theorem r_lald (C : Cx G cc nL own) {k a n o j : Nat} {i : Int32} {x : Int64} (hL : fkL[k]? = none) (hq : akL[k - 20]? = some (1, n, o)) (hn : n < 2 ^ 31) (hi : i = nI j) (hj : j < n) (d : decode cc pc = .ok (.laload, 1)) (hx : xL h a j = x) (kk : Rr G (pc + 1) ls (vl x :: st) h) : Rr G pc ls (vi i :: vr k a :: st) h := by
  subst hx; subst hi
  refine r_of (ls2 := ls) C ?_ kk
  intro f H locs LS cells slots
  obtain ⟨p, l, e, R, s, m, args, below, meth, c, D, dA, A, f0, al0, Q, nL'⟩ := G
  intro _ hP _ _ hl hw1 hw2 hx hb hown hts hK
  refine ⟨hl, hw1, w_L (w_t (w_t hw2)), fun kk => ?_⟩
  refine va_lald hx hb hK hP a 1 ((wd_get dA f h (w_h (w_t hw2))).trans (by rw [ent_arr hL hq]; rfl)) rfl (vp_in_nI hj hn) d ?_
  rw [nI_clamp (Nat.lt_trans hj hn)]
  exact kk
theorem r_bald (C : Cx G cc nL own) {k a n o j : Nat} {i : Int32} {x : Int32} (hL : fkL[k]? = none) (hq : akL[k - 20]? = some (2, n, o)) (hn : n < 2 ^ 31) (hi : i = nI j) (hj : j < n) (d : decode cc pc = .ok (.baload, 1)) (hx : xI h a j = x) (kk : Rr G (pc + 1) ls (vi x :: st) h) : Rr G pc ls (vi i :: vr k a :: st) h := by
  subst hx; subst hi
  refine r_of (ls2 := ls) C ?_ kk
  intro f H locs LS cells slots
  obtain ⟨p, l, e, R, s, m, args, below, meth, c, D, dA, A, f0, al0, Q, nL'⟩ := G
  intro _ hP _ _ hl hw1 hw2 hx hb hown hts hK
  refine ⟨hl, hw1, w_1 (w_t (w_t hw2)), fun kk => ?_⟩
  refine va_bald hx hb hK hP a 2 ((wd_get dA f h (w_h (w_t hw2))).trans (by rw [ent_arr hL hq]; rfl)) rfl (vp_in_nI hj hn) d ?_
  rw [nI_clamp (Nat.lt_trans hj hn)]
  exact kk
theorem r_zald (C : Cx G cc nL own) {k a n o j : Nat} {i : Int32} {x : Int32} (hL : fkL[k]? = none) (hq : akL[k - 20]? = some (3, n, o)) (hn : n < 2 ^ 31) (hi : i = nI j) (hj : j < n) (d : decode cc pc = .ok (.baload, 1)) (hx : xI h a j = x) (kk : Rr G (pc + 1) ls (vi x :: st) h) : Rr G pc ls (vi i :: vr k a :: st) h := by
  subst hx; subst hi
  refine r_of (ls2 := ls) C ?_ kk
  intro f H locs LS cells slots
  obtain ⟨p, l, e, R, s, m, args, below, meth, c, D, dA, A, f0, al0, Q, nL'⟩ := G
  intro _ hP _ _ hl hw1 hw2 hx hb hown hts hK
  refine ⟨hl, hw1, w_1 (w_t (w_t hw2)), fun kk => ?_⟩
  refine va_zald hx hb hK hP a 3 ((wd_get dA f h (w_h (w_t hw2))).trans (by rw [ent_arr hL hq]; rfl)) rfl (vp_in_nI hj hn) d ?_
  rw [nI_clamp (Nat.lt_trans hj hn)]
  exact kk
theorem r_iast (C : Cx G cc nL own) {k a n o j : Nat} {i : Int32} {x : Int32} (hL : fkL[k]? = none) (hq : akL[k - 20]? = some (0, n, o)) (hn : n < 2 ^ 31) (hi : i = nI j) (hj : j < n) (d : decode cc pc = .ok (.iastore, 1)) (kk : Rr G (pc + 1) ls st (sI h a j x)) : Rr G pc ls (vi x :: vi i :: vr k a :: st) h := by
  subst hi
  refine r_put (h2 := sI h a j x) (a := a) (k := k) (st2 := st) C rfl oth_sI (fun al hw => w_t (w_t (w_t hw))) (fun al hw => w_h (w_t (w_t hw))) ?_ kk
  intro f H locs LS cells slots
  obtain ⟨p, l, e, R, s, m, args, below, meth, c, D, dA, A, f0, al0, Q, nL'⟩ := G
  intro hP hD hS hx hb hown hts hK hg kk
  have e1 : ent dA f (sI h a j x) k a = (.inl (dA 0, n, .inl (upd (xI h a) j x))) := by rw [ent_arr hL hq]; simp [entA, sI, xI]
  rw [ent_arr hL hq] at hg
  refine va_iast hx hb hK hP hD hS a 0 hg rfl (vp_in_nI hj hn) d (fun H1 locs1 a1 a2 a3 => kk H1 locs1 ?_ ?_ a3)
  · rw [e1]; rw [nI_clamp (Nat.lt_trans hj hn)] at a1; exact a1
  · rw [e1]; rw [nI_clamp (Nat.lt_trans hj hn)] at a2; exact a2
theorem r_last (C : Cx G cc nL own) {k a n o j : Nat} {i : Int32} {x : Int64} (hL : fkL[k]? = none) (hq : akL[k - 20]? = some (1, n, o)) (hn : n < 2 ^ 31) (hi : i = nI j) (hj : j < n) (d : decode cc pc = .ok (.lastore, 1)) (kk : Rr G (pc + 1) ls st (sL h a j x)) : Rr G pc ls (vl x :: vi i :: vr k a :: st) h := by
  subst hi
  refine r_put (h2 := sL h a j x) (a := a) (k := k) (st2 := st) C rfl oth_sL (fun al hw => w_t (w_t (w_t hw))) (fun al hw => w_h (w_t (w_t hw))) ?_ kk
  intro f H locs LS cells slots
  obtain ⟨p, l, e, R, s, m, args, below, meth, c, D, dA, A, f0, al0, Q, nL'⟩ := G
  intro hP hD hS hx hb hown hts hK hg kk
  have e1 : ent dA f (sL h a j x) k a = (.inl (dA 1, n, .inr (.inl (vp_updL (xL h a) j x)))) := by rw [ent_arr hL hq]; simp [entA, sL, xL]
  rw [ent_arr hL hq] at hg
  refine va_last hx hb hK hP hD hS a 1 hg rfl (vp_in_nI hj hn) d (fun H1 locs1 a1 a2 a3 => kk H1 locs1 ?_ ?_ a3)
  · rw [e1]; rw [nI_clamp (Nat.lt_trans hj hn)] at a1; exact a1
  · rw [e1]; rw [nI_clamp (Nat.lt_trans hj hn)] at a2; exact a2
theorem r_bast (C : Cx G cc nL own) {k a n o j : Nat} {i : Int32} {x : Int32} (hL : fkL[k]? = none) (hq : akL[k - 20]? = some (2, n, o)) (hn : n < 2 ^ 31) (hi : i = nI j) (hj : j < n) (d : decode cc pc = .ok (.bastore, 1)) (kk : Rr G (pc + 1) ls st (sI h a j (vp_nar .byte x))) : Rr G pc ls (vi x :: vi i :: vr k a :: st) h := by
  subst hi
  refine r_put (h2 := sI h a j (vp_nar .byte x)) (a := a) (k := k) (st2 := st) C rfl oth_sI (fun al hw => w_t (w_t (w_t hw))) (fun al hw => w_h (w_t (w_t hw))) ?_ kk
  intro f H locs LS cells slots
  obtain ⟨p, l, e, R, s, m, args, below, meth, c, D, dA, A, f0, al0, Q, nL'⟩ := G
  intro hP hD hS hx hb hown hts hK hg kk
  have e1 : ent dA f (sI h a j (vp_nar .byte x)) k a = (.inl (dA 2, n, .inl (upd (xI h a) j (vp_nar .byte x)))) := by rw [ent_arr hL hq]; simp [entA, sI, xI]
  rw [ent_arr hL hq] at hg
  refine va_bast hx hb hK hP hD hS a 2 hg rfl (vp_in_nI hj hn) d (fun H1 locs1 a1 a2 a3 => kk H1 locs1 ?_ ?_ a3)
  · rw [e1]; rw [nI_clamp (Nat.lt_trans hj hn)] at a1; exact a1
  · rw [e1]; rw [nI_clamp (Nat.lt_trans hj hn)] at a2; exact a2
theorem r_zast (C : Cx G cc nL own) {k a n o j : Nat} {i : Int32} {x : Int32} (hL : fkL[k]? = none) (hq : akL[k - 20]? = some (3, n, o)) (hn : n < 2 ^ 31) (hi : i = nI j) (hj : j < n) (d : decode cc pc = .ok (.bastore, 1)) (kk : Rr G (pc + 1) ls st (sI h a j (vp_nar .boolean x))) : Rr G pc ls (vi x :: vi i :: vr k a :: st) h := by
  subst hi
  refine r_put (h2 := sI h a j (vp_nar .boolean x)) (a := a) (k := k) (st2 := st) C rfl oth_sI (fun al hw => w_t (w_t (w_t hw))) (fun al hw => w_h (w_t (w_t hw))) ?_ kk
  intro f H locs LS cells slots
  obtain ⟨p, l, e, R, s, m, args, below, meth, c, D, dA, A, f0, al0, Q, nL'⟩ := G
  intro hP hD hS hx hb hown hts hK hg kk
  have e1 : ent dA f (sI h a j (vp_nar .boolean x)) k a = (.inl (dA 3, n, .inl (upd (xI h a) j (vp_nar .boolean x)))) := by rw [ent_arr hL hq]; simp [entA, sI, xI]
  rw [ent_arr hL hq] at hg
  refine va_zast hx hb hK hP hD hS a 3 hg rfl (vp_in_nI hj hn) d (fun H1 locs1 a1 a2 a3 => kk H1 locs1 ?_ ?_ a3)
  · rw [e1]; rw [nI_clamp (Nat.lt_trans hj hn)] at a1; exact a1
  · rw [e1]; rw [nI_clamp (Nat.lt_trans hj hn)] at a2; exact a2
theorem r_aald4 (C : Cx G cc nL own) {k a n o j : Nat} {i : Int32} (hL : fkL[k]? = none) (hq : akL[k - 20]? = some (4, n, o)) (hn : n < 2 ^ 31) (hi : i = nI j) (hj : j < n) (d : decode cc pc = .ok (.aaload, 1)) (kk : Rr G (pc + 1) ls (vr o (a + 1 + j) :: st) h) : Rr G pc ls (vi i :: vr k a :: st) h := by
  subst hi
  refine r_of (ls2 := ls) C ?_ kk
  intro f H locs LS cells slots
  obtain ⟨p, l, e, R, s, m, args, below, meth, c, D, dA, A, f0, al0, Q, nL'⟩ := G
  intro hG hP _ _ hl hw1 hw2 hx hb hown hts hK
  refine ⟨hl, hw1, w_c ((hG a k (w_h (w_t hw2))).2 hL 4 n o hq (by omega) j hj) (w_t (w_t hw2)), fun kk => ?_⟩
  have hat := (wd_get dA f h (w_h (w_t hw2))).trans (show _ = some (f a, (.inl (dA 4, n, .inr (.inr (.inr (.inr (fun i => some (f (a + 1 + i))))))) : va_E)) by rw [ent_arr hL hq]; rfl)
  have hin : vp_in (nI j) n := vp_in_nI hj hn
  have hc : (nI j).toNatClampNeg = j := nI_clamp (Nat.lt_trans hj hn)
  exact W.aald (v := .ref (f (a + 1 + j))) (ty := .array .int) hx hb (hP a _ hat) ((hK.2 4 _ rfl).1 n (fun j => va_rf (some (f (a + 1 + j))))) rfl (fun q => by cases q) (by show ¬ (_ < 0 ∨ (arrV _ _ _).slots.size ≤ _); rw [arrV_size]; exact hin) (by show (arrV _ _ _).slots[_]? = _; rw [hc, arrV_read _ _ hj]; rfl) rfl rfl d kk
theorem r_aald5 (C : Cx G cc nL own) {k a n o j : Nat} {i : Int32} (hL : fkL[k]? = none) (hq : akL[k - 20]? = some (5, n, o)) (hn : n < 2 ^ 31) (hi : i = nI j) (hj : j < n) (d : decode cc pc = .ok (.aaload, 1)) (kk : Rr G (pc + 1) ls (vr o (a + 1 + j) :: st) h) : Rr G pc ls (vi i :: vr k a :: st) h := by
  subst hi
  refine r_of (ls2 := ls) C ?_ kk
  intro f H locs LS cells slots
  obtain ⟨p, l, e, R, s, m, args, below, meth, c, D, dA, A, f0, al0, Q, nL'⟩ := G
  intro hG hP _ _ hl hw1 hw2 hx hb hown hts hK
  refine ⟨hl, hw1, w_c ((hG a k (w_h (w_t hw2))).2 hL 5 n o hq (by omega) j hj) (w_t (w_t hw2)), fun kk => ?_⟩
  have hat := (wd_get dA f h (w_h (w_t hw2))).trans (show _ = some (f a, (.inl (dA 5, n, .inr (.inr (.inr (.inr (fun i => some (f (a + 1 + i))))))) : va_E)) by rw [ent_arr hL hq]; rfl)
  have hin : vp_in (nI j) n := vp_in_nI hj hn
  have hc : (nI j).toNatClampNeg = j := nI_clamp (Nat.lt_trans hj hn)
  exact W.aald (v := .ref (f (a + 1 + j))) (ty := .array .long) hx hb (hP a _ hat) ((hK.2 5 _ rfl).1 n (fun j => va_rf (some (f (a + 1 + j))))) rfl (fun q => by cases q) (by show ¬ (_ < 0 ∨ (arrV _ _ _).slots.size ≤ _); rw [arrV_size]; exact hin) (by show (arrV _ _ _).slots[_]? = _; rw [hc, arrV_read _ _ hj]; rfl) rfl rfl d kk
theorem r_alen0 (C : Cx G cc nL own) {k a n o : Nat} {v : Int32} (hL : fkL[k]? = none) (hq : akL[k - 20]? = some (0, n, o)) (hv : Int32.ofNat n = v) (d : decode cc pc = .ok (.arraylength, 1)) (kk : Rr G (pc + 1) ls (vi v :: st) h) : Rr G pc ls (vr k a :: st) h := by
  refine r_of (ls2 := ls) C ?_ kk
  intro f H locs LS cells slots
  obtain ⟨p, l, e, R, s, m, args, below, meth, c, D, dA, A, f0, al0, Q, nL'⟩ := G
  intro hG hP _ _ hl hw1 hw2 hx hb hown hts hK
  refine ⟨hl, hw1, w_1 (w_t hw2), fun kk => ?_⟩
  exact va_alen hx hb hK hP a 0 (x := (n, .inl (xI h a))) ((wd_get dA f h (w_h hw2)).trans (by rw [ent_arr hL hq]; rfl)) rfl hv d kk
theorem r_alen1 (C : Cx G cc nL own) {k a n o : Nat} {v : Int32} (hL : fkL[k]? = none) (hq : akL[k - 20]? = some (1, n, o)) (hv : Int32.ofNat n = v) (d : decode cc pc = .ok (.arraylength, 1)) (kk : Rr G (pc + 1) ls (vi v :: st) h) : Rr G pc ls (vr k a :: st) h := by
  refine r_of (ls2 := ls) C ?_ kk
  intro f H locs LS cells slots
  obtain ⟨p, l, e, R, s, m, args, below, meth, c, D, dA, A, f0, al0, Q, nL'⟩ := G
  intro hG hP _ _ hl hw1 hw2 hx hb hown hts hK
  refine ⟨hl, hw1, w_1 (w_t hw2), fun kk => ?_⟩
  exact va_alen hx hb hK hP a 1 (x := (n, .inr (.inl (xL h a)))) ((wd_get dA f h (w_h hw2)).trans (by rw [ent_arr hL hq]; rfl)) rfl hv d kk
end ROWS
/-! methods -/
def rmD (d mc ms : Nat) : Room := { frames := d, cells := mc, slots := ms, locals := d * 40 }
def vargs : Nat → List V → List (Nat × V)
  | _, [] => []
  | i, v :: t => (i, v) :: vargs (if cat2 v then i + 2 else i + 1) t
theorem cat_rep2 (f : Nat → Nat) (v : V) : (rep f v).category = if cat2 v then 2 else 1 := by
  rcases v with x | x | q | q | a
  · rfl
  · rfl
  · rfl
  · show (if q.2 = 0 then Value.null else Value.ref (f (q.2 - 1))).category = 1
    split <;> rfl
  · rfl
theorem vargs_rep (f : Nat → Nat) : ∀ (as : List V) (i : Nat), lrep f (vargs i as) = lv_args i (as.map (rep f))
  | [], i => rfl
  | v :: t, i => by
    have e : (if (rep f v).category = 2 then i + 2 else i + 1) = (if cat2 v then i + 2 else i + 1) := by
      rw [cat_rep2]; cases cat2 v <;> simp
    show (i, rep f v) :: lrep f (vargs _ t) = (i, rep f v) :: lv_args _ (t.map (rep f))
    rw [e, vargs_rep f t]
def catS : List V → Nat
  | [] => 0
  | v :: t => (if cat2 v then 2 else 1) + catS t
theorem catS_rep (f : Nat → Nat) : ∀ (as : List V), ((as.map (rep f)).map fun v => v.category).sum = catS as
  | [] => rfl
  | v :: t => by simp [catS, ← catS_rep f t, cat_rep2]
theorem sl_len (f : Nat → Nat) : ∀ (as : List V), (lg_sl (as.map (rep f))).length = catS as
  | [] => rfl
  | v :: t => by
    have ih := sl_len f t
    unfold lg_sl at ih ⊢
    rw [List.map_cons, List.flatMap_cons, List.length_append, ih, catS]
    congr 1
    rw [cat_rep2]
    cases cat2 v <;> rfl
def PcM (D : va_G) (dA : Nat → ClassId) (f : Nat → Nat) (sz : Nat) (as : List V) (h : Hp) : Array Value → State → Prop :=
  va_Pc (as.map (rep f)) (fun U => U.heap.size = sz ∧ va_P D vwCl (wd dA f h) U.heap ∧ va_K D vwCl (tysD dA) U ∧ va_D (fun _ => True) (wd dA f h) ∧ GoodAl (xK h) ∧ ws9 (xK h) as ∧ SF f (va_A (wd dA f h) sz) U U.heap)
def QcM (D : va_G) (dA : Nat → ClassId) (f : Nat → Nat) (sz : Nat) (h : Hp) (al1 : List Nat) (post : Option V → Hp → Prop) : Array Value → State → Outcome → State → Prop :=
  fun _ st o t => (∃ (r : Option V) (h' : Hp) (f' : Nat → Nat), o = .returned (r.map (rep f')) ∧ post r h' ∧ xK h' = al1 ∧ xK h <+: al1 ∧ GoodAl al1 ∧ (∀ a, a < (xK h).length ∨ 1000 ≤ a → f' a = f a) ∧ va_P D vwCl (wd dA f' h') t.heap ∧ va_K D vwCl (tysD dA) t ∧ va_D (va_A (wd dA f h) sz) (wd dA f' h') ∧ (∀ v, r = some v → wv al1 v)) ∧ va_F (va_A (wd dA f h) sz) st t
/-- a method's contract: at these arguments and this heap it returns, and what holds then -/
def Ms (l : Launch) (y : MethodName) (cc : ByteArray) (nL : Nat) (ret : Option FieldType) (d : Nat) (as : List V) (h : Hp) (al1 : List Nat) (post : Option V → Hp → Prop) : Prop :=
  ∀ (D : va_G) (dA : Nat → ClassId) (f : Nat → Nat) (sz : Nat), Met l y (.code y cc nL ret :: lw_g) (rmD d (al1.length - (xK h).length) (slo al1 - slo (xK h))) (PcM D dA f sz as h) (QcM D dA f sz h al1 post) (al1.length - (xK h).length) (slo al1 - slo (xK h)) (va_A (wd dA f h) sz)
/-- the ends of a method -/
def FinI (G : Gt) (cc : ByteArray) (ret : Option FieldType) (al1 : List Nat) (post : Option V → Hp → Prop) : Prop :=
  ∀ (pc : Nat) (ls : List (Nat × V)) (v : Int32) (h' : Hp) (ty : FieldType), ret = some ty → narrow ty (.int v) = .int v → decode cc pc = .ok (.ireturn, 1) → xK h' = al1 → post (some (vi v)) h' → Rr G pc ls [vi v] h'
def FinL (G : Gt) (cc : ByteArray) (ret : Option FieldType) (al1 : List Nat) (post : Option V → Hp → Prop) : Prop :=
  ∀ (pc : Nat) (ls : List (Nat × V)) (v : Int64) (h' : Hp), ret = some .long → decode cc pc = .ok (.lreturn, 1) → xK h' = al1 → post (some (vl v)) h' → Rr G pc ls [vl v] h'
def FinV (G : Gt) (cc : ByteArray) (ret : Option FieldType) (al1 : List Nat) (post : Option V → Hp → Prop) : Prop :=
  ∀ (pc : Nat) (ls : List (Nat × V)) (h' : Hp), ret = none → decode cc pc = .ok (.return_, 1) → xK h' = al1 → post none h' → Rr G pc ls [] h'
def FinA (G : Gt) (cc : ByteArray) (ret : Option FieldType) (al1 : List Nat) (post : Option V → Hp → Prop) : Prop :=
  ∀ (pc : Nat) (ls : List (Nat × V)) (k a : Nat) (h' : Hp) (nm : String), ret = some (.object nm) → decode cc pc = .ok (.areturn, 1) → xK h' = al1 → post (some (vr k a)) h' → Rr G pc ls [vr k a] h'
def Fins (G : Gt) (cc : ByteArray) (ret : Option FieldType) (al1 : List Nat) (post : Option V → Hp → Prop) : Prop :=
  FinI G cc ret al1 post ∧ FinL G cc ret al1 post ∧ FinV G cc ret al1 post ∧ FinA G cc ret al1 post
/-- room for calls: d levels, and cells up to these kinds -/
def Rmx (l : Launch) (G : Gt) (d : Nat) (alX : List Nat) : Prop := match G with
  | (p, l', e, R, s, m, args, below, meth, c, D, dA, A, f0, al0, Q, nL) => l' = l ∧ d ≤ R.frames ∧ d * 40 ≤ R.locals ∧ alX.length - al0.length ≤ R.cells ∧ slo alX - slo al0 ≤ R.slots
set_option maxHeartbeats 4000000 in
theorem Ms.of {l : Launch} {y : MethodName} {cc : ByteArray} {nL : Nat} {ret : Option FieldType} {d : Nat} {as : List V} {h : Hp} {al1 : List Nat} {post : Option V → Hp → Prop} (hy : plainName y.cls = true) (hn : catS as ≤ nL)
    (body : ∀ G, Cx G cc nL y.cls → Rmx l G d al1 → Fins G cc ret al1 post → Rr G 0 (vargs 0 as) [] h) : Ms l y cc nL ret d as h al1 post := by
  intro D dA f sz
  refine Met.ofW (cc := cc) (maxL := nL) (ret := ret) hy rfl ?_
  intro p e s m args below meth c s₁ B hml hv
  obtain ⟨rfl, hsz, hP, hK, hD0, hG, hw, hSF⟩ := hv
  subst hsz
  have hts := atoms_spec (ws := .code y cc nL ret :: lw_g) B.pre
  have hown : s.vm.findClass y.cls = some m.cls := findClass_of_methodNamed B.named
  have hlocks := B.notSynchronized
  have hl := lv_entry (as.map (rep f)) (n := nL) (by rw [sl_len]; exact hn)
  rw [lg_entry_eq]
  generalize (lg_sl (as.map (rep f)) ++ List.replicate (nL - (lg_sl (as.map (rep f))).length) Slot.unset).toArray = LS at hl ⊢
  have C : Cx (p, l, e, rmD d (al1.length - (xK h).length) (slo al1 - slo (xK h)), s, m, (as.map (rep f)).toArray, below, meth, c, D, dA, va_A (wd dA f h) s.heap.size, f, xK h, MQ below (QcM D dA f s.heap.size h al1 post) (as.map (rep f)).toArray s (al1.length - (xK h).length) (slo al1 - slo (xK h)) (va_A (wd dA f h) s.heap.size), nL) cc nL y.cls :=
    ⟨rfl, B.exec, B.bytes, hml, hown, fun w hw => hts w (List.mem_cons_of_mem _ hw), hlocks, hK, fun q hq => Or.inr hq, hSF⟩
  suffices K : W p l e (rmD d (al1.length - (xK h).length) (slo al1 - slo (xK h))) s m (as.map (rep f)).toArray below meth c s.heap [] ((xK h).length - (xK h).length) (slo (xK h) - slo (xK h)) (MQ below (QcM D dA f s.heap.size h al1 post) (as.map (rep f)).toArray s (al1.length - (xK h).length) (slo al1 - slo (xK h)) (va_A (wd dA f h) s.heap.size)) (F0 m 0 LS []) by
    rw [Nat.sub_self, Nat.sub_self] at K
    exact K
  refine body _ C ⟨rfl, Nat.le_refl _, Nat.le_refl _, Nat.le_refl _, Nat.le_refl _⟩ ⟨?_, ?_, ?_, ?_⟩ f s.heap [] LS (fun _ _ => rfl) List.prefix_rfl hG hP (hD0.self) va_S.rf (by rw [vargs_rep]; exact hl) ?_ (fun q hq => by cases hq)
  · intro pc ls v h' ty hr hnw hdg hal hp f1 H locs LS h1 h2 h3 hP hD hS hl w1 w2
    subst hal
    exact W.zret B.exec B.bytes (B.returns.trans hr) hnw (fun t ht hW => ⟨⟨some (vi v), h', f1, rfl, hp, rfl, h2, h3, h1, by rw [ht]; exact hP, va_K.moved hW.alike hK, hD, fun v hv => by cases hv; trivial⟩, hS.F ht⟩) hS.2.2 hdg
  · intro pc ls v h' hr hdg hal hp f1 H locs LS h1 h2 h3 hP hD hS hl w1 w2
    subst hal
    exact W.lret B.exec B.bytes (B.returns.trans hr) (fun t ht hW => ⟨⟨some (vl v), h', f1, rfl, hp, rfl, h2, h3, h1, by rw [ht]; exact hP, va_K.moved hW.alike hK, hD, fun v hv => by cases hv; trivial⟩, hS.F ht⟩) hS.2.2 hdg
  · intro pc ls h' hr hdg hal hp f1 H locs LS h1 h2 h3 hP hD hS hl w1 w2
    subst hal
    exact W.vret B.exec B.bytes (B.returns.trans hr) (fun t ht hW => ⟨⟨none, h', f1, rfl, hp, rfl, h2, h3, h1, by rw [ht]; exact hP, va_K.moved hW.alike hK, hD, fun v hv => by cases hv⟩, hS.F ht⟩) hS.2.2 hdg
  · intro pc ls k a h' nm hr hdg hal hp f1 H locs LS h1 h2 h3 hP hD hS hl w1 w2
    subst hal
    exact W.aret B.exec B.bytes (B.returns.trans hr) (Or.inl ⟨_, rfl⟩) (Or.inr ⟨_, rfl⟩) (fun t ht hW => ⟨⟨some (vr k a), h', f1, rfl, hp, rfl, h2, h3, h1, by rw [ht]; exact hP, va_K.moved hW.alike hK, hD, fun v hv => by cases hv; exact w_h w2⟩, hS.F ht⟩) hS.2.2 hdg
  · have aux : ∀ (as : List V) (i : Nat), ws9 (xK h) as → wl (xK h) (vargs i as) := by
      intro as
      induction as with
      | nil => intro i _ q hq; cases hq
      | cons v t ih =>
        intro i hw q hq
        rcases List.mem_cons.mp hq with rfl | hq
        · exact hw v List.mem_cons_self
        · exact ih _ (w_t hw) q hq
    exact aux as 0 hw
theorem gI9 {ws : List Cond} (h : ∀ w ∈ ws, w ∈ lw_g) : GoodIn lw_g ws := fun w hw => ⟨h w hw, (lw_g_good w (h w hw)).2⟩
theorem blindM {D : va_G} {dA : Nat → ClassId} {f : Nat → Nat} {sz : Nat} {as : List V} {h : Hp} : FrameBlind (PcM D dA f sz as h) := fun a U g mk q => by
  obtain ⟨q0, q1, q2, q3, q4, q5, q6, q7⟩ := q
  exact ⟨q0, q1, q2, va_K.moved (u := U) (U := U.calling g mk a) (Vm.Alike.refl U.vm) q3, q4, q5, q6, SF.same (u := U) (U := U.calling g mk a) rfl q7⟩
theorem pfx_len {a b : List Nat} (h : a <+: b) : a.length ≤ b.length := h.length_le
theorem pfx_slo {a b : List Nat} (h : a <+: b) : slo a ≤ slo b := by
  obtain ⟨t, rfl⟩ := h
  rw [slo_app]; omega
section CALLS
variable {p : Program} {l : Launch} {e : Env} {R : Room} {s : State} {m : MethodId} {args : Array Value} {below : List Frame} {meth : Method} {c : Code} {H : Heap} {locs : List Loc} {cells slots : Nat} {Q : State → Prop}
/-- behind a call -/
theorem call_core {pc mc ms : Nat} {LS : Array Slot} {stk rest : List Value} {D : va_G} {dA : Nat → ClassId} {f : Nat → Nat} {h : Hp} {al1 : List Nat} {post : Option V → Hp → Prop} {A : Nat → Prop} {a : Array Value}
    (hr : va_Run p l e R s m args below meth c H locs cells slots mc ms (F0 m pc LS stk) rest (QcM D dA f H.size h al1 post a) (va_A (wd dA f h) H.size)) (hK : va_K D vwCl (tysD dA) s) (hD : va_D A (wd dA f h)) (hS : va_S A s.heap H locs) (hAz : ∀ q : Nat, s.heap.size ≤ q → A q)
    (kk : ∀ (r : Option V) (h' : Hp) (f' : Nat → Nat) (H1 : Heap) (locs1 : List Loc), post r h' → xK h' = al1 → xK h <+: al1 → GoodAl al1 → (∀ q, q < (xK h).length ∨ 1000 ≤ q → f' q = f q) → va_P D vwCl (wd dA f' h') H1 → va_D A (wd dA f' h') → (∀ v, r = some v → wv al1 v) → va_S A s.heap H1 locs1 →
      W p l e R s m args below meth c H1 locs1 (cells + mc) (slots + ms) Q (F0 m (pc + 3) LS ((r.map (rep f')).toList ++ rest))) : W p l e R s m args below meth c H locs cells slots Q (F0 m pc LS stk) := by
  intro T hT X
  obtain ⟨v, st₀, t, T', L, h0, X', hL, e1, e2, ⟨⟨r, h', f', hv, hp, g1, g2, g3, g4, g5, g6, g7, g8⟩, hz, hk⟩, st⟩ := hr T hT X
  cases hv
  rw [h0] at hz hk
  have hf : ∀ q, va_A (wd dA f h) H.size q → A q := by
    rintro q (⟨k, e9, h9⟩ | h9)
    · exact hD.2 k _ h9
    · exact hAz q (Nat.le_trans hS.1 h9)
  obtain ⟨t2, a1, b1⟩ := kk r h' f' T'.heap (locs ++ L) hp g1 g2 g3 g4 (by rw [e1]; exact g5) (g7.weaken (fun _ q _ hq => hf _ hq)) g8
    ⟨Nat.le_trans hS.1 (by rw [e1]; exact hz), fun q h1 h2 => by rw [e1, hk q (Nat.lt_of_lt_of_le h1 hS.1) (fun z => h2 (hf q z))]; exact hS.2.1 q h1 h2, fun q hq => by
      rcases List.mem_append.mp hq with h | h
      · exact hS.2.2 q h
      · exact hf _ (hL q h)⟩ T' rfl X'
  exact ⟨t2, st t2 a1, b1⟩
theorem room_ok {d d' nL' : Nat} {mc ms : Nat} (h1 : d' + 1 ≤ d) (h2 : nL' ≤ 21) (hf : d ≤ R.frames) (hl : d * 40 ≤ R.locals) : (rmD d' mc ms).frames + 1 ≤ R.frames ∧ 8 + (nL' + 11) + (rmD d' mc ms).locals ≤ R.locals := by
  have e1 : (rmD d' mc ms).frames = d' := rfl
  have e2 : (rmD d' mc ms).locals = d' * 40 := rfl
  rw [e1, e2]
  refine ⟨by omega, ?_⟩
  have : (d' + 1) * 40 ≤ d * 40 := Nat.mul_le_mul_right 40 h1
  omega
end CALLS
section MCALL
variable {l : Launch} {d d' nL' index : Nat} {alX al1 : List Nat} {y : MethodName} {cc' : ByteArray} {ret : Option FieldType} {as : List V} {post : Option V → Hp → Prop} {G : Gt} {cc : ByteArray} {nL pc : Nat} {own : String} {ls : List (Nat × V)} {st : List V} {h : Hp}
theorem rest_ok {f : Nat → Nat} {st : List V} (hc : catS st ≤ 8) {m : MethodId} {pc : Nat} {LS : Array Slot} {stk : List Value} : 2 * (F0 m pc LS stk).monitorRoom + ((st.map (rep f)).map fun v => v.category).sum ≤ 8 := by
  rw [catS_rep]
  show 2 * 0 + _ ≤ 8
  omega
theorem pc_ok {s : State} {D : va_G} {dA : Nat → ClassId} {f : Nat → Nat} {H : Heap} {as : List V} {h : Hp} {A : Nat → Prop} (hP : va_P D vwCl (wd dA f h) H) (hK : va_K D vwCl (tysD dA) s) (hD : va_D A (wd dA f h)) (hG : GoodAl (xK h)) (hw : ws9 (xK h) as) {f0 : Nat → Nat} {locs : List Loc} (hAz : ∀ q : Nat, s.heap.size ≤ q → A q) (hS : va_S A s.heap H locs) (hSF : SF f0 A s s.heap) (hf : ∀ a, 1000 ≤ a → f a = f0 a) : ∀ U : State, U.heap = H → s.WarmedH U.vm → PcM D dA f H.size as h (as.map (rep f)).toArray U :=
  fun U hU hW => ⟨rfl, by rw [hU], by rw [hU]; exact hP, va_K.moved hW.alike hK, hD.weaken (fun _ _ _ _ => trivial), hG, hw, by
    rw [hU]
    refine hSF.to hS.2.1 hW ?_ hf
    rintro q (⟨k, e9, h9⟩ | h9)
    · exact hD.2 k _ h9
    · exact hAz q (Nat.le_trans hS.1 h9)⟩
/-- the three calls at once: what differs is how the machine comes to the callee -/
theorem r_callC {stk : List V} (C : Cx G cc nL own) (X : Rmx l G d alX) (hM : Ms l y cc' nL' ret d' as h al1 post) (hd' : d' + 1 ≤ d) (hn : nL' ≤ 21) (hpre : xK h <+: al1) (hal : al1 <+: alX) (q5 : Cond.code y cc' nL' ret ∈ lw_g) (hwk : ∀ al, ws9 al stk → ws9 al as ∧ ws9 al st)
    (run : ∀ (f : Nat → Nat) (H : Heap) (locs : List Loc) (LS : Array Slot) (cells slots mc ms sz : Nat), match G with
      | (p, l', e, R, s, m, args, below, meth, c, D, dA, A, f0, al0, Q, nL) => lv_has LS nL (lrep f ls) → p.tables.exec = Jvm.exec → c.code = cc → c.maxLocals = nL → s.vm.findClass own = some m.cls → (∀ w ∈ lw_g, w.before args s = true) → va_K D vwCl (tysD dA) s → va_P D vwCl (wd dA f h) H → ws9 (xK h) stk →
        (rmD d' mc ms).frames + 1 ≤ R.frames ∧ 8 + (nL' + 11) + (rmD d' mc ms).locals ≤ R.locals → GoodIn lw_g (Cond.code y cc' nL' ret :: lw_g) →
        Met l y (.code y cc' nL' ret :: lw_g) (rmD d' mc ms) (PcM D dA f sz as h) (QcM D dA f sz h al1 post) mc ms (va_A (wd dA f h) sz) → (∀ U : State, U.heap = H → s.WarmedH U.vm → PcM D dA f sz as h (as.map (rep f)).toArray U) → cells + mc ≤ R.cells ∧ slots + ms ≤ R.slots →
        ∃ a, va_Run p l e R s m args below meth c H locs cells slots mc ms (F0 m pc LS (stk.map (rep f))) (st.map (rep f)) (QcM D dA f sz h al1 post a) (va_A (wd dA f h) sz))
    (kk : ∀ (r : Option V) (h' : Hp), post r h' → xK h' = al1 → Rr G (pc + 3) ls (r.toList ++ st) h') : Rr G pc ls stk h := by
  obtain ⟨p, l', e, R, s, m, args, below, meth, c, D, dA, A, f0, al0, Q, nL'⟩ := G
  obtain ⟨rfl, hx, hb, hml, hown, hts, hlk, hK, hAz, hSF⟩ := C
  obtain ⟨rfl, X1, X2, X3, X4⟩ := X
  intro f H locs LS h1 h2 h3 hP hD hS hl w1 w2
  obtain ⟨wa, wst⟩ := hwk _ w2
  have hlen := pfx_len hal
  have hslo := pfx_slo hal
  have l1 := pfx_len h2
  have l2 := pfx_slo h2
  have l3 := pfx_len hpre
  have l4 := pfx_slo hpre
  obtain ⟨a, hr⟩ := run f H locs LS ((xK h).length - al0.length) (slo (xK h) - slo al0) (al1.length - (xK h).length) (slo al1 - slo (xK h)) H.size hl hx hb hml hown hts hK hP w2 (room_ok hd' hn X1 X2)
    (gI9 (fun w hw => by rcases List.mem_cons.mp hw with rfl | hw; exact q5; exact hw)) (hM D dA f H.size) (pc_ok hP hK hD h3 wa hAz hS hSF (fun a ha => h1 a (Or.inr ha))) ⟨by omega, by omega⟩
  refine call_core hr hK hD hS hAz (fun r h' f' H1 locs1 hp g1 g2 g3 g4 g5 g6 g7 g8 => ?_)
  have hf : ∀ v : V, wv (xK h) v → rep f' v = rep f v := by
    intro v hv
    rcases v with x | x | q | q | a
    · rfl
    · rfl
    · show Value.ref (f' q.2) = Value.ref (f q.2)
      rw [g4 q.2 (Or.inl (List.getElem?_eq_some_iff.mp hv).1)]
    · show (if q.2 = 0 then Value.null else Value.ref (f' (q.2 - 1))) = (if q.2 = 0 then Value.null else Value.ref (f (q.2 - 1)))
      rcases hv with hv | hv
      · rw [if_pos hv, if_pos hv]
      · rw [g4 (q.2 - 1) (Or.inl (List.getElem?_eq_some_iff.mp hv).1)]
    · show Value.ref (f' a) = Value.ref (f a)
      rw [g4 a (Or.inr hv)]
  have hm : ∀ v : V, wv (xK h) v → wv al1 v := by
    intro v hv
    obtain ⟨t, rfl⟩ := g2
    rcases v with x | x | q | q | a
    · trivial
    · trivial
    · show (xK h ++ t)[q.2]? = some q.1
      rw [List.getElem?_append_left (List.getElem?_eq_some_iff.mp hv).1]; exact hv
    · rcases hv with hv | hv
      · exact Or.inl hv
      · refine Or.inr ?_
        rw [List.getElem?_append_left (List.getElem?_eq_some_iff.mp hv).1]; exact hv
    · exact hv
  have hst : st.map (rep f) = st.map (rep f') := List.map_congr_left (fun v hv => (hf v (wst v hv)).symm)
  have hls : lrep f ls = lrep f' ls := List.map_congr_left (fun q hq => by rw [hf q.2 (w1 q hq)])
  have k2 := kk r h' hp g1 f' H1 locs1 LS (fun a ha => by
      rcases ha with ha | ha
      · rw [g4 a (Or.inl (Nat.lt_of_lt_of_le ha l1)), h1 a (Or.inl ha)]
      · rw [g4 a (Or.inr ha), h1 a (Or.inr ha)]) (by rw [g1]; exact h2.trans g2) (by rw [g1]; exact g3) g5 g6 g8 (by rw [← hls]; exact hl) (fun q hq => by rw [g1]; exact hm _ (w1 q hq)) (fun v hv => by
      rw [g1]
      rcases List.mem_append.mp hv with hv | hv
      · exact g7 v (by simpa using hv)
      · exact hm _ (wst v hv))
  have e1 : (xK h').length - al0.length = (xK h).length - al0.length + (al1.length - (xK h).length) := by rw [g1]; omega
  have e2 : slo (xK h') - slo al0 = slo (xK h) - slo al0 + (slo al1 - slo (xK h)) := by rw [g1]; omega
  rw [e1, e2] at k2
  rw [hst]
  have e3 : (r.map (rep f')).toList ++ st.map (rep f') = (r.toList ++ st).map (rep f') := by
    cases r <;> simp
  rw [e3]
  exact k2
theorem w_app {al : List Nat} {a b : List V} (h : ws9 al (a ++ b)) : ws9 al a ∧ ws9 al b := ⟨fun q hq => h q (List.mem_append_left _ hq), fun q hq => h q (List.mem_append_right _ hq)⟩
theorem w_rev {al : List Nat} {a : List V} (h : ws9 al a.reverse) : ws9 al a := fun q hq => h q (List.mem_reverse.mpr hq)
/-- the receiver is there -/
theorem recvM {s : State} {H : Heap} {D : va_G} {dA : Nat → ClassId} {f : Nat → Nat} {h : Hp} {k a N : Nat} {C0 : String} {T : u_T} {L : List Fd3} (hc : vwCl[k]? = some (C0, T, N)) (hL : fkL[k]? = some L) (hK : va_K D vwCl (tysD dA) s) (hP : va_P D vwCl (wd dA f h) H) (ha : (xK h)[a]? = some k) : ∃ cell : Cell, H[f a]? = some cell ∧ cell.vm.isStatics = false ∧ s.vm.findClass C0 = some cell.cls :=
  va_recv hK hP hc ((wd_get dA f h ha).trans (by rw [ent_obj hL]))
abbrev NotMH (y : MethodName) : Prop := y.cls ≠ "java/lang/invoke/MethodHandle" ∧ y.cls ≠ "java/lang/invoke/VarHandle"
abbrev Par (y : MethodName) (n : Nat) : Prop := (parseMethodDescriptor y.desc).map (fun d => d.parameters.length) = some n
theorem r_callV {k a N : Nat} {T : u_T} {L : List Fd3} (C : Cx G cc nL own) (X : Rmx l G d alX) (hM : Ms l y cc' nL' ret d' (vr k a :: as) h al1 post) (hd' : d' + 1 ≤ d) (hn : nL' ≤ 21) (hpre : xK h <+: al1) (hal : al1 <+: alX) (hc : vwCl[k]? = some (y.cls, T, N)) (hL : fkL[k]? = some L) (hcat : catS st ≤ 8)
    (q1 : Cond.methodLink own index y ∈ lw_g) (q2 : Cond.instanceMethod y ∈ lw_g) (q3 : Cond.selects y.cls y y ∈ lw_g) (q4 : Cond.initialized y.cls ∈ lw_g) (q5 : Cond.code y cc' nL' ret ∈ lw_g) (hy : NotMH y) (hpar : Par y as.length) (dd : decode cc pc = .ok (.invokevirtual index, 3))
    (kk : ∀ (r : Option V) (h' : Hp), post r h' → xK h' = al1 → Rr G (pc + 3) ls (r.toList ++ st) h') : Rr G pc ls (as.reverse ++ vr k a :: st) h := by
  refine r_callC (as := vr k a :: as) C X hM hd' hn hpre hal q5 (fun al hw => ⟨w_c (w_h (w_app hw).2) (w_rev (w_app hw).1), w_t (w_app hw).2⟩) ?_ kk
  intro f H locs LS cells slots mc ms sz
  obtain ⟨p, l', e, R, s, m, args, below, meth, c, D, dA, A, f0, al0, Q, nL'⟩ := G
  intro hl hx hb hml hown hts hK hP hw hR hG hM2 hPc hf
  exact ⟨_, va_runV (As := as.map (rep f)) ⟨hx, hb, hml, hown, hts⟩ hM2 ⟨callB_of as.length hts hG rfl rfl rfl (hts _ q4) (hts _ q1) ⟨hy.1, hy.2, hpar⟩ hR, hts _ q2, hts _ q3⟩ ⟨blindM, recvM hc hL hK hP (w_h (w_app hw).2), hPc⟩ rfl (by simp) hl.1 (by simp [rep]) (rest_ok hcat) dd hf⟩
theorem r_callS (C : Cx G cc nL own) (X : Rmx l G d alX) (hM : Ms l y cc' nL' ret d' as h al1 post) (hd' : d' + 1 ≤ d) (hn : nL' ≤ 21) (hpre : xK h <+: al1) (hal : al1 <+: alX) (hcat : catS st ≤ 8)
    (q1 : Cond.methodLink own index y ∈ lw_g) (q2 : Cond.static y ∈ lw_g) (q4 : Cond.initialized y.cls ∈ lw_g) (q5 : Cond.code y cc' nL' ret ∈ lw_g) (hy : NotMH y) (hpar : Par y as.length) (dd : decode cc pc = .ok (.invokestatic index, 3))
    (kk : ∀ (r : Option V) (h' : Hp), post r h' → xK h' = al1 → Rr G (pc + 3) ls (r.toList ++ st) h') : Rr G pc ls (as.reverse ++ st) h := by
  refine r_callC (as := as) C X hM hd' hn hpre hal q5 (fun al hw => ⟨w_rev (w_app hw).1, (w_app hw).2⟩) ?_ kk
  intro f H locs LS cells slots mc ms sz
  obtain ⟨p, l', e, R, s, m, args, below, meth, c, D, dA, A, f0, al0, Q, nL'⟩ := G
  intro hl hx hb hml hown hts hK hP hw hR hG hM2 hPc hf
  exact ⟨_, va_runS (As := as.map (rep f)) ⟨hx, hb, hml, hown, hts⟩ hM2 ⟨callB_of as.length hts hG rfl rfl rfl (hts _ q4) (hts _ q1) ⟨hy.1, hy.2, hpar⟩ hR, hts _ q2⟩ ⟨blindM, hPc⟩ rfl (by simp) hl.1 (by simp) (rest_ok hcat) dd hf⟩
end MCALL
section MORE
variable {G : Gt} {cc : ByteArray} {nL pc : Nat} {own : String} {ls : List (Nat × V)} {st : List V} {h : Hp} {l : Launch} {d : Nat} {alX : List Nat}
/-- a row that needs the tables -/
theorem r_tab {pc2 : Nat} {st2 : List V} (C : Cx G cc nL own) (hw : ∀ al, ws9 al st → ws9 al st2)
    (k : ∀ {p : Program} {l : Launch} {e : Env} {R : Room} {s : State} {m : MethodId} {args : Array Value} {below : List Frame} {meth : Method} {c : Code} {H : Heap} {locs : List Loc} {cells slots : Nat} {Q : State → Prop} {LS : Array Slot} (f : Nat → Nat), p.tables.exec = Jvm.exec → c.code = cc → s.vm.findClass own = some m.cls → (∀ w ∈ lw_g, w.before args s = true) →
      W p l e R s m args below meth c H locs cells slots Q (F0 m pc2 LS (st2.map (rep f))) → W p l e R s m args below meth c H locs cells slots Q (F0 m pc LS (st.map (rep f))))
    (kk : Rr G pc2 ls st2 h) : Rr G pc ls st h := by
  refine r_of (ls2 := ls) C ?_ kk
  intro f H locs LS cells slots
  obtain ⟨p, l, e, R, s, m, args, below, meth, c, D, dA, A, f0, al0, Q, nL'⟩ := G
  intro _ _ _ _ hl hw1 hw2 hx hb ho ht _
  exact ⟨hl, hw1, hw _ hw2, k f hx hb ho ht⟩
theorem r_ldc (C : Cx G cc nL own) {index : Nat} {v : Int32} (q : Cond.constant own index v ∈ lw_g) (dd : decode cc pc = .ok (.ldc index, 2)) (kk : Rr G (pc + 2) ls (vi v :: st) h) : Rr G pc ls st h :=
  r_tab C (fun al hw => w_1 hw) (fun f hx hb ho ht k => lv_ldc hx hb ho (ht _ q) dd k) kk
theorem r_ldcw (C : Cx G cc nL own) {index : Nat} {v : Int32} (q : Cond.constant own index v ∈ lw_g) (dd : decode cc pc = .ok (.ldc_w index, 3)) (kk : Rr G (pc + 3) ls (vi v :: st) h) : Rr G pc ls st h :=
  r_tab C (fun al hw => w_1 hw) (fun f hx hb ho ht k => lv_ldcw hx hb ho (ht _ q) dd k) kk
theorem r_ldc2 (C : Cx G cc nL own) {index : Nat} {v : Int64} (q : Cond.constantLong own index v ∈ lw_g) (dd : decode cc pc = .ok (.ldc2_w index, 3)) (kk : Rr G (pc + 3) ls (vl v :: st) h) : Rr G pc ls st h :=
  r_tab C (fun al hw => w_L hw) (fun f hx hb ho ht k => lv_ldc2 hx hb ho (ht _ q) dd k) kk
/-- a text -/
theorem r_ldcS (C : Cx G cc nL own) {index i : Nat} (k : Nat) (hk : txR[k]? = some (own, index, i)) (dd : decode cc pc = .ok (.ldc index, 2)) (kk : Rr G (pc + 2) ls (vt (1000 + i) :: st) h) : Rr G pc ls st h := by
  obtain ⟨p, l, e, R, s, m, args, below, meth, c, D, dA, A, f0, al0, Q, nL'⟩ := G
  obtain ⟨rfl, hx, hb, hml, hown, hts, hlk, hK, hAz, hSF⟩ := C
  intro f H locs LS h1 h2 h3 hP hD hS hl w1 w2
  have hR := hSF.2.2.2.1 k _ hk
  refine va_ldcS hx hb hown hR dd ?_
  have e1 : f0 (1000 + i) = f (1000 + i) := (h1 _ (Or.inr (by omega))).symm
  show W p l e R s m args below meth c H locs _ _ Q (F0 m (pc + 2) LS (.ref (f0 (1000 + i)) :: st.map (rep f)))
  rw [e1]
  exact kk f H locs LS h1 h2 h3 hP hD hS hl w1 (w_c (show 1000 ≤ 1000 + i by omega) w2)
theorem r_tabOut (C : Cx G cc nL own) {dflt lo hi : Int} {offs : Array Int} {len : Nat} {x : Int32} {tgt : Nat} (dd : decode cc pc = .ok (.tableswitch dflt lo hi offs, len)) (hh : x.toInt < lo ∨ hi < x.toInt) (ht : (pc : Int) + dflt = (tgt : Int)) (kk : Rr G tgt ls st h) : Rr G pc ls (vi x :: st) h :=
  r_op C (fun al hw => w_t hw) (fun f hx hb k => lv_tableOut hx hb dd hh ht k) kk
theorem r_tabIn (C : Cx G cc nL own) {dflt lo hi : Int} {offs : Array Int} {len : Nat} {x : Int32} {off : Int} {tgt : Nat} (dd : decode cc pc = .ok (.tableswitch dflt lo hi offs, len)) (h1 : ¬ x.toInt < lo) (h2 : ¬ hi < x.toInt) (ho : offs[(x.toInt - lo).toNat]? = some off) (ht : (pc : Int) + off = (tgt : Int)) (kk : Rr G tgt ls st h) : Rr G pc ls (vi x :: st) h :=
  r_op C (fun al hw => w_t hw) (fun f hx hb k => lv_tableIn hx hb dd h1 h2 ho ht k) kk
theorem r_lookup (C : Cx G cc nL own) {dflt : Int} {ps : Array (Int × Int)} {len : Nat} {x : Int32} {off : Int} {tgt : Nat} (dd : decode cc pc = .ok (.lookupswitch dflt ps, len)) (hp : (ps.toList.zip (ps.toList.drop 1)).all (fun (a, next) => a.1 < next.1) = true) (ho : Op.lookupswitch.offset ps.toList dflt x.toInt = off) (ht : (pc : Int) + off = (tgt : Int)) (kk : Rr G tgt ls st h) : Rr G pc ls (vi x :: st) h :=
  r_op C (fun al hw => w_t hw) (fun f hx hb k => lv_lookup hx hb dd hp ho ht k) kk
/-- null, or not -/
theorem r_ifnonnull_y (C : Cx G cc nL own) {k a : Nat} {off : Int} {tgt : Nat} (dd : decode cc pc = .ok (.ifnonnull off, 3)) (ht : (pc : Int) + off = (tgt : Int)) (kk : Rr G tgt ls st h) : Rr G pc ls (vn k (a + 1) :: st) h :=
  r_op C (fun al hw => w_t hw) (fun f hx hb k => lv_ifnonnull hx hb dd ht k) kk
theorem r_ifnonnull_n (C : Cx G cc nL own) {k : Nat} {off : Int} (dd : decode cc pc = .ok (.ifnonnull off, 3)) (kk : Rr G (pc + 3) ls st h) : Rr G pc ls (vn k 0 :: st) h :=
  r_op C (fun al hw => w_t hw) (fun f hx hb k => lv_ifnonnullN hx hb dd k) kk
theorem rmx1 {l : Launch} {G : Gt} {d : Nat} {alX : List Nat} (X : Rmx l G d alX) (hd : 1 ≤ d) : match G with
    | (p, l', e, R, s, m, args, below, meth, c, D, dA, A, f0, al0, Q, nL) => 1 ≤ R.frames ∧ 40 ≤ R.locals ∧ alX.length - al0.length ≤ R.cells ∧ slo alX - slo al0 ≤ R.slots := by
  obtain ⟨p, l', e, R, s, m, args, below, meth, c, D, dA, A, f0, al0, Q, nL'⟩ := G
  obtain ⟨rfl, X1, X2, X3, X4⟩ := X
  exact ⟨by omega, by omega, X3, X4⟩
/-- Math.min -/
theorem r_min (C : Cx G cc nL own) (X : Rmx l G d alX) (hd : 1 ≤ d) (hal : xK h <+: alX) {index : Nat} {x y : Int32} (hcat : catS st ≤ 8) (q1 : Cond.methodLink own index Lib.Math.min.name ∈ lw_g) (q2 : Cond.static Lib.Math.min.name ∈ lw_g) (q3 : Cond.initialized "java/lang/Math" ∈ lw_g) (q4 : Cond.code Lib.Math.min.name Lib.Math.min.code 2 (some .int) ∈ lw_g)
    (dd : decode cc pc = .ok (.invokestatic index, 3)) (kk : Rr G (pc + 3) ls (vi (if y < x then y else x) :: st) h) : Rr G pc ls (vi y :: vi x :: st) h := by
  obtain ⟨p, l', e, R, s, m, args, below, meth, c, D, dA, A, f0, al0, Q, nL'⟩ := G
  obtain ⟨rfl, hx, hb, hml, hown, hts, hlk, hK, hAz, hSF⟩ := C
  obtain ⟨X1, X2, X3, X4⟩ := rmx1 X hd
  intro f H locs LS h1 h2 h3 hP hD hS hl w1 w2
  have p1 := pfx_len hal
  have p2 := pfx_slo hal
  refine va_mmin hx hb (hml.trans hl.1.symm) hown (hts _ q1) (hts _ q2) (hts _ q3) (hts _ q4) X1 ?_ (by omega) (by omega) dd ?_
  · rw [catS_rep]; omega
  · exact kk f H locs LS h1 h2 h3 hP hD hS hl w1 (w_1 (w_t (w_t w2)))
/-- System.arraycopy -/
def cpI (h : Hp) (a0 a sp dp n : Nat) : Hp := (fun b => if b = a then va_cpy (xI h a0) (xI h a) sp dp n else xI h b, h.2)
def cpL (h : Hp) (a0 a sp dp n : Nat) : Hp := (h.1, fun b => if b = a then va_cpy (xL h a0) (xL h a) sp dp n else xL h b, h.2.2)
theorem oth_cpI {h : Hp} {a0 a sp dp n : Nat} : ∀ b, b ≠ a → xI (cpI h a0 a sp dp n) b = xI h b ∧ xL (cpI h a0 a sp dp n) b = xL h b ∧ xN (cpI h a0 a sp dp n) b = xN h b := fun b hb => ⟨by simp [cpI, xI, hb], rfl, rfl⟩
theorem oth_cpL {h : Hp} {a0 a sp dp n : Nat} : ∀ b, b ≠ a → xI (cpL h a0 a sp dp n) b = xI h b ∧ xL (cpL h a0 a sp dp n) b = xL h b ∧ xN (cpL h a0 a sp dp n) b = xN h b := fun b hb => ⟨rfl, by simp [cpL, xL, hb], rfl⟩
/-- the words of arraycopy -/
def qcp : Prop := Cond.native arraycopyName ∈ lw_g ∧ Cond.static arraycopyName ∈ lw_g ∧ Cond.initialized "java/lang/System" ∈ lw_g
theorem r_copyI (C : Cx G cc nL own) (X : Rmx l G d alX) (hd : 1 ≤ d) {index k0 k a0 a n0 n1 o0 o1 sp dp n : Nat} {sp' dp' n' : Int32} (hcat : catS st ≤ 8) (q1 : Cond.methodLink own index arraycopyName ∈ lw_g) (q2 : qcp) (hL0 : fkL[k0]? = none) (hq0 : akL[k0 - 20]? = some (0, n0, o0)) (hL1 : fkL[k]? = none) (hq1 : akL[k - 20]? = some (0, n1, o1))
    (e1 : sp' = nI sp) (e2 : dp' = nI dp) (e3 : n' = nI n) (b1 : sp < 2 ^ 31) (b2 : dp < 2 ^ 31) (b3 : n < 2 ^ 31) (h4 : sp + n ≤ n0) (h5 : dp + n ≤ n1) (dd : decode cc pc = .ok (.invokestatic index, 3)) (kk : Rr G (pc + 3) ls st (cpI h a0 a sp dp n)) : Rr G pc ls (vi n' :: vi dp' :: vr k a :: vi sp' :: vr k0 a0 :: st) h := by
  subst e1; subst e2; subst e3
  obtain ⟨p, l', e, R, s, m, args, below, meth, c, D, dA, A, f0, al0, Q, nL'⟩ := G
  obtain ⟨rfl, hx, hb, hml, hown, hts, hlk, hK, hAz, hSF⟩ := C
  obtain ⟨X1, X2, X3, X4⟩ := rmx1 X hd
  intro f H locs LS h1 h2 h3 hP hD hS hl w1 w2
  have k0' := w_h (w_t (w_t (w_t (w_t w2))))
  have k1' := w_h (w_t (w_t w2))
  have g0 : (wd dA f h)[a0]? = some (f a0, .inl (dA 0, n0, .inl (xI h a0))) := (wd_get dA f h k0').trans (by rw [ent_arr hL0 hq0]; rfl)
  have g1 : (wd dA f h)[a]? = some (f a, .inl (dA 0, n1, .inl (xI h a))) := (wd_get dA f h k1').trans (by rw [ent_arr hL1 hq1]; rfl)
  have e9 : ent dA f (cpI h a0 a sp dp n) k a = .inl (dA 0, n1, .inl (va_cpy (xI h a0) (xI h a) sp dp n)) := by rw [ent_arr hL1 hq1]; simp [entA, cpI, xI]
  refine va_copyi hx hb (hml.trans hl.1.symm) hown (hts _ q1) (hts _ q2.1) (hts _ q2.2.1) (hts _ q2.2.2) hK hP hD hS a0 a 0 0 g0 g1 rfl rfl rfl (nI_pos b1) (nI_pos b2) (nI_pos b3) (by rw [nI_clamp b1, nI_clamp b3]; exact h4) (by rw [nI_clamp b2, nI_clamp b3]; exact h5) (fun _ _ => rfl) X1 ?_ dd (fun H1 locs1 a1 a2 a3 => ?_)
  · rw [catS_rep, show nativeFrameWords "java/lang/System" "arraycopy" 5 = 7 by decide]; omega
  · rw [nI_clamp b1, nI_clamp b2, nI_clamp b3, ← e9, wd_set (h' := cpI h a0 a sp dp n) (a := a) (k := k) k1' rfl oth_cpI rfl] at a1 a2
    exact kk f H1 locs1 LS h1 h2 h3 a1 a2 a3 hl w1 (w_t (w_t (w_t (w_t (w_t w2)))))
theorem r_copyZ (C : Cx G cc nL own) (X : Rmx l G d alX) (hd : 1 ≤ d) {index k0 k a0 a n0 n1 o0 o1 sp dp n : Nat} {sp' dp' n' : Int32} (hcat : catS st ≤ 8) (q1 : Cond.methodLink own index arraycopyName ∈ lw_g) (q2 : qcp) (hL0 : fkL[k0]? = none) (hq0 : akL[k0 - 20]? = some (3, n0, o0)) (hL1 : fkL[k]? = none) (hq1 : akL[k - 20]? = some (3, n1, o1))
    (e1 : sp' = nI sp) (e2 : dp' = nI dp) (e3 : n' = nI n) (b1 : sp < 2 ^ 31) (b2 : dp < 2 ^ 31) (b3 : n < 2 ^ 31) (h4 : sp + n ≤ n0) (h5 : dp + n ≤ n1) (hz0 : ∀ i, i < n → fits .boolean (.int (xI h a0 (sp + i))) = true) (dd : decode cc pc = .ok (.invokestatic index, 3)) (kk : Rr G (pc + 3) ls st (cpI h a0 a sp dp n)) : Rr G pc ls (vi n' :: vi dp' :: vr k a :: vi sp' :: vr k0 a0 :: st) h := by
  subst e1; subst e2; subst e3
  obtain ⟨p, l', e, R, s, m, args, below, meth, c, D, dA, A, f0, al0, Q, nL'⟩ := G
  obtain ⟨rfl, hx, hb, hml, hown, hts, hlk, hK, hAz, hSF⟩ := C
  obtain ⟨X1, X2, X3, X4⟩ := rmx1 X hd
  intro f H locs LS h1 h2 h3 hP hD hS hl w1 w2
  have k0' := w_h (w_t (w_t (w_t (w_t w2))))
  have k1' := w_h (w_t (w_t w2))
  have g0 : (wd dA f h)[a0]? = some (f a0, .inl (dA 3, n0, .inl (xI h a0))) := (wd_get dA f h k0').trans (by rw [ent_arr hL0 hq0]; rfl)
  have g1 : (wd dA f h)[a]? = some (f a, .inl (dA 3, n1, .inl (xI h a))) := (wd_get dA f h k1').trans (by rw [ent_arr hL1 hq1]; rfl)
  have e9 : ent dA f (cpI h a0 a sp dp n) k a = .inl (dA 3, n1, .inl (va_cpy (xI h a0) (xI h a) sp dp n)) := by rw [ent_arr hL1 hq1]; simp [entA, cpI, xI]
  refine va_copyi hx hb (hml.trans hl.1.symm) hown (hts _ q1) (hts _ q2.1) (hts _ q2.2.1) (hts _ q2.2.2) hK hP hD hS a0 a 3 3 g0 g1 rfl rfl rfl (nI_pos b1) (nI_pos b2) (nI_pos b3) (by rw [nI_clamp b1, nI_clamp b3]; exact h4) (by rw [nI_clamp b2, nI_clamp b3]; exact h5) (fun i hi => by rw [nI_clamp b3] at hi; rw [nI_clamp b1]; exact hz0 i hi) X1 ?_ dd (fun H1 locs1 a1 a2 a3 => ?_)
  · rw [catS_rep, show nativeFrameWords "java/lang/System" "arraycopy" 5 = 7 by decide]; omega
  · rw [nI_clamp b1, nI_clamp b2, nI_clamp b3, ← e9, wd_set (h' := cpI h a0 a sp dp n) (a := a) (k := k) k1' rfl oth_cpI rfl] at a1 a2
    exact kk f H1 locs1 LS h1 h2 h3 a1 a2 a3 hl w1 (w_t (w_t (w_t (w_t (w_t w2)))))
theorem r_copyL (C : Cx G cc nL own) (X : Rmx l G d alX) (hd : 1 ≤ d) {index k0 k a0 a n0 n1 o0 o1 sp dp n : Nat} {sp' dp' n' : Int32} (hcat : catS st ≤ 8) (q1 : Cond.methodLink own index arraycopyName ∈ lw_g) (q2 : qcp) (hL0 : fkL[k0]? = none) (hq0 : akL[k0 - 20]? = some (1, n0, o0)) (hL1 : fkL[k]? = none) (hq1 : akL[k - 20]? = some (1, n1, o1))
    (e1 : sp' = nI sp) (e2 : dp' = nI dp) (e3 : n' = nI n) (b1 : sp < 2 ^ 31) (b2 : dp < 2 ^ 31) (b3 : n < 2 ^ 31) (h4 : sp + n ≤ n0) (h5 : dp + n ≤ n1) (dd : decode cc pc = .ok (.invokestatic index, 3)) (kk : Rr G (pc + 3) ls st (cpL h a0 a sp dp n)) : Rr G pc ls (vi n' :: vi dp' :: vr k a :: vi sp' :: vr k0 a0 :: st) h := by
  subst e1; subst e2; subst e3
  obtain ⟨p, l', e, R, s, m, args, below, meth, c, D, dA, A, f0, al0, Q, nL'⟩ := G
  obtain ⟨rfl, hx, hb, hml, hown, hts, hlk, hK, hAz, hSF⟩ := C
  obtain ⟨X1, X2, X3, X4⟩ := rmx1 X hd
  intro f H locs LS h1 h2 h3 hP hD hS hl w1 w2
  have k0' := w_h (w_t (w_t (w_t (w_t w2))))
  have k1' := w_h (w_t (w_t w2))
  have g0 : (wd dA f h)[a0]? = some (f a0, .inl (dA 1, n0, .inr (.inl (xL h a0)))) := (wd_get dA f h k0').trans (by rw [ent_arr hL0 hq0]; rfl)
  have g1 : (wd dA f h)[a]? = some (f a, .inl (dA 1, n1, .inr (.inl (xL h a)))) := (wd_get dA f h k1').trans (by rw [ent_arr hL1 hq1]; rfl)
  have e9 : ent dA f (cpL h a0 a sp dp n) k a = .inl (dA 1, n1, .inr (.inl (va_cpy (xL h a0) (xL h a) sp dp n))) := by rw [ent_arr hL1 hq1]; simp [entA, cpL, xL]
  refine va_copyl hx hb (hml.trans hl.1.symm) hown (hts _ q1) (hts _ q2.1) (hts _ q2.2.1) (hts _ q2.2.2) hK hP hD hS a0 a 1 1 g0 g1 rfl rfl rfl (nI_pos b1) (nI_pos b2) (nI_pos b3) (by rw [nI_clamp b1, nI_clamp b3]; exact h4) (by rw [nI_clamp b2, nI_clamp b3]; exact h5) (fun _ _ => rfl) X1 ?_ dd (fun H1 locs1 a1 a2 a3 => ?_)
  · rw [catS_rep, show nativeFrameWords "java/lang/System" "arraycopy" 5 = 7 by decide]; omega
  · rw [nI_clamp b1, nI_clamp b2, nI_clamp b3, ← e9, wd_set (h' := cpL h a0 a sp dp n) (a := a) (k := k) k1' rfl oth_cpL rfl] at a1 a2
    exact kk f H1 locs1 LS h1 h2 h3 a1 a2 a3 hl w1 (w_t (w_t (w_t (w_t (w_t w2)))))
end MORE
end
