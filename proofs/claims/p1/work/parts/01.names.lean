-- ===== PART A: goes FIRST, ahead of the names: the tables' words, and 'selects' of the private methods out of them =====
/-- a private method of a class that the tables say can be made, by its rows of tables_1 -/
def lw_okq (q : MethodName × Nat) : Prop := (q.1.cls ≠ "java/lang/invoke/MethodHandle" ∧ q.1.cls ≠ "java/lang/invoke/VarHandle") ∧ Cond.instantiable q.1.cls q.2 ∈ tables_1 ∧ Cond.privateMethod q.1 ∈ tables_1 ∧ Cond.instanceMethod q.1 ∈ tables_1
theorem mt_1 {w : Cond} (i : Nat) (h : tables_1_1[i]? = some w) : w ∈ tables_1 := by
  have h1 := List.mem_of_getElem? h
  exact List.mem_append_left _ h1
theorem mt_2 {w : Cond} (i : Nat) (h : tables_1_2[i]? = some w) : w ∈ tables_1 := by
  have h1 := List.mem_of_getElem? h
  exact List.mem_append_right _ (List.mem_append_left _ h1)
theorem mt_3 {w : Cond} (i : Nat) (h : tables_1_3[i]? = some w) : w ∈ tables_1 := by
  have h1 := List.mem_of_getElem? h
  exact List.mem_append_right _ (List.mem_append_right _ (List.mem_append_left _ h1))
theorem mt_4 {w : Cond} (i : Nat) (h : tables_1_4[i]? = some w) : w ∈ tables_1 := by
  have h1 := List.mem_of_getElem? h
  exact List.mem_append_right _ (List.mem_append_right _ (List.mem_append_right _ (List.mem_append_left _ h1)))
theorem mt_5 {w : Cond} (i : Nat) (h : tables_1_5[i]? = some w) : w ∈ tables_1 := by
  have h1 := List.mem_of_getElem? h
  exact List.mem_append_right _ (List.mem_append_right _ (List.mem_append_right _ (List.mem_append_right _ (List.mem_append_left _ h1))))
theorem mt_6 {w : Cond} (i : Nat) (h : tables_1_6[i]? = some w) : w ∈ tables_1 := by
  have h1 := List.mem_of_getElem? h
  exact List.mem_append_right _ (List.mem_append_right _ (List.mem_append_right _ (List.mem_append_right _ (List.mem_append_right _ (List.mem_append_left _ h1)))))
theorem mt_7 {w : Cond} (i : Nat) (h : tables_1_7[i]? = some w) : w ∈ tables_1 := by
  have h1 := List.mem_of_getElem? h
  exact List.mem_append_right _ (List.mem_append_right _ (List.mem_append_right _ (List.mem_append_right _ (List.mem_append_right _ (List.mem_append_right _ (h1))))))
theorem lw_p0 : lw_okq (⟨"OnlyWhatFits", "refuse", "(I)I"⟩, 12) := ⟨⟨by decide +kernel, by decide +kernel⟩, mt_1 18 rfl, mt_2 15 rfl, mt_2 16 rfl⟩
theorem lw_p1 : lw_okq (⟨"OnlyWhatFits", "tryHolding", "(I)V"⟩, 12) := ⟨⟨by decide +kernel, by decide +kernel⟩, mt_1 18 rfl, mt_2 116 rfl, mt_2 117 rfl⟩
theorem lw_p2 : lw_okq (⟨"OnlyWhatFits$Rules", "giveWhole", "(LOnlyWhatFits$Village;I)V"⟩, 1) := ⟨⟨by decide +kernel, by decide +kernel⟩, mt_1 128 rfl, mt_2 129 rfl, mt_2 130 rfl⟩
theorem lw_p3 : lw_okq (⟨"OnlyWhatFits$Rules", "worthiest", "(LOnlyWhatFits$Village;I)I"⟩, 1) := ⟨⟨by decide +kernel, by decide +kernel⟩, mt_1 128 rfl, mt_2 133 rfl, mt_2 134 rfl⟩
theorem lw_p4 : lw_okq (⟨"OnlyWhatFits$Rules", "giveNeeds", "(LOnlyWhatFits$Village;II)V"⟩, 1) := ⟨⟨by decide +kernel, by decide +kernel⟩, mt_1 128 rfl, mt_2 137 rfl, mt_2 138 rfl⟩
theorem lw_p5 : lw_okq (⟨"OnlyWhatFits$Rules", "firstWithRoom", "(II)I"⟩, 1) := ⟨⟨by decide +kernel, by decide +kernel⟩, mt_1 128 rfl, mt_2 141 rfl, mt_2 142 rfl⟩
theorem lw_p6 : lw_okq (⟨"OnlyWhatFits$Rules", "taken", "(I)I"⟩, 1) := ⟨⟨by decide +kernel, by decide +kernel⟩, mt_1 128 rfl, mt_2 149 rfl, mt_2 150 rfl⟩
theorem lw_p7 : lw_okq (⟨"OnlyWhatFits$Rules", "giveRound", "(LOnlyWhatFits$Village;I)I"⟩, 1) := ⟨⟨by decide +kernel, by decide +kernel⟩, mt_1 128 rfl, mt_2 153 rfl, mt_2 154 rfl⟩
theorem lw_p8 : lw_okq (⟨"OnlyWhatFits$Rules", "nextWithRoom", "(LOnlyWhatFits$Village;II)I"⟩, 1) := ⟨⟨by decide +kernel, by decide +kernel⟩, mt_1 128 rfl, mt_2 157 rfl, mt_2 158 rfl⟩
theorem lw_p9 : lw_okq (⟨"OnlyWhatFits$Rules", "giveRoundAgain", "(LOnlyWhatFits$Village;I)V"⟩, 1) := ⟨⟨by decide +kernel, by decide +kernel⟩, mt_1 128 rfl, mt_2 161 rfl, mt_2 162 rfl⟩
theorem lw_p10 : lw_okq (⟨"OnlyWhatFits$Rules", "giveSure", "(LOnlyWhatFits$Village;)V"⟩, 1) := ⟨⟨by decide +kernel, by decide +kernel⟩, mt_1 128 rfl, mt_2 165 rfl, mt_2 166 rfl⟩
theorem lw_p11 : lw_okq (⟨"OnlyWhatFits$Tape", "step", "()V"⟩, 5) := ⟨⟨by decide +kernel, by decide +kernel⟩, mt_1 166 rfl, mt_3 29 rfl, mt_3 30 rfl⟩
theorem lw_p12 : lw_okq (⟨"OnlyWhatFits$Tape", "endOf", "(II)I"⟩, 5) := ⟨⟨by decide +kernel, by decide +kernel⟩, mt_1 166 rfl, mt_3 33 rfl, mt_3 34 rfl⟩
theorem lw_p13 : lw_okq (⟨"OnlyWhatFits$Tape", "byteAt", "(I)I"⟩, 5) := ⟨⟨by decide +kernel, by decide +kernel⟩, mt_1 166 rfl, mt_3 37 rfl, mt_3 38 rfl⟩
theorem lw_p14 : lw_okq (⟨"OnlyWhatFits$Tape", "readStatement", "(LOnlyWhatFits$Village;)Z"⟩, 5) := ⟨⟨by decide +kernel, by decide +kernel⟩, mt_1 166 rfl, mt_3 44 rfl, mt_3 45 rfl⟩
theorem lw_p15 : lw_okq (⟨"OnlyWhatFits$Tape", "isWord", "(Ljava/lang/String;)Z"⟩, 5) := ⟨⟨by decide +kernel, by decide +kernel⟩, mt_1 166 rfl, mt_3 49 rfl, mt_3 50 rfl⟩
def lw_privs_1 : List (MethodName × Nat) := [(⟨"OnlyWhatFits", "refuse", "(I)I"⟩, 12), (⟨"OnlyWhatFits", "tryHolding", "(I)V"⟩, 12), (⟨"OnlyWhatFits$Rules", "giveWhole", "(LOnlyWhatFits$Village;I)V"⟩, 1), (⟨"OnlyWhatFits$Rules", "worthiest", "(LOnlyWhatFits$Village;I)I"⟩, 1), (⟨"OnlyWhatFits$Rules", "giveNeeds", "(LOnlyWhatFits$Village;II)V"⟩, 1), (⟨"OnlyWhatFits$Rules", "firstWithRoom", "(II)I"⟩, 1), (⟨"OnlyWhatFits$Rules", "taken", "(I)I"⟩, 1), (⟨"OnlyWhatFits$Rules", "giveRound", "(LOnlyWhatFits$Village;I)I"⟩, 1), (⟨"OnlyWhatFits$Rules", "nextWithRoom", "(LOnlyWhatFits$Village;II)I"⟩, 1), (⟨"OnlyWhatFits$Rules", "giveRoundAgain", "(LOnlyWhatFits$Village;I)V"⟩, 1), (⟨"OnlyWhatFits$Rules", "giveSure", "(LOnlyWhatFits$Village;)V"⟩, 1), (⟨"OnlyWhatFits$Tape", "step", "()V"⟩, 5), (⟨"OnlyWhatFits$Tape", "endOf", "(II)I"⟩, 5), (⟨"OnlyWhatFits$Tape", "byteAt", "(I)I"⟩, 5), (⟨"OnlyWhatFits$Tape", "readStatement", "(LOnlyWhatFits$Village;)Z"⟩, 5), (⟨"OnlyWhatFits$Tape", "isWord", "(Ljava/lang/String;)Z"⟩, 5)]
theorem lw_r1 : ∀ q ∈ lw_privs_1, lw_okq q := List.forall_mem_cons.mpr ⟨lw_p0, List.forall_mem_cons.mpr ⟨lw_p1, List.forall_mem_cons.mpr ⟨lw_p2, List.forall_mem_cons.mpr ⟨lw_p3, List.forall_mem_cons.mpr ⟨lw_p4, List.forall_mem_cons.mpr ⟨lw_p5, List.forall_mem_cons.mpr ⟨lw_p6, List.forall_mem_cons.mpr ⟨lw_p7, List.forall_mem_cons.mpr ⟨lw_p8, List.forall_mem_cons.mpr ⟨lw_p9, List.forall_mem_cons.mpr ⟨lw_p10, List.forall_mem_cons.mpr ⟨lw_p11, List.forall_mem_cons.mpr ⟨lw_p12, List.forall_mem_cons.mpr ⟨lw_p13, List.forall_mem_cons.mpr ⟨lw_p14, List.forall_mem_cons.mpr ⟨lw_p15, fun _ h => absurd h List.not_mem_nil⟩⟩⟩⟩⟩⟩⟩⟩⟩⟩⟩⟩⟩⟩⟩⟩
theorem lw_p16 : lw_okq (⟨"OnlyWhatFits$Tape", "readPart", "(LOnlyWhatFits$Village;)Z"⟩, 5) := ⟨⟨by decide +kernel, by decide +kernel⟩, mt_1 166 rfl, mt_3 101 rfl, mt_3 102 rfl⟩
theorem lw_p17 : lw_okq (⟨"OnlyWhatFits$Tape", "numberIn", "(II)I"⟩, 5) := ⟨⟨by decide +kernel, by decide +kernel⟩, mt_1 166 rfl, mt_3 107 rfl, mt_3 108 rfl⟩
theorem lw_p18 : lw_okq (⟨"OnlyWhatFits$Tape", "readMachine", "(LOnlyWhatFits$Village;)Z"⟩, 5) := ⟨⟨by decide +kernel, by decide +kernel⟩, mt_1 166 rfl, mt_3 114 rfl, mt_3 115 rfl⟩
theorem lw_p19 : lw_okq (⟨"OnlyWhatFits$Tape", "readOne", "(LOnlyWhatFits$Village;)Z"⟩, 5) := ⟨⟨by decide +kernel, by decide +kernel⟩, mt_1 166 rfl, mt_3 122 rfl, mt_3 123 rfl⟩
theorem lw_p20 : lw_okq (⟨"OnlyWhatFits$Tape", "readGives", "(LOnlyWhatFits$Village;)Z"⟩, 5) := ⟨⟨by decide +kernel, by decide +kernel⟩, mt_1 166 rfl, mt_3 130 rfl, mt_3 131 rfl⟩
theorem lw_p21 : lw_okq (⟨"OnlyWhatFits$Teams", "ordersOf", "(I)I"⟩, 3) := ⟨⟨by decide +kernel, by decide +kernel⟩, mt_1 111 rfl, mt_4 24 rfl, mt_4 25 rfl⟩
theorem lw_p22 : lw_okq (⟨"OnlyWhatFits", "isTooBigForBest", "()Z"⟩, 12) := ⟨⟨by decide +kernel, by decide +kernel⟩, mt_1 18 rfl, mt_4 54 rfl, mt_4 55 rfl⟩
theorem lw_p23 : lw_okq (⟨"OnlyWhatFits$Search", "oddsThatAllCome", "(LOnlyWhatFits$Village;I)J"⟩, 6) := ⟨⟨by decide +kernel, by decide +kernel⟩, mt_1 138 rfl, mt_4 62 rfl, mt_4 63 rfl⟩
theorem lw_p24 : lw_okq (⟨"OnlyWhatFits$Search", "weigh", "(LOnlyWhatFits$Village;I)V"⟩, 6) := ⟨⟨by decide +kernel, by decide +kernel⟩, mt_1 138 rfl, mt_4 70 rfl, mt_4 71 rfl⟩
theorem lw_p25 : lw_okq (⟨"OnlyWhatFits$Search", "take", "(LOnlyWhatFits$Village;II)V"⟩, 6) := ⟨⟨by decide +kernel, by decide +kernel⟩, mt_1 138 rfl, mt_4 75 rfl, mt_4 76 rfl⟩
theorem lw_p26 : lw_okq (⟨"OnlyWhatFits", "toldFault", "(II)I"⟩, 12) := ⟨⟨by decide +kernel, by decide +kernel⟩, mt_1 18 rfl, mt_4 193 rfl, mt_4 194 rfl⟩
theorem lw_p27 : lw_okq (⟨"OnlyWhatFits", "partsOnToldDay", "(II)I"⟩, 12) := ⟨⟨by decide +kernel, by decide +kernel⟩, mt_1 18 rfl, mt_4 197 rfl, mt_4 198 rfl⟩
theorem lw_p28 : lw_okq (⟨"OnlyWhatFitsModel", "refuse", "(I)I"⟩, 32) := ⟨⟨by decide +kernel, by decide +kernel⟩, mt_5 5 rfl, mt_5 120 rfl, mt_5 121 rfl⟩
theorem lw_p29 : lw_okq (⟨"OnlyWhatFitsModel", "noRow", "(I)I"⟩, 32) := ⟨⟨by decide +kernel, by decide +kernel⟩, mt_5 5 rfl, mt_5 128 rfl, mt_5 129 rfl⟩
theorem lw_p30 : lw_okq (⟨"OnlyWhatFitsModel", "fresh", "()LOnlyWhatFitsModel;"⟩, 32) := ⟨⟨by decide +kernel, by decide +kernel⟩, mt_5 5 rfl, mt_5 160 rfl, mt_5 161 rfl⟩
theorem lw_p31 : lw_okq (⟨"OnlyWhatFitsModel", "takeFrom", "(LOnlyWhatFitsModel;)V"⟩, 32) := ⟨⟨by decide +kernel, by decide +kernel⟩, mt_5 5 rfl, mt_5 166 rfl, mt_5 167 rfl⟩
def lw_privs_2 : List (MethodName × Nat) := [(⟨"OnlyWhatFits$Tape", "readPart", "(LOnlyWhatFits$Village;)Z"⟩, 5), (⟨"OnlyWhatFits$Tape", "numberIn", "(II)I"⟩, 5), (⟨"OnlyWhatFits$Tape", "readMachine", "(LOnlyWhatFits$Village;)Z"⟩, 5), (⟨"OnlyWhatFits$Tape", "readOne", "(LOnlyWhatFits$Village;)Z"⟩, 5), (⟨"OnlyWhatFits$Tape", "readGives", "(LOnlyWhatFits$Village;)Z"⟩, 5), (⟨"OnlyWhatFits$Teams", "ordersOf", "(I)I"⟩, 3), (⟨"OnlyWhatFits", "isTooBigForBest", "()Z"⟩, 12), (⟨"OnlyWhatFits$Search", "oddsThatAllCome", "(LOnlyWhatFits$Village;I)J"⟩, 6), (⟨"OnlyWhatFits$Search", "weigh", "(LOnlyWhatFits$Village;I)V"⟩, 6), (⟨"OnlyWhatFits$Search", "take", "(LOnlyWhatFits$Village;II)V"⟩, 6), (⟨"OnlyWhatFits", "toldFault", "(II)I"⟩, 12), (⟨"OnlyWhatFits", "partsOnToldDay", "(II)I"⟩, 12), (⟨"OnlyWhatFitsModel", "refuse", "(I)I"⟩, 32), (⟨"OnlyWhatFitsModel", "noRow", "(I)I"⟩, 32), (⟨"OnlyWhatFitsModel", "fresh", "()LOnlyWhatFitsModel;"⟩, 32), (⟨"OnlyWhatFitsModel", "takeFrom", "(LOnlyWhatFitsModel;)V"⟩, 32)]
theorem lw_r2 : ∀ q ∈ lw_privs_2, lw_okq q := List.forall_mem_cons.mpr ⟨lw_p16, List.forall_mem_cons.mpr ⟨lw_p17, List.forall_mem_cons.mpr ⟨lw_p18, List.forall_mem_cons.mpr ⟨lw_p19, List.forall_mem_cons.mpr ⟨lw_p20, List.forall_mem_cons.mpr ⟨lw_p21, List.forall_mem_cons.mpr ⟨lw_p22, List.forall_mem_cons.mpr ⟨lw_p23, List.forall_mem_cons.mpr ⟨lw_p24, List.forall_mem_cons.mpr ⟨lw_p25, List.forall_mem_cons.mpr ⟨lw_p26, List.forall_mem_cons.mpr ⟨lw_p27, List.forall_mem_cons.mpr ⟨lw_p28, List.forall_mem_cons.mpr ⟨lw_p29, List.forall_mem_cons.mpr ⟨lw_p30, List.forall_mem_cons.mpr ⟨lw_p31, fun _ h => absurd h List.not_mem_nil⟩⟩⟩⟩⟩⟩⟩⟩⟩⟩⟩⟩⟩⟩⟩⟩
theorem lw_p32 : lw_okq (⟨"OnlyWhatFitsModel", "holdAll", "(II)V"⟩, 32) := ⟨⟨by decide +kernel, by decide +kernel⟩, mt_5 5 rfl, mt_5 173 rfl, mt_5 174 rfl⟩
theorem lw_p33 : lw_okq (⟨"OnlyWhatFitsModel", "holdWhole", "(I)V"⟩, 32) := ⟨⟨by decide +kernel, by decide +kernel⟩, mt_5 5 rfl, mt_5 177 rfl, mt_5 178 rfl⟩
theorem lw_p34 : lw_okq (⟨"OnlyWhatFitsModel", "firstWithRoom", "(II)I"⟩, 32) := ⟨⟨by decide +kernel, by decide +kernel⟩, mt_5 5 rfl, mt_5 184 rfl, mt_5 185 rfl⟩
theorem lw_p35 : lw_okq (⟨"OnlyWhatFitsModel", "hasRoom", "(I)Z"⟩, 32) := ⟨⟨by decide +kernel, by decide +kernel⟩, mt_5 5 rfl, mt_5 188 rfl, mt_5 189 rfl⟩
theorem lw_p36 : lw_okq (⟨"OnlyWhatFitsModel", "piecesOf", "(I)I"⟩, 32) := ⟨⟨by decide +kernel, by decide +kernel⟩, mt_5 5 rfl, mt_5 192 rfl, mt_5 193 rfl⟩
theorem lw_p37 : lw_okq (⟨"OnlyWhatFitsModel", "surest", "()I"⟩, 32) := ⟨⟨by decide +kernel, by decide +kernel⟩, mt_5 5 rfl, mt_5 196 rfl, mt_5 197 rfl⟩
theorem lw_p38 : lw_okq (⟨"OnlyWhatFitsModel", "nextWithRoom", "(II)I"⟩, 32) := ⟨⟨by decide +kernel, by decide +kernel⟩, mt_5 5 rfl, mt_5 200 rfl, mt_5 201 rfl⟩
theorem lw_p39 : lw_okq (⟨"OnlyWhatFitsModel", "held", "(Z)I"⟩, 32) := ⟨⟨by decide +kernel, by decide +kernel⟩, mt_5 5 rfl, mt_5 204 rfl, mt_5 205 rfl⟩
theorem lw_p40 : lw_okq (⟨"OnlyWhatFitsModel", "newOne", "()V"⟩, 32) := ⟨⟨by decide +kernel, by decide +kernel⟩, mt_5 5 rfl, mt_5 222 rfl, mt_5 223 rfl⟩
theorem lw_p41 : lw_okq (⟨"OnlyWhatFitsModel", "isOne", "(I)Z"⟩, 32) := ⟨⟨by decide +kernel, by decide +kernel⟩, mt_5 5 rfl, mt_5 230 rfl, mt_5 231 rfl⟩
theorem lw_p42 : lw_okq (⟨"OnlyWhatFitsModel", "isPart", "(I)Z"⟩, 32) := ⟨⟨by decide +kernel, by decide +kernel⟩, mt_5 5 rfl, mt_6 2 rfl, mt_6 3 rfl⟩
theorem lw_p43 : lw_okq (⟨"OnlyWhatFitsModel", "readAll", "()Z"⟩, 32) := ⟨⟨by decide +kernel, by decide +kernel⟩, mt_5 5 rfl, mt_6 18 rfl, mt_6 19 rfl⟩
theorem lw_p44 : lw_okq (⟨"OnlyWhatFitsModel", "look", "()V"⟩, 32) := ⟨⟨by decide +kernel, by decide +kernel⟩, mt_5 5 rfl, mt_6 22 rfl, mt_6 23 rfl⟩
theorem lw_p45 : lw_okq (⟨"OnlyWhatFitsModel", "statement", "()Z"⟩, 32) := ⟨⟨by decide +kernel, by decide +kernel⟩, mt_5 5 rfl, mt_6 34 rfl, mt_6 35 rfl⟩
theorem lw_p46 : lw_okq (⟨"OnlyWhatFitsModel", "isWord", "(Ljava/lang/String;)Z"⟩, 32) := ⟨⟨by decide +kernel, by decide +kernel⟩, mt_5 5 rfl, mt_6 39 rfl, mt_6 40 rfl⟩
theorem lw_p47 : lw_okq (⟨"OnlyWhatFitsModel", "partTold", "()Z"⟩, 32) := ⟨⟨by decide +kernel, by decide +kernel⟩, mt_5 5 rfl, mt_6 45 rfl, mt_6 46 rfl⟩
def lw_privs_3 : List (MethodName × Nat) := [(⟨"OnlyWhatFitsModel", "holdAll", "(II)V"⟩, 32), (⟨"OnlyWhatFitsModel", "holdWhole", "(I)V"⟩, 32), (⟨"OnlyWhatFitsModel", "firstWithRoom", "(II)I"⟩, 32), (⟨"OnlyWhatFitsModel", "hasRoom", "(I)Z"⟩, 32), (⟨"OnlyWhatFitsModel", "piecesOf", "(I)I"⟩, 32), (⟨"OnlyWhatFitsModel", "surest", "()I"⟩, 32), (⟨"OnlyWhatFitsModel", "nextWithRoom", "(II)I"⟩, 32), (⟨"OnlyWhatFitsModel", "held", "(Z)I"⟩, 32), (⟨"OnlyWhatFitsModel", "newOne", "()V"⟩, 32), (⟨"OnlyWhatFitsModel", "isOne", "(I)Z"⟩, 32), (⟨"OnlyWhatFitsModel", "isPart", "(I)Z"⟩, 32), (⟨"OnlyWhatFitsModel", "readAll", "()Z"⟩, 32), (⟨"OnlyWhatFitsModel", "look", "()V"⟩, 32), (⟨"OnlyWhatFitsModel", "statement", "()Z"⟩, 32), (⟨"OnlyWhatFitsModel", "isWord", "(Ljava/lang/String;)Z"⟩, 32), (⟨"OnlyWhatFitsModel", "partTold", "()Z"⟩, 32)]
theorem lw_r3 : ∀ q ∈ lw_privs_3, lw_okq q := List.forall_mem_cons.mpr ⟨lw_p32, List.forall_mem_cons.mpr ⟨lw_p33, List.forall_mem_cons.mpr ⟨lw_p34, List.forall_mem_cons.mpr ⟨lw_p35, List.forall_mem_cons.mpr ⟨lw_p36, List.forall_mem_cons.mpr ⟨lw_p37, List.forall_mem_cons.mpr ⟨lw_p38, List.forall_mem_cons.mpr ⟨lw_p39, List.forall_mem_cons.mpr ⟨lw_p40, List.forall_mem_cons.mpr ⟨lw_p41, List.forall_mem_cons.mpr ⟨lw_p42, List.forall_mem_cons.mpr ⟨lw_p43, List.forall_mem_cons.mpr ⟨lw_p44, List.forall_mem_cons.mpr ⟨lw_p45, List.forall_mem_cons.mpr ⟨lw_p46, List.forall_mem_cons.mpr ⟨lw_p47, fun _ h => absurd h List.not_mem_nil⟩⟩⟩⟩⟩⟩⟩⟩⟩⟩⟩⟩⟩⟩⟩⟩
theorem lw_p48 : lw_okq (⟨"OnlyWhatFitsModel", "gets", "(IZ)Z"⟩, 32) := ⟨⟨by decide +kernel, by decide +kernel⟩, mt_5 5 rfl, mt_6 51 rfl, mt_6 52 rfl⟩
theorem lw_p49 : lw_okq (⟨"OnlyWhatFitsModel", "wrong", "()Z"⟩, 32) := ⟨⟨by decide +kernel, by decide +kernel⟩, mt_5 5 rfl, mt_6 55 rfl, mt_6 56 rfl⟩
theorem lw_p50 : lw_okq (⟨"OnlyWhatFitsModel", "machineTold", "()Z"⟩, 32) := ⟨⟨by decide +kernel, by decide +kernel⟩, mt_5 5 rfl, mt_6 61 rfl, mt_6 62 rfl⟩
theorem lw_p51 : lw_okq (⟨"OnlyWhatFitsModel", "tells", "(Ljava/lang/String;II)Z"⟩, 32) := ⟨⟨by decide +kernel, by decide +kernel⟩, mt_5 5 rfl, mt_6 65 rfl, mt_6 66 rfl⟩
theorem lw_p52 : lw_okq (⟨"OnlyWhatFitsModel", "number", "(II)Z"⟩, 32) := ⟨⟨by decide +kernel, by decide +kernel⟩, mt_5 5 rfl, mt_6 69 rfl, mt_6 70 rfl⟩
theorem lw_p53 : lw_okq (⟨"OnlyWhatFitsModel", "isMachine", "(I)Z"⟩, 32) := ⟨⟨by decide +kernel, by decide +kernel⟩, mt_5 5 rfl, mt_6 87 rfl, mt_6 88 rfl⟩
theorem lw_p54 : lw_okq (⟨"OnlyWhatFitsModel", "all", "()I"⟩, 32) := ⟨⟨by decide +kernel, by decide +kernel⟩, mt_5 5 rfl, mt_6 99 rfl, mt_6 100 rfl⟩
theorem lw_p55 : lw_okq (⟨"OnlyWhatFitsModel", "hasOf", "(I)I"⟩, 32) := ⟨⟨by decide +kernel, by decide +kernel⟩, mt_5 5 rfl, mt_6 103 rfl, mt_6 104 rfl⟩
theorem lw_p56 : lw_okq (⟨"OnlyWhatFitsModel", "worksOf", "(II)Z"⟩, 32) := ⟨⟨by decide +kernel, by decide +kernel⟩, mt_5 5 rfl, mt_6 111 rfl, mt_6 112 rfl⟩
theorem lw_p57 : lw_okq (⟨"OnlyWhatFitsModel", "bothOf", "(III)Z"⟩, 32) := ⟨⟨by decide +kernel, by decide +kernel⟩, mt_5 5 rfl, mt_6 119 rfl, mt_6 120 rfl⟩
theorem lw_p58 : lw_okq (⟨"OnlyWhatFitsModel", "sumOf", "(II)J"⟩, 32) := ⟨⟨by decide +kernel, by decide +kernel⟩, mt_5 5 rfl, mt_6 127 rfl, mt_6 128 rfl⟩
theorem lw_p59 : lw_okq (⟨"OnlyWhatFitsModel", "oddsOf", "(I)J"⟩, 32) := ⟨⟨by decide +kernel, by decide +kernel⟩, mt_5 5 rfl, mt_6 131 rfl, mt_6 132 rfl⟩
theorem lw_p60 : lw_okq (⟨"OnlyWhatFitsModel", "powerOf", "(II)I"⟩, 32) := ⟨⟨by decide +kernel, by decide +kernel⟩, mt_5 5 rfl, mt_6 147 rfl, mt_6 148 rfl⟩
theorem lw_p61 : lw_okq (⟨"OnlyWhatFitsModel", "noHolding", "(I)I"⟩, 32) := ⟨⟨by decide +kernel, by decide +kernel⟩, mt_5 5 rfl, mt_6 165 rfl, mt_6 166 rfl⟩
theorem lw_p62 : lw_okq (⟨"OnlyWhatFitsModel", "wouldBy", "(I)J"⟩, 32) := ⟨⟨by decide +kernel, by decide +kernel⟩, mt_5 5 rfl, mt_6 173 rfl, mt_6 174 rfl⟩
theorem lw_p63 : lw_okq (⟨"OnlyWhatFitsModel", "findBest", "()Z"⟩, 32) := ⟨⟨by decide +kernel, by decide +kernel⟩, mt_5 5 rfl, mt_6 186 rfl, mt_6 187 rfl⟩
def lw_privs_4 : List (MethodName × Nat) := [(⟨"OnlyWhatFitsModel", "gets", "(IZ)Z"⟩, 32), (⟨"OnlyWhatFitsModel", "wrong", "()Z"⟩, 32), (⟨"OnlyWhatFitsModel", "machineTold", "()Z"⟩, 32), (⟨"OnlyWhatFitsModel", "tells", "(Ljava/lang/String;II)Z"⟩, 32), (⟨"OnlyWhatFitsModel", "number", "(II)Z"⟩, 32), (⟨"OnlyWhatFitsModel", "isMachine", "(I)Z"⟩, 32), (⟨"OnlyWhatFitsModel", "all", "()I"⟩, 32), (⟨"OnlyWhatFitsModel", "hasOf", "(I)I"⟩, 32), (⟨"OnlyWhatFitsModel", "worksOf", "(II)Z"⟩, 32), (⟨"OnlyWhatFitsModel", "bothOf", "(III)Z"⟩, 32), (⟨"OnlyWhatFitsModel", "sumOf", "(II)J"⟩, 32), (⟨"OnlyWhatFitsModel", "oddsOf", "(I)J"⟩, 32), (⟨"OnlyWhatFitsModel", "powerOf", "(II)I"⟩, 32), (⟨"OnlyWhatFitsModel", "noHolding", "(I)I"⟩, 32), (⟨"OnlyWhatFitsModel", "wouldBy", "(I)J"⟩, 32), (⟨"OnlyWhatFitsModel", "findBest", "()Z"⟩, 32)]
theorem lw_r4 : ∀ q ∈ lw_privs_4, lw_okq q := List.forall_mem_cons.mpr ⟨lw_p48, List.forall_mem_cons.mpr ⟨lw_p49, List.forall_mem_cons.mpr ⟨lw_p50, List.forall_mem_cons.mpr ⟨lw_p51, List.forall_mem_cons.mpr ⟨lw_p52, List.forall_mem_cons.mpr ⟨lw_p53, List.forall_mem_cons.mpr ⟨lw_p54, List.forall_mem_cons.mpr ⟨lw_p55, List.forall_mem_cons.mpr ⟨lw_p56, List.forall_mem_cons.mpr ⟨lw_p57, List.forall_mem_cons.mpr ⟨lw_p58, List.forall_mem_cons.mpr ⟨lw_p59, List.forall_mem_cons.mpr ⟨lw_p60, List.forall_mem_cons.mpr ⟨lw_p61, List.forall_mem_cons.mpr ⟨lw_p62, List.forall_mem_cons.mpr ⟨lw_p63, fun _ h => absurd h List.not_mem_nil⟩⟩⟩⟩⟩⟩⟩⟩⟩⟩⟩⟩⟩⟩⟩⟩
theorem lw_p64 : lw_okq (⟨"OnlyWhatFitsModel", "tryFrom", "(LOnlyWhatFitsModel;I)V"⟩, 32) := ⟨⟨by decide +kernel, by decide +kernel⟩, mt_5 5 rfl, mt_6 191 rfl, mt_6 192 rfl⟩
theorem lw_p65 : lw_okq (⟨"OnlyWhatFitsModel", "worstOf", "(I)I"⟩, 32) := ⟨⟨by decide +kernel, by decide +kernel⟩, mt_5 5 rfl, mt_6 203 rfl, mt_6 204 rfl⟩
theorem lw_p66 : lw_okq (⟨"OnlyWhatFitsModel", "crossOnes", "()I"⟩, 32) := ⟨⟨by decide +kernel, by decide +kernel⟩, mt_5 5 rfl, mt_6 207 rfl, mt_6 208 rfl⟩
theorem lw_p67 : lw_okq (⟨"OnlyWhatFitsModel", "anyWorks", "(II)Z"⟩, 32) := ⟨⟨by decide +kernel, by decide +kernel⟩, mt_5 5 rfl, mt_6 219 rfl, mt_6 220 rfl⟩
theorem lw_p68 : lw_okq (⟨"OnlyWhatFitsModel", "noTold", "(II)I"⟩, 32) := ⟨⟨by decide +kernel, by decide +kernel⟩, mt_5 5 rfl, mt_7 37 rfl, mt_7 38 rfl⟩
theorem lw_p69 : lw_okq (⟨"OnlyWhatFitsModel", "comeOn", "(II)I"⟩, 32) := ⟨⟨by decide +kernel, by decide +kernel⟩, mt_5 5 rfl, mt_7 42 rfl, mt_7 43 rfl⟩
theorem lw_p70 : lw_okq (⟨"OnlyWhatFitsModel", "goes", "()I"⟩, 32) := ⟨⟨by decide +kernel, by decide +kernel⟩, mt_5 5 rfl, mt_7 55 rfl, mt_7 56 rfl⟩
theorem lw_p71 : lw_okq (⟨"OnlyWhatFitsModel", "draw", "(I)I"⟩, 32) := ⟨⟨by decide +kernel, by decide +kernel⟩, mt_5 5 rfl, mt_7 59 rfl, mt_7 60 rfl⟩
def lw_privs_5 : List (MethodName × Nat) := [(⟨"OnlyWhatFitsModel", "tryFrom", "(LOnlyWhatFitsModel;I)V"⟩, 32), (⟨"OnlyWhatFitsModel", "worstOf", "(I)I"⟩, 32), (⟨"OnlyWhatFitsModel", "crossOnes", "()I"⟩, 32), (⟨"OnlyWhatFitsModel", "anyWorks", "(II)Z"⟩, 32), (⟨"OnlyWhatFitsModel", "noTold", "(II)I"⟩, 32), (⟨"OnlyWhatFitsModel", "comeOn", "(II)I"⟩, 32), (⟨"OnlyWhatFitsModel", "goes", "()I"⟩, 32), (⟨"OnlyWhatFitsModel", "draw", "(I)I"⟩, 32)]
theorem lw_r5 : ∀ q ∈ lw_privs_5, lw_okq q := List.forall_mem_cons.mpr ⟨lw_p64, List.forall_mem_cons.mpr ⟨lw_p65, List.forall_mem_cons.mpr ⟨lw_p66, List.forall_mem_cons.mpr ⟨lw_p67, List.forall_mem_cons.mpr ⟨lw_p68, List.forall_mem_cons.mpr ⟨lw_p69, List.forall_mem_cons.mpr ⟨lw_p70, List.forall_mem_cons.mpr ⟨lw_p71, fun _ h => absurd h List.not_mem_nil⟩⟩⟩⟩⟩⟩⟩⟩
def lw_privs : List (MethodName × Nat) := lw_privs_1 ++ (lw_privs_2 ++ (lw_privs_3 ++ (lw_privs_4 ++ (lw_privs_5))))
def lw_tbl : List Cond := k2_sels lw_privs ++ tables_1
theorem lw_privs_ok : ∀ q ∈ lw_privs, lw_okq q := by
  show ∀ q ∈ lw_privs_1 ++ (lw_privs_2 ++ (lw_privs_3 ++ (lw_privs_4 ++ (lw_privs_5)))), lw_okq q
  exact List.forall_mem_append.mpr ⟨lw_r1, List.forall_mem_append.mpr ⟨lw_r2, List.forall_mem_append.mpr ⟨lw_r3, List.forall_mem_append.mpr ⟨lw_r4, lw_r5⟩⟩⟩⟩
def RX0 : String := "OnlyWhatFits$Rules"
def TX0 : u_T := fun k => match k with
  | _ => ("OnlyWhatFits$Rules", "room", "[I", true)
def tyX0 : Nat → FieldType := fun k => match k with
  | _ => .array .int
theorem nmX0 : ∀ a, a < 1 → ∀ b, b < 1 → a ≠ b → (TX0 a).2.1 ≠ (TX0 b).2.1 := by decide +kernel
theorem tyX0_ok : ∀ k, k < 1 → parseFieldDescriptor (TX0 k).2.2.1 = some (tyX0 k) := by decide +kernel
abbrev cX0_init : ByteArray := prog_2_method_1_code
def yX0_init : MethodName := ⟨RX0, "<init>", "()V"⟩
abbrev cX0_tellAnew : ByteArray := prog_2_method_2_code
def yX0_tellAnew : MethodName := ⟨RX0, "tellAnew", "(LOnlyWhatFits$Village;II)V"⟩
abbrev cX0_giveWhole : ByteArray := prog_2_method_3_code
def yX0_giveWhole : MethodName := ⟨RX0, "giveWhole", "(LOnlyWhatFits$Village;I)V"⟩
abbrev cX0_worthiest : ByteArray := prog_2_method_4_code
def yX0_worthiest : MethodName := ⟨RX0, "worthiest", "(LOnlyWhatFits$Village;I)I"⟩
abbrev cX0_giveNeeds : ByteArray := prog_2_method_5_code
def yX0_giveNeeds : MethodName := ⟨RX0, "giveNeeds", "(LOnlyWhatFits$Village;II)V"⟩
abbrev cX0_firstWithRoom : ByteArray := prog_2_method_6_code
def yX0_firstWithRoom : MethodName := ⟨RX0, "firstWithRoom", "(II)I"⟩
abbrev cX0_taken : ByteArray := prog_2_method_7_code
def yX0_taken : MethodName := ⟨RX0, "taken", "(I)I"⟩
abbrev cX0_giveRound : ByteArray := prog_2_method_8_code
def yX0_giveRound : MethodName := ⟨RX0, "giveRound", "(LOnlyWhatFits$Village;I)I"⟩
abbrev cX0_giveRoundAgain : ByteArray := prog_2_method_9_code
def yX0_giveRoundAgain : MethodName := ⟨RX0, "giveRoundAgain", "(LOnlyWhatFits$Village;I)V"⟩
abbrev cX0_nextWithRoom : ByteArray := prog_2_method_10_code
def yX0_nextWithRoom : MethodName := ⟨RX0, "nextWithRoom", "(LOnlyWhatFits$Village;II)I"⟩
abbrev cX0_giveSure : ByteArray := prog_2_method_11_code
def yX0_giveSure : MethodName := ⟨RX0, "giveSure", "(LOnlyWhatFits$Village;)V"⟩
def RX1 : String := "OnlyWhatFits$Search"
def TX1 : u_T := fun k => match k with
  | 0 => ("OnlyWhatFits$Search", "chosen", "[I", true)
  | 1 => ("OnlyWhatFits$Search", "greatest", "[I", true)
  | 2 => ("OnlyWhatFits$Search", "room", "[I", true)
  | 3 => ("OnlyWhatFits$Search", "owners", "[[I", true)
  | 4 => ("OnlyWhatFits$Search", "odds", "[J", true)
  | _ => ("OnlyWhatFits$Search", "most", "J", false)
def tyX1 : Nat → FieldType := fun k => match k with
  | 0 => .array .int
  | 1 => .array .int
  | 2 => .array .int
  | 3 => .array (.array .int)
  | 4 => .array .long
  | _ => .long
theorem nmX1 : ∀ a, a < 6 → ∀ b, b < 6 → a ≠ b → (TX1 a).2.1 ≠ (TX1 b).2.1 := by decide +kernel
theorem tyX1_ok : ∀ k, k < 6 → parseFieldDescriptor (TX1 k).2.2.1 = some (tyX1 k) := by decide +kernel
abbrev cX1_init : ByteArray := prog_3_method_1_code
def yX1_init : MethodName := ⟨RX1, "<init>", "()V"⟩
abbrev cX1_run : ByteArray := prog_3_method_2_code
def yX1_run : MethodName := ⟨RX1, "run", "(LOnlyWhatFits$Village;)V"⟩
abbrev cX1_holderOf : ByteArray := prog_3_method_3_code
def yX1_holderOf : MethodName := ⟨RX1, "holderOf", "(I)I"⟩
abbrev cX1_greatestDay : ByteArray := prog_3_method_4_code
def yX1_greatestDay : MethodName := ⟨RX1, "greatestDay", "()J"⟩
abbrev cX1_oddsThatAllCome : ByteArray := prog_3_method_5_code
def yX1_oddsThatAllCome : MethodName := ⟨RX1, "oddsThatAllCome", "(LOnlyWhatFits$Village;I)J"⟩
abbrev cX1_choose : ByteArray := prog_3_method_6_code
def yX1_choose : MethodName := ⟨RX1, "choose", "(LOnlyWhatFits$Search;LOnlyWhatFits$Village;I)V"⟩
abbrev cX1_take : ByteArray := prog_3_method_7_code
def yX1_take : MethodName := ⟨RX1, "take", "(LOnlyWhatFits$Village;II)V"⟩
abbrev cX1_weigh : ByteArray := prog_3_method_8_code
def yX1_weigh : MethodName := ⟨RX1, "weigh", "(LOnlyWhatFits$Village;I)V"⟩
def RX2 : String := "OnlyWhatFits$Shelves"
def TX2 : u_T := fun k => match k with
  | 0 => ("OnlyWhatFits$Shelves", "thing", "[I", true)
  | 1 => ("OnlyWhatFits$Shelves", "size", "[I", true)
  | 2 => ("OnlyWhatFits$Shelves", "elements", "[[J", true)
  | _ => ("OnlyWhatFits$Shelves", "by", "[I", true)
def tyX2 : Nat → FieldType := fun k => match k with
  | 0 => .array .int
  | 1 => .array .int
  | 2 => .array (.array .long)
  | _ => .array .int
theorem nmX2 : ∀ a, a < 4 → ∀ b, b < 4 → a ≠ b → (TX2 a).2.1 ≠ (TX2 b).2.1 := by decide +kernel
theorem tyX2_ok : ∀ k, k < 4 → parseFieldDescriptor (TX2 k).2.2.1 = some (tyX2 k) := by decide +kernel
abbrev cX2_init : ByteArray := prog_4_method_1_code
def yX2_init : MethodName := ⟨RX2, "<init>", "()V"⟩
abbrev cX2_isShelf : ByteArray := prog_4_method_2_code
def yX2_isShelf : MethodName := ⟨RX2, "isShelf", "(I)Z"⟩
abbrev cX2_thingOn : ByteArray := prog_4_method_3_code
def yX2_thingOn : MethodName := ⟨RX2, "thingOn", "(I)I"⟩
abbrev cX2_isBare : ByteArray := prog_4_method_4_code
def yX2_isBare : MethodName := ⟨RX2, "isBare", "(I)Z"⟩
abbrev cX2_isOfHolding : ByteArray := prog_4_method_5_code
def yX2_isOfHolding : MethodName := ⟨RX2, "isOfHolding", "(I)Z"⟩
abbrev cX2_isOfRow : ByteArray := prog_4_method_6_code
def yX2_isOfRow : MethodName := ⟨RX2, "isOfRow", "(I)Z"⟩
abbrev cX2_fullCount : ByteArray := prog_4_method_7_code
def yX2_fullCount : MethodName := ⟨RX2, "fullCount", "()I"⟩
abbrev cX2_rowFault : ByteArray := prog_4_method_8_code
def yX2_rowFault : MethodName := ⟨RX2, "rowFault", "(I)I"⟩
abbrev cX2_holdingFault : ByteArray := prog_4_method_9_code
def yX2_holdingFault : MethodName := ⟨RX2, "holdingFault", "(I)I"⟩
abbrev cX2_putRow : ByteArray := prog_4_method_10_code
def yX2_putRow : MethodName := ⟨RX2, "putRow", "(III)V"⟩
abbrev cX2_putHolding : ByteArray := prog_4_method_11_code
def yX2_putHolding : MethodName := ⟨RX2, "putHolding", "(III)V"⟩
abbrev cX2_kindOn : ByteArray := prog_4_method_12_code
def yX2_kindOn : MethodName := ⟨RX2, "kindOn", "(I)I"⟩
abbrev cX2_byOn : ByteArray := prog_4_method_13_code
def yX2_byOn : MethodName := ⟨RX2, "byOn", "(I)I"⟩
abbrev cX2_sizeOf : ByteArray := prog_4_method_14_code
def yX2_sizeOf : MethodName := ⟨RX2, "sizeOf", "(I)I"⟩
abbrev cX2_elementAt : ByteArray := prog_4_method_15_code
def yX2_elementAt : MethodName := ⟨RX2, "elementAt", "(II)J"⟩
abbrev cX2_putElement : ByteArray := prog_4_method_16_code
def yX2_putElement : MethodName := ⟨RX2, "putElement", "(IIJ)V"⟩
abbrev cX2_lowestBits : ByteArray := prog_4_method_17_code
def yX2_lowestBits : MethodName := ⟨RX2, "lowestBits", "(IJ)J"⟩
abbrev cX2_copyElements : ByteArray := prog_4_method_18_code
def yX2_copyElements : MethodName := ⟨RX2, "copyElements", "(IIIII)V"⟩
def RX3 : String := "OnlyWhatFits$Tape"
def TX3 : u_T := fun k => match k with
  | 0 => ("OnlyWhatFits$Tape", "bytes", "[B", true)
  | 1 => ("OnlyWhatFits$Tape", "size", "I", false)
  | 2 => ("OnlyWhatFits$Tape", "token", "I", false)
  | 3 => ("OnlyWhatFits$Tape", "start", "I", false)
  | _ => ("OnlyWhatFits$Tape", "end", "I", false)
def tyX3 : Nat → FieldType := fun k => match k with
  | 0 => .array .byte
  | 1 => .int
  | 2 => .int
  | 3 => .int
  | _ => .int
theorem nmX3 : ∀ a, a < 5 → ∀ b, b < 5 → a ≠ b → (TX3 a).2.1 ≠ (TX3 b).2.1 := by decide +kernel
theorem tyX3_ok : ∀ k, k < 5 → parseFieldDescriptor (TX3 k).2.2.1 = some (tyX3 k) := by decide +kernel
abbrev cX3_init : ByteArray := prog_5_method_1_code
def yX3_init : MethodName := ⟨RX3, "<init>", "()V"⟩
abbrev cX3_length : ByteArray := prog_5_method_2_code
def yX3_length : MethodName := ⟨RX3, "length", "()I"⟩
abbrev cX3_append : ByteArray := prog_5_method_3_code
def yX3_append : MethodName := ⟨RX3, "append", "(I)V"⟩
abbrev cX3_clear : ByteArray := prog_5_method_4_code
def yX3_clear : MethodName := ⟨RX3, "clear", "()V"⟩
abbrev cX3_faultPlace : ByteArray := prog_5_method_5_code
def yX3_faultPlace : MethodName := ⟨RX3, "faultPlace", "()I"⟩
abbrev cX3_readInto : ByteArray := prog_5_method_6_code
def yX3_readInto : MethodName := ⟨RX3, "readInto", "(LOnlyWhatFits$Village;)I"⟩
abbrev cX3_readStatement : ByteArray := prog_5_method_7_code
def yX3_readStatement : MethodName := ⟨RX3, "readStatement", "(LOnlyWhatFits$Village;)Z"⟩
abbrev cX3_readPart : ByteArray := prog_5_method_8_code
def yX3_readPart : MethodName := ⟨RX3, "readPart", "(LOnlyWhatFits$Village;)Z"⟩
abbrev cX3_readMachine : ByteArray := prog_5_method_9_code
def yX3_readMachine : MethodName := ⟨RX3, "readMachine", "(LOnlyWhatFits$Village;)Z"⟩
abbrev cX3_readOne : ByteArray := prog_5_method_10_code
def yX3_readOne : MethodName := ⟨RX3, "readOne", "(LOnlyWhatFits$Village;)Z"⟩
abbrev cX3_readGives : ByteArray := prog_5_method_11_code
def yX3_readGives : MethodName := ⟨RX3, "readGives", "(LOnlyWhatFits$Village;)Z"⟩
abbrev cX3_step : ByteArray := prog_5_method_12_code
def yX3_step : MethodName := ⟨RX3, "step", "()V"⟩
abbrev cX3_isOf : ByteArray := prog_5_method_13_code
def yX3_isOf : MethodName := ⟨RX3, "isOf", "(II)Z"⟩
abbrev cX3_endOf : ByteArray := prog_5_method_14_code
def yX3_endOf : MethodName := ⟨RX3, "endOf", "(II)I"⟩
abbrev cX3_byteAt : ByteArray := prog_5_method_15_code
def yX3_byteAt : MethodName := ⟨RX3, "byteAt", "(I)I"⟩
abbrev cX3_isWord : ByteArray := prog_5_method_16_code
def yX3_isWord : MethodName := ⟨RX3, "isWord", "(Ljava/lang/String;)Z"⟩
abbrev cX3_numberIn : ByteArray := prog_5_method_17_code
def yX3_numberIn : MethodName := ⟨RX3, "numberIn", "(II)I"⟩
def RX4 : String := "OnlyWhatFits$Teams"
def TX4 : u_T := fun k => match k with
  | 0 => ("OnlyWhatFits$Teams", "weights", "[J", true)
  | 1 => ("OnlyWhatFits$Teams", "partsOfSet", "[I", true)
  | _ => ("OnlyWhatFits$Teams", "orders", "[I", true)
def tyX4 : Nat → FieldType := fun k => match k with
  | 0 => .array .long
  | 1 => .array .int
  | _ => .array .int
theorem nmX4 : ∀ a, a < 3 → ∀ b, b < 3 → a ≠ b → (TX4 a).2.1 ≠ (TX4 b).2.1 := by decide +kernel
theorem tyX4_ok : ∀ k, k < 3 → parseFieldDescriptor (TX4 k).2.2.1 = some (tyX4 k) := by decide +kernel
abbrev cX4_init : ByteArray := prog_6_method_1_code
def yX4_init : MethodName := ⟨RX4, "<init>", "()V"⟩
abbrev cX4_weigh : ByteArray := prog_6_method_2_code
def yX4_weigh : MethodName := ⟨RX4, "weigh", "(LOnlyWhatFits$Village;)V"⟩
abbrev cX4_gather : ByteArray := prog_6_method_3_code
def yX4_gather : MethodName := ⟨RX4, "gather", "(LOnlyWhatFits$Village;)V"⟩
abbrev cX4_partsOf : ByteArray := prog_6_method_4_code
def yX4_partsOf : MethodName := ⟨RX4, "partsOf", "(I)I"⟩
abbrev cX4_oddsOf : ByteArray := prog_6_method_5_code
def yX4_oddsOf : MethodName := ⟨RX4, "oddsOf", "(LOnlyWhatFits$Village;I)J"⟩
abbrev cX4_oddsOfPair : ByteArray := prog_6_method_6_code
def yX4_oddsOfPair : MethodName := ⟨RX4, "oddsOfPair", "(LOnlyWhatFits$Village;II)J"⟩
abbrev cX4_worthOfDay : ByteArray := prog_6_method_7_code
def yX4_worthOfDay : MethodName := ⟨RX4, "worthOfDay", "(LOnlyWhatFits$Village;)J"⟩
abbrev cX4_worthAsWeighed : ByteArray := prog_6_method_8_code
def yX4_worthAsWeighed : MethodName := ⟨RX4, "worthAsWeighed", "(LOnlyWhatFits$Village;)J"⟩
abbrev cX4_turnsOn : ByteArray := prog_6_method_9_code
def yX4_turnsOn : MethodName := ⟨RX4, "turnsOn", "(LOnlyWhatFits$Village;II)I"⟩
abbrev cX4_ordersOf : ByteArray := prog_6_method_10_code
def yX4_ordersOf : MethodName := ⟨RX4, "ordersOf", "(I)I"⟩
abbrev cX4_worthOfTurnsOn : ByteArray := prog_6_method_11_code
def yX4_worthOfTurnsOn : MethodName := ⟨RX4, "worthOfTurnsOn", "(LOnlyWhatFits$Village;I)J"⟩
abbrev cX4_bornBy : ByteArray := prog_6_method_12_code
def yX4_bornBy : MethodName := ⟨RX4, "bornBy", "(LOnlyWhatFits$Village;I)I"⟩
def RX5 : String := "OnlyWhatFits$Village"
def TX5 : u_T := fun k => match k with
  | 0 => ("OnlyWhatFits$Village", "parts", "I", false)
  | 1 => ("OnlyWhatFits$Village", "holder", "[I", true)
  | 2 => ("OnlyWhatFits$Village", "second", "[I", true)
  | 3 => ("OnlyWhatFits$Village", "machines", "I", false)
  | 4 => ("OnlyWhatFits$Village", "needs", "[I", true)
  | 5 => ("OnlyWhatFits$Village", "worth", "[I", true)
  | 6 => ("OnlyWhatFits$Village", "people", "I", false)
  | 7 => ("OnlyWhatFits$Village", "hand", "[I", true)
  | 8 => ("OnlyWhatFits$Village", "away", "[I", true)
  | 9 => ("OnlyWhatFits$Village", "isCross", "[Z", true)
  | 10 => ("OnlyWhatFits$Village", "shares", "[I", true)
  | _ => ("OnlyWhatFits$Village", "seed", "I", false)
def tyX5 : Nat → FieldType := fun k => match k with
  | 0 => .int
  | 1 => .array .int
  | 2 => .array .int
  | 3 => .int
  | 4 => .array .int
  | 5 => .array .int
  | 6 => .int
  | 7 => .array .int
  | 8 => .array .int
  | 9 => .array .boolean
  | 10 => .array .int
  | _ => .int
theorem nmX5 : ∀ a, a < 12 → ∀ b, b < 12 → a ≠ b → (TX5 a).2.1 ≠ (TX5 b).2.1 := by decide +kernel
theorem tyX5_ok : ∀ k, k < 12 → parseFieldDescriptor (TX5 k).2.2.1 = some (tyX5 k) := by decide +kernel
abbrev cX5_init : ByteArray := prog_7_method_1_code
def yX5_init : MethodName := ⟨RX5, "<init>", "()V"⟩
abbrev cX5_takeOver : ByteArray := prog_7_method_2_code
def yX5_takeOver : MethodName := ⟨RX5, "takeOver", "(LOnlyWhatFits$Village;)V"⟩
abbrev cX5_addPart : ByteArray := prog_7_method_3_code
def yX5_addPart : MethodName := ⟨RX5, "addPart", "()I"⟩
abbrev cX5_addMachine : ByteArray := prog_7_method_4_code
def yX5_addMachine : MethodName := ⟨RX5, "addMachine", "(II)I"⟩
abbrev cX5_addOne : ByteArray := prog_7_method_5_code
def yX5_addOne : MethodName := ⟨RX5, "addOne", "(II)I"⟩
abbrev cX5_isPart : ByteArray := prog_7_method_6_code
def yX5_isPart : MethodName := ⟨RX5, "isPart", "(I)Z"⟩
abbrev cX5_isMachine : ByteArray := prog_7_method_7_code
def yX5_isMachine : MethodName := ⟨RX5, "isMachine", "(I)Z"⟩
abbrev cX5_isPair : ByteArray := prog_7_method_8_code
def yX5_isPair : MethodName := ⟨RX5, "isPair", "(II)Z"⟩
abbrev cX5_isOne : ByteArray := prog_7_method_9_code
def yX5_isOne : MethodName := ⟨RX5, "isOne", "(I)Z"⟩
abbrev cX5_allParts : ByteArray := prog_7_method_10_code
def yX5_allParts : MethodName := ⟨RX5, "allParts", "()I"⟩
abbrev cX5_allMachines : ByteArray := prog_7_method_11_code
def yX5_allMachines : MethodName := ⟨RX5, "allMachines", "()I"⟩
abbrev cX5_allPeople : ByteArray := prog_7_method_12_code
def yX5_allPeople : MethodName := ⟨RX5, "allPeople", "()I"⟩
abbrev cX5_isSetOfParts : ByteArray := prog_7_method_13_code
def yX5_isSetOfParts : MethodName := ⟨RX5, "isSetOfParts", "(I)Z"⟩
abbrev cX5_isSetOfPeople : ByteArray := prog_7_method_14_code
def yX5_isSetOfPeople : MethodName := ⟨RX5, "isSetOfPeople", "(I)Z"⟩
abbrev cX5_crossPeople : ByteArray := prog_7_method_15_code
def yX5_crossPeople : MethodName := ⟨RX5, "crossPeople", "()I"⟩
abbrev cX5_piecesOf : ByteArray := prog_7_method_16_code
def yX5_piecesOf : MethodName := ⟨RX5, "piecesOf", "(I)I"⟩
abbrev cX5_hasRoom : ByteArray := prog_7_method_17_code
def yX5_hasRoom : MethodName := ⟨RX5, "hasRoom", "(I)Z"⟩
abbrev cX5_holderCount : ByteArray := prog_7_method_18_code
def yX5_holderCount : MethodName := ⟨RX5, "holderCount", "()I"⟩
abbrev cX5_secondCount : ByteArray := prog_7_method_19_code
def yX5_secondCount : MethodName := ⟨RX5, "secondCount", "()I"⟩
abbrev cX5_partsOfOne : ByteArray := prog_7_method_20_code
def yX5_partsOfOne : MethodName := ⟨RX5, "partsOfOne", "(I)I"⟩
abbrev cX5_partsWith : ByteArray := prog_7_method_21_code
def yX5_partsWith : MethodName := ⟨RX5, "partsWith", "(I)I"⟩
abbrev cX5_doublesWith : ByteArray := prog_7_method_22_code
def yX5_doublesWith : MethodName := ⟨RX5, "doublesWith", "(I)I"⟩
abbrev cX5_isIn : ByteArray := prog_7_method_23_code
def yX5_isIn : MethodName := ⟨RX5, "isIn", "(II)Z"⟩
abbrev cX5_isWorkedWith : ByteArray := prog_7_method_24_code
def yX5_isWorkedWith : MethodName := ⟨RX5, "isWorkedWith", "(II)Z"⟩
abbrev cX5_isAnyWorkedWith : ByteArray := prog_7_method_25_code
def yX5_isAnyWorkedWith : MethodName := ⟨RX5, "isAnyWorkedWith", "(I)Z"⟩
abbrev cX5_machinesWith : ByteArray := prog_7_method_26_code
def yX5_machinesWith : MethodName := ⟨RX5, "machinesWith", "(I)I"⟩
abbrev cX5_machinesTouchedBy : ByteArray := prog_7_method_27_code
def yX5_machinesTouchedBy : MethodName := ⟨RX5, "machinesTouchedBy", "(I)I"⟩
abbrev cX5_areBothWorked : ByteArray := prog_7_method_28_code
def yX5_areBothWorked : MethodName := ⟨RX5, "areBothWorked", "(III)Z"⟩
abbrev cX5_worthWith : ByteArray := prog_7_method_29_code
def yX5_worthWith : MethodName := ⟨RX5, "worthWith", "(I)I"⟩
abbrev cX5_handOver : ByteArray := prog_7_method_30_code
def yX5_handOver : MethodName := ⟨RX5, "handOver", "(II)V"⟩
abbrev cX5_passDay : ByteArray := prog_7_method_31_code
def yX5_passDay : MethodName := ⟨RX5, "passDay", "()I"⟩
abbrev cX5_drawTenth : ByteArray := prog_7_method_32_code
def yX5_drawTenth : MethodName := ⟨RX5, "drawTenth", "()I"⟩
abbrev cX5_shareOut : ByteArray := prog_7_method_33_code
def yX5_shareOut : MethodName := ⟨RX5, "shareOut", "(I)V"⟩
def RX6 : String := "OnlyWhatFits"
def TX6 : u_T := fun k => match k with
  | 0 => ("OnlyWhatFits", "now", "LOnlyWhatFits$Village;", true)
  | 1 => ("OnlyWhatFits", "trial", "LOnlyWhatFits$Village;", true)
  | 2 => ("OnlyWhatFits", "kept", "LOnlyWhatFits$Village;", true)
  | 3 => ("OnlyWhatFits", "isKept", "Z", false)
  | 4 => ("OnlyWhatFits", "teams", "LOnlyWhatFits$Teams;", true)
  | 5 => ("OnlyWhatFits", "rules", "LOnlyWhatFits$Rules;", true)
  | 6 => ("OnlyWhatFits", "search", "LOnlyWhatFits$Search;", true)
  | 7 => ("OnlyWhatFits", "tape", "LOnlyWhatFits$Tape;", true)
  | 8 => ("OnlyWhatFits", "shelves", "LOnlyWhatFits$Shelves;", true)
  | 9 => ("OnlyWhatFits", "refusals", "[I", true)
  | 10 => ("OnlyWhatFits", "daysGone", "I", false)
  | _ => ("OnlyWhatFits", "yielded", "I", false)
def tyX6 : Nat → FieldType := fun k => match k with
  | 0 => .object "OnlyWhatFits$Village"
  | 1 => .object "OnlyWhatFits$Village"
  | 2 => .object "OnlyWhatFits$Village"
  | 3 => .boolean
  | 4 => .object "OnlyWhatFits$Teams"
  | 5 => .object "OnlyWhatFits$Rules"
  | 6 => .object "OnlyWhatFits$Search"
  | 7 => .object "OnlyWhatFits$Tape"
  | 8 => .object "OnlyWhatFits$Shelves"
  | 9 => .array .int
  | 10 => .int
  | _ => .int
theorem nmX6 : ∀ a, a < 12 → ∀ b, b < 12 → a ≠ b → (TX6 a).2.1 ≠ (TX6 b).2.1 := by decide +kernel
theorem tyX6_ok : ∀ k, k < 12 → parseFieldDescriptor (TX6 k).2.2.1 = some (tyX6 k) := by decide +kernel
abbrev cX6_init : ByteArray := prog_1_method_1_code
def yX6_init : MethodName := ⟨RX6, "<init>", "()V"⟩
abbrev cX6_row : ByteArray := prog_1_method_2_code
def yX6_row : MethodName := ⟨RX6, "row", "(III)I"⟩
abbrev cX6_set : ByteArray := prog_1_method_3_code
def yX6_set : MethodName := ⟨RX6, "set", "(IIJ)I"⟩
abbrev cX6_copy : ByteArray := prog_1_method_4_code
def yX6_copy : MethodName := ⟨RX6, "copy", "(IIIII)I"⟩
abbrev cX6_element : ByteArray := prog_1_method_5_code
def yX6_element : MethodName := ⟨RX6, "element", "(II)J"⟩
abbrev cX6_holds : ByteArray := prog_1_method_6_code
def yX6_holds : MethodName := ⟨RX6, "holds", "(I)I"⟩
abbrev cX6_holding : ByteArray := prog_1_method_7_code
def yX6_holding : MethodName := ⟨RX6, "holding", "(III)I"⟩
abbrev cX6_says : ByteArray := prog_1_method_8_code
def yX6_says : MethodName := ⟨RX6, "says", "(II)I"⟩
abbrev cX6_part : ByteArray := prog_1_method_9_code
def yX6_part : MethodName := ⟨RX6, "part", "()I"⟩
abbrev cX6_machine : ByteArray := prog_1_method_10_code
def yX6_machine : MethodName := ⟨RX6, "machine", "(II)I"⟩
abbrev cX6_one : ByteArray := prog_1_method_11_code
def yX6_one : MethodName := ⟨RX6, "one", "(II)I"⟩
abbrev cX6_away : ByteArray := prog_1_method_12_code
def yX6_away : MethodName := ⟨RX6, "away", "(II)I"⟩
abbrev cX6_cross : ByteArray := prog_1_method_13_code
def yX6_cross : MethodName := ⟨RX6, "cross", "(IZ)I"⟩
abbrev cX6_give : ByteArray := prog_1_method_14_code
def yX6_give : MethodName := ⟨RX6, "give", "(IIZ)I"⟩
abbrev cX6_feed : ByteArray := prog_1_method_15_code
def yX6_feed : MethodName := ⟨RX6, "feed", "(II)I"⟩
abbrev cX6_wipe : ByteArray := prog_1_method_16_code
def yX6_wipe : MethodName := ⟨RX6, "wipe", "()I"⟩
abbrev cX6_village : ByteArray := prog_1_method_17_code
def yX6_village : MethodName := ⟨RX6, "village", "()I"⟩
abbrev cX6_partOf : ByteArray := prog_1_method_18_code
def yX6_partOf : MethodName := ⟨RX6, "partOf", "(II)I"⟩
abbrev cX6_machineOf : ByteArray := prog_1_method_19_code
def yX6_machineOf : MethodName := ⟨RX6, "machineOf", "(II)I"⟩
abbrev cX6_oneOf : ByteArray := prog_1_method_20_code
def yX6_oneOf : MethodName := ⟨RX6, "oneOf", "(II)I"⟩
abbrev cX6_has : ByteArray := prog_1_method_21_code
def yX6_has : MethodName := ⟨RX6, "has", "(I)I"⟩
abbrev cX6_works : ByteArray := prog_1_method_22_code
def yX6_works : MethodName := ⟨RX6, "works", "(II)I"⟩
abbrev cX6_both : ByteArray := prog_1_method_23_code
def yX6_both : MethodName := ⟨RX6, "both", "(III)I"⟩
abbrev cX6_odds : ByteArray := prog_1_method_24_code
def yX6_odds : MethodName := ⟨RX6, "odds", "(I)J"⟩
abbrev cX6_atOnce : ByteArray := prog_1_method_25_code
def yX6_atOnce : MethodName := ⟨RX6, "atOnce", "(II)J"⟩
abbrev cX6_day : ByteArray := prog_1_method_26_code
def yX6_day : MethodName := ⟨RX6, "day", "()J"⟩
abbrev cX6_power : ByteArray := prog_1_method_27_code
def yX6_power : MethodName := ⟨RX6, "power", "(II)I"⟩
abbrev cX6_first : ByteArray := prog_1_method_28_code
def yX6_first : MethodName := ⟨RX6, "first", "()I"⟩
abbrev cX6_lay : ByteArray := prog_1_method_29_code
def yX6_lay : MethodName := ⟨RX6, "lay", "(I)I"⟩
abbrev cX6_would : ByteArray := prog_1_method_30_code
def yX6_would : MethodName := ⟨RX6, "would", "(I)J"⟩
abbrev cX6_head : ByteArray := prog_1_method_31_code
def yX6_head : MethodName := ⟨RX6, "head", "()I"⟩
abbrev cX6_best : ByteArray := prog_1_method_32_code
def yX6_best : MethodName := ⟨RX6, "best", "(I)I"⟩
abbrev cX6_bestDay : ByteArray := prog_1_method_33_code
def yX6_bestDay : MethodName := ⟨RX6, "bestDay", "()J"⟩
abbrev cX6_bears : ByteArray := prog_1_method_34_code
def yX6_bears : MethodName := ⟨RX6, "bears", "(I)I"⟩
abbrev cX6_harms : ByteArray := prog_1_method_35_code
def yX6_harms : MethodName := ⟨RX6, "harms", "()I"⟩
abbrev cX6_least : ByteArray := prog_1_method_36_code
def yX6_least : MethodName := ⟨RX6, "least", "()I"⟩
abbrev cX6_stolen : ByteArray := prog_1_method_37_code
def yX6_stolen : MethodName := ⟨RX6, "stolen", "()I"⟩
abbrev cX6_spare : ByteArray := prog_1_method_38_code
def yX6_spare : MethodName := ⟨RX6, "spare", "()I"⟩
abbrev cX6_gift : ByteArray := prog_1_method_39_code
def yX6_gift : MethodName := ⟨RX6, "gift", "(II)J"⟩
abbrev cX6_never : ByteArray := prog_1_method_40_code
def yX6_never : MethodName := ⟨RX6, "never", "(Z)I"⟩
abbrev cX6_with : ByteArray := prog_1_method_41_code
def yX6_with : MethodName := ⟨RX6, "with", "(I)I"⟩
abbrev cX6_safe : ByteArray := prog_1_method_42_code
def yX6_safe : MethodName := ⟨RX6, "safe", "(I)I"⟩
abbrev cX6_alone : ByteArray := prog_1_method_43_code
def yX6_alone : MethodName := ⟨RX6, "alone", "(I)I"⟩
abbrev cX6_key : ByteArray := prog_1_method_44_code
def yX6_key : MethodName := ⟨RX6, "key", "()I"⟩
abbrev cX6_idle : ByteArray := prog_1_method_45_code
def yX6_idle : MethodName := ⟨RX6, "idle", "()I"⟩
abbrev cX6_room : ByteArray := prog_1_method_46_code
def yX6_room : MethodName := ⟨RX6, "room", "()I"⟩
abbrev cX6_swap : ByteArray := prog_1_method_47_code
def yX6_swap : MethodName := ⟨RX6, "swap", "(II)I"⟩
abbrev cX6_trust : ByteArray := prog_1_method_48_code
def yX6_trust : MethodName := ⟨RX6, "trust", "(II)J"⟩
abbrev cX6_judge : ByteArray := prog_1_method_49_code
def yX6_judge : MethodName := ⟨RX6, "judge", "(III)I"⟩
abbrev cX6_told : ByteArray := prog_1_method_50_code
def yX6_told : MethodName := ⟨RX6, "told", "(II)I"⟩
abbrev cX6_days : ByteArray := prog_1_method_51_code
def yX6_days : MethodName := ⟨RX6, "days", "(I)I"⟩
abbrev cX6_seed : ByteArray := prog_1_method_52_code
def yX6_seed : MethodName := ⟨RX6, "seed", "(I)I"⟩
abbrev cX6_image : ByteArray := prog_1_method_53_code
def yX6_image : MethodName := ⟨RX6, "image", "()I"⟩
abbrev cX6_back : ByteArray := prog_1_method_54_code
def yX6_back : MethodName := ⟨RX6, "back", "()I"⟩
abbrev cX6_status : ByteArray := prog_1_method_55_code
def yX6_status : MethodName := ⟨RX6, "status", "(I)I"⟩
abbrev cX6_refuse : ByteArray := prog_1_method_56_code
def yX6_refuse : MethodName := ⟨RX6, "refuse", "(I)I"⟩
abbrev cX6_isUnder : ByteArray := prog_1_method_57_code
def yX6_isUnder : MethodName := ⟨RX6, "isUnder", "(II)Z"⟩
abbrev cX6_tryHolding : ByteArray := prog_1_method_58_code
def yX6_tryHolding : MethodName := ⟨RX6, "tryHolding", "(I)V"⟩
abbrev cX6_isTooBigForBest : ByteArray := prog_1_method_59_code
def yX6_isTooBigForBest : MethodName := ⟨RX6, "isTooBigForBest", "()Z"⟩
abbrev cX6_toldFault : ByteArray := prog_1_method_60_code
def yX6_toldFault : MethodName := ⟨RX6, "toldFault", "(II)I"⟩
abbrev cX6_partsOnToldDay : ByteArray := prog_1_method_61_code
def yX6_partsOnToldDay : MethodName := ⟨RX6, "partsOnToldDay", "(II)I"⟩
def RX7 : String := "OnlyWhatFitsModel"
def TX7 : u_T := fun k => match k with
  | 0 => ("OnlyWhatFitsModel", "shelf", "[I", true)
  | 1 => ("OnlyWhatFitsModel", "rowSort", "[I", true)
  | 2 => ("OnlyWhatFitsModel", "rowSize", "[I", true)
  | 3 => ("OnlyWhatFitsModel", "rows", "[[J", true)
  | 4 => ("OnlyWhatFitsModel", "moved", "[J", true)
  | 5 => ("OnlyWhatFitsModel", "holdKind", "[I", true)
  | 6 => ("OnlyWhatFitsModel", "holdBy", "[I", true)
  | 7 => ("OnlyWhatFitsModel", "tape", "[I", true)
  | 8 => ("OnlyWhatFitsModel", "tapeSize", "I", false)
  | 9 => ("OnlyWhatFitsModel", "refused", "[I", true)
  | 10 => ("OnlyWhatFitsModel", "parts", "I", false)
  | 11 => ("OnlyWhatFitsModel", "holder", "[I", true)
  | 12 => ("OnlyWhatFitsModel", "second", "[I", true)
  | 13 => ("OnlyWhatFitsModel", "machines", "I", false)
  | 14 => ("OnlyWhatFitsModel", "needs", "[I", true)
  | 15 => ("OnlyWhatFitsModel", "worth", "[I", true)
  | 16 => ("OnlyWhatFitsModel", "people", "I", false)
  | 17 => ("OnlyWhatFitsModel", "one", "[[I", true)
  | 18 => ("OnlyWhatFitsModel", "gone", "I", false)
  | 19 => ("OnlyWhatFitsModel", "yielded", "I", false)
  | 20 => ("OnlyWhatFitsModel", "seed", "I", false)
  | 21 => ("OnlyWhatFitsModel", "kept", "LOnlyWhatFitsModel;", false)
  | 22 => ("OnlyWhatFitsModel", "tried", "LOnlyWhatFitsModel;", false)
  | 23 => ("OnlyWhatFitsModel", "at", "I", false)
  | 24 => ("OnlyWhatFitsModel", "token", "I", false)
  | 25 => ("OnlyWhatFitsModel", "from", "I", false)
  | 26 => ("OnlyWhatFitsModel", "figures", "J", false)
  | 27 => ("OnlyWhatFitsModel", "fault", "I", false)
  | 28 => ("OnlyWhatFitsModel", "told", "I", false)
  | 29 => ("OnlyWhatFitsModel", "statements", "I", false)
  | 30 => ("OnlyWhatFitsModel", "bestHolder", "[I", true)
  | _ => ("OnlyWhatFitsModel", "bestValue", "J", false)
def tyX7 : Nat → FieldType := fun k => match k with
  | 0 => .array .int
  | 1 => .array .int
  | 2 => .array .int
  | 3 => .array (.array .long)
  | 4 => .array .long
  | 5 => .array .int
  | 6 => .array .int
  | 7 => .array .int
  | 8 => .int
  | 9 => .array .int
  | 10 => .int
  | 11 => .array .int
  | 12 => .array .int
  | 13 => .int
  | 14 => .array .int
  | 15 => .array .int
  | 16 => .int
  | 17 => .array (.array .int)
  | 18 => .int
  | 19 => .int
  | 20 => .int
  | 21 => .object "OnlyWhatFitsModel"
  | 22 => .object "OnlyWhatFitsModel"
  | 23 => .int
  | 24 => .int
  | 25 => .int
  | 26 => .long
  | 27 => .int
  | 28 => .int
  | 29 => .int
  | 30 => .array .int
  | _ => .long
theorem nmX7 : ∀ a, a < 32 → ∀ b, b < 32 → a ≠ b → (TX7 a).2.1 ≠ (TX7 b).2.1 := by decide +kernel
theorem tyX7_ok : ∀ k, k < 32 → parseFieldDescriptor (TX7 k).2.2.1 = some (tyX7 k) := by decide +kernel
abbrev cX7_init : ByteArray := prog_9_method_1_code
def yX7_init : MethodName := ⟨RX7, "<init>", "()V"⟩
abbrev cX7_refuse : ByteArray := prog_9_method_2_code
def yX7_refuse : MethodName := ⟨RX7, "refuse", "(I)I"⟩
abbrev cX7_in : ByteArray := prog_9_method_3_code
def yX7_in : MethodName := ⟨RX7, "in", "(JJJ)Z"⟩
abbrev cX7_isPart : ByteArray := prog_9_method_4_code
def yX7_isPart : MethodName := ⟨RX7, "isPart", "(I)Z"⟩
abbrev cX7_isMachine : ByteArray := prog_9_method_5_code
def yX7_isMachine : MethodName := ⟨RX7, "isMachine", "(I)Z"⟩
abbrev cX7_isOne : ByteArray := prog_9_method_6_code
def yX7_isOne : MethodName := ⟨RX7, "isOne", "(I)Z"⟩
abbrev cX7_all : ByteArray := prog_9_method_7_code
def yX7_all : MethodName := ⟨RX7, "all", "()I"⟩
abbrev cX7_bits : ByteArray := prog_9_method_8_code
def yX7_bits : MethodName := ⟨RX7, "bits", "(I)I"⟩
abbrev cX7_isIn : ByteArray := prog_9_method_9_code
def yX7_isIn : MethodName := ⟨RX7, "isIn", "(II)Z"⟩
abbrev cX7_row : ByteArray := prog_9_method_10_code
def yX7_row : MethodName := ⟨RX7, "row", "(III)I"⟩
abbrev cX7_fit : ByteArray := prog_9_method_11_code
def yX7_fit : MethodName := ⟨RX7, "fit", "(IJ)J"⟩
abbrev cX7_noRow : ByteArray := prog_9_method_12_code
def yX7_noRow : MethodName := ⟨RX7, "noRow", "(I)I"⟩
abbrev cX7_noHolding : ByteArray := prog_9_method_13_code
def yX7_noHolding : MethodName := ⟨RX7, "noHolding", "(I)I"⟩
abbrev cX7_set : ByteArray := prog_9_method_14_code
def yX7_set : MethodName := ⟨RX7, "set", "(IIJ)I"⟩
abbrev cX7_copy : ByteArray := prog_9_method_15_code
def yX7_copy : MethodName := ⟨RX7, "copy", "(IIIII)I"⟩
abbrev cX7_element : ByteArray := prog_9_method_16_code
def yX7_element : MethodName := ⟨RX7, "element", "(II)J"⟩
abbrev cX7_holds : ByteArray := prog_9_method_17_code
def yX7_holds : MethodName := ⟨RX7, "holds", "(I)I"⟩
abbrev cX7_holding : ByteArray := prog_9_method_18_code
def yX7_holding : MethodName := ⟨RX7, "holding", "(III)I"⟩
abbrev cX7_isUnder : ByteArray := prog_9_method_19_code
def yX7_isUnder : MethodName := ⟨RX7, "isUnder", "(II)Z"⟩
abbrev cX7_says : ByteArray := prog_9_method_20_code
def yX7_says : MethodName := ⟨RX7, "says", "(II)I"⟩
abbrev cX7_held : ByteArray := prog_9_method_21_code
def yX7_held : MethodName := ⟨RX7, "held", "(Z)I"⟩
abbrev cX7_part : ByteArray := prog_9_method_22_code
def yX7_part : MethodName := ⟨RX7, "part", "()I"⟩
abbrev cX7_machine : ByteArray := prog_9_method_23_code
def yX7_machine : MethodName := ⟨RX7, "machine", "(II)I"⟩
abbrev cX7_newOne : ByteArray := prog_9_method_24_code
def yX7_newOne : MethodName := ⟨RX7, "newOne", "()V"⟩
abbrev cX7_one : ByteArray := prog_9_method_25_code
def yX7_one : MethodName := ⟨RX7, "one", "(II)I"⟩
abbrev cX7_away : ByteArray := prog_9_method_26_code
def yX7_away : MethodName := ⟨RX7, "away", "(II)I"⟩
abbrev cX7_cross : ByteArray := prog_9_method_27_code
def yX7_cross : MethodName := ⟨RX7, "cross", "(IZ)I"⟩
abbrev cX7_piecesOf : ByteArray := prog_9_method_28_code
def yX7_piecesOf : MethodName := ⟨RX7, "piecesOf", "(I)I"⟩
abbrev cX7_hasRoom : ByteArray := prog_9_method_29_code
def yX7_hasRoom : MethodName := ⟨RX7, "hasRoom", "(I)Z"⟩
abbrev cX7_give : ByteArray := prog_9_method_30_code
def yX7_give : MethodName := ⟨RX7, "give", "(IIZ)I"⟩
abbrev cX7_feed : ByteArray := prog_9_method_31_code
def yX7_feed : MethodName := ⟨RX7, "feed", "(II)I"⟩
abbrev cX7_wipe : ByteArray := prog_9_method_32_code
def yX7_wipe : MethodName := ⟨RX7, "wipe", "()I"⟩
abbrev cX7_isLetter : ByteArray := prog_9_method_33_code
def yX7_isLetter : MethodName := ⟨RX7, "isLetter", "(I)Z"⟩
abbrev cX7_isDigit : ByteArray := prog_9_method_34_code
def yX7_isDigit : MethodName := ⟨RX7, "isDigit", "(I)Z"⟩
abbrev cX7_look : ByteArray := prog_9_method_35_code
def yX7_look : MethodName := ⟨RX7, "look", "()V"⟩
abbrev cX7_wrong : ByteArray := prog_9_method_36_code
def yX7_wrong : MethodName := ⟨RX7, "wrong", "()Z"⟩
abbrev cX7_isWord : ByteArray := prog_9_method_37_code
def yX7_isWord : MethodName := ⟨RX7, "isWord", "(Ljava/lang/String;)Z"⟩
abbrev cX7_number : ByteArray := prog_9_method_38_code
def yX7_number : MethodName := ⟨RX7, "number", "(II)Z"⟩
abbrev cX7_tells : ByteArray := prog_9_method_39_code
def yX7_tells : MethodName := ⟨RX7, "tells", "(Ljava/lang/String;II)Z"⟩
abbrev cX7_gets : ByteArray := prog_9_method_40_code
def yX7_gets : MethodName := ⟨RX7, "gets", "(IZ)Z"⟩
abbrev cX7_partTold : ByteArray := prog_9_method_41_code
def yX7_partTold : MethodName := ⟨RX7, "partTold", "()Z"⟩
abbrev cX7_machineTold : ByteArray := prog_9_method_42_code
def yX7_machineTold : MethodName := ⟨RX7, "machineTold", "()Z"⟩
abbrev cX7_statement : ByteArray := prog_9_method_43_code
def yX7_statement : MethodName := ⟨RX7, "statement", "()Z"⟩
abbrev cX7_readAll : ByteArray := prog_9_method_44_code
def yX7_readAll : MethodName := ⟨RX7, "readAll", "()Z"⟩
abbrev cX7_village : ByteArray := prog_9_method_45_code
def yX7_village : MethodName := ⟨RX7, "village", "()I"⟩
abbrev cX7_partOf : ByteArray := prog_9_method_46_code
def yX7_partOf : MethodName := ⟨RX7, "partOf", "(II)I"⟩
abbrev cX7_machineOf : ByteArray := prog_9_method_47_code
def yX7_machineOf : MethodName := ⟨RX7, "machineOf", "(II)I"⟩
abbrev cX7_oneOf : ByteArray := prog_9_method_48_code
def yX7_oneOf : MethodName := ⟨RX7, "oneOf", "(II)I"⟩
abbrev cX7_hasOf : ByteArray := prog_9_method_49_code
def yX7_hasOf : MethodName := ⟨RX7, "hasOf", "(I)I"⟩
abbrev cX7_worksOf : ByteArray := prog_9_method_50_code
def yX7_worksOf : MethodName := ⟨RX7, "worksOf", "(II)Z"⟩
abbrev cX7_bothOf : ByteArray := prog_9_method_51_code
def yX7_bothOf : MethodName := ⟨RX7, "bothOf", "(III)Z"⟩
abbrev cX7_has : ByteArray := prog_9_method_52_code
def yX7_has : MethodName := ⟨RX7, "has", "(I)I"⟩
abbrev cX7_works : ByteArray := prog_9_method_53_code
def yX7_works : MethodName := ⟨RX7, "works", "(II)I"⟩
abbrev cX7_both : ByteArray := prog_9_method_54_code
def yX7_both : MethodName := ⟨RX7, "both", "(III)I"⟩
abbrev cX7_crossOnes : ByteArray := prog_9_method_55_code
def yX7_crossOnes : MethodName := ⟨RX7, "crossOnes", "()I"⟩
abbrev cX7_oddsOf : ByteArray := prog_9_method_56_code
def yX7_oddsOf : MethodName := ⟨RX7, "oddsOf", "(I)J"⟩
abbrev cX7_sumOf : ByteArray := prog_9_method_57_code
def yX7_sumOf : MethodName := ⟨RX7, "sumOf", "(II)J"⟩
abbrev cX7_odds : ByteArray := prog_9_method_58_code
def yX7_odds : MethodName := ⟨RX7, "odds", "(I)J"⟩
abbrev cX7_atOnce : ByteArray := prog_9_method_59_code
def yX7_atOnce : MethodName := ⟨RX7, "atOnce", "(II)J"⟩
abbrev cX7_day : ByteArray := prog_9_method_60_code
def yX7_day : MethodName := ⟨RX7, "day", "()J"⟩
abbrev cX7_orders : ByteArray := prog_9_method_61_code
def yX7_orders : MethodName := ⟨RX7, "orders", "(I)I"⟩
abbrev cX7_powerOf : ByteArray := prog_9_method_62_code
def yX7_powerOf : MethodName := ⟨RX7, "powerOf", "(II)I"⟩
abbrev cX7_power : ByteArray := prog_9_method_63_code
def yX7_power : MethodName := ⟨RX7, "power", "(II)I"⟩
abbrev cX7_first : ByteArray := prog_9_method_64_code
def yX7_first : MethodName := ⟨RX7, "first", "()I"⟩
abbrev cX7_fresh : ByteArray := prog_9_method_65_code
def yX7_fresh : MethodName := ⟨RX7, "fresh", "()LOnlyWhatFitsModel;"⟩
abbrev cX7_firstWithRoom : ByteArray := prog_9_method_66_code
def yX7_firstWithRoom : MethodName := ⟨RX7, "firstWithRoom", "(II)I"⟩
abbrev cX7_holdWhole : ByteArray := prog_9_method_67_code
def yX7_holdWhole : MethodName := ⟨RX7, "holdWhole", "(I)V"⟩
abbrev cX7_nextWithRoom : ByteArray := prog_9_method_68_code
def yX7_nextWithRoom : MethodName := ⟨RX7, "nextWithRoom", "(II)I"⟩
abbrev cX7_surest : ByteArray := prog_9_method_69_code
def yX7_surest : MethodName := ⟨RX7, "surest", "()I"⟩
abbrev cX7_holdAll : ByteArray := prog_9_method_70_code
def yX7_holdAll : MethodName := ⟨RX7, "holdAll", "(II)V"⟩
abbrev cX7_lay : ByteArray := prog_9_method_71_code
def yX7_lay : MethodName := ⟨RX7, "lay", "(I)I"⟩
abbrev cX7_wouldBy : ByteArray := prog_9_method_72_code
def yX7_wouldBy : MethodName := ⟨RX7, "wouldBy", "(I)J"⟩
abbrev cX7_would : ByteArray := prog_9_method_73_code
def yX7_would : MethodName := ⟨RX7, "would", "(I)J"⟩
abbrev cX7_head : ByteArray := prog_9_method_74_code
def yX7_head : MethodName := ⟨RX7, "head", "()I"⟩
abbrev cX7_tryFrom : ByteArray := prog_9_method_75_code
def yX7_tryFrom : MethodName := ⟨RX7, "tryFrom", "(LOnlyWhatFitsModel;I)V"⟩
abbrev cX7_findBest : ByteArray := prog_9_method_76_code
def yX7_findBest : MethodName := ⟨RX7, "findBest", "()Z"⟩
abbrev cX7_best : ByteArray := prog_9_method_77_code
def yX7_best : MethodName := ⟨RX7, "best", "(I)I"⟩
abbrev cX7_bestDay : ByteArray := prog_9_method_78_code
def yX7_bestDay : MethodName := ⟨RX7, "bestDay", "()J"⟩
abbrev cX7_bears : ByteArray := prog_9_method_79_code
def yX7_bears : MethodName := ⟨RX7, "bears", "(I)I"⟩
abbrev cX7_harms : ByteArray := prog_9_method_80_code
def yX7_harms : MethodName := ⟨RX7, "harms", "()I"⟩
abbrev cX7_anyWorks : ByteArray := prog_9_method_81_code
def yX7_anyWorks : MethodName := ⟨RX7, "anyWorks", "(II)Z"⟩
abbrev cX7_least : ByteArray := prog_9_method_82_code
def yX7_least : MethodName := ⟨RX7, "least", "()I"⟩
abbrev cX7_stolen : ByteArray := prog_9_method_83_code
def yX7_stolen : MethodName := ⟨RX7, "stolen", "()I"⟩
abbrev cX7_spare : ByteArray := prog_9_method_84_code
def yX7_spare : MethodName := ⟨RX7, "spare", "()I"⟩
abbrev cX7_gift : ByteArray := prog_9_method_85_code
def yX7_gift : MethodName := ⟨RX7, "gift", "(II)J"⟩
abbrev cX7_never : ByteArray := prog_9_method_86_code
def yX7_never : MethodName := ⟨RX7, "never", "(Z)I"⟩
abbrev cX7_with : ByteArray := prog_9_method_87_code
def yX7_with : MethodName := ⟨RX7, "with", "(I)I"⟩
abbrev cX7_worstOf : ByteArray := prog_9_method_88_code
def yX7_worstOf : MethodName := ⟨RX7, "worstOf", "(I)I"⟩
abbrev cX7_safe : ByteArray := prog_9_method_89_code
def yX7_safe : MethodName := ⟨RX7, "safe", "(I)I"⟩
abbrev cX7_alone : ByteArray := prog_9_method_90_code
def yX7_alone : MethodName := ⟨RX7, "alone", "(I)I"⟩
abbrev cX7_key : ByteArray := prog_9_method_91_code
def yX7_key : MethodName := ⟨RX7, "key", "()I"⟩
abbrev cX7_idle : ByteArray := prog_9_method_92_code
def yX7_idle : MethodName := ⟨RX7, "idle", "()I"⟩
abbrev cX7_room : ByteArray := prog_9_method_93_code
def yX7_room : MethodName := ⟨RX7, "room", "()I"⟩
abbrev cX7_swap : ByteArray := prog_9_method_94_code
def yX7_swap : MethodName := ⟨RX7, "swap", "(II)I"⟩
abbrev cX7_trust : ByteArray := prog_9_method_95_code
def yX7_trust : MethodName := ⟨RX7, "trust", "(II)J"⟩
abbrev cX7_noTold : ByteArray := prog_9_method_96_code
def yX7_noTold : MethodName := ⟨RX7, "noTold", "(II)I"⟩
abbrev cX7_comeOn : ByteArray := prog_9_method_97_code
def yX7_comeOn : MethodName := ⟨RX7, "comeOn", "(II)I"⟩
abbrev cX7_judge : ByteArray := prog_9_method_98_code
def yX7_judge : MethodName := ⟨RX7, "judge", "(III)I"⟩
abbrev cX7_told : ByteArray := prog_9_method_99_code
def yX7_told : MethodName := ⟨RX7, "told", "(II)I"⟩
abbrev cX7_draw : ByteArray := prog_9_method_100_code
def yX7_draw : MethodName := ⟨RX7, "draw", "(I)I"⟩
abbrev cX7_goes : ByteArray := prog_9_method_101_code
def yX7_goes : MethodName := ⟨RX7, "goes", "()I"⟩
abbrev cX7_days : ByteArray := prog_9_method_102_code
def yX7_days : MethodName := ⟨RX7, "days", "(I)I"⟩
abbrev cX7_seed : ByteArray := prog_9_method_103_code
def yX7_seed : MethodName := ⟨RX7, "seed", "(I)I"⟩
abbrev cX7_over : ByteArray := prog_9_method_104_code
def yX7_over : MethodName := ⟨RX7, "over", "([I[I)V"⟩
abbrev cX7_takeFrom : ByteArray := prog_9_method_105_code
def yX7_takeFrom : MethodName := ⟨RX7, "takeFrom", "(LOnlyWhatFitsModel;)V"⟩
abbrev cX7_image : ByteArray := prog_9_method_106_code
def yX7_image : MethodName := ⟨RX7, "image", "()I"⟩
abbrev cX7_back : ByteArray := prog_9_method_107_code
def yX7_back : MethodName := ⟨RX7, "back", "()I"⟩
abbrev cX7_status : ByteArray := prog_9_method_108_code
def yX7_status : MethodName := ⟨RX7, "status", "(I)I"⟩
def RJ6 : String := "java/lang/Integer"
abbrev cJ6_bitCount_0f7a4 : ByteArray := prog_10_method_49_code
def yJ6_bitCount_0f7a4 : MethodName := ⟨RJ6, "bitCount", "(I)I"⟩
def RJ0 : String := "java/lang/String"
abbrev cJ0_length_8abf5 : ByteArray := prog_12_method_54_code
def yJ0_length_8abf5 : MethodName := ⟨RJ0, "length", "()I"⟩
abbrev cJ0_charAt_5068e : ByteArray := prog_12_method_56_code
def yJ0_charAt_5068e : MethodName := ⟨RJ0, "charAt", "(I)C"⟩
abbrev cJ0_coder_7d493 : ByteArray := prog_12_method_152_code
def yJ0_coder_7d493 : MethodName := ⟨RJ0, "coder", "()B"⟩
abbrev cJ0_isLatin1_aae02 : ByteArray := prog_12_method_154_code
def yJ0_isLatin1_aae02 : MethodName := ⟨RJ0, "isLatin1", "()Z"⟩
abbrev cJ0_checkIndex_df160 : ByteArray := prog_12_method_155_code
def yJ0_checkIndex_df160 : MethodName := ⟨RJ0, "checkIndex", "(II)V"⟩
def RJ1 : String := "java/lang/StringLatin1"
abbrev cJ1_charAt_3b067 : ByteArray := prog_13_method_2_code
def yJ1_charAt_3b067 : MethodName := ⟨RJ1, "charAt", "([BI)C"⟩
def RJ7 : String := "java/util/Arrays"
abbrev cJ7_fill_d0a16 : ByteArray := prog_16_method_101_code
def yJ7_fill_d0a16 : MethodName := ⟨RJ7, "fill", "([JJ)V"⟩
def RJ3 : String := "jdk/internal/util/Preconditions"
abbrev cJ3_checkIndex_8e157 : ByteArray := prog_17_method_11_code
def yJ3_checkIndex_8e157 : MethodName := ⟨RJ3, "checkIndex", "(IILjava/util/function/BiFunction;)I"⟩
abbrev vwCl : List vw_C := [(RX0, TX0, 1), (RX1, TX1, 6), (RX2, TX2, 4), (RX3, TX3, 5), (RX4, TX4, 3), (RX5, TX5, 12), (RX6, TX6, 12), (RX7, TX7, 32), (RX0, TX0, 1), (RX1, TX1, 6), (RX2, TX2, 4), (RX3, TX3, 5), (RX4, TX4, 3), (RX5, TX5, 12), (RX6, TX6, 12), (RX7, TX7, 32)]
/-! KINDS of cells: 0 .. 7 the objects of the classes, 8 .. 15 the same while they are made (each cell or null), 20 on the arrays (sort: 0 ints, 1 longs, 2 bytes, 3 booleans, 4 rows of ints, 5 rows of longs; length; the rows' kind) -/
abbrev Fd3 : Type := Nat × Nat × Nat
def fkL : List (List Fd3) := [
  [(2, 1, 22)],
  [(2, 1, 21), (2, 2, 21), (2, 3, 27), (2, 4, 32), (2, 12, 28), (1, 0, 0)],
  [(2, 1, 22), (2, 2, 22), (2, 3, 33), (2, 12, 22)],
  [(2, 1, 29), (0, 0, 0), (0, 0, 0), (0, 0, 0), (0, 0, 0)],
  [(2, 1, 24), (2, 2, 25), (2, 3, 22)],
  [(0, 0, 0), (2, 1, 20), (2, 2, 20), (0, 0, 0), (2, 3, 21), (2, 4, 21), (0, 0, 0), (2, 5, 22), (2, 6, 22), (2, 7, 23), (2, 8, 22), (0, 0, 0)],
  [(2, 1, 5), (2, 10, 5), (2, 19, 5), (0, 0, 0), (2, 28, 4), (2, 32, 0), (2, 34, 1), (2, 47, 3), (2, 49, 2), (2, 62, 26), (0, 0, 0), (0, 0, 0)],
  [(2, 1, 22), (2, 2, 22), (2, 3, 22), (2, 4, 33), (2, 13, 31), (2, 14, 22), (2, 15, 22), (2, 16, 30), (0, 0, 0), (2, 17, 22), (0, 0, 0), (2, 18, 20), (2, 19, 20), (0, 0, 0), (2, 20, 21), (2, 21, 21), (0, 0, 0), (2, 22, 34), (0, 0, 0), (0, 0, 0), (0, 0, 0), (3, 0, 7), (3, 0, 7), (0, 0, 0), (0, 0, 0), (0, 0, 0), (1, 0, 0), (0, 0, 0), (0, 0, 0), (0, 0, 0), (2, 31, 20), (1, 0, 0)],
  [(3, 0, 22)],
  [(3, 0, 21), (3, 0, 21), (3, 0, 27), (3, 0, 32), (3, 0, 28), (1, 0, 0)],
  [(3, 0, 22), (3, 0, 22), (3, 0, 33), (3, 0, 22)],
  [(3, 0, 29), (0, 0, 0), (0, 0, 0), (0, 0, 0), (0, 0, 0)],
  [(3, 0, 24), (3, 0, 25), (3, 0, 22)],
  [(0, 0, 0), (3, 0, 20), (3, 0, 20), (0, 0, 0), (3, 0, 21), (3, 0, 21), (0, 0, 0), (3, 0, 22), (3, 0, 22), (3, 0, 23), (3, 0, 22), (0, 0, 0)],
  [(3, 0, 5), (3, 0, 5), (3, 0, 5), (0, 0, 0), (3, 0, 4), (3, 0, 0), (3, 0, 1), (3, 0, 3), (3, 0, 2), (3, 0, 26), (0, 0, 0), (0, 0, 0)],
  [(3, 0, 22), (3, 0, 22), (3, 0, 22), (3, 0, 33), (3, 0, 31), (3, 0, 22), (3, 0, 22), (3, 0, 30), (0, 0, 0), (3, 0, 22), (0, 0, 0), (3, 0, 20), (3, 0, 20), (0, 0, 0), (3, 0, 21), (3, 0, 21), (0, 0, 0), (3, 0, 34), (0, 0, 0), (0, 0, 0), (0, 0, 0), (3, 0, 7), (3, 0, 7), (0, 0, 0), (0, 0, 0), (0, 0, 0), (1, 0, 0), (0, 0, 0), (0, 0, 0), (0, 0, 0), (3, 0, 20), (1, 0, 0)]]
def akL : List Fd3 := [(0, 12, 0), (0, 6, 0), (0, 8, 0), (3, 8, 0), (1, 256, 0), (0, 256, 0), (0, 5, 0), (0, 4, 0), (1, 32, 0), (2, 250, 0), (0, 250, 0), (1, 40, 0), (4, 7, 21), (5, 8, 31), (4, 8, 27)]
def clTy (k : Nat) : Nat → FieldType := match k with
  | 0 => tyX0 | 1 => tyX1 | 2 => tyX2 | 3 => tyX3 | 4 => tyX4 | 5 => tyX5 | 6 => tyX6 | 7 => tyX7 | 8 => tyX0 | 9 => tyX1 | 10 => tyX2 | 11 => tyX3 | 12 => tyX4 | 13 => tyX5 | 14 => tyX6 | _ => tyX7
/-- the words that serve everywhere -/
def lw_g : List Cond := lw_tbl.filter goodWord
theorem lw_g_good : GoodIn lw_g lw_g := fun w hw => ⟨hw, good_of_word (List.mem_filter.mp hw).2⟩
theorem lw_g_in {w : Cond} (i : Nat) (h : tables_1[i]? = some w) (hg : goodWord w = true) : w ∈ lw_g := List.mem_filter.mpr ⟨List.mem_append_right _ (List.mem_of_getElem? h), hg⟩
theorem lw_g_sel {w : Cond} (i : Nat) (h : (k2_sels lw_privs)[i]? = some w) (hg : goodWord w = true) : w ∈ lw_g := List.mem_filter.mpr ⟨List.mem_append_left _ (List.mem_of_getElem? h), hg⟩
theorem tb_1 {w : Cond} (i : Nat) (h : tables_1_1[i]? = some w) (hg : goodWord w = true) : w ∈ lw_g := by
  have h1 := List.mem_of_getElem? h
  have h2 : w ∈ tables_1 := List.mem_append_left _ h1
  exact List.mem_filter.mpr ⟨List.mem_append_right _ h2, hg⟩
theorem tb_2 {w : Cond} (i : Nat) (h : tables_1_2[i]? = some w) (hg : goodWord w = true) : w ∈ lw_g := by
  have h1 := List.mem_of_getElem? h
  have h2 : w ∈ tables_1 := List.mem_append_right _ (List.mem_append_left _ h1)
  exact List.mem_filter.mpr ⟨List.mem_append_right _ h2, hg⟩
theorem tb_3 {w : Cond} (i : Nat) (h : tables_1_3[i]? = some w) (hg : goodWord w = true) : w ∈ lw_g := by
  have h1 := List.mem_of_getElem? h
  have h2 : w ∈ tables_1 := List.mem_append_right _ (List.mem_append_right _ (List.mem_append_left _ h1))
  exact List.mem_filter.mpr ⟨List.mem_append_right _ h2, hg⟩
theorem tb_4 {w : Cond} (i : Nat) (h : tables_1_4[i]? = some w) (hg : goodWord w = true) : w ∈ lw_g := by
  have h1 := List.mem_of_getElem? h
  have h2 : w ∈ tables_1 := List.mem_append_right _ (List.mem_append_right _ (List.mem_append_right _ (List.mem_append_left _ h1)))
  exact List.mem_filter.mpr ⟨List.mem_append_right _ h2, hg⟩
theorem tb_5 {w : Cond} (i : Nat) (h : tables_1_5[i]? = some w) (hg : goodWord w = true) : w ∈ lw_g := by
  have h1 := List.mem_of_getElem? h
  have h2 : w ∈ tables_1 := List.mem_append_right _ (List.mem_append_right _ (List.mem_append_right _ (List.mem_append_right _ (List.mem_append_left _ h1))))
  exact List.mem_filter.mpr ⟨List.mem_append_right _ h2, hg⟩
theorem tb_6 {w : Cond} (i : Nat) (h : tables_1_6[i]? = some w) (hg : goodWord w = true) : w ∈ lw_g := by
  have h1 := List.mem_of_getElem? h
  have h2 : w ∈ tables_1 := List.mem_append_right _ (List.mem_append_right _ (List.mem_append_right _ (List.mem_append_right _ (List.mem_append_right _ (List.mem_append_left _ h1)))))
  exact List.mem_filter.mpr ⟨List.mem_append_right _ h2, hg⟩
theorem tb_7 {w : Cond} (i : Nat) (h : tables_1_7[i]? = some w) (hg : goodWord w = true) : w ∈ lw_g := by
  have h1 := List.mem_of_getElem? h
  have h2 : w ∈ tables_1 := List.mem_append_right _ (List.mem_append_right _ (List.mem_append_right _ (List.mem_append_right _ (List.mem_append_right _ (List.mem_append_right _ (h1))))))
  exact List.mem_filter.mpr ⟨List.mem_append_right _ h2, hg⟩
theorem cl_in0 : ∀ w ∈ u_ws RX0 TX0 1, w ∈ lw_g := by
  intro w hw
  have h : u_ws RX0 TX0 1 = [134].filterMap (fun i => tables_1[i]?) := by decide +kernel
  have hg : (u_ws RX0 TX0 1).all goodWord = true := by decide +kernel
  have h3 := List.all_eq_true.mp hg w hw
  rw [h] at hw
  obtain ⟨i, -, hi⟩ := List.mem_filterMap.mp hw
  exact lw_g_in i hi h3
theorem cl_in1 : ∀ w ∈ u_ws RX1 TX1 6, w ∈ lw_g := by
  intro w hw
  have h : u_ws RX1 TX1 6 = [152, 154, 156, 158, 160, 162].filterMap (fun i => tables_1[i]?) := by decide +kernel
  have hg : (u_ws RX1 TX1 6).all goodWord = true := by decide +kernel
  have h3 := List.all_eq_true.mp hg w hw
  rw [h] at hw
  obtain ⟨i, -, hi⟩ := List.mem_filterMap.mp hw
  exact lw_g_in i hi h3
theorem cl_in2 : ∀ w ∈ u_ws RX2 TX2 4, w ∈ lw_g := by
  intro w hw
  have h : u_ws RX2 TX2 4 = [200, 202, 204, 206].filterMap (fun i => tables_1[i]?) := by decide +kernel
  have hg : (u_ws RX2 TX2 4).all goodWord = true := by decide +kernel
  have h3 := List.all_eq_true.mp hg w hw
  rw [h] at hw
  obtain ⟨i, -, hi⟩ := List.mem_filterMap.mp hw
  exact lw_g_in i hi h3
theorem cl_in3 : ∀ w ∈ u_ws RX3 TX3 5, w ∈ lw_g := by
  intro w hw
  have h : u_ws RX3 TX3 5 = [176, 178, 180, 182, 184].filterMap (fun i => tables_1[i]?) := by decide +kernel
  have hg : (u_ws RX3 TX3 5).all goodWord = true := by decide +kernel
  have h3 := List.all_eq_true.mp hg w hw
  rw [h] at hw
  obtain ⟨i, -, hi⟩ := List.mem_filterMap.mp hw
  exact lw_g_in i hi h3
theorem cl_in4 : ∀ w ∈ u_ws RX4 TX4 3, w ∈ lw_g := by
  intro w hw
  have h : u_ws RX4 TX4 3 = [119, 121, 123].filterMap (fun i => tables_1[i]?) := by decide +kernel
  have hg : (u_ws RX4 TX4 3).all goodWord = true := by decide +kernel
  have h3 := List.all_eq_true.mp hg w hw
  rw [h] at hw
  obtain ⟨i, -, hi⟩ := List.mem_filterMap.mp hw
  exact lw_g_in i hi h3
theorem cl_in5 : ∀ w ∈ u_ws RX5 TX5 12, w ∈ lw_g := by
  intro w hw
  have h : u_ws RX5 TX5 12 = [83, 85, 87, 89, 91, 93, 95, 97, 99, 101, 103, 105].filterMap (fun i => tables_1[i]?) := by decide +kernel
  have hg : (u_ws RX5 TX5 12).all goodWord = true := by decide +kernel
  have h3 := List.all_eq_true.mp hg w hw
  rw [h] at hw
  obtain ⟨i, -, hi⟩ := List.mem_filterMap.mp hw
  exact lw_g_in i hi h3
theorem cl_in6 : ∀ w ∈ u_ws RX6 TX6 12, w ∈ lw_g := by
  intro w hw
  have h : u_ws RX6 TX6 12 = [221, 223, 225, 227, 229, 231, 233, 235, 237, 239, 241, 243].filterMap (fun i => tables_1[i]?) := by decide +kernel
  have hg : (u_ws RX6 TX6 12).all goodWord = true := by decide +kernel
  have h3 := List.all_eq_true.mp hg w hw
  rw [h] at hw
  obtain ⟨i, -, hi⟩ := List.mem_filterMap.mp hw
  exact lw_g_in i hi h3
theorem cl_in7 : ∀ w ∈ u_ws RX7 TX7 32, w ∈ lw_g := by
  intro w hw
  have h : u_ws RX7 TX7 32 = [1004, 1006, 1008, 1010, 1012, 1014, 1016, 1018, 1020, 1022, 1024, 1026, 1028, 1030, 1032, 1034, 1036, 1038, 1040, 1042, 1044, 1046, 1048, 1050, 1052, 1054, 1056, 1058, 1060, 1062, 1064, 1066].filterMap (fun i => tables_1[i]?) := by decide +kernel
  have hg : (u_ws RX7 TX7 32).all goodWord = true := by decide +kernel
  have h3 := List.all_eq_true.mp hg w hw
  rw [h] at hw
  obtain ⟨i, -, hi⟩ := List.mem_filterMap.mp hw
  exact lw_g_in i hi h3
theorem cl_in {k : Nat} {C : String} {T : u_T} {N : Nat} (h : vwCl[k]? = some (C, T, N)) : ∀ w ∈ u_ws C T N, w ∈ lw_g := by
  match k, h with
  | 0, h => cases h; exact cl_in0
  | 1, h => cases h; exact cl_in1
  | 2, h => cases h; exact cl_in2
  | 3, h => cases h; exact cl_in3
  | 4, h => cases h; exact cl_in4
  | 5, h => cases h; exact cl_in5
  | 6, h => cases h; exact cl_in6
  | 7, h => cases h; exact cl_in7
  | 8, h => cases h; exact cl_in0
  | 9, h => cases h; exact cl_in1
  | 10, h => cases h; exact cl_in2
  | 11, h => cases h; exact cl_in3
  | 12, h => cases h; exact cl_in4
  | 13, h => cases h; exact cl_in5
  | 14, h => cases h; exact cl_in6
  | 15, h => cases h; exact cl_in7
  | k + 16, h => simp [vwCl] at h
theorem cl_ty {k : Nat} {C : String} {T : u_T} {N : Nat} (h : vwCl[k]? = some (C, T, N)) : ∀ j, j < N → parseFieldDescriptor (T j).2.2.1 = some (clTy k j) := by
  match k, h with
  | 0, h => cases h; exact tyX0_ok
  | 1, h => cases h; exact tyX1_ok
  | 2, h => cases h; exact tyX2_ok
  | 3, h => cases h; exact tyX3_ok
  | 4, h => cases h; exact tyX4_ok
  | 5, h => cases h; exact tyX5_ok
  | 6, h => cases h; exact tyX6_ok
  | 7, h => cases h; exact tyX7_ok
  | 8, h => cases h; exact tyX0_ok
  | 9, h => cases h; exact tyX1_ok
  | 10, h => cases h; exact tyX2_ok
  | 11, h => cases h; exact tyX3_ok
  | 12, h => cases h; exact tyX4_ok
  | 13, h => cases h; exact tyX5_ok
  | 14, h => cases h; exact tyX6_ok
  | 15, h => cases h; exact tyX7_ok
  | k + 16, h => simp [vwCl] at h
theorem cl_nm {k : Nat} {C : String} {T : u_T} {N : Nat} (h : vwCl[k]? = some (C, T, N)) : ∀ a, a < N → ∀ b, b < N → a ≠ b → (T a).2.1 ≠ (T b).2.1 := by
  match k, h with
  | 0, h => cases h; exact nmX0
  | 1, h => cases h; exact nmX1
  | 2, h => cases h; exact nmX2
  | 3, h => cases h; exact nmX3
  | 4, h => cases h; exact nmX4
  | 5, h => cases h; exact nmX5
  | 6, h => cases h; exact nmX6
  | 7, h => cases h; exact nmX7
  | 8, h => cases h; exact nmX0
  | 9, h => cases h; exact nmX1
  | 10, h => cases h; exact nmX2
  | 11, h => cases h; exact nmX3
  | 12, h => cases h; exact nmX4
  | 13, h => cases h; exact nmX5
  | 14, h => cases h; exact nmX6
  | 15, h => cases h; exact nmX7
  | k + 16, h => simp [vwCl] at h

