section
abbrev VI (y : MethodName) (cc : ByteArray) (nL : Nat) (ret : Option FieldType) (n : Nat) : Prop := Cond.instanceMethod y ∈ lw_g ∧ Cond.selects y.cls y y ∈ lw_g ∧ Cond.initialized y.cls ∈ lw_g ∧ Cond.code y cc nL ret ∈ lw_g ∧ NotMH y ∧ Par y n
abbrev SI (y : MethodName) (cc : ByteArray) (nL : Nat) (ret : Option FieldType) (n : Nat) : Prop := Cond.static y ∈ lw_g ∧ Cond.initialized y.cls ∈ lw_g ∧ Cond.code y cc nL ret ∈ lw_g ∧ NotMH y ∧ Par y n
theorem nh_RX0 : RX0 ≠ "java/lang/invoke/MethodHandle" ∧ RX0 ≠ "java/lang/invoke/VarHandle" := by decide +kernel
theorem pd_0 : (parseMethodDescriptor "(LOnlyWhatFits$Village;II)V").map (fun d => d.parameters.length) = some 3 := by decide +kernel
theorem I_X0_tellAnew : VI yX0_tellAnew cX0_tellAnew 5 none 3 := ⟨tb_2 125 rfl rfl, tb_2 126 rfl rfl, tb_1 4 rfl rfl, tb_2 127 rfl rfl, nh_RX0, pd_0⟩
theorem pd_1 : (parseMethodDescriptor "(LOnlyWhatFits$Village;I)V").map (fun d => d.parameters.length) = some 2 := by decide +kernel
theorem I_X0_giveWhole : VI yX0_giveWhole cX0_giveWhole 6 none 2 := ⟨tb_2 130 rfl rfl, lw_g_sel 2 rfl rfl, tb_1 4 rfl rfl, tb_2 131 rfl rfl, nh_RX0, pd_1⟩
theorem pd_2 : (parseMethodDescriptor "(LOnlyWhatFits$Village;I)I").map (fun d => d.parameters.length) = some 2 := by decide +kernel
theorem I_X0_worthiest : VI yX0_worthiest cX0_worthiest 6 (some .int) 2 := ⟨tb_2 134 rfl rfl, lw_g_sel 3 rfl rfl, tb_1 4 rfl rfl, tb_2 135 rfl rfl, nh_RX0, pd_2⟩
theorem I_X0_giveNeeds : VI yX0_giveNeeds cX0_giveNeeds 7 none 3 := ⟨tb_2 138 rfl rfl, lw_g_sel 4 rfl rfl, tb_1 4 rfl rfl, tb_2 139 rfl rfl, nh_RX0, pd_0⟩
theorem pd_3 : (parseMethodDescriptor "(II)I").map (fun d => d.parameters.length) = some 2 := by decide +kernel
theorem I_X0_firstWithRoom : VI yX0_firstWithRoom cX0_firstWithRoom 4 (some .int) 2 := ⟨tb_2 142 rfl rfl, lw_g_sel 5 rfl rfl, tb_1 4 rfl rfl, tb_2 143 rfl rfl, nh_RX0, pd_3⟩
theorem pd_4 : (parseMethodDescriptor "(I)I").map (fun d => d.parameters.length) = some 1 := by decide +kernel
theorem I_X0_taken : VI yX0_taken cX0_taken 2 (some .int) 1 := ⟨tb_2 150 rfl rfl, lw_g_sel 6 rfl rfl, tb_1 4 rfl rfl, tb_2 151 rfl rfl, nh_RX0, pd_4⟩
theorem I_X0_giveRound : VI yX0_giveRound cX0_giveRound 6 (some .int) 2 := ⟨tb_2 154 rfl rfl, lw_g_sel 7 rfl rfl, tb_1 4 rfl rfl, tb_2 155 rfl rfl, nh_RX0, pd_2⟩
theorem I_X0_giveRoundAgain : VI yX0_giveRoundAgain cX0_giveRoundAgain 6 none 2 := ⟨tb_2 162 rfl rfl, lw_g_sel 9 rfl rfl, tb_1 4 rfl rfl, tb_2 163 rfl rfl, nh_RX0, pd_1⟩
theorem pd_5 : (parseMethodDescriptor "(LOnlyWhatFits$Village;II)I").map (fun d => d.parameters.length) = some 3 := by decide +kernel
theorem I_X0_nextWithRoom : VI yX0_nextWithRoom cX0_nextWithRoom 6 (some .int) 3 := ⟨tb_2 158 rfl rfl, lw_g_sel 8 rfl rfl, tb_1 4 rfl rfl, tb_2 159 rfl rfl, nh_RX0, pd_5⟩
theorem pd_6 : (parseMethodDescriptor "(LOnlyWhatFits$Village;)V").map (fun d => d.parameters.length) = some 1 := by decide +kernel
theorem I_X0_giveSure : VI yX0_giveSure cX0_giveSure 6 none 1 := ⟨tb_2 166 rfl rfl, lw_g_sel 10 rfl rfl, tb_1 4 rfl rfl, tb_2 167 rfl rfl, nh_RX0, pd_6⟩
theorem nh_RX1 : RX1 ≠ "java/lang/invoke/MethodHandle" ∧ RX1 ≠ "java/lang/invoke/VarHandle" := by decide +kernel
theorem I_X1_run : VI yX1_run cX1_run 3 none 1 := ⟨tb_4 58 rfl rfl, tb_4 59 rfl rfl, tb_1 5 rfl rfl, tb_4 60 rfl rfl, nh_RX1, pd_6⟩
theorem I_X1_holderOf : VI yX1_holderOf cX1_holderOf 2 (some .int) 1 := ⟨tb_4 79 rfl rfl, tb_4 80 rfl rfl, tb_1 5 rfl rfl, tb_4 81 rfl rfl, nh_RX1, pd_4⟩
theorem pd_7 : (parseMethodDescriptor "()J").map (fun d => d.parameters.length) = some 0 := by decide +kernel
theorem I_X1_greatestDay : VI yX1_greatestDay cX1_greatestDay 1 (some .long) 0 := ⟨tb_4 87 rfl rfl, tb_4 88 rfl rfl, tb_1 5 rfl rfl, tb_4 89 rfl rfl, nh_RX1, pd_7⟩
theorem pd_8 : (parseMethodDescriptor "(LOnlyWhatFits$Village;I)J").map (fun d => d.parameters.length) = some 2 := by decide +kernel
theorem I_X1_oddsThatAllCome : VI yX1_oddsThatAllCome cX1_oddsThatAllCome 7 (some .long) 2 := ⟨tb_4 63 rfl rfl, lw_g_sel 23 rfl rfl, tb_1 5 rfl rfl, tb_4 64 rfl rfl, nh_RX1, pd_8⟩
theorem pd_9 : (parseMethodDescriptor "(LOnlyWhatFits$Search;LOnlyWhatFits$Village;I)V").map (fun d => d.parameters.length) = some 3 := by decide +kernel
theorem I_X1_choose : SI yX1_choose cX1_choose 4 none 3 := ⟨tb_4 67 rfl rfl, tb_1 5 rfl rfl, tb_4 68 rfl rfl, nh_RX1, pd_9⟩
theorem I_X1_take : VI yX1_take cX1_take 6 none 3 := ⟨tb_4 76 rfl rfl, lw_g_sel 25 rfl rfl, tb_1 5 rfl rfl, tb_4 77 rfl rfl, nh_RX1, pd_0⟩
theorem I_X1_weigh : VI yX1_weigh cX1_weigh 6 none 2 := ⟨tb_4 71 rfl rfl, lw_g_sel 24 rfl rfl, tb_1 5 rfl rfl, tb_4 72 rfl rfl, nh_RX1, pd_1⟩
theorem nh_RX2 : RX2 ≠ "java/lang/invoke/MethodHandle" ∧ RX2 ≠ "java/lang/invoke/VarHandle" := by decide +kernel
theorem pd_10 : (parseMethodDescriptor "(I)Z").map (fun d => d.parameters.length) = some 1 := by decide +kernel
theorem I_X2_isShelf : VI yX2_isShelf cX2_isShelf 2 (some .boolean) 1 := ⟨tb_2 11 rfl rfl, tb_2 12 rfl rfl, tb_1 7 rfl rfl, tb_2 13 rfl rfl, nh_RX2, pd_10⟩
theorem I_X2_thingOn : VI yX2_thingOn cX2_thingOn 2 (some .int) 1 := ⟨tb_2 39 rfl rfl, tb_2 40 rfl rfl, tb_1 7 rfl rfl, tb_2 41 rfl rfl, nh_RX2, pd_4⟩
theorem I_X2_isBare : VI yX2_isBare cX2_isBare 2 (some .boolean) 1 := ⟨tb_2 43 rfl rfl, tb_2 44 rfl rfl, tb_1 7 rfl rfl, tb_2 45 rfl rfl, nh_RX2, pd_10⟩
theorem I_X2_isOfHolding : VI yX2_isOfHolding cX2_isOfHolding 2 (some .boolean) 1 := ⟨tb_2 35 rfl rfl, tb_2 36 rfl rfl, tb_1 7 rfl rfl, tb_2 37 rfl rfl, nh_RX2, pd_10⟩
theorem I_X2_isOfRow : VI yX2_isOfRow cX2_isOfRow 2 (some .boolean) 1 := ⟨tb_2 51 rfl rfl, tb_2 52 rfl rfl, tb_1 7 rfl rfl, tb_2 53 rfl rfl, nh_RX2, pd_10⟩
theorem pd_11 : (parseMethodDescriptor "()I").map (fun d => d.parameters.length) = some 0 := by decide +kernel
theorem I_X2_fullCount : VI yX2_fullCount cX2_fullCount 3 (some .int) 0 := ⟨tb_5 1 rfl rfl, tb_5 2 rfl rfl, tb_1 7 rfl rfl, tb_5 3 rfl rfl, nh_RX2, pd_11⟩
theorem I_X2_rowFault : VI yX2_rowFault cX2_rowFault 2 (some .int) 1 := ⟨tb_2 31 rfl rfl, tb_2 32 rfl rfl, tb_1 7 rfl rfl, tb_2 33 rfl rfl, nh_RX2, pd_4⟩
theorem I_X2_holdingFault : VI yX2_holdingFault cX2_holdingFault 2 (some .int) 1 := ⟨tb_2 101 rfl rfl, tb_2 102 rfl rfl, tb_1 7 rfl rfl, tb_2 103 rfl rfl, nh_RX2, pd_4⟩
theorem pd_12 : (parseMethodDescriptor "(III)V").map (fun d => d.parameters.length) = some 3 := by decide +kernel
theorem I_X2_putRow : VI yX2_putRow cX2_putRow 4 none 3 := ⟨tb_2 19 rfl rfl, tb_2 20 rfl rfl, tb_1 7 rfl rfl, tb_2 21 rfl rfl, nh_RX2, pd_12⟩
theorem I_X2_putHolding : VI yX2_putHolding cX2_putHolding 4 none 3 := ⟨tb_2 93 rfl rfl, tb_2 94 rfl rfl, tb_1 7 rfl rfl, tb_2 95 rfl rfl, nh_RX2, pd_12⟩
theorem I_X2_kindOn : VI yX2_kindOn cX2_kindOn 2 (some .int) 1 := ⟨tb_2 105 rfl rfl, tb_2 106 rfl rfl, tb_1 7 rfl rfl, tb_2 107 rfl rfl, nh_RX2, pd_4⟩
theorem I_X2_byOn : VI yX2_byOn cX2_byOn 2 (some .int) 1 := ⟨tb_2 112 rfl rfl, tb_2 113 rfl rfl, tb_1 7 rfl rfl, tb_2 114 rfl rfl, nh_RX2, pd_4⟩
theorem I_X2_sizeOf : VI yX2_sizeOf cX2_sizeOf 2 (some .int) 1 := ⟨tb_2 47 rfl rfl, tb_2 48 rfl rfl, tb_1 7 rfl rfl, tb_2 49 rfl rfl, nh_RX2, pd_4⟩
theorem pd_13 : (parseMethodDescriptor "(II)J").map (fun d => d.parameters.length) = some 2 := by decide +kernel
theorem I_X2_elementAt : VI yX2_elementAt cX2_elementAt 3 (some .long) 2 := ⟨tb_2 81 rfl rfl, tb_2 82 rfl rfl, tb_1 7 rfl rfl, tb_2 83 rfl rfl, nh_RX2, pd_13⟩
theorem pd_14 : (parseMethodDescriptor "(IIJ)V").map (fun d => d.parameters.length) = some 3 := by decide +kernel
theorem I_X2_putElement : VI yX2_putElement cX2_putElement 5 none 3 := ⟨tb_2 55 rfl rfl, tb_2 56 rfl rfl, tb_1 7 rfl rfl, tb_2 57 rfl rfl, nh_RX2, pd_14⟩
theorem pd_15 : (parseMethodDescriptor "(IJ)J").map (fun d => d.parameters.length) = some 2 := by decide +kernel
theorem I_X2_lowestBits : SI yX2_lowestBits cX2_lowestBits 3 (some .long) 2 := ⟨tb_2 60 rfl rfl, tb_1 7 rfl rfl, tb_2 61 rfl rfl, nh_RX2, pd_15⟩
theorem pd_16 : (parseMethodDescriptor "(IIIII)V").map (fun d => d.parameters.length) = some 5 := by decide +kernel
theorem I_X2_copyElements : VI yX2_copyElements cX2_copyElements 7 none 5 := ⟨tb_2 70 rfl rfl, tb_2 71 rfl rfl, tb_1 7 rfl rfl, tb_2 72 rfl rfl, nh_RX2, pd_16⟩
theorem nh_RX3 : RX3 ≠ "java/lang/invoke/MethodHandle" ∧ RX3 ≠ "java/lang/invoke/VarHandle" := by decide +kernel
theorem I_X3_length : VI yX3_length cX3_length 1 (some .int) 0 := ⟨tb_3 5 rfl rfl, tb_3 6 rfl rfl, tb_1 6 rfl rfl, tb_3 7 rfl rfl, nh_RX3, pd_11⟩
theorem pd_17 : (parseMethodDescriptor "(I)V").map (fun d => d.parameters.length) = some 1 := by decide +kernel
theorem I_X3_append : VI yX3_append cX3_append 2 none 1 := ⟨tb_3 9 rfl rfl, tb_3 10 rfl rfl, tb_1 6 rfl rfl, tb_3 11 rfl rfl, nh_RX3, pd_17⟩
theorem pd_18 : (parseMethodDescriptor "()V").map (fun d => d.parameters.length) = some 0 := by decide +kernel
theorem I_X3_clear : VI yX3_clear cX3_clear 1 none 0 := ⟨tb_3 17 rfl rfl, tb_3 18 rfl rfl, tb_1 6 rfl rfl, tb_3 19 rfl rfl, nh_RX3, pd_18⟩
theorem I_X3_faultPlace : VI yX3_faultPlace cX3_faultPlace 1 (some .int) 0 := ⟨tb_3 134 rfl rfl, tb_3 135 rfl rfl, tb_1 6 rfl rfl, tb_3 136 rfl rfl, nh_RX3, pd_11⟩
theorem pd_19 : (parseMethodDescriptor "(LOnlyWhatFits$Village;)I").map (fun d => d.parameters.length) = some 1 := by decide +kernel
theorem I_X3_readInto : VI yX3_readInto cX3_readInto 3 (some .int) 1 := ⟨tb_3 25 rfl rfl, tb_3 26 rfl rfl, tb_1 6 rfl rfl, tb_3 27 rfl rfl, nh_RX3, pd_19⟩
theorem pd_20 : (parseMethodDescriptor "(LOnlyWhatFits$Village;)Z").map (fun d => d.parameters.length) = some 1 := by decide +kernel
theorem I_X3_readStatement : VI yX3_readStatement cX3_readStatement 2 (some .boolean) 1 := ⟨tb_3 45 rfl rfl, lw_g_sel 14 rfl rfl, tb_1 6 rfl rfl, tb_3 46 rfl rfl, nh_RX3, pd_20⟩
theorem I_X3_readPart : VI yX3_readPart cX3_readPart 4 (some .boolean) 1 := ⟨tb_3 102 rfl rfl, lw_g_sel 16 rfl rfl, tb_1 6 rfl rfl, tb_3 103 rfl rfl, nh_RX3, pd_20⟩
theorem I_X3_readMachine : VI yX3_readMachine cX3_readMachine 7 (some .boolean) 1 := ⟨tb_3 115 rfl rfl, lw_g_sel 18 rfl rfl, tb_1 6 rfl rfl, tb_3 116 rfl rfl, nh_RX3, pd_20⟩
theorem I_X3_readOne : VI yX3_readOne cX3_readOne 5 (some .boolean) 1 := ⟨tb_3 123 rfl rfl, lw_g_sel 19 rfl rfl, tb_1 6 rfl rfl, tb_3 124 rfl rfl, nh_RX3, pd_20⟩
theorem I_X3_readGives : VI yX3_readGives cX3_readGives 4 (some .boolean) 1 := ⟨tb_3 131 rfl rfl, lw_g_sel 20 rfl rfl, tb_1 6 rfl rfl, tb_3 132 rfl rfl, nh_RX3, pd_20⟩
theorem I_X3_step : VI yX3_step cX3_step 2 none 0 := ⟨tb_3 30 rfl rfl, lw_g_sel 11 rfl rfl, tb_1 6 rfl rfl, tb_3 31 rfl rfl, nh_RX3, pd_18⟩
theorem pd_21 : (parseMethodDescriptor "(II)Z").map (fun d => d.parameters.length) = some 2 := by decide +kernel
theorem I_X3_isOf : SI yX3_isOf cX3_isOf 2 (some .boolean) 2 := ⟨tb_3 41 rfl rfl, tb_1 6 rfl rfl, tb_3 42 rfl rfl, nh_RX3, pd_21⟩
theorem I_X3_endOf : VI yX3_endOf cX3_endOf 4 (some .int) 2 := ⟨tb_3 34 rfl rfl, lw_g_sel 12 rfl rfl, tb_1 6 rfl rfl, tb_3 35 rfl rfl, nh_RX3, pd_3⟩
theorem I_X3_byteAt : VI yX3_byteAt cX3_byteAt 2 (some .int) 1 := ⟨tb_3 38 rfl rfl, lw_g_sel 13 rfl rfl, tb_1 6 rfl rfl, tb_3 39 rfl rfl, nh_RX3, pd_4⟩
theorem pd_22 : (parseMethodDescriptor "(Ljava/lang/String;)Z").map (fun d => d.parameters.length) = some 1 := by decide +kernel
theorem I_X3_isWord : VI yX3_isWord cX3_isWord 3 (some .boolean) 1 := ⟨tb_3 50 rfl rfl, lw_g_sel 15 rfl rfl, tb_1 6 rfl rfl, tb_3 51 rfl rfl, nh_RX3, pd_22⟩
theorem I_X3_numberIn : VI yX3_numberIn cX3_numberIn 5 (some .int) 2 := ⟨tb_3 108 rfl rfl, lw_g_sel 17 rfl rfl, tb_1 6 rfl rfl, tb_3 109 rfl rfl, nh_RX3, pd_3⟩
theorem nh_RX4 : RX4 ≠ "java/lang/invoke/MethodHandle" ∧ RX4 ≠ "java/lang/invoke/VarHandle" := by decide +kernel
theorem I_X4_weigh : VI yX4_weigh cX4_weigh 6 none 1 := ⟨tb_3 206 rfl rfl, tb_3 207 rfl rfl, tb_1 3 rfl rfl, tb_3 208 rfl rfl, nh_RX4, pd_6⟩
theorem I_X4_gather : VI yX4_gather cX4_gather 6 none 1 := ⟨tb_3 210 rfl rfl, tb_3 211 rfl rfl, tb_1 3 rfl rfl, tb_3 212 rfl rfl, nh_RX4, pd_6⟩
theorem I_X4_partsOf : VI yX4_partsOf cX4_partsOf 2 (some .int) 1 := ⟨tb_4 14 rfl rfl, tb_4 15 rfl rfl, tb_1 3 rfl rfl, tb_4 16 rfl rfl, nh_RX4, pd_4⟩
theorem I_X4_oddsOf : VI yX4_oddsOf cX4_oddsOf 6 (some .long) 2 := ⟨tb_3 202 rfl rfl, tb_3 203 rfl rfl, tb_1 3 rfl rfl, tb_3 204 rfl rfl, nh_RX4, pd_8⟩
theorem pd_23 : (parseMethodDescriptor "(LOnlyWhatFits$Village;II)J").map (fun d => d.parameters.length) = some 3 := by decide +kernel
theorem I_X4_oddsOfPair : VI yX4_oddsOfPair cX4_oddsOfPair 7 (some .long) 3 := ⟨tb_3 224 rfl rfl, tb_3 225 rfl rfl, tb_1 3 rfl rfl, tb_3 226 rfl rfl, nh_RX4, pd_23⟩
theorem pd_24 : (parseMethodDescriptor "(LOnlyWhatFits$Village;)J").map (fun d => d.parameters.length) = some 1 := by decide +kernel
theorem I_X4_worthOfDay : VI yX4_worthOfDay cX4_worthOfDay 2 (some .long) 1 := ⟨tb_3 233 rfl rfl, tb_3 234 rfl rfl, tb_1 3 rfl rfl, tb_3 235 rfl rfl, nh_RX4, pd_24⟩
theorem I_X4_worthAsWeighed : VI yX4_worthAsWeighed cX4_worthAsWeighed 5 (some .long) 1 := ⟨tb_3 237 rfl rfl, tb_3 238 rfl rfl, tb_1 3 rfl rfl, tb_3 239 rfl rfl, nh_RX4, pd_24⟩
theorem I_X4_turnsOn : VI yX4_turnsOn cX4_turnsOn 9 (some .int) 3 := ⟨tb_4 10 rfl rfl, tb_4 11 rfl rfl, tb_1 3 rfl rfl, tb_4 12 rfl rfl, nh_RX4, pd_5⟩
theorem I_X4_ordersOf : VI yX4_ordersOf cX4_ordersOf 2 (some .int) 1 := ⟨tb_4 25 rfl rfl, lw_g_sel 21 rfl rfl, tb_1 3 rfl rfl, tb_4 26 rfl rfl, nh_RX4, pd_4⟩
theorem I_X4_worthOfTurnsOn : VI yX4_worthOfTurnsOn cX4_worthOfTurnsOn 6 (some .long) 2 := ⟨tb_4 33 rfl rfl, tb_4 34 rfl rfl, tb_1 3 rfl rfl, tb_4 35 rfl rfl, nh_RX4, pd_8⟩
theorem I_X4_bornBy : VI yX4_bornBy cX4_bornBy 6 (some .int) 2 := ⟨tb_4 95 rfl rfl, tb_4 96 rfl rfl, tb_1 3 rfl rfl, tb_4 97 rfl rfl, nh_RX4, pd_2⟩
theorem nh_RX5 : RX5 ≠ "java/lang/invoke/MethodHandle" ∧ RX5 ≠ "java/lang/invoke/VarHandle" := by decide +kernel
theorem I_X5_takeOver : VI yX5_takeOver cX5_takeOver 2 none 1 := ⟨tb_2 120 rfl rfl, tb_2 121 rfl rfl, tb_1 2 rfl rfl, tb_2 122 rfl rfl, nh_RX5, pd_6⟩
theorem I_X5_addPart : VI yX5_addPart cX5_addPart 1 (some .int) 0 := ⟨tb_2 184 rfl rfl, tb_2 185 rfl rfl, tb_1 2 rfl rfl, tb_2 186 rfl rfl, nh_RX5, pd_11⟩
theorem I_X5_addMachine : VI yX5_addMachine cX5_addMachine 3 (some .int) 2 := ⟨tb_2 200 rfl rfl, tb_2 201 rfl rfl, tb_1 2 rfl rfl, tb_2 202 rfl rfl, nh_RX5, pd_3⟩
theorem I_X5_addOne : VI yX5_addOne cX5_addOne 3 (some .int) 2 := ⟨tb_2 208 rfl rfl, tb_2 209 rfl rfl, tb_1 2 rfl rfl, tb_2 210 rfl rfl, nh_RX5, pd_3⟩
theorem I_X5_isPart : VI yX5_isPart cX5_isPart 2 (some .boolean) 1 := ⟨tb_2 228 rfl rfl, tb_2 229 rfl rfl, tb_1 2 rfl rfl, tb_2 230 rfl rfl, nh_RX5, pd_10⟩
theorem I_X5_isMachine : VI yX5_isMachine cX5_isMachine 2 (some .boolean) 1 := ⟨tb_3 146 rfl rfl, tb_3 147 rfl rfl, tb_1 2 rfl rfl, tb_3 148 rfl rfl, nh_RX5, pd_10⟩
theorem I_X5_isPair : VI yX5_isPair cX5_isPair 3 (some .boolean) 2 := ⟨tb_3 184 rfl rfl, tb_3 185 rfl rfl, tb_1 2 rfl rfl, tb_3 186 rfl rfl, nh_RX5, pd_21⟩
theorem I_X5_isOne : VI yX5_isOne cX5_isOne 2 (some .boolean) 1 := ⟨tb_2 216 rfl rfl, tb_2 217 rfl rfl, tb_1 2 rfl rfl, tb_2 218 rfl rfl, nh_RX5, pd_10⟩
theorem I_X5_allParts : VI yX5_allParts cX5_allParts 1 (some .int) 0 := ⟨tb_2 196 rfl rfl, tb_2 197 rfl rfl, tb_1 2 rfl rfl, tb_2 198 rfl rfl, nh_RX5, pd_11⟩
theorem I_X5_allMachines : VI yX5_allMachines cX5_allMachines 1 (some .int) 0 := ⟨tb_4 143 rfl rfl, tb_4 144 rfl rfl, tb_1 2 rfl rfl, tb_4 145 rfl rfl, nh_RX5, pd_11⟩
theorem I_X5_allPeople : VI yX5_allPeople cX5_allPeople 1 (some .int) 0 := ⟨tb_2 145 rfl rfl, tb_2 146 rfl rfl, tb_1 2 rfl rfl, tb_2 147 rfl rfl, nh_RX5, pd_11⟩
theorem I_X5_isSetOfParts : VI yX5_isSetOfParts cX5_isSetOfParts 2 (some .boolean) 1 := ⟨tb_2 192 rfl rfl, tb_2 193 rfl rfl, tb_1 2 rfl rfl, tb_2 194 rfl rfl, nh_RX5, pd_10⟩
theorem I_X5_isSetOfPeople : VI yX5_isSetOfPeople cX5_isSetOfPeople 2 (some .boolean) 1 := ⟨tb_3 159 rfl rfl, tb_3 160 rfl rfl, tb_1 2 rfl rfl, tb_3 161 rfl rfl, nh_RX5, pd_10⟩
theorem I_X5_crossPeople : VI yX5_crossPeople cX5_crossPeople 3 (some .int) 0 := ⟨tb_4 99 rfl rfl, tb_4 100 rfl rfl, tb_1 2 rfl rfl, tb_4 101 rfl rfl, nh_RX5, pd_11⟩
theorem I_X5_piecesOf : VI yX5_piecesOf cX5_piecesOf 4 (some .int) 1 := ⟨tb_2 237 rfl rfl, tb_2 238 rfl rfl, tb_1 2 rfl rfl, tb_2 239 rfl rfl, nh_RX5, pd_4⟩
theorem I_X5_hasRoom : VI yX5_hasRoom cX5_hasRoom 2 (some .boolean) 1 := ⟨tb_2 232 rfl rfl, tb_2 233 rfl rfl, tb_1 2 rfl rfl, tb_2 234 rfl rfl, nh_RX5, pd_10⟩
theorem I_X5_holderCount : VI yX5_holderCount cX5_holderCount 3 (some .int) 0 := ⟨tb_2 176 rfl rfl, tb_2 177 rfl rfl, tb_1 2 rfl rfl, tb_2 178 rfl rfl, nh_RX5, pd_11⟩
theorem I_X5_secondCount : VI yX5_secondCount cX5_secondCount 3 (some .int) 0 := ⟨tb_2 172 rfl rfl, tb_2 173 rfl rfl, tb_1 2 rfl rfl, tb_2 174 rfl rfl, nh_RX5, pd_11⟩
theorem I_X5_partsOfOne : VI yX5_partsOfOne cX5_partsOfOne 4 (some .int) 1 := ⟨tb_3 214 rfl rfl, tb_3 215 rfl rfl, tb_1 2 rfl rfl, tb_3 216 rfl rfl, nh_RX5, pd_4⟩
theorem I_X5_partsWith : VI yX5_partsWith cX5_partsWith 4 (some .int) 1 := ⟨tb_3 164 rfl rfl, tb_3 165 rfl rfl, tb_1 2 rfl rfl, tb_3 166 rfl rfl, nh_RX5, pd_4⟩
theorem I_X5_doublesWith : VI yX5_doublesWith cX5_doublesWith 4 (some .int) 1 := ⟨tb_3 194 rfl rfl, tb_3 195 rfl rfl, tb_1 2 rfl rfl, tb_3 196 rfl rfl, nh_RX5, pd_4⟩
theorem I_X5_isIn : SI yX5_isIn cX5_isIn 2 (some .boolean) 2 := ⟨tb_3 168 rfl rfl, tb_1 2 rfl rfl, tb_3 169 rfl rfl, nh_RX5, pd_21⟩
theorem I_X5_isWorkedWith : VI yX5_isWorkedWith cX5_isWorkedWith 3 (some .boolean) 2 := ⟨tb_3 175 rfl rfl, tb_3 176 rfl rfl, tb_1 2 rfl rfl, tb_3 177 rfl rfl, nh_RX5, pd_21⟩
theorem I_X5_isAnyWorkedWith : VI yX5_isAnyWorkedWith cX5_isAnyWorkedWith 2 (some .boolean) 1 := ⟨tb_4 115 rfl rfl, tb_4 116 rfl rfl, tb_1 2 rfl rfl, tb_4 117 rfl rfl, nh_RX5, pd_10⟩
theorem I_X5_machinesWith : VI yX5_machinesWith cX5_machinesWith 4 (some .int) 1 := ⟨tb_4 119 rfl rfl, tb_4 120 rfl rfl, tb_1 2 rfl rfl, tb_4 121 rfl rfl, nh_RX5, pd_4⟩
theorem I_X5_machinesTouchedBy : VI yX5_machinesTouchedBy cX5_machinesTouchedBy 4 (some .int) 1 := ⟨tb_4 165 rfl rfl, tb_4 166 rfl rfl, tb_1 2 rfl rfl, tb_4 167 rfl rfl, nh_RX5, pd_4⟩
theorem pd_25 : (parseMethodDescriptor "(III)Z").map (fun d => d.parameters.length) = some 3 := by decide +kernel
theorem I_X5_areBothWorked : VI yX5_areBothWorked cX5_areBothWorked 5 (some .boolean) 3 := ⟨tb_3 188 rfl rfl, tb_3 189 rfl rfl, tb_1 2 rfl rfl, tb_3 190 rfl rfl, nh_RX5, pd_25⟩
theorem I_X5_worthWith : VI yX5_worthWith cX5_worthWith 4 (some .int) 1 := ⟨tb_4 1 rfl rfl, tb_4 2 rfl rfl, tb_1 2 rfl rfl, tb_4 3 rfl rfl, nh_RX5, pd_4⟩
theorem pd_26 : (parseMethodDescriptor "(II)V").map (fun d => d.parameters.length) = some 2 := by decide +kernel
theorem I_X5_handOver : VI yX5_handOver cX5_handOver 4 none 2 := ⟨tb_4 185 rfl rfl, tb_4 186 rfl rfl, tb_1 2 rfl rfl, tb_4 187 rfl rfl, nh_RX5, pd_26⟩
theorem I_X5_passDay : VI yX5_passDay cX5_passDay 4 (some .int) 0 := ⟨tb_4 211 rfl rfl, tb_4 212 rfl rfl, tb_1 2 rfl rfl, tb_4 213 rfl rfl, nh_RX5, pd_11⟩
theorem I_X5_drawTenth : VI yX5_drawTenth cX5_drawTenth 1 (some .int) 0 := ⟨tb_4 215 rfl rfl, tb_4 216 rfl rfl, tb_1 2 rfl rfl, tb_4 217 rfl rfl, nh_RX5, pd_11⟩
theorem I_X5_shareOut : VI yX5_shareOut cX5_shareOut 4 none 1 := ⟨tb_4 220 rfl rfl, tb_4 221 rfl rfl, tb_1 2 rfl rfl, tb_4 222 rfl rfl, nh_RX5, pd_17⟩
theorem nh_RX6 : RX6 ≠ "java/lang/invoke/MethodHandle" ∧ RX6 ≠ "java/lang/invoke/VarHandle" := by decide +kernel
theorem pd_27 : (parseMethodDescriptor "(III)I").map (fun d => d.parameters.length) = some 3 := by decide +kernel
theorem I_X6_row : VI yX6_row cX6_row 4 (some .int) 3 := ⟨tb_2 7 rfl rfl, tb_2 8 rfl rfl, tb_1 1 rfl rfl, tb_2 9 rfl rfl, nh_RX6, pd_27⟩
theorem pd_28 : (parseMethodDescriptor "(IIJ)I").map (fun d => d.parameters.length) = some 3 := by decide +kernel
theorem I_X6_set : VI yX6_set cX6_set 6 (some .int) 3 := ⟨tb_2 27 rfl rfl, tb_2 28 rfl rfl, tb_1 1 rfl rfl, tb_2 29 rfl rfl, nh_RX6, pd_28⟩
theorem pd_29 : (parseMethodDescriptor "(IIIII)I").map (fun d => d.parameters.length) = some 5 := by decide +kernel
theorem I_X6_copy : VI yX6_copy cX6_copy 6 (some .int) 5 := ⟨tb_2 63 rfl rfl, tb_2 64 rfl rfl, tb_1 1 rfl rfl, tb_2 65 rfl rfl, nh_RX6, pd_29⟩
theorem I_X6_element : VI yX6_element cX6_element 3 (some .long) 2 := ⟨tb_2 77 rfl rfl, tb_2 78 rfl rfl, tb_1 1 rfl rfl, tb_2 79 rfl rfl, nh_RX6, pd_13⟩
theorem I_X6_holds : VI yX6_holds cX6_holds 2 (some .int) 1 := ⟨tb_2 85 rfl rfl, tb_2 86 rfl rfl, tb_1 1 rfl rfl, tb_2 87 rfl rfl, nh_RX6, pd_4⟩
theorem I_X6_holding : VI yX6_holding cX6_holding 4 (some .int) 3 := ⟨tb_2 89 rfl rfl, tb_2 90 rfl rfl, tb_1 1 rfl rfl, tb_2 91 rfl rfl, nh_RX6, pd_27⟩
theorem I_X6_says : VI yX6_says cX6_says 4 (some .int) 2 := ⟨tb_2 97 rfl rfl, tb_2 98 rfl rfl, tb_1 1 rfl rfl, tb_2 99 rfl rfl, nh_RX6, pd_3⟩
theorem I_X6_part : VI yX6_part cX6_part 1 (some .int) 0 := ⟨tb_2 180 rfl rfl, tb_2 181 rfl rfl, tb_1 1 rfl rfl, tb_2 182 rfl rfl, nh_RX6, pd_11⟩
theorem I_X6_machine : VI yX6_machine cX6_machine 3 (some .int) 2 := ⟨tb_2 188 rfl rfl, tb_2 189 rfl rfl, tb_1 1 rfl rfl, tb_2 190 rfl rfl, nh_RX6, pd_3⟩
theorem I_X6_one : VI yX6_one cX6_one 3 (some .int) 2 := ⟨tb_2 204 rfl rfl, tb_2 205 rfl rfl, tb_1 1 rfl rfl, tb_2 206 rfl rfl, nh_RX6, pd_3⟩
theorem I_X6_away : VI yX6_away cX6_away 4 (some .int) 2 := ⟨tb_2 212 rfl rfl, tb_2 213 rfl rfl, tb_1 1 rfl rfl, tb_2 214 rfl rfl, nh_RX6, pd_3⟩
theorem pd_30 : (parseMethodDescriptor "(IZ)I").map (fun d => d.parameters.length) = some 2 := by decide +kernel
theorem I_X6_cross : VI yX6_cross cX6_cross 3 (some .int) 2 := ⟨tb_2 220 rfl rfl, tb_2 221 rfl rfl, tb_1 1 rfl rfl, tb_2 222 rfl rfl, nh_RX6, pd_30⟩
theorem pd_31 : (parseMethodDescriptor "(IIZ)I").map (fun d => d.parameters.length) = some 3 := by decide +kernel
theorem I_X6_give : VI yX6_give cX6_give 5 (some .int) 3 := ⟨tb_2 224 rfl rfl, tb_2 225 rfl rfl, tb_1 1 rfl rfl, tb_2 226 rfl rfl, nh_RX6, pd_31⟩
theorem I_X6_feed : VI yX6_feed cX6_feed 4 (some .int) 2 := ⟨tb_3 1 rfl rfl, tb_3 2 rfl rfl, tb_1 1 rfl rfl, tb_3 3 rfl rfl, nh_RX6, pd_3⟩
theorem I_X6_wipe : VI yX6_wipe cX6_wipe 2 (some .int) 0 := ⟨tb_3 13 rfl rfl, tb_3 14 rfl rfl, tb_1 1 rfl rfl, tb_3 15 rfl rfl, nh_RX6, pd_11⟩
theorem I_X6_village : VI yX6_village cX6_village 3 (some .int) 0 := ⟨tb_3 21 rfl rfl, tb_3 22 rfl rfl, tb_1 1 rfl rfl, tb_3 23 rfl rfl, nh_RX6, pd_11⟩
theorem I_X6_partOf : VI yX6_partOf cX6_partOf 3 (some .int) 2 := ⟨tb_3 138 rfl rfl, tb_3 139 rfl rfl, tb_1 1 rfl rfl, tb_3 140 rfl rfl, nh_RX6, pd_3⟩
theorem I_X6_machineOf : VI yX6_machineOf cX6_machineOf 3 (some .int) 2 := ⟨tb_3 142 rfl rfl, tb_3 143 rfl rfl, tb_1 1 rfl rfl, tb_3 144 rfl rfl, nh_RX6, pd_3⟩
theorem I_X6_oneOf : VI yX6_oneOf cX6_oneOf 3 (some .int) 2 := ⟨tb_3 150 rfl rfl, tb_3 151 rfl rfl, tb_1 1 rfl rfl, tb_3 152 rfl rfl, nh_RX6, pd_3⟩
theorem I_X6_has : VI yX6_has cX6_has 2 (some .int) 1 := ⟨tb_3 155 rfl rfl, tb_3 156 rfl rfl, tb_1 1 rfl rfl, tb_3 157 rfl rfl, nh_RX6, pd_4⟩
theorem I_X6_works : VI yX6_works cX6_works 3 (some .int) 2 := ⟨tb_3 171 rfl rfl, tb_3 172 rfl rfl, tb_1 1 rfl rfl, tb_3 173 rfl rfl, nh_RX6, pd_3⟩
theorem I_X6_both : VI yX6_both cX6_both 4 (some .int) 3 := ⟨tb_3 180 rfl rfl, tb_3 181 rfl rfl, tb_1 1 rfl rfl, tb_3 182 rfl rfl, nh_RX6, pd_27⟩
theorem pd_32 : (parseMethodDescriptor "(I)J").map (fun d => d.parameters.length) = some 1 := by decide +kernel
theorem I_X6_odds : VI yX6_odds cX6_odds 2 (some .long) 1 := ⟨tb_3 198 rfl rfl, tb_3 199 rfl rfl, tb_1 1 rfl rfl, tb_3 200 rfl rfl, nh_RX6, pd_32⟩
theorem I_X6_atOnce : VI yX6_atOnce cX6_atOnce 3 (some .long) 2 := ⟨tb_3 220 rfl rfl, tb_3 221 rfl rfl, tb_1 1 rfl rfl, tb_3 222 rfl rfl, nh_RX6, pd_13⟩
theorem I_X6_day : VI yX6_day cX6_day 1 (some .long) 0 := ⟨tb_3 229 rfl rfl, tb_3 230 rfl rfl, tb_1 1 rfl rfl, tb_3 231 rfl rfl, nh_RX6, pd_7⟩
theorem I_X6_power : VI yX6_power cX6_power 3 (some .int) 2 := ⟨tb_4 5 rfl rfl, tb_4 6 rfl rfl, tb_1 1 rfl rfl, tb_4 7 rfl rfl, nh_RX6, pd_3⟩
theorem I_X6_first : VI yX6_first cX6_first 7 (some .int) 0 := ⟨tb_4 28 rfl rfl, tb_4 29 rfl rfl, tb_1 1 rfl rfl, tb_4 30 rfl rfl, nh_RX6, pd_11⟩
theorem I_X6_lay : VI yX6_lay cX6_lay 3 (some .int) 1 := ⟨tb_4 38 rfl rfl, tb_4 39 rfl rfl, tb_1 1 rfl rfl, tb_4 40 rfl rfl, nh_RX6, pd_4⟩
theorem I_X6_would : VI yX6_would cX6_would 3 (some .long) 1 := ⟨tb_4 42 rfl rfl, tb_4 43 rfl rfl, tb_1 1 rfl rfl, tb_4 44 rfl rfl, nh_RX6, pd_32⟩
theorem I_X6_head : VI yX6_head cX6_head 7 (some .int) 0 := ⟨tb_4 46 rfl rfl, tb_4 47 rfl rfl, tb_1 1 rfl rfl, tb_4 48 rfl rfl, nh_RX6, pd_11⟩
theorem I_X6_best : VI yX6_best cX6_best 2 (some .int) 1 := ⟨tb_4 50 rfl rfl, tb_4 51 rfl rfl, tb_1 1 rfl rfl, tb_4 52 rfl rfl, nh_RX6, pd_4⟩
theorem I_X6_bestDay : VI yX6_bestDay cX6_bestDay 1 (some .long) 0 := ⟨tb_4 83 rfl rfl, tb_4 84 rfl rfl, tb_1 1 rfl rfl, tb_4 85 rfl rfl, nh_RX6, pd_7⟩
theorem I_X6_bears : VI yX6_bears cX6_bears 3 (some .int) 1 := ⟨tb_4 91 rfl rfl, tb_4 92 rfl rfl, tb_1 1 rfl rfl, tb_4 93 rfl rfl, nh_RX6, pd_4⟩
theorem I_X6_harms : VI yX6_harms cX6_harms 7 (some .int) 0 := ⟨tb_4 104 rfl rfl, tb_4 105 rfl rfl, tb_1 1 rfl rfl, tb_4 106 rfl rfl, nh_RX6, pd_11⟩
theorem I_X6_least : VI yX6_least cX6_least 4 (some .int) 0 := ⟨tb_4 108 rfl rfl, tb_4 109 rfl rfl, tb_1 1 rfl rfl, tb_4 110 rfl rfl, nh_RX6, pd_11⟩
theorem I_X6_stolen : VI yX6_stolen cX6_stolen 5 (some .int) 0 := ⟨tb_4 123 rfl rfl, tb_4 124 rfl rfl, tb_1 1 rfl rfl, tb_4 125 rfl rfl, nh_RX6, pd_11⟩
theorem I_X6_spare : VI yX6_spare cX6_spare 8 (some .int) 0 := ⟨tb_4 128 rfl rfl, tb_4 129 rfl rfl, tb_1 1 rfl rfl, tb_4 130 rfl rfl, nh_RX6, pd_11⟩
theorem I_X6_gift : VI yX6_gift cX6_gift 3 (some .long) 2 := ⟨tb_4 133 rfl rfl, tb_4 134 rfl rfl, tb_1 1 rfl rfl, tb_4 135 rfl rfl, nh_RX6, pd_13⟩
theorem pd_33 : (parseMethodDescriptor "(Z)I").map (fun d => d.parameters.length) = some 1 := by decide +kernel
theorem I_X6_never : VI yX6_never cX6_never 3 (some .int) 1 := ⟨tb_4 139 rfl rfl, tb_4 140 rfl rfl, tb_1 1 rfl rfl, tb_4 141 rfl rfl, nh_RX6, pd_33⟩
theorem I_X6_with : VI yX6_with cX6_with 5 (some .int) 1 := ⟨tb_4 148 rfl rfl, tb_4 149 rfl rfl, tb_1 1 rfl rfl, tb_4 150 rfl rfl, nh_RX6, pd_4⟩
theorem I_X6_safe : VI yX6_safe cX6_safe 4 (some .int) 1 := ⟨tb_4 152 rfl rfl, tb_4 153 rfl rfl, tb_1 1 rfl rfl, tb_4 154 rfl rfl, nh_RX6, pd_4⟩
theorem I_X6_alone : VI yX6_alone cX6_alone 2 (some .int) 1 := ⟨tb_4 156 rfl rfl, tb_4 157 rfl rfl, tb_1 1 rfl rfl, tb_4 158 rfl rfl, nh_RX6, pd_4⟩
theorem I_X6_key : VI yX6_key cX6_key 5 (some .int) 0 := ⟨tb_4 161 rfl rfl, tb_4 162 rfl rfl, tb_1 1 rfl rfl, tb_4 163 rfl rfl, nh_RX6, pd_11⟩
theorem I_X6_idle : VI yX6_idle cX6_idle 3 (some .int) 0 := ⟨tb_4 169 rfl rfl, tb_4 170 rfl rfl, tb_1 1 rfl rfl, tb_4 171 rfl rfl, nh_RX6, pd_11⟩
theorem I_X6_room : VI yX6_room cX6_room 3 (some .int) 0 := ⟨tb_4 173 rfl rfl, tb_4 174 rfl rfl, tb_1 1 rfl rfl, tb_4 175 rfl rfl, nh_RX6, pd_11⟩
theorem I_X6_swap : VI yX6_swap cX6_swap 4 (some .int) 2 := ⟨tb_4 177 rfl rfl, tb_4 178 rfl rfl, tb_1 1 rfl rfl, tb_4 179 rfl rfl, nh_RX6, pd_3⟩
theorem I_X6_trust : VI yX6_trust cX6_trust 3 (some .long) 2 := ⟨tb_4 181 rfl rfl, tb_4 182 rfl rfl, tb_1 1 rfl rfl, tb_4 183 rfl rfl, nh_RX6, pd_13⟩
theorem I_X6_judge : VI yX6_judge cX6_judge 6 (some .int) 3 := ⟨tb_4 189 rfl rfl, tb_4 190 rfl rfl, tb_1 1 rfl rfl, tb_4 191 rfl rfl, nh_RX6, pd_27⟩
theorem I_X6_told : VI yX6_told cX6_told 6 (some .int) 2 := ⟨tb_4 202 rfl rfl, tb_4 203 rfl rfl, tb_1 1 rfl rfl, tb_4 204 rfl rfl, nh_RX6, pd_3⟩
theorem I_X6_days : VI yX6_days cX6_days 4 (some .int) 1 := ⟨tb_4 207 rfl rfl, tb_4 208 rfl rfl, tb_1 1 rfl rfl, tb_4 209 rfl rfl, nh_RX6, pd_4⟩
theorem I_X6_seed : VI yX6_seed cX6_seed 3 (some .int) 1 := ⟨tb_4 225 rfl rfl, tb_4 226 rfl rfl, tb_1 1 rfl rfl, tb_4 227 rfl rfl, nh_RX6, pd_4⟩
theorem I_X6_image : VI yX6_image cX6_image 1 (some .int) 0 := ⟨tb_4 229 rfl rfl, tb_4 230 rfl rfl, tb_1 1 rfl rfl, tb_4 231 rfl rfl, nh_RX6, pd_11⟩
theorem I_X6_back : VI yX6_back cX6_back 1 (some .int) 0 := ⟨tb_4 233 rfl rfl, tb_4 234 rfl rfl, tb_1 1 rfl rfl, tb_4 235 rfl rfl, nh_RX6, pd_11⟩
theorem I_X6_status : VI yX6_status cX6_status 2 (some .int) 1 := ⟨tb_4 237 rfl rfl, tb_4 238 rfl rfl, tb_1 1 rfl rfl, tb_4 239 rfl rfl, nh_RX6, pd_4⟩
theorem I_X6_refuse : VI yX6_refuse cX6_refuse 3 (some .int) 1 := ⟨tb_2 16 rfl rfl, lw_g_sel 0 rfl rfl, tb_1 1 rfl rfl, tb_2 17 rfl rfl, nh_RX6, pd_4⟩
theorem I_X6_isUnder : SI yX6_isUnder cX6_isUnder 2 (some .boolean) 2 := ⟨tb_2 109 rfl rfl, tb_1 1 rfl rfl, tb_2 110 rfl rfl, nh_RX6, pd_21⟩
theorem I_X6_tryHolding : VI yX6_tryHolding cX6_tryHolding 2 none 1 := ⟨tb_2 117 rfl rfl, lw_g_sel 1 rfl rfl, tb_1 1 rfl rfl, tb_2 118 rfl rfl, nh_RX6, pd_17⟩
theorem pd_34 : (parseMethodDescriptor "()Z").map (fun d => d.parameters.length) = some 0 := by decide +kernel
theorem I_X6_isTooBigForBest : VI yX6_isTooBigForBest cX6_isTooBigForBest 1 (some .boolean) 0 := ⟨tb_4 55 rfl rfl, lw_g_sel 22 rfl rfl, tb_1 1 rfl rfl, tb_4 56 rfl rfl, nh_RX6, pd_34⟩
theorem I_X6_toldFault : VI yX6_toldFault cX6_toldFault 4 (some .int) 2 := ⟨tb_4 194 rfl rfl, lw_g_sel 26 rfl rfl, tb_1 1 rfl rfl, tb_4 195 rfl rfl, nh_RX6, pd_3⟩
theorem I_X6_partsOnToldDay : VI yX6_partsOnToldDay cX6_partsOnToldDay 4 (some .int) 2 := ⟨tb_4 198 rfl rfl, lw_g_sel 27 rfl rfl, tb_1 1 rfl rfl, tb_4 199 rfl rfl, nh_RX6, pd_3⟩
theorem nh_RX7 : RX7 ≠ "java/lang/invoke/MethodHandle" ∧ RX7 ≠ "java/lang/invoke/VarHandle" := by decide +kernel
theorem I_X7_refuse : VI yX7_refuse cX7_refuse 2 (some .int) 1 := ⟨tb_5 121 rfl rfl, lw_g_sel 28 rfl rfl, tb_1 8 rfl rfl, tb_5 122 rfl rfl, nh_RX7, pd_4⟩
theorem pd_35 : (parseMethodDescriptor "(JJJ)Z").map (fun d => d.parameters.length) = some 3 := by decide +kernel
theorem I_X7_in : SI yX7_in cX7_in 6 (some .boolean) 3 := ⟨tb_5 115 rfl rfl, tb_1 8 rfl rfl, tb_5 116 rfl rfl, nh_RX7, pd_35⟩
theorem I_X7_isPart : VI yX7_isPart cX7_isPart 2 (some .boolean) 1 := ⟨tb_6 3 rfl rfl, lw_g_sel 42 rfl rfl, tb_1 8 rfl rfl, tb_6 4 rfl rfl, nh_RX7, pd_10⟩
theorem I_X7_isMachine : VI yX7_isMachine cX7_isMachine 2 (some .boolean) 1 := ⟨tb_6 88 rfl rfl, lw_g_sel 53 rfl rfl, tb_1 8 rfl rfl, tb_6 89 rfl rfl, nh_RX7, pd_10⟩
theorem I_X7_isOne : VI yX7_isOne cX7_isOne 2 (some .boolean) 1 := ⟨tb_5 231 rfl rfl, lw_g_sel 41 rfl rfl, tb_1 8 rfl rfl, tb_5 232 rfl rfl, nh_RX7, pd_10⟩
theorem I_X7_all : VI yX7_all cX7_all 1 (some .int) 0 := ⟨tb_6 100 rfl rfl, lw_g_sel 54 rfl rfl, tb_1 8 rfl rfl, tb_6 101 rfl rfl, nh_RX7, pd_11⟩
theorem I_X7_bits : SI yX7_bits cX7_bits 3 (some .int) 1 := ⟨tb_6 151 rfl rfl, tb_1 8 rfl rfl, tb_6 152 rfl rfl, nh_RX7, pd_4⟩
theorem I_X7_isIn : SI yX7_isIn cX7_isIn 2 (some .boolean) 2 := ⟨tb_5 181 rfl rfl, tb_1 8 rfl rfl, tb_5 182 rfl rfl, nh_RX7, pd_21⟩
theorem I_X7_row : VI yX7_row cX7_row 5 (some .int) 3 := ⟨tb_5 110 rfl rfl, tb_5 111 rfl rfl, tb_1 8 rfl rfl, tb_5 112 rfl rfl, nh_RX7, pd_27⟩
theorem I_X7_fit : SI yX7_fit cX7_fit 3 (some .long) 2 := ⟨tb_5 132 rfl rfl, tb_1 8 rfl rfl, tb_5 133 rfl rfl, nh_RX7, pd_15⟩
theorem I_X7_noRow : VI yX7_noRow cX7_noRow 2 (some .int) 1 := ⟨tb_5 129 rfl rfl, lw_g_sel 29 rfl rfl, tb_1 8 rfl rfl, tb_5 130 rfl rfl, nh_RX7, pd_4⟩
theorem I_X7_noHolding : VI yX7_noHolding cX7_noHolding 2 (some .int) 1 := ⟨tb_6 166 rfl rfl, lw_g_sel 61 rfl rfl, tb_1 8 rfl rfl, tb_6 167 rfl rfl, nh_RX7, pd_4⟩
theorem I_X7_set : VI yX7_set cX7_set 6 (some .int) 3 := ⟨tb_5 124 rfl rfl, tb_5 125 rfl rfl, tb_1 8 rfl rfl, tb_5 126 rfl rfl, nh_RX7, pd_28⟩
theorem I_X7_copy : VI yX7_copy cX7_copy 7 (some .int) 5 := ⟨tb_5 135 rfl rfl, tb_5 136 rfl rfl, tb_1 8 rfl rfl, tb_5 137 rfl rfl, nh_RX7, pd_29⟩
theorem I_X7_element : VI yX7_element cX7_element 3 (some .long) 2 := ⟨tb_5 139 rfl rfl, tb_5 140 rfl rfl, tb_1 8 rfl rfl, tb_5 141 rfl rfl, nh_RX7, pd_13⟩
theorem I_X7_holds : VI yX7_holds cX7_holds 2 (some .int) 1 := ⟨tb_5 143 rfl rfl, tb_5 144 rfl rfl, tb_1 8 rfl rfl, tb_5 145 rfl rfl, nh_RX7, pd_4⟩
theorem I_X7_holding : VI yX7_holding cX7_holding 4 (some .int) 3 := ⟨tb_5 147 rfl rfl, tb_5 148 rfl rfl, tb_1 8 rfl rfl, tb_5 149 rfl rfl, nh_RX7, pd_27⟩
theorem I_X7_isUnder : SI yX7_isUnder cX7_isUnder 2 (some .boolean) 2 := ⟨tb_5 157 rfl rfl, tb_1 8 rfl rfl, tb_5 158 rfl rfl, nh_RX7, pd_21⟩
theorem I_X7_says : VI yX7_says cX7_says 3 (some .int) 2 := ⟨tb_5 153 rfl rfl, tb_5 154 rfl rfl, tb_1 8 rfl rfl, tb_5 155 rfl rfl, nh_RX7, pd_3⟩
theorem I_X7_held : VI yX7_held cX7_held 4 (some .int) 1 := ⟨tb_5 205 rfl rfl, lw_g_sel 39 rfl rfl, tb_1 8 rfl rfl, tb_5 206 rfl rfl, nh_RX7, pd_33⟩
theorem I_X7_part : VI yX7_part cX7_part 1 (some .int) 0 := ⟨tb_5 208 rfl rfl, tb_5 209 rfl rfl, tb_1 8 rfl rfl, tb_5 210 rfl rfl, nh_RX7, pd_11⟩
theorem I_X7_machine : VI yX7_machine cX7_machine 3 (some .int) 2 := ⟨tb_5 212 rfl rfl, tb_5 213 rfl rfl, tb_1 8 rfl rfl, tb_5 214 rfl rfl, nh_RX7, pd_3⟩
theorem I_X7_newOne : VI yX7_newOne cX7_newOne 2 none 0 := ⟨tb_5 223 rfl rfl, lw_g_sel 40 rfl rfl, tb_1 8 rfl rfl, tb_5 224 rfl rfl, nh_RX7, pd_18⟩
theorem I_X7_one : VI yX7_one cX7_one 3 (some .int) 2 := ⟨tb_5 216 rfl rfl, tb_5 217 rfl rfl, tb_1 8 rfl rfl, tb_5 218 rfl rfl, nh_RX7, pd_3⟩
theorem I_X7_away : VI yX7_away cX7_away 4 (some .int) 2 := ⟨tb_5 226 rfl rfl, tb_5 227 rfl rfl, tb_1 8 rfl rfl, tb_5 228 rfl rfl, nh_RX7, pd_3⟩
theorem I_X7_cross : VI yX7_cross cX7_cross 4 (some .int) 2 := ⟨tb_5 234 rfl rfl, tb_5 235 rfl rfl, tb_1 8 rfl rfl, tb_5 236 rfl rfl, nh_RX7, pd_30⟩
theorem I_X7_piecesOf : VI yX7_piecesOf cX7_piecesOf 4 (some .int) 1 := ⟨tb_5 193 rfl rfl, lw_g_sel 36 rfl rfl, tb_1 8 rfl rfl, tb_5 194 rfl rfl, nh_RX7, pd_4⟩
theorem I_X7_hasRoom : VI yX7_hasRoom cX7_hasRoom 2 (some .boolean) 1 := ⟨tb_5 189 rfl rfl, lw_g_sel 35 rfl rfl, tb_1 8 rfl rfl, tb_5 190 rfl rfl, nh_RX7, pd_10⟩
theorem I_X7_give : VI yX7_give cX7_give 6 (some .int) 3 := ⟨tb_5 238 rfl rfl, tb_5 239 rfl rfl, tb_1 8 rfl rfl, tb_6 0 rfl rfl, nh_RX7, pd_31⟩
theorem I_X7_feed : VI yX7_feed cX7_feed 4 (some .int) 2 := ⟨tb_6 6 rfl rfl, tb_6 7 rfl rfl, tb_1 8 rfl rfl, tb_6 8 rfl rfl, nh_RX7, pd_3⟩
theorem I_X7_wipe : VI yX7_wipe cX7_wipe 2 (some .int) 0 := ⟨tb_6 10 rfl rfl, tb_6 11 rfl rfl, tb_1 8 rfl rfl, tb_6 12 rfl rfl, nh_RX7, pd_11⟩
theorem I_X7_isLetter : SI yX7_isLetter cX7_isLetter 1 (some .boolean) 1 := ⟨tb_6 26 rfl rfl, tb_1 8 rfl rfl, tb_6 27 rfl rfl, nh_RX7, pd_10⟩
theorem I_X7_isDigit : SI yX7_isDigit cX7_isDigit 1 (some .boolean) 1 := ⟨tb_6 29 rfl rfl, tb_1 8 rfl rfl, tb_6 30 rfl rfl, nh_RX7, pd_10⟩
theorem I_X7_look : VI yX7_look cX7_look 1 none 0 := ⟨tb_6 23 rfl rfl, lw_g_sel 44 rfl rfl, tb_1 8 rfl rfl, tb_6 24 rfl rfl, nh_RX7, pd_18⟩
theorem I_X7_wrong : VI yX7_wrong cX7_wrong 1 (some .boolean) 0 := ⟨tb_6 56 rfl rfl, lw_g_sel 49 rfl rfl, tb_1 8 rfl rfl, tb_6 57 rfl rfl, nh_RX7, pd_34⟩
theorem I_X7_isWord : VI yX7_isWord cX7_isWord 3 (some .boolean) 1 := ⟨tb_6 40 rfl rfl, lw_g_sel 46 rfl rfl, tb_1 8 rfl rfl, tb_6 41 rfl rfl, nh_RX7, pd_22⟩
theorem I_X7_number : VI yX7_number cX7_number 3 (some .boolean) 2 := ⟨tb_6 70 rfl rfl, lw_g_sel 52 rfl rfl, tb_1 8 rfl rfl, tb_6 71 rfl rfl, nh_RX7, pd_21⟩
theorem pd_36 : (parseMethodDescriptor "(Ljava/lang/String;II)Z").map (fun d => d.parameters.length) = some 3 := by decide +kernel
theorem I_X7_tells : VI yX7_tells cX7_tells 4 (some .boolean) 3 := ⟨tb_6 66 rfl rfl, lw_g_sel 51 rfl rfl, tb_1 8 rfl rfl, tb_6 67 rfl rfl, nh_RX7, pd_36⟩
theorem pd_37 : (parseMethodDescriptor "(IZ)Z").map (fun d => d.parameters.length) = some 2 := by decide +kernel
theorem I_X7_gets : VI yX7_gets cX7_gets 5 (some .boolean) 2 := ⟨tb_6 52 rfl rfl, lw_g_sel 48 rfl rfl, tb_1 8 rfl rfl, tb_6 53 rfl rfl, nh_RX7, pd_37⟩
theorem I_X7_partTold : VI yX7_partTold cX7_partTold 2 (some .boolean) 0 := ⟨tb_6 46 rfl rfl, lw_g_sel 47 rfl rfl, tb_1 8 rfl rfl, tb_6 47 rfl rfl, nh_RX7, pd_34⟩
theorem I_X7_machineTold : VI yX7_machineTold cX7_machineTold 2 (some .boolean) 0 := ⟨tb_6 62 rfl rfl, lw_g_sel 50 rfl rfl, tb_1 8 rfl rfl, tb_6 63 rfl rfl, nh_RX7, pd_34⟩
theorem I_X7_statement : VI yX7_statement cX7_statement 1 (some .boolean) 0 := ⟨tb_6 35 rfl rfl, lw_g_sel 45 rfl rfl, tb_1 8 rfl rfl, tb_6 36 rfl rfl, nh_RX7, pd_34⟩
theorem I_X7_readAll : VI yX7_readAll cX7_readAll 1 (some .boolean) 0 := ⟨tb_6 19 rfl rfl, lw_g_sel 43 rfl rfl, tb_1 8 rfl rfl, tb_6 20 rfl rfl, nh_RX7, pd_34⟩
theorem I_X7_village : VI yX7_village cX7_village 3 (some .int) 0 := ⟨tb_6 14 rfl rfl, tb_6 15 rfl rfl, tb_1 8 rfl rfl, tb_6 16 rfl rfl, nh_RX7, pd_11⟩
theorem I_X7_partOf : VI yX7_partOf cX7_partOf 3 (some .int) 2 := ⟨tb_6 79 rfl rfl, tb_6 80 rfl rfl, tb_1 8 rfl rfl, tb_6 81 rfl rfl, nh_RX7, pd_3⟩
theorem I_X7_machineOf : VI yX7_machineOf cX7_machineOf 3 (some .int) 2 := ⟨tb_6 83 rfl rfl, tb_6 84 rfl rfl, tb_1 8 rfl rfl, tb_6 85 rfl rfl, nh_RX7, pd_3⟩
theorem I_X7_oneOf : VI yX7_oneOf cX7_oneOf 3 (some .int) 2 := ⟨tb_6 91 rfl rfl, tb_6 92 rfl rfl, tb_1 8 rfl rfl, tb_6 93 rfl rfl, nh_RX7, pd_3⟩
theorem I_X7_hasOf : VI yX7_hasOf cX7_hasOf 4 (some .int) 1 := ⟨tb_6 104 rfl rfl, lw_g_sel 55 rfl rfl, tb_1 8 rfl rfl, tb_6 105 rfl rfl, nh_RX7, pd_4⟩
theorem I_X7_worksOf : VI yX7_worksOf cX7_worksOf 3 (some .boolean) 2 := ⟨tb_6 112 rfl rfl, lw_g_sel 56 rfl rfl, tb_1 8 rfl rfl, tb_6 113 rfl rfl, nh_RX7, pd_21⟩
theorem I_X7_bothOf : VI yX7_bothOf cX7_bothOf 5 (some .boolean) 3 := ⟨tb_6 120 rfl rfl, lw_g_sel 57 rfl rfl, tb_1 8 rfl rfl, tb_6 121 rfl rfl, nh_RX7, pd_25⟩
theorem I_X7_has : VI yX7_has cX7_has 2 (some .int) 1 := ⟨tb_6 95 rfl rfl, tb_6 96 rfl rfl, tb_1 8 rfl rfl, tb_6 97 rfl rfl, nh_RX7, pd_4⟩
theorem I_X7_works : VI yX7_works cX7_works 3 (some .int) 2 := ⟨tb_6 107 rfl rfl, tb_6 108 rfl rfl, tb_1 8 rfl rfl, tb_6 109 rfl rfl, nh_RX7, pd_3⟩
theorem I_X7_both : VI yX7_both cX7_both 4 (some .int) 3 := ⟨tb_6 115 rfl rfl, tb_6 116 rfl rfl, tb_1 8 rfl rfl, tb_6 117 rfl rfl, nh_RX7, pd_27⟩
theorem I_X7_crossOnes : VI yX7_crossOnes cX7_crossOnes 3 (some .int) 0 := ⟨tb_6 208 rfl rfl, lw_g_sel 66 rfl rfl, tb_1 8 rfl rfl, tb_6 209 rfl rfl, nh_RX7, pd_11⟩
theorem I_X7_oddsOf : VI yX7_oddsOf cX7_oddsOf 6 (some .long) 1 := ⟨tb_6 132 rfl rfl, lw_g_sel 59 rfl rfl, tb_1 8 rfl rfl, tb_6 133 rfl rfl, nh_RX7, pd_32⟩
theorem I_X7_sumOf : VI yX7_sumOf cX7_sumOf 7 (some .long) 2 := ⟨tb_6 128 rfl rfl, lw_g_sel 58 rfl rfl, tb_1 8 rfl rfl, tb_6 129 rfl rfl, nh_RX7, pd_13⟩
theorem I_X7_odds : VI yX7_odds cX7_odds 2 (some .long) 1 := ⟨tb_6 123 rfl rfl, tb_6 124 rfl rfl, tb_1 8 rfl rfl, tb_6 125 rfl rfl, nh_RX7, pd_32⟩
theorem I_X7_atOnce : VI yX7_atOnce cX7_atOnce 3 (some .long) 2 := ⟨tb_6 135 rfl rfl, tb_6 136 rfl rfl, tb_1 8 rfl rfl, tb_6 137 rfl rfl, nh_RX7, pd_13⟩
theorem I_X7_day : VI yX7_day cX7_day 8 (some .long) 0 := ⟨tb_6 139 rfl rfl, tb_6 140 rfl rfl, tb_1 8 rfl rfl, tb_6 141 rfl rfl, nh_RX7, pd_7⟩
theorem I_X7_orders : SI yX7_orders cX7_orders 3 (some .int) 1 := ⟨tb_6 154 rfl rfl, tb_1 8 rfl rfl, tb_6 155 rfl rfl, nh_RX7, pd_4⟩
theorem I_X7_powerOf : VI yX7_powerOf cX7_powerOf 5 (some .int) 2 := ⟨tb_6 148 rfl rfl, lw_g_sel 60 rfl rfl, tb_1 8 rfl rfl, tb_6 149 rfl rfl, nh_RX7, pd_3⟩
theorem I_X7_power : VI yX7_power cX7_power 3 (some .int) 2 := ⟨tb_6 143 rfl rfl, tb_6 144 rfl rfl, tb_1 8 rfl rfl, tb_6 145 rfl rfl, nh_RX7, pd_3⟩
theorem I_X7_first : VI yX7_first cX7_first 6 (some .int) 0 := ⟨tb_6 157 rfl rfl, tb_6 158 rfl rfl, tb_1 8 rfl rfl, tb_6 159 rfl rfl, nh_RX7, pd_11⟩
theorem pd_38 : (parseMethodDescriptor "()LOnlyWhatFitsModel;").map (fun d => d.parameters.length) = some 0 := by decide +kernel
theorem I_X7_fresh : VI yX7_fresh cX7_fresh 1 (some (.object "OnlyWhatFitsModel")) 0 := ⟨tb_5 161 rfl rfl, lw_g_sel 30 rfl rfl, tb_1 8 rfl rfl, tb_5 162 rfl rfl, nh_RX7, pd_38⟩
theorem I_X7_firstWithRoom : VI yX7_firstWithRoom cX7_firstWithRoom 6 (some .int) 2 := ⟨tb_5 185 rfl rfl, lw_g_sel 34 rfl rfl, tb_1 8 rfl rfl, tb_5 186 rfl rfl, nh_RX7, pd_3⟩
theorem I_X7_holdWhole : VI yX7_holdWhole cX7_holdWhole 8 none 1 := ⟨tb_5 178 rfl rfl, lw_g_sel 33 rfl rfl, tb_1 8 rfl rfl, tb_5 179 rfl rfl, nh_RX7, pd_17⟩
theorem I_X7_nextWithRoom : VI yX7_nextWithRoom cX7_nextWithRoom 5 (some .int) 2 := ⟨tb_5 201 rfl rfl, lw_g_sel 38 rfl rfl, tb_1 8 rfl rfl, tb_5 202 rfl rfl, nh_RX7, pd_3⟩
theorem I_X7_surest : VI yX7_surest cX7_surest 3 (some .int) 0 := ⟨tb_5 197 rfl rfl, lw_g_sel 37 rfl rfl, tb_1 8 rfl rfl, tb_5 198 rfl rfl, nh_RX7, pd_11⟩
theorem I_X7_holdAll : VI yX7_holdAll cX7_holdAll 5 none 2 := ⟨tb_5 174 rfl rfl, lw_g_sel 32 rfl rfl, tb_1 8 rfl rfl, tb_5 175 rfl rfl, nh_RX7, pd_26⟩
theorem I_X7_lay : VI yX7_lay cX7_lay 3 (some .int) 1 := ⟨tb_6 161 rfl rfl, tb_6 162 rfl rfl, tb_1 8 rfl rfl, tb_6 163 rfl rfl, nh_RX7, pd_4⟩
theorem I_X7_wouldBy : VI yX7_wouldBy cX7_wouldBy 2 (some .long) 1 := ⟨tb_6 174 rfl rfl, lw_g_sel 62 rfl rfl, tb_1 8 rfl rfl, tb_6 175 rfl rfl, nh_RX7, pd_32⟩
theorem I_X7_would : VI yX7_would cX7_would 3 (some .long) 1 := ⟨tb_6 169 rfl rfl, tb_6 170 rfl rfl, tb_1 8 rfl rfl, tb_6 171 rfl rfl, nh_RX7, pd_32⟩
theorem I_X7_head : VI yX7_head cX7_head 7 (some .int) 0 := ⟨tb_6 178 rfl rfl, tb_6 179 rfl rfl, tb_1 8 rfl rfl, tb_6 180 rfl rfl, nh_RX7, pd_11⟩
theorem pd_39 : (parseMethodDescriptor "(LOnlyWhatFitsModel;I)V").map (fun d => d.parameters.length) = some 2 := by decide +kernel
theorem I_X7_tryFrom : VI yX7_tryFrom cX7_tryFrom 6 none 2 := ⟨tb_6 192 rfl rfl, lw_g_sel 64 rfl rfl, tb_1 8 rfl rfl, tb_6 193 rfl rfl, nh_RX7, pd_39⟩
theorem I_X7_findBest : VI yX7_findBest cX7_findBest 3 (some .boolean) 0 := ⟨tb_6 187 rfl rfl, lw_g_sel 63 rfl rfl, tb_1 8 rfl rfl, tb_6 188 rfl rfl, nh_RX7, pd_34⟩
theorem I_X7_best : VI yX7_best cX7_best 2 (some .int) 1 := ⟨tb_6 182 rfl rfl, tb_6 183 rfl rfl, tb_1 8 rfl rfl, tb_6 184 rfl rfl, nh_RX7, pd_4⟩
theorem I_X7_bestDay : VI yX7_bestDay cX7_bestDay 1 (some .long) 0 := ⟨tb_6 195 rfl rfl, tb_6 196 rfl rfl, tb_1 8 rfl rfl, tb_6 197 rfl rfl, nh_RX7, pd_7⟩
theorem I_X7_bears : VI yX7_bears cX7_bears 3 (some .int) 1 := ⟨tb_6 199 rfl rfl, tb_6 200 rfl rfl, tb_1 8 rfl rfl, tb_6 201 rfl rfl, nh_RX7, pd_4⟩
theorem I_X7_harms : VI yX7_harms cX7_harms 7 (some .int) 0 := ⟨tb_6 211 rfl rfl, tb_6 212 rfl rfl, tb_1 8 rfl rfl, tb_6 213 rfl rfl, nh_RX7, pd_11⟩
theorem I_X7_anyWorks : VI yX7_anyWorks cX7_anyWorks 4 (some .boolean) 2 := ⟨tb_6 220 rfl rfl, lw_g_sel 67 rfl rfl, tb_1 8 rfl rfl, tb_6 221 rfl rfl, nh_RX7, pd_21⟩
theorem I_X7_least : VI yX7_least cX7_least 3 (some .int) 0 := ⟨tb_6 215 rfl rfl, tb_6 216 rfl rfl, tb_1 8 rfl rfl, tb_6 217 rfl rfl, nh_RX7, pd_11⟩
theorem I_X7_stolen : VI yX7_stolen cX7_stolen 3 (some .int) 0 := ⟨tb_6 223 rfl rfl, tb_6 224 rfl rfl, tb_1 8 rfl rfl, tb_6 225 rfl rfl, nh_RX7, pd_11⟩
theorem I_X7_spare : VI yX7_spare cX7_spare 8 (some .int) 0 := ⟨tb_6 227 rfl rfl, tb_6 228 rfl rfl, tb_1 8 rfl rfl, tb_6 229 rfl rfl, nh_RX7, pd_11⟩
theorem I_X7_gift : VI yX7_gift cX7_gift 8 (some .long) 2 := ⟨tb_6 231 rfl rfl, tb_6 232 rfl rfl, tb_1 8 rfl rfl, tb_6 233 rfl rfl, nh_RX7, pd_13⟩
theorem I_X7_never : VI yX7_never cX7_never 4 (some .int) 1 := ⟨tb_6 236 rfl rfl, tb_6 237 rfl rfl, tb_1 8 rfl rfl, tb_6 238 rfl rfl, nh_RX7, pd_33⟩
theorem I_X7_with : VI yX7_with cX7_with 4 (some .int) 1 := ⟨tb_7 0 rfl rfl, tb_7 1 rfl rfl, tb_1 8 rfl rfl, tb_7 2 rfl rfl, nh_RX7, pd_4⟩
theorem I_X7_worstOf : VI yX7_worstOf cX7_worstOf 5 (some .int) 1 := ⟨tb_6 204 rfl rfl, lw_g_sel 65 rfl rfl, tb_1 8 rfl rfl, tb_6 205 rfl rfl, nh_RX7, pd_4⟩
theorem I_X7_safe : VI yX7_safe cX7_safe 4 (some .int) 1 := ⟨tb_7 4 rfl rfl, tb_7 5 rfl rfl, tb_1 8 rfl rfl, tb_7 6 rfl rfl, nh_RX7, pd_4⟩
theorem I_X7_alone : VI yX7_alone cX7_alone 4 (some .int) 1 := ⟨tb_7 9 rfl rfl, tb_7 10 rfl rfl, tb_1 8 rfl rfl, tb_7 11 rfl rfl, nh_RX7, pd_4⟩
theorem I_X7_key : VI yX7_key cX7_key 7 (some .int) 0 := ⟨tb_7 13 rfl rfl, tb_7 14 rfl rfl, tb_1 8 rfl rfl, tb_7 15 rfl rfl, nh_RX7, pd_11⟩
theorem I_X7_idle : VI yX7_idle cX7_idle 5 (some .int) 0 := ⟨tb_7 17 rfl rfl, tb_7 18 rfl rfl, tb_1 8 rfl rfl, tb_7 19 rfl rfl, nh_RX7, pd_11⟩
theorem I_X7_room : VI yX7_room cX7_room 3 (some .int) 0 := ⟨tb_7 21 rfl rfl, tb_7 22 rfl rfl, tb_1 8 rfl rfl, tb_7 23 rfl rfl, nh_RX7, pd_11⟩
theorem I_X7_swap : VI yX7_swap cX7_swap 4 (some .int) 2 := ⟨tb_7 25 rfl rfl, tb_7 26 rfl rfl, tb_1 8 rfl rfl, tb_7 27 rfl rfl, nh_RX7, pd_3⟩
theorem I_X7_trust : VI yX7_trust cX7_trust 5 (some .long) 2 := ⟨tb_7 29 rfl rfl, tb_7 30 rfl rfl, tb_1 8 rfl rfl, tb_7 31 rfl rfl, nh_RX7, pd_13⟩
theorem I_X7_noTold : VI yX7_noTold cX7_noTold 4 (some .int) 2 := ⟨tb_7 38 rfl rfl, lw_g_sel 68 rfl rfl, tb_1 8 rfl rfl, tb_7 39 rfl rfl, nh_RX7, pd_3⟩
theorem I_X7_comeOn : VI yX7_comeOn cX7_comeOn 3 (some .int) 2 := ⟨tb_7 43 rfl rfl, lw_g_sel 69 rfl rfl, tb_1 8 rfl rfl, tb_7 44 rfl rfl, nh_RX7, pd_3⟩
theorem I_X7_judge : VI yX7_judge cX7_judge 6 (some .int) 3 := ⟨tb_7 33 rfl rfl, tb_7 34 rfl rfl, tb_1 8 rfl rfl, tb_7 35 rfl rfl, nh_RX7, pd_27⟩
theorem I_X7_told : VI yX7_told cX7_told 7 (some .int) 2 := ⟨tb_7 46 rfl rfl, tb_7 47 rfl rfl, tb_1 8 rfl rfl, tb_7 48 rfl rfl, nh_RX7, pd_3⟩
theorem I_X7_draw : VI yX7_draw cX7_draw 2 (some .int) 1 := ⟨tb_7 60 rfl rfl, lw_g_sel 71 rfl rfl, tb_1 8 rfl rfl, tb_7 61 rfl rfl, nh_RX7, pd_4⟩
theorem I_X7_goes : VI yX7_goes cX7_goes 7 (some .int) 0 := ⟨tb_7 56 rfl rfl, lw_g_sel 70 rfl rfl, tb_1 8 rfl rfl, tb_7 57 rfl rfl, nh_RX7, pd_11⟩
theorem I_X7_days : VI yX7_days cX7_days 4 (some .int) 1 := ⟨tb_7 50 rfl rfl, tb_7 51 rfl rfl, tb_1 8 rfl rfl, tb_7 52 rfl rfl, nh_RX7, pd_4⟩
theorem I_X7_seed : VI yX7_seed cX7_seed 3 (some .int) 1 := ⟨tb_7 64 rfl rfl, tb_7 65 rfl rfl, tb_1 8 rfl rfl, tb_7 66 rfl rfl, nh_RX7, pd_4⟩
theorem pd_40 : (parseMethodDescriptor "([I[I)V").map (fun d => d.parameters.length) = some 2 := by decide +kernel
theorem I_X7_over : SI yX7_over cX7_over 3 none 2 := ⟨tb_5 170 rfl rfl, tb_1 8 rfl rfl, tb_5 171 rfl rfl, nh_RX7, pd_40⟩
theorem pd_41 : (parseMethodDescriptor "(LOnlyWhatFitsModel;)V").map (fun d => d.parameters.length) = some 1 := by decide +kernel
theorem I_X7_takeFrom : VI yX7_takeFrom cX7_takeFrom 3 none 1 := ⟨tb_5 167 rfl rfl, lw_g_sel 31 rfl rfl, tb_1 8 rfl rfl, tb_5 168 rfl rfl, nh_RX7, pd_41⟩
theorem I_X7_image : VI yX7_image cX7_image 1 (some .int) 0 := ⟨tb_7 68 rfl rfl, tb_7 69 rfl rfl, tb_1 8 rfl rfl, tb_7 70 rfl rfl, nh_RX7, pd_11⟩
theorem I_X7_back : VI yX7_back cX7_back 1 (some .int) 0 := ⟨tb_7 72 rfl rfl, tb_7 73 rfl rfl, tb_1 8 rfl rfl, tb_7 74 rfl rfl, nh_RX7, pd_11⟩
theorem I_X7_status : VI yX7_status cX7_status 4 (some .int) 1 := ⟨tb_7 76 rfl rfl, tb_7 77 rfl rfl, tb_1 8 rfl rfl, tb_7 78 rfl rfl, nh_RX7, pd_4⟩
theorem nh_RJ6 : RJ6 ≠ "java/lang/invoke/MethodHandle" ∧ RJ6 ≠ "java/lang/invoke/VarHandle" := by decide +kernel
theorem I_J6_bitCount_0f7a4 : SI yJ6_bitCount_0f7a4 cJ6_bitCount_0f7a4 1 (some .int) 1 := ⟨tb_4 18 rfl rfl, tb_1 16 rfl rfl, tb_4 19 rfl rfl, nh_RJ6, pd_4⟩
theorem nh_RJ0 : RJ0 ≠ "java/lang/invoke/MethodHandle" ∧ RJ0 ≠ "java/lang/invoke/VarHandle" := by decide +kernel
theorem I_J0_length_8abf5 : VI yJ0_length_8abf5 cJ0_length_8abf5 1 (some .int) 0 := ⟨tb_3 53 rfl rfl, tb_3 54 rfl rfl, tb_1 12 rfl rfl, tb_3 55 rfl rfl, nh_RJ0, pd_11⟩
theorem pd_42 : (parseMethodDescriptor "(I)C").map (fun d => d.parameters.length) = some 1 := by decide +kernel
theorem I_J0_charAt_5068e : VI yJ0_charAt_5068e cJ0_charAt_5068e 2 (some .char) 1 := ⟨tb_3 63 rfl rfl, tb_3 64 rfl rfl, tb_1 12 rfl rfl, tb_3 65 rfl rfl, nh_RJ0, pd_42⟩
theorem pd_43 : (parseMethodDescriptor "()B").map (fun d => d.parameters.length) = some 0 := by decide +kernel
theorem I_J0_coder_7d493 : VI yJ0_coder_7d493 cJ0_coder_7d493 1 (some .byte) 0 := ⟨tb_3 57 rfl rfl, tb_3 58 rfl rfl, tb_1 12 rfl rfl, tb_3 59 rfl rfl, nh_RJ0, pd_43⟩
theorem I_J0_isLatin1_aae02 : VI yJ0_isLatin1_aae02 cJ0_isLatin1_aae02 1 (some .boolean) 0 := ⟨tb_3 67 rfl rfl, tb_3 68 rfl rfl, tb_1 12 rfl rfl, tb_3 69 rfl rfl, nh_RJ0, pd_34⟩
theorem I_J0_checkIndex_df160 : SI yJ0_checkIndex_df160 cJ0_checkIndex_df160 2 none 2 := ⟨tb_3 74 rfl rfl, tb_1 12 rfl rfl, tb_3 75 rfl rfl, nh_RJ0, pd_26⟩
theorem nh_RJ1 : RJ1 ≠ "java/lang/invoke/MethodHandle" ∧ RJ1 ≠ "java/lang/invoke/VarHandle" := by decide +kernel
theorem pd_44 : (parseMethodDescriptor "([BI)C").map (fun d => d.parameters.length) = some 2 := by decide +kernel
theorem I_J1_charAt_3b067 : SI yJ1_charAt_3b067 cJ1_charAt_3b067 2 (some .char) 2 := ⟨tb_3 71 rfl rfl, tb_1 13 rfl rfl, tb_3 72 rfl rfl, nh_RJ1, pd_44⟩
theorem nh_RJ7 : RJ7 ≠ "java/lang/invoke/MethodHandle" ∧ RJ7 ≠ "java/lang/invoke/VarHandle" := by decide +kernel
theorem pd_47 : (parseMethodDescriptor "([JJ)V").map (fun d => d.parameters.length) = some 2 := by decide +kernel
theorem I_J7_fill_d0a16 : SI yJ7_fill_d0a16 cJ7_fill_d0a16 5 none 2 := ⟨tb_2 24 rfl rfl, tb_1 9 rfl rfl, tb_2 25 rfl rfl, nh_RJ7, pd_47⟩
theorem nh_RJ3 : RJ3 ≠ "java/lang/invoke/MethodHandle" ∧ RJ3 ≠ "java/lang/invoke/VarHandle" := by decide +kernel
theorem pd_48 : (parseMethodDescriptor "(IILjava/util/function/BiFunction;)I").map (fun d => d.parameters.length) = some 3 := by decide +kernel
theorem I_J3_checkIndex_8e157 : SI yJ3_checkIndex_8e157 cJ3_checkIndex_8e157 3 (some .int) 3 := ⟨tb_3 79 rfl rfl, tb_1 14 rfl rfl, tb_3 80 rfl rfl, nh_RJ3, pd_48⟩
theorem l_X6_1 : Cond.methodLink RX6 1 objectInit ∈ lw_g := tb_1 22 rfl rfl
theorem l_X5_3 : Cond.methodLink RX5 3 objectInit ∈ lw_g := tb_1 30 rfl rfl
theorem l_X6_28 : Cond.methodLink RX6 28 yX4_init ∈ lw_g := tb_1 112 rfl rfl
theorem l_X4_3 : Cond.methodLink RX4 3 objectInit ∈ lw_g := tb_1 115 rfl rfl
theorem l_X0_3 : Cond.methodLink RX0 3 objectInit ∈ lw_g := tb_1 132 rfl rfl
theorem l_X1_3 : Cond.methodLink RX1 3 objectInit ∈ lw_g := tb_1 142 rfl rfl
theorem l_X3_3 : Cond.methodLink RX3 3 objectInit ∈ lw_g := tb_1 170 rfl rfl
theorem l_X6_56 : Cond.methodLink RX6 56 yX2_init ∈ lw_g := tb_1 190 rfl rfl
theorem l_X2_3 : Cond.methodLink RX2 3 objectInit ∈ lw_g := tb_1 193 rfl rfl
theorem l_X6_72 : Cond.methodLink RX6 72 yX2_isShelf ∈ lw_g := tb_2 10 rfl rfl
theorem l_X6_76 : Cond.methodLink RX6 76 yX6_refuse ∈ lw_g := tb_2 14 rfl rfl
theorem l_X6_80 : Cond.methodLink RX6 80 yX2_putRow ∈ lw_g := tb_2 18 rfl rfl
theorem l_X2_26 : Cond.methodLink RX2 26 yX2_isShelf ∈ lw_g := tb_2 22 rfl rfl
theorem l_X2_43 : Cond.methodLink RX2 43 yJ7_fill_d0a16 ∈ lw_g := tb_2 23 rfl rfl
theorem l_X6_84 : Cond.methodLink RX6 84 yX2_rowFault ∈ lw_g := tb_2 30 rfl rfl
theorem l_X2_37 : Cond.methodLink RX2 37 yX2_isOfHolding ∈ lw_g := tb_2 34 rfl rfl
theorem l_X2_30 : Cond.methodLink RX2 30 yX2_thingOn ∈ lw_g := tb_2 38 rfl rfl
theorem l_X2_34 : Cond.methodLink RX2 34 yX2_isBare ∈ lw_g := tb_2 42 rfl rfl
theorem l_X6_87 : Cond.methodLink RX6 87 yX2_sizeOf ∈ lw_g := tb_2 46 rfl rfl
theorem l_X2_40 : Cond.methodLink RX2 40 yX2_isOfRow ∈ lw_g := tb_2 50 rfl rfl
theorem l_X6_90 : Cond.methodLink RX6 90 yX2_putElement ∈ lw_g := tb_2 54 rfl rfl
theorem l_X2_49 : Cond.methodLink RX2 49 yX2_sizeOf ∈ lw_g := tb_2 58 rfl rfl
theorem l_X2_52 : Cond.methodLink RX2 52 yX2_lowestBits ∈ lw_g := tb_2 59 rfl rfl
theorem l_X6_94 : Cond.methodLink RX6 94 yX2_isOfHolding ∈ lw_g := tb_2 66 rfl rfl
theorem l_X6_97 : Cond.methodLink RX6 97 yX2_isBare ∈ lw_g := tb_2 67 rfl rfl
theorem l_X6_100 : Cond.methodLink RX6 100 yX2_thingOn ∈ lw_g := tb_2 68 rfl rfl
theorem l_X6_103 : Cond.methodLink RX6 103 yX2_copyElements ∈ lw_g := tb_2 69 rfl rfl
theorem l_X2_56 : Cond.methodLink RX2 56 arraycopyName ∈ lw_g := tb_2 73 rfl rfl
theorem l_X6_107 : Cond.methodLink RX6 107 yX2_elementAt ∈ lw_g := tb_2 80 rfl rfl
theorem l_X6_111 : Cond.methodLink RX6 111 yX2_putHolding ∈ lw_g := tb_2 92 rfl rfl
theorem l_X6_114 : Cond.methodLink RX6 114 yX2_holdingFault ∈ lw_g := tb_2 100 rfl rfl
theorem l_X6_117 : Cond.methodLink RX6 117 yX2_kindOn ∈ lw_g := tb_2 104 rfl rfl
theorem l_X6_120 : Cond.methodLink RX6 120 yX6_isUnder ∈ lw_g := tb_2 108 rfl rfl
theorem l_X6_124 : Cond.methodLink RX6 124 yX2_byOn ∈ lw_g := tb_2 111 rfl rfl
theorem l_X6_127 : Cond.methodLink RX6 127 yX6_tryHolding ∈ lw_g := tb_2 115 rfl rfl
theorem l_X6_191 : Cond.methodLink RX6 191 yX5_takeOver ∈ lw_g := tb_2 119 rfl rfl
theorem l_X5_50 : Cond.methodLink RX5 50 arraycopyName ∈ lw_g := tb_2 123 rfl rfl
theorem l_X6_260 : Cond.methodLink RX6 260 yX0_tellAnew ∈ lw_g := tb_2 124 rfl rfl
theorem l_X0_33 : Cond.methodLink RX0 33 yX0_giveWhole ∈ lw_g := tb_2 128 rfl rfl
theorem l_X0_57 : Cond.methodLink RX0 57 yX0_worthiest ∈ lw_g := tb_2 132 rfl rfl
theorem l_X0_63 : Cond.methodLink RX0 63 yX0_giveNeeds ∈ lw_g := tb_2 136 rfl rfl
theorem l_X0_71 : Cond.methodLink RX0 71 yX0_firstWithRoom ∈ lw_g := tb_2 140 rfl rfl
theorem l_X0_67 : Cond.methodLink RX0 67 yX5_allPeople ∈ lw_g := tb_2 144 rfl rfl
theorem l_X0_74 : Cond.methodLink RX0 74 yX0_taken ∈ lw_g := tb_2 148 rfl rfl
theorem l_X0_37 : Cond.methodLink RX0 37 yX0_giveRound ∈ lw_g := tb_2 152 rfl rfl
theorem l_X0_81 : Cond.methodLink RX0 81 yX0_nextWithRoom ∈ lw_g := tb_2 156 rfl rfl
theorem l_X0_41 : Cond.methodLink RX0 41 yX0_giveRoundAgain ∈ lw_g := tb_2 160 rfl rfl
theorem l_X0_44 : Cond.methodLink RX0 44 yX0_giveSure ∈ lw_g := tb_2 164 rfl rfl
theorem l_X0_48 : Cond.methodLink RX0 48 Lib.Math.min.name ∈ lw_g := tb_2 168 rfl rfl
theorem l_X6_131 : Cond.methodLink RX6 131 yX5_secondCount ∈ lw_g := tb_2 171 rfl rfl
theorem l_X6_135 : Cond.methodLink RX6 135 yX5_holderCount ∈ lw_g := tb_2 175 rfl rfl
theorem l_X6_141 : Cond.methodLink RX6 141 yX5_addPart ∈ lw_g := tb_2 183 rfl rfl
theorem l_X6_144 : Cond.methodLink RX6 144 yX5_isSetOfParts ∈ lw_g := tb_2 191 rfl rfl
theorem l_X5_60 : Cond.methodLink RX5 60 yX5_allParts ∈ lw_g := tb_2 195 rfl rfl
theorem l_X6_150 : Cond.methodLink RX6 150 yX5_addMachine ∈ lw_g := tb_2 199 rfl rfl
theorem l_X6_157 : Cond.methodLink RX6 157 yX5_addOne ∈ lw_g := tb_2 207 rfl rfl
theorem l_X6_160 : Cond.methodLink RX6 160 yX5_isOne ∈ lw_g := tb_2 215 rfl rfl
theorem l_X6_170 : Cond.methodLink RX6 170 yX5_isPart ∈ lw_g := tb_2 227 rfl rfl
theorem l_X6_179 : Cond.methodLink RX6 179 yX5_hasRoom ∈ lw_g := tb_2 231 rfl rfl
theorem l_X5_67 : Cond.methodLink RX5 67 yX5_isOne ∈ lw_g := tb_2 235 rfl rfl
theorem l_X5_70 : Cond.methodLink RX5 70 yX5_piecesOf ∈ lw_g := tb_2 236 rfl rfl
theorem l_X6_182 : Cond.methodLink RX6 182 yX3_length ∈ lw_g := tb_3 4 rfl rfl
theorem l_X6_185 : Cond.methodLink RX6 185 yX3_append ∈ lw_g := tb_3 8 rfl rfl
theorem l_X6_188 : Cond.methodLink RX6 188 yX3_clear ∈ lw_g := tb_3 16 rfl rfl
theorem l_X6_195 : Cond.methodLink RX6 195 yX3_readInto ∈ lw_g := tb_3 24 rfl rfl
theorem l_X3_28 : Cond.methodLink RX3 28 yX3_step ∈ lw_g := tb_3 28 rfl rfl
theorem l_X3_110 : Cond.methodLink RX3 110 yX3_endOf ∈ lw_g := tb_3 32 rfl rfl
theorem l_X3_113 : Cond.methodLink RX3 113 yX3_byteAt ∈ lw_g := tb_3 36 rfl rfl
theorem l_X3_117 : Cond.methodLink RX3 117 yX3_isOf ∈ lw_g := tb_3 40 rfl rfl
theorem l_X3_31 : Cond.methodLink RX3 31 yX3_readStatement ∈ lw_g := tb_3 43 rfl rfl
theorem l_X3_37 : Cond.methodLink RX3 37 yX3_isWord ∈ lw_g := tb_3 48 rfl rfl
theorem l_X3_121 : Cond.methodLink RX3 121 yJ0_length_8abf5 ∈ lw_g := tb_3 52 rfl rfl
theorem l_J0_335 : Cond.methodLink RJ0 335 yJ0_coder_7d493 ∈ lw_g := tb_3 56 rfl rfl
theorem l_X3_126 : Cond.methodLink RX3 126 yJ0_charAt_5068e ∈ lw_g := tb_3 62 rfl rfl
theorem l_J0_492 : Cond.methodLink RJ0 492 yJ0_isLatin1_aae02 ∈ lw_g := tb_3 66 rfl rfl
theorem l_J0_495 : Cond.methodLink RJ0 495 yJ1_charAt_3b067 ∈ lw_g := tb_3 70 rfl rfl
theorem l_J1_9 : Cond.methodLink RJ1 9 yJ0_checkIndex_df160 ∈ lw_g := tb_3 73 rfl rfl
theorem l_J0_1059 : Cond.methodLink RJ0 1059 yJ3_checkIndex_8e157 ∈ lw_g := tb_3 78 rfl rfl
theorem l_X3_41 : Cond.methodLink RX3 41 yX3_readPart ∈ lw_g := tb_3 100 rfl rfl
theorem l_X3_59 : Cond.methodLink RX3 59 yX5_addPart ∈ lw_g := tb_3 104 rfl rfl
theorem l_X3_70 : Cond.methodLink RX3 70 yX3_numberIn ∈ lw_g := tb_3 106 rfl rfl
theorem l_X3_74 : Cond.methodLink RX3 74 yX5_hasRoom ∈ lw_g := tb_3 110 rfl rfl
theorem l_X3_46 : Cond.methodLink RX3 46 yX3_readMachine ∈ lw_g := tb_3 113 rfl rfl
theorem l_X3_96 : Cond.methodLink RX3 96 yX5_addMachine ∈ lw_g := tb_3 119 rfl rfl
theorem l_X3_51 : Cond.methodLink RX3 51 yX3_readOne ∈ lw_g := tb_3 121 rfl rfl
theorem l_X3_101 : Cond.methodLink RX3 101 yX5_addOne ∈ lw_g := tb_3 126 rfl rfl
theorem l_X3_56 : Cond.methodLink RX3 56 yX3_readGives ∈ lw_g := tb_3 129 rfl rfl
theorem l_X6_199 : Cond.methodLink RX6 199 yX3_faultPlace ∈ lw_g := tb_3 133 rfl rfl
theorem l_X6_202 : Cond.methodLink RX6 202 yX5_isMachine ∈ lw_g := tb_3 145 rfl rfl
theorem l_X6_214 : Cond.methodLink RX6 214 yX5_piecesOf ∈ lw_g := tb_3 153 rfl rfl
theorem l_X6_220 : Cond.methodLink RX6 220 yX5_isSetOfPeople ∈ lw_g := tb_3 158 rfl rfl
theorem l_X5_64 : Cond.methodLink RX5 64 yX5_allPeople ∈ lw_g := tb_3 162 rfl rfl
theorem l_X6_223 : Cond.methodLink RX6 223 yX5_partsWith ∈ lw_g := tb_3 163 rfl rfl
theorem l_X5_74 : Cond.methodLink RX5 74 yX5_isIn ∈ lw_g := tb_3 167 rfl rfl
theorem l_X6_226 : Cond.methodLink RX6 226 yX5_isWorkedWith ∈ lw_g := tb_3 174 rfl rfl
theorem l_X5_56 : Cond.methodLink RX5 56 yX5_isMachine ∈ lw_g := tb_3 178 rfl rfl
theorem l_X6_229 : Cond.methodLink RX6 229 yX5_isPair ∈ lw_g := tb_3 183 rfl rfl
theorem l_X6_232 : Cond.methodLink RX6 232 yX5_areBothWorked ∈ lw_g := tb_3 187 rfl rfl
theorem l_X5_81 : Cond.methodLink RX5 81 yX5_isPair ∈ lw_g := tb_3 191 rfl rfl
theorem l_X5_84 : Cond.methodLink RX5 84 yX5_partsWith ∈ lw_g := tb_3 192 rfl rfl
theorem l_X5_87 : Cond.methodLink RX5 87 yX5_doublesWith ∈ lw_g := tb_3 193 rfl rfl
theorem l_X6_236 : Cond.methodLink RX6 236 yX4_oddsOf ∈ lw_g := tb_3 201 rfl rfl
theorem l_X4_39 : Cond.methodLink RX4 39 yX4_weigh ∈ lw_g := tb_3 205 rfl rfl
theorem l_X4_43 : Cond.methodLink RX4 43 yX4_gather ∈ lw_g := tb_3 209 rfl rfl
theorem l_X4_35 : Cond.methodLink RX4 35 yX5_partsOfOne ∈ lw_g := tb_3 213 rfl rfl
theorem l_X4_46 : Cond.methodLink RX4 46 yX5_allPeople ∈ lw_g := tb_3 217 rfl rfl
theorem l_X4_50 : Cond.methodLink RX4 50 yX5_isWorkedWith ∈ lw_g := tb_3 218 rfl rfl
theorem l_X6_240 : Cond.methodLink RX6 240 yX4_oddsOfPair ∈ lw_g := tb_3 223 rfl rfl
theorem l_X4_54 : Cond.methodLink RX4 54 yX5_areBothWorked ∈ lw_g := tb_3 227 rfl rfl
theorem l_X6_244 : Cond.methodLink RX6 244 yX4_worthOfDay ∈ lw_g := tb_3 232 rfl rfl
theorem l_X4_58 : Cond.methodLink RX4 58 yX4_worthAsWeighed ∈ lw_g := tb_3 236 rfl rfl
theorem l_X4_62 : Cond.methodLink RX4 62 yX5_worthWith ∈ lw_g := tb_4 0 rfl rfl
theorem l_X6_248 : Cond.methodLink RX6 248 yX4_gather ∈ lw_g := tb_4 8 rfl rfl
theorem l_X6_251 : Cond.methodLink RX6 251 yX4_turnsOn ∈ lw_g := tb_4 9 rfl rfl
theorem l_X4_65 : Cond.methodLink RX4 65 yX4_partsOf ∈ lw_g := tb_4 13 rfl rfl
theorem l_X4_68 : Cond.methodLink RX4 68 yJ6_bitCount_0f7a4 ∈ lw_g := tb_4 17 rfl rfl
theorem l_X4_73 : Cond.methodLink RX4 73 yX4_ordersOf ∈ lw_g := tb_4 23 rfl rfl
theorem l_X6_257 : Cond.methodLink RX6 257 yX4_worthOfTurnsOn ∈ lw_g := tb_4 32 rfl rfl
theorem l_X4_82 : Cond.methodLink RX4 82 yX4_turnsOn ∈ lw_g := tb_4 36 rfl rfl
theorem l_X6_264 : Cond.methodLink RX6 264 yX6_isTooBigForBest ∈ lw_g := tb_4 53 rfl rfl
theorem l_X6_268 : Cond.methodLink RX6 268 yX1_run ∈ lw_g := tb_4 57 rfl rfl
theorem l_X1_45 : Cond.methodLink RX1 45 yX1_oddsThatAllCome ∈ lw_g := tb_4 61 rfl rfl
theorem l_X1_55 : Cond.methodLink RX1 55 yX1_choose ∈ lw_g := tb_4 66 rfl rfl
theorem l_X1_68 : Cond.methodLink RX1 68 yX1_weigh ∈ lw_g := tb_4 69 rfl rfl
theorem l_X1_82 : Cond.methodLink RX1 82 arraycopyName ∈ lw_g := tb_4 73 rfl rfl
theorem l_X1_72 : Cond.methodLink RX1 72 yX1_take ∈ lw_g := tb_4 74 rfl rfl
theorem l_X6_271 : Cond.methodLink RX6 271 yX1_holderOf ∈ lw_g := tb_4 78 rfl rfl
theorem l_X6_274 : Cond.methodLink RX6 274 yX1_greatestDay ∈ lw_g := tb_4 86 rfl rfl
theorem l_X6_278 : Cond.methodLink RX6 278 yX4_bornBy ∈ lw_g := tb_4 94 rfl rfl
theorem l_X4_86 : Cond.methodLink RX4 86 yX5_crossPeople ∈ lw_g := tb_4 98 rfl rfl
theorem l_X4_89 : Cond.methodLink RX4 89 Lib.Math.min.name ∈ lw_g := tb_4 102 rfl rfl
theorem l_X6_282 : Cond.methodLink RX6 282 yX5_allPeople ∈ lw_g := tb_4 111 rfl rfl
theorem l_X6_285 : Cond.methodLink RX6 285 yJ6_bitCount_0f7a4 ∈ lw_g := tb_4 112 rfl rfl
theorem l_X6_290 : Cond.methodLink RX6 290 yX4_partsOf ∈ lw_g := tb_4 113 rfl rfl
theorem l_X6_293 : Cond.methodLink RX6 293 yX5_isAnyWorkedWith ∈ lw_g := tb_4 114 rfl rfl
theorem l_X5_78 : Cond.methodLink RX5 78 yX5_machinesWith ∈ lw_g := tb_4 118 rfl rfl
theorem l_X6_296 : Cond.methodLink RX6 296 yX5_allParts ∈ lw_g := tb_4 126 rfl rfl
theorem l_X6_299 : Cond.methodLink RX6 299 yX4_worthAsWeighed ∈ lw_g := tb_4 131 rfl rfl
theorem l_X6_306 : Cond.methodLink RX6 306 yX5_allMachines ∈ lw_g := tb_4 142 rfl rfl
theorem l_X6_309 : Cond.methodLink RX6 309 yX5_machinesWith ∈ lw_g := tb_4 146 rfl rfl
theorem l_X6_312 : Cond.methodLink RX6 312 yX5_partsOfOne ∈ lw_g := tb_4 159 rfl rfl
theorem l_X6_315 : Cond.methodLink RX6 315 yX5_machinesTouchedBy ∈ lw_g := tb_4 164 rfl rfl
theorem l_X6_318 : Cond.methodLink RX6 318 yX5_handOver ∈ lw_g := tb_4 184 rfl rfl
theorem l_X6_322 : Cond.methodLink RX6 322 yX6_toldFault ∈ lw_g := tb_4 192 rfl rfl
theorem l_X6_325 : Cond.methodLink RX6 325 yX6_partsOnToldDay ∈ lw_g := tb_4 196 rfl rfl
theorem l_X6_337 : Cond.methodLink RX6 337 yX5_crossPeople ∈ lw_g := tb_4 200 rfl rfl
theorem l_X6_328 : Cond.methodLink RX6 328 yX5_worthWith ∈ lw_g := tb_4 205 rfl rfl
theorem l_X6_331 : Cond.methodLink RX6 331 yX5_passDay ∈ lw_g := tb_4 210 rfl rfl
theorem l_X5_90 : Cond.methodLink RX5 90 yX5_drawTenth ∈ lw_g := tb_4 214 rfl rfl
theorem l_X5_93 : Cond.methodLink RX5 93 yX5_shareOut ∈ lw_g := tb_4 219 rfl rfl
theorem l_X5_97 : Cond.methodLink RX5 97 yX5_worthWith ∈ lw_g := tb_4 223 rfl rfl
theorem l_X6_340 : Cond.methodLink RX6 340 yX2_fullCount ∈ lw_g := tb_5 0 rfl rfl
theorem l_X7_1 : Cond.methodLink RX7 1 objectInit ∈ lw_g := tb_5 9 rfl rfl
theorem l_X7_67 : Cond.methodLink RX7 67 yX7_in ∈ lw_g := tb_5 114 rfl rfl
theorem l_X7_83 : Cond.methodLink RX7 83 yX7_refuse ∈ lw_g := tb_5 119 rfl rfl
theorem l_X7_87 : Cond.methodLink RX7 87 yX7_noRow ∈ lw_g := tb_5 127 rfl rfl
theorem l_X7_90 : Cond.methodLink RX7 90 yX7_fit ∈ lw_g := tb_5 131 rfl rfl
theorem l_X7_98 : Cond.methodLink RX7 98 yX7_isUnder ∈ lw_g := tb_5 156 rfl rfl
theorem l_X7_102 : Cond.methodLink RX7 102 yX7_fresh ∈ lw_g := tb_5 159 rfl rfl
theorem l_X7_278 : Cond.methodLink RX7 278 yX7_init ∈ lw_g := tb_5 164 rfl rfl
theorem l_X7_237 : Cond.methodLink RX7 237 yX7_takeFrom ∈ lw_g := tb_5 165 rfl rfl
theorem l_X7_350 : Cond.methodLink RX7 350 yX7_over ∈ lw_g := tb_5 169 rfl rfl
theorem l_X7_106 : Cond.methodLink RX7 106 yX7_holdAll ∈ lw_g := tb_5 172 rfl rfl
theorem l_X7_282 : Cond.methodLink RX7 282 yX7_holdWhole ∈ lw_g := tb_5 176 rfl rfl
theorem l_X7_244 : Cond.methodLink RX7 244 yX7_isIn ∈ lw_g := tb_5 180 rfl rfl
theorem l_X7_279 : Cond.methodLink RX7 279 yX7_firstWithRoom ∈ lw_g := tb_5 183 rfl rfl
theorem l_X7_135 : Cond.methodLink RX7 135 yX7_hasRoom ∈ lw_g := tb_5 187 rfl rfl
theorem l_X7_129 : Cond.methodLink RX7 129 yX7_piecesOf ∈ lw_g := tb_5 191 rfl rfl
theorem l_X7_286 : Cond.methodLink RX7 286 yX7_surest ∈ lw_g := tb_5 195 rfl rfl
theorem l_X7_289 : Cond.methodLink RX7 289 yX7_nextWithRoom ∈ lw_g := tb_5 199 rfl rfl
theorem l_X7_114 : Cond.methodLink RX7 114 yX7_held ∈ lw_g := tb_5 203 rfl rfl
theorem l_X7_122 : Cond.methodLink RX7 122 yX7_newOne ∈ lw_g := tb_5 221 rfl rfl
theorem l_X7_125 : Cond.methodLink RX7 125 yX7_isOne ∈ lw_g := tb_5 229 rfl rfl
theorem l_X7_132 : Cond.methodLink RX7 132 yX7_isPart ∈ lw_g := tb_6 1 rfl rfl
theorem l_X7_234 : Cond.methodLink RX7 234 yX7_readAll ∈ lw_g := tb_6 17 rfl rfl
theorem l_X7_184 : Cond.methodLink RX7 184 yX7_look ∈ lw_g := tb_6 21 rfl rfl
theorem l_X7_154 : Cond.methodLink RX7 154 yX7_isLetter ∈ lw_g := tb_6 25 rfl rfl
theorem l_X7_157 : Cond.methodLink RX7 157 yX7_isDigit ∈ lw_g := tb_6 28 rfl rfl
theorem l_X7_231 : Cond.methodLink RX7 231 yX7_statement ∈ lw_g := tb_6 33 rfl rfl
theorem l_X7_187 : Cond.methodLink RX7 187 yX7_isWord ∈ lw_g := tb_6 38 rfl rfl
theorem l_X7_167 : Cond.methodLink RX7 167 yJ0_length_8abf5 ∈ lw_g := tb_6 42 rfl rfl
theorem l_X7_173 : Cond.methodLink RX7 173 yJ0_charAt_5068e ∈ lw_g := tb_6 43 rfl rfl
theorem l_X7_215 : Cond.methodLink RX7 215 yX7_partTold ∈ lw_g := tb_6 44 rfl rfl
theorem l_X7_194 : Cond.methodLink RX7 194 yX7_part ∈ lw_g := tb_6 48 rfl rfl
theorem l_X7_199 : Cond.methodLink RX7 199 yX7_gets ∈ lw_g := tb_6 50 rfl rfl
theorem l_X7_177 : Cond.methodLink RX7 177 yX7_wrong ∈ lw_g := tb_6 54 rfl rfl
theorem l_X7_218 : Cond.methodLink RX7 218 yX7_machineTold ∈ lw_g := tb_6 60 rfl rfl
theorem l_X7_206 : Cond.methodLink RX7 206 yX7_tells ∈ lw_g := tb_6 64 rfl rfl
theorem l_X7_191 : Cond.methodLink RX7 191 yX7_number ∈ lw_g := tb_6 68 rfl rfl
theorem l_X7_241 : Cond.methodLink RX7 241 yX7_isMachine ∈ lw_g := tb_6 86 rfl rfl
theorem l_X7_253 : Cond.methodLink RX7 253 yX7_all ∈ lw_g := tb_6 98 rfl rfl
theorem l_X7_247 : Cond.methodLink RX7 247 yX7_hasOf ∈ lw_g := tb_6 102 rfl rfl
theorem l_X7_250 : Cond.methodLink RX7 250 yX7_worksOf ∈ lw_g := tb_6 110 rfl rfl
theorem l_X7_256 : Cond.methodLink RX7 256 yX7_bothOf ∈ lw_g := tb_6 118 rfl rfl
theorem l_X7_264 : Cond.methodLink RX7 264 yX7_sumOf ∈ lw_g := tb_6 126 rfl rfl
theorem l_X7_260 : Cond.methodLink RX7 260 yX7_oddsOf ∈ lw_g := tb_6 130 rfl rfl
theorem l_X7_274 : Cond.methodLink RX7 274 yX7_powerOf ∈ lw_g := tb_6 146 rfl rfl
theorem l_X7_268 : Cond.methodLink RX7 268 yX7_bits ∈ lw_g := tb_6 150 rfl rfl
theorem l_X7_271 : Cond.methodLink RX7 271 yX7_orders ∈ lw_g := tb_6 153 rfl rfl
theorem l_X7_292 : Cond.methodLink RX7 292 yX7_noHolding ∈ lw_g := tb_6 164 rfl rfl
theorem l_X7_299 : Cond.methodLink RX7 299 yX7_wouldBy ∈ lw_g := tb_6 172 rfl rfl
theorem l_X7_295 : Cond.methodLink RX7 295 yX7_day ∈ lw_g := tb_6 176 rfl rfl
theorem l_X7_311 : Cond.methodLink RX7 311 yX7_findBest ∈ lw_g := tb_6 185 rfl rfl
theorem l_X7_305 : Cond.methodLink RX7 305 yX7_tryFrom ∈ lw_g := tb_6 190 rfl rfl
theorem l_X7_314 : Cond.methodLink RX7 314 yX7_worstOf ∈ lw_g := tb_6 202 rfl rfl
theorem l_X7_322 : Cond.methodLink RX7 322 yX7_crossOnes ∈ lw_g := tb_6 206 rfl rfl
theorem l_X7_317 : Cond.methodLink RX7 317 yX7_anyWorks ∈ lw_g := tb_6 218 rfl rfl
theorem l_X7_329 : Cond.methodLink RX7 329 yX7_noTold ∈ lw_g := tb_7 36 rfl rfl
theorem l_X7_332 : Cond.methodLink RX7 332 yX7_comeOn ∈ lw_g := tb_7 41 rfl rfl
theorem l_X7_344 : Cond.methodLink RX7 344 yX7_goes ∈ lw_g := tb_7 54 rfl rfl
theorem l_X7_336 : Cond.methodLink RX7 336 yX7_draw ∈ lw_g := tb_7 58 rfl rfl
theorem f_X5_9 : Cond.fieldLink RX5 9 (TX5 0).1 (TX5 0).2.1 (TX5 0).2.2.1 ∈ lw_g := tb_1 31 rfl rfl
theorem g_X5_9 {G : Gt} {cc : ByteArray} {nL pc a : Nat} {ls : List (Nat × V)} {st : List V} {h : Hp} (C : Cx G cc nL RX5) {x : Int32} (d : decode cc pc = .ok (.getfield 9, 3)) (hx : xI h a 0 = x) (kk : Rr G (pc + 3) ls (vi x :: st) h) : Rr G pc ls (vr 5 a :: st) h := r_getI (k := 5) (j := 0) (T := TX5) (N := 12) C rfl rfl rfl (by decide) f_X5_9 d hx kk
theorem p_X5_9 {G : Gt} {cc : ByteArray} {nL pc a : Nat} {ls : List (Nat × V)} {st : List V} {h : Hp} (C : Cx G cc nL RX5) {x : Int32} (d : decode cc pc = .ok (.putfield 9, 3)) (hn : narrow (clTy 5 0) (.int x) = .int x) (hf : fits (clTy 5 0) (.int x) = true) (kk : Rr G (pc + 3) ls st (sI h a 0 x)) : Rr G pc ls (vi x :: vr 5 a :: st) h := r_putI (k := 5) (j := 0) (T := TX5) (N := 12) C rfl rfl rfl (by decide) f_X5_9 rfl hn hf d kk
theorem f_X0_15 : Cond.fieldLink RX0 15 (TX5 0).1 (TX5 0).2.1 (TX5 0).2.2.1 ∈ lw_g := tb_1 32 rfl rfl
theorem g_X0_15 {G : Gt} {cc : ByteArray} {nL pc a : Nat} {ls : List (Nat × V)} {st : List V} {h : Hp} (C : Cx G cc nL RX0) {x : Int32} (d : decode cc pc = .ok (.getfield 15, 3)) (hx : xI h a 0 = x) (kk : Rr G (pc + 3) ls (vi x :: st) h) : Rr G pc ls (vr 5 a :: st) h := r_getI (k := 5) (j := 0) (T := TX5) (N := 12) C rfl rfl rfl (by decide) f_X0_15 d hx kk
theorem f_X1_42 : Cond.fieldLink RX1 42 (TX5 0).1 (TX5 0).2.1 (TX5 0).2.2.1 ∈ lw_g := tb_1 33 rfl rfl
theorem g_X1_42 {G : Gt} {cc : ByteArray} {nL pc a : Nat} {ls : List (Nat × V)} {st : List V} {h : Hp} (C : Cx G cc nL RX1) {x : Int32} (d : decode cc pc = .ok (.getfield 42, 3)) (hx : xI h a 0 = x) (kk : Rr G (pc + 3) ls (vi x :: st) h) : Rr G pc ls (vr 5 a :: st) h := r_getI (k := 5) (j := 0) (T := TX5) (N := 12) C rfl rfl rfl (by decide) f_X1_42 d hx kk
theorem f_X6_138 : Cond.fieldLink RX6 138 (TX5 0).1 (TX5 0).2.1 (TX5 0).2.2.1 ∈ lw_g := tb_1 34 rfl rfl
theorem g_X6_138 {G : Gt} {cc : ByteArray} {nL pc a : Nat} {ls : List (Nat × V)} {st : List V} {h : Hp} (C : Cx G cc nL RX6) {x : Int32} (d : decode cc pc = .ok (.getfield 138, 3)) (hx : xI h a 0 = x) (kk : Rr G (pc + 3) ls (vi x :: st) h) : Rr G pc ls (vr 5 a :: st) h := r_getI (k := 5) (j := 0) (T := TX5) (N := 12) C rfl rfl rfl (by decide) f_X6_138 d hx kk
theorem f_X3_91 : Cond.fieldLink RX3 91 (TX5 0).1 (TX5 0).2.1 (TX5 0).2.2.1 ∈ lw_g := tb_1 35 rfl rfl
theorem g_X3_91 {G : Gt} {cc : ByteArray} {nL pc a : Nat} {ls : List (Nat × V)} {st : List V} {h : Hp} (C : Cx G cc nL RX3) {x : Int32} (d : decode cc pc = .ok (.getfield 91, 3)) (hx : xI h a 0 = x) (kk : Rr G (pc + 3) ls (vi x :: st) h) : Rr G pc ls (vr 5 a :: st) h := r_getI (k := 5) (j := 0) (T := TX5) (N := 12) C rfl rfl rfl (by decide) f_X3_91 d hx kk
theorem f_X5_15 : Cond.fieldLink RX5 15 (TX5 1).1 (TX5 1).2.1 (TX5 1).2.2.1 ∈ lw_g := tb_1 36 rfl rfl
theorem g_X5_15 {G : Gt} {cc : ByteArray} {nL pc a : Nat} {ls : List (Nat × V)} {st : List V} {h : Hp} (C : Cx G cc nL RX5) (d : decode cc pc = .ok (.getfield 15, 3)) (kk : Rr G (pc + 3) ls (vr 20 (a + 1) :: st) h) : Rr G pc ls (vr 5 a :: st) h := r_getP (k := 5) (j := 1) (T := TX5) (N := 12) C rfl rfl rfl (by decide) f_X5_15 d kk
theorem f_X0_21 : Cond.fieldLink RX0 21 (TX5 1).1 (TX5 1).2.1 (TX5 1).2.2.1 ∈ lw_g := tb_1 37 rfl rfl
theorem g_X0_21 {G : Gt} {cc : ByteArray} {nL pc a : Nat} {ls : List (Nat × V)} {st : List V} {h : Hp} (C : Cx G cc nL RX0) (d : decode cc pc = .ok (.getfield 21, 3)) (kk : Rr G (pc + 3) ls (vr 20 (a + 1) :: st) h) : Rr G pc ls (vr 5 a :: st) h := r_getP (k := 5) (j := 1) (T := TX5) (N := 12) C rfl rfl rfl (by decide) f_X0_21 d kk
theorem f_X3_78 : Cond.fieldLink RX3 78 (TX5 1).1 (TX5 1).2.1 (TX5 1).2.2.1 ∈ lw_g := tb_1 38 rfl rfl
theorem g_X3_78 {G : Gt} {cc : ByteArray} {nL pc a : Nat} {ls : List (Nat × V)} {st : List V} {h : Hp} (C : Cx G cc nL RX3) (d : decode cc pc = .ok (.getfield 78, 3)) (kk : Rr G (pc + 3) ls (vr 20 (a + 1) :: st) h) : Rr G pc ls (vr 5 a :: st) h := r_getP (k := 5) (j := 1) (T := TX5) (N := 12) C rfl rfl rfl (by decide) f_X3_78 d kk
theorem f_X6_176 : Cond.fieldLink RX6 176 (TX5 1).1 (TX5 1).2.1 (TX5 1).2.2.1 ∈ lw_g := tb_1 39 rfl rfl
theorem g_X6_176 {G : Gt} {cc : ByteArray} {nL pc a : Nat} {ls : List (Nat × V)} {st : List V} {h : Hp} (C : Cx G cc nL RX6) (d : decode cc pc = .ok (.getfield 176, 3)) (kk : Rr G (pc + 3) ls (vr 20 (a + 1) :: st) h) : Rr G pc ls (vr 5 a :: st) h := r_getP (k := 5) (j := 1) (T := TX5) (N := 12) C rfl rfl rfl (by decide) f_X6_176 d kk
theorem f_X5_19 : Cond.fieldLink RX5 19 (TX5 2).1 (TX5 2).2.1 (TX5 2).2.2.1 ∈ lw_g := tb_1 40 rfl rfl
theorem g_X5_19 {G : Gt} {cc : ByteArray} {nL pc a : Nat} {ls : List (Nat × V)} {st : List V} {h : Hp} (C : Cx G cc nL RX5) (d : decode cc pc = .ok (.getfield 19, 3)) (kk : Rr G (pc + 3) ls (vr 20 (a + 2) :: st) h) : Rr G pc ls (vr 5 a :: st) h := r_getP (k := 5) (j := 2) (T := TX5) (N := 12) C rfl rfl rfl (by decide) f_X5_19 d kk
theorem f_X0_24 : Cond.fieldLink RX0 24 (TX5 2).1 (TX5 2).2.1 (TX5 2).2.2.1 ∈ lw_g := tb_1 41 rfl rfl
theorem g_X0_24 {G : Gt} {cc : ByteArray} {nL pc a : Nat} {ls : List (Nat × V)} {st : List V} {h : Hp} (C : Cx G cc nL RX0) (d : decode cc pc = .ok (.getfield 24, 3)) (kk : Rr G (pc + 3) ls (vr 20 (a + 2) :: st) h) : Rr G pc ls (vr 5 a :: st) h := r_getP (k := 5) (j := 2) (T := TX5) (N := 12) C rfl rfl rfl (by decide) f_X0_24 d kk
theorem f_X3_84 : Cond.fieldLink RX3 84 (TX5 2).1 (TX5 2).2.1 (TX5 2).2.2.1 ∈ lw_g := tb_1 42 rfl rfl
theorem g_X3_84 {G : Gt} {cc : ByteArray} {nL pc a : Nat} {ls : List (Nat × V)} {st : List V} {h : Hp} (C : Cx G cc nL RX3) (d : decode cc pc = .ok (.getfield 84, 3)) (kk : Rr G (pc + 3) ls (vr 20 (a + 2) :: st) h) : Rr G pc ls (vr 5 a :: st) h := r_getP (k := 5) (j := 2) (T := TX5) (N := 12) C rfl rfl rfl (by decide) f_X3_84 d kk
theorem f_X6_173 : Cond.fieldLink RX6 173 (TX5 2).1 (TX5 2).2.1 (TX5 2).2.2.1 ∈ lw_g := tb_1 43 rfl rfl
theorem g_X6_173 {G : Gt} {cc : ByteArray} {nL pc a : Nat} {ls : List (Nat × V)} {st : List V} {h : Hp} (C : Cx G cc nL RX6) (d : decode cc pc = .ok (.getfield 173, 3)) (kk : Rr G (pc + 3) ls (vr 20 (a + 2) :: st) h) : Rr G pc ls (vr 5 a :: st) h := r_getP (k := 5) (j := 2) (T := TX5) (N := 12) C rfl rfl rfl (by decide) f_X6_173 d kk
theorem f_X5_22 : Cond.fieldLink RX5 22 (TX5 3).1 (TX5 3).2.1 (TX5 3).2.2.1 ∈ lw_g := tb_1 44 rfl rfl
theorem g_X5_22 {G : Gt} {cc : ByteArray} {nL pc a : Nat} {ls : List (Nat × V)} {st : List V} {h : Hp} (C : Cx G cc nL RX5) {x : Int32} (d : decode cc pc = .ok (.getfield 22, 3)) (hx : xI h a 3 = x) (kk : Rr G (pc + 3) ls (vi x :: st) h) : Rr G pc ls (vr 5 a :: st) h := r_getI (k := 5) (j := 3) (T := TX5) (N := 12) C rfl rfl rfl (by decide) f_X5_22 d hx kk
theorem p_X5_22 {G : Gt} {cc : ByteArray} {nL pc a : Nat} {ls : List (Nat × V)} {st : List V} {h : Hp} (C : Cx G cc nL RX5) {x : Int32} (d : decode cc pc = .ok (.putfield 22, 3)) (hn : narrow (clTy 5 3) (.int x) = .int x) (hf : fits (clTy 5 3) (.int x) = true) (kk : Rr G (pc + 3) ls st (sI h a 3 x)) : Rr G pc ls (vi x :: vr 5 a :: st) h := r_putI (k := 5) (j := 3) (T := TX5) (N := 12) C rfl rfl rfl (by decide) f_X5_22 rfl hn hf d kk
theorem f_X1_52 : Cond.fieldLink RX1 52 (TX5 3).1 (TX5 3).2.1 (TX5 3).2.2.1 ∈ lw_g := tb_1 45 rfl rfl
theorem g_X1_52 {G : Gt} {cc : ByteArray} {nL pc a : Nat} {ls : List (Nat × V)} {st : List V} {h : Hp} (C : Cx G cc nL RX1) {x : Int32} (d : decode cc pc = .ok (.getfield 52, 3)) (hx : xI h a 3 = x) (kk : Rr G (pc + 3) ls (vi x :: st) h) : Rr G pc ls (vr 5 a :: st) h := r_getI (k := 5) (j := 3) (T := TX5) (N := 12) C rfl rfl rfl (by decide) f_X1_52 d hx kk
theorem f_X0_54 : Cond.fieldLink RX0 54 (TX5 3).1 (TX5 3).2.1 (TX5 3).2.2.1 ∈ lw_g := tb_1 46 rfl rfl
theorem g_X0_54 {G : Gt} {cc : ByteArray} {nL pc a : Nat} {ls : List (Nat × V)} {st : List V} {h : Hp} (C : Cx G cc nL RX0) {x : Int32} (d : decode cc pc = .ok (.getfield 54, 3)) (hx : xI h a 3 = x) (kk : Rr G (pc + 3) ls (vi x :: st) h) : Rr G pc ls (vr 5 a :: st) h := r_getI (k := 5) (j := 3) (T := TX5) (N := 12) C rfl rfl rfl (by decide) f_X0_54 d hx kk
theorem f_X3_86 : Cond.fieldLink RX3 86 (TX5 3).1 (TX5 3).2.1 (TX5 3).2.2.1 ∈ lw_g := tb_1 47 rfl rfl
theorem g_X3_86 {G : Gt} {cc : ByteArray} {nL pc a : Nat} {ls : List (Nat × V)} {st : List V} {h : Hp} (C : Cx G cc nL RX3) {x : Int32} (d : decode cc pc = .ok (.getfield 86, 3)) (hx : xI h a 3 = x) (kk : Rr G (pc + 3) ls (vi x :: st) h) : Rr G pc ls (vr 5 a :: st) h := r_getI (k := 5) (j := 3) (T := TX5) (N := 12) C rfl rfl rfl (by decide) f_X3_86 d hx kk
theorem f_X6_147 : Cond.fieldLink RX6 147 (TX5 3).1 (TX5 3).2.1 (TX5 3).2.2.1 ∈ lw_g := tb_1 48 rfl rfl
theorem g_X6_147 {G : Gt} {cc : ByteArray} {nL pc a : Nat} {ls : List (Nat × V)} {st : List V} {h : Hp} (C : Cx G cc nL RX6) {x : Int32} (d : decode cc pc = .ok (.getfield 147, 3)) (hx : xI h a 3 = x) (kk : Rr G (pc + 3) ls (vi x :: st) h) : Rr G pc ls (vr 5 a :: st) h := r_getI (k := 5) (j := 3) (T := TX5) (N := 12) C rfl rfl rfl (by decide) f_X6_147 d hx kk
theorem f_X4_76 : Cond.fieldLink RX4 76 (TX5 3).1 (TX5 3).2.1 (TX5 3).2.2.1 ∈ lw_g := tb_1 49 rfl rfl
theorem g_X4_76 {G : Gt} {cc : ByteArray} {nL pc a : Nat} {ls : List (Nat × V)} {st : List V} {h : Hp} (C : Cx G cc nL RX4) {x : Int32} (d : decode cc pc = .ok (.getfield 76, 3)) (hx : xI h a 3 = x) (kk : Rr G (pc + 3) ls (vi x :: st) h) : Rr G pc ls (vr 5 a :: st) h := r_getI (k := 5) (j := 3) (T := TX5) (N := 12) C rfl rfl rfl (by decide) f_X4_76 d hx kk
theorem f_X5_25 : Cond.fieldLink RX5 25 (TX5 4).1 (TX5 4).2.1 (TX5 4).2.2.1 ∈ lw_g := tb_1 50 rfl rfl
theorem g_X5_25 {G : Gt} {cc : ByteArray} {nL pc a : Nat} {ls : List (Nat × V)} {st : List V} {h : Hp} (C : Cx G cc nL RX5) (d : decode cc pc = .ok (.getfield 25, 3)) (kk : Rr G (pc + 3) ls (vr 21 (a + 3) :: st) h) : Rr G pc ls (vr 5 a :: st) h := r_getP (k := 5) (j := 4) (T := TX5) (N := 12) C rfl rfl rfl (by decide) f_X5_25 d kk
theorem f_X0_60 : Cond.fieldLink RX0 60 (TX5 4).1 (TX5 4).2.1 (TX5 4).2.2.1 ∈ lw_g := tb_1 51 rfl rfl
theorem g_X0_60 {G : Gt} {cc : ByteArray} {nL pc a : Nat} {ls : List (Nat × V)} {st : List V} {h : Hp} (C : Cx G cc nL RX0) (d : decode cc pc = .ok (.getfield 60, 3)) (kk : Rr G (pc + 3) ls (vr 21 (a + 3) :: st) h) : Rr G pc ls (vr 5 a :: st) h := r_getP (k := 5) (j := 4) (T := TX5) (N := 12) C rfl rfl rfl (by decide) f_X0_60 d kk
theorem f_X1_76 : Cond.fieldLink RX1 76 (TX5 4).1 (TX5 4).2.1 (TX5 4).2.2.1 ∈ lw_g := tb_1 52 rfl rfl
theorem g_X1_76 {G : Gt} {cc : ByteArray} {nL pc a : Nat} {ls : List (Nat × V)} {st : List V} {h : Hp} (C : Cx G cc nL RX1) (d : decode cc pc = .ok (.getfield 76, 3)) (kk : Rr G (pc + 3) ls (vr 21 (a + 3) :: st) h) : Rr G pc ls (vr 5 a :: st) h := r_getP (k := 5) (j := 4) (T := TX5) (N := 12) C rfl rfl rfl (by decide) f_X1_76 d kk
theorem f_X6_205 : Cond.fieldLink RX6 205 (TX5 4).1 (TX5 4).2.1 (TX5 4).2.2.1 ∈ lw_g := tb_1 53 rfl rfl
theorem g_X6_205 {G : Gt} {cc : ByteArray} {nL pc a : Nat} {ls : List (Nat × V)} {st : List V} {h : Hp} (C : Cx G cc nL RX6) (d : decode cc pc = .ok (.getfield 205, 3)) (kk : Rr G (pc + 3) ls (vr 21 (a + 3) :: st) h) : Rr G pc ls (vr 5 a :: st) h := r_getP (k := 5) (j := 4) (T := TX5) (N := 12) C rfl rfl rfl (by decide) f_X6_205 d kk
theorem f_X5_28 : Cond.fieldLink RX5 28 (TX5 5).1 (TX5 5).2.1 (TX5 5).2.2.1 ∈ lw_g := tb_1 54 rfl rfl
theorem g_X5_28 {G : Gt} {cc : ByteArray} {nL pc a : Nat} {ls : List (Nat × V)} {st : List V} {h : Hp} (C : Cx G cc nL RX5) (d : decode cc pc = .ok (.getfield 28, 3)) (kk : Rr G (pc + 3) ls (vr 21 (a + 4) :: st) h) : Rr G pc ls (vr 5 a :: st) h := r_getP (k := 5) (j := 5) (T := TX5) (N := 12) C rfl rfl rfl (by decide) f_X5_28 d kk
theorem f_X0_78 : Cond.fieldLink RX0 78 (TX5 5).1 (TX5 5).2.1 (TX5 5).2.2.1 ∈ lw_g := tb_1 55 rfl rfl
theorem g_X0_78 {G : Gt} {cc : ByteArray} {nL pc a : Nat} {ls : List (Nat × V)} {st : List V} {h : Hp} (C : Cx G cc nL RX0) (d : decode cc pc = .ok (.getfield 78, 3)) (kk : Rr G (pc + 3) ls (vr 21 (a + 4) :: st) h) : Rr G pc ls (vr 5 a :: st) h := r_getP (k := 5) (j := 5) (T := TX5) (N := 12) C rfl rfl rfl (by decide) f_X0_78 d kk
theorem f_X1_79 : Cond.fieldLink RX1 79 (TX5 5).1 (TX5 5).2.1 (TX5 5).2.2.1 ∈ lw_g := tb_1 56 rfl rfl
theorem g_X1_79 {G : Gt} {cc : ByteArray} {nL pc a : Nat} {ls : List (Nat × V)} {st : List V} {h : Hp} (C : Cx G cc nL RX1) (d : decode cc pc = .ok (.getfield 79, 3)) (kk : Rr G (pc + 3) ls (vr 21 (a + 4) :: st) h) : Rr G pc ls (vr 5 a :: st) h := r_getP (k := 5) (j := 5) (T := TX5) (N := 12) C rfl rfl rfl (by decide) f_X1_79 d kk
theorem f_X4_79 : Cond.fieldLink RX4 79 (TX5 5).1 (TX5 5).2.1 (TX5 5).2.2.1 ∈ lw_g := tb_1 57 rfl rfl
theorem g_X4_79 {G : Gt} {cc : ByteArray} {nL pc a : Nat} {ls : List (Nat × V)} {st : List V} {h : Hp} (C : Cx G cc nL RX4) (d : decode cc pc = .ok (.getfield 79, 3)) (kk : Rr G (pc + 3) ls (vr 21 (a + 4) :: st) h) : Rr G pc ls (vr 5 a :: st) h := r_getP (k := 5) (j := 5) (T := TX5) (N := 12) C rfl rfl rfl (by decide) f_X4_79 d kk
theorem f_X6_208 : Cond.fieldLink RX6 208 (TX5 5).1 (TX5 5).2.1 (TX5 5).2.2.1 ∈ lw_g := tb_1 58 rfl rfl
theorem g_X6_208 {G : Gt} {cc : ByteArray} {nL pc a : Nat} {ls : List (Nat × V)} {st : List V} {h : Hp} (C : Cx G cc nL RX6) (d : decode cc pc = .ok (.getfield 208, 3)) (kk : Rr G (pc + 3) ls (vr 21 (a + 4) :: st) h) : Rr G pc ls (vr 5 a :: st) h := r_getP (k := 5) (j := 5) (T := TX5) (N := 12) C rfl rfl rfl (by decide) f_X6_208 d kk
theorem f_X5_31 : Cond.fieldLink RX5 31 (TX5 6).1 (TX5 6).2.1 (TX5 6).2.2.1 ∈ lw_g := tb_1 59 rfl rfl
theorem g_X5_31 {G : Gt} {cc : ByteArray} {nL pc a : Nat} {ls : List (Nat × V)} {st : List V} {h : Hp} (C : Cx G cc nL RX5) {x : Int32} (d : decode cc pc = .ok (.getfield 31, 3)) (hx : xI h a 6 = x) (kk : Rr G (pc + 3) ls (vi x :: st) h) : Rr G pc ls (vr 5 a :: st) h := r_getI (k := 5) (j := 6) (T := TX5) (N := 12) C rfl rfl rfl (by decide) f_X5_31 d hx kk
theorem p_X5_31 {G : Gt} {cc : ByteArray} {nL pc a : Nat} {ls : List (Nat × V)} {st : List V} {h : Hp} (C : Cx G cc nL RX5) {x : Int32} (d : decode cc pc = .ok (.putfield 31, 3)) (hn : narrow (clTy 5 6) (.int x) = .int x) (hf : fits (clTy 5 6) (.int x) = true) (kk : Rr G (pc + 3) ls st (sI h a 6 x)) : Rr G pc ls (vi x :: vr 5 a :: st) h := r_putI (k := 5) (j := 6) (T := TX5) (N := 12) C rfl rfl rfl (by decide) f_X5_31 rfl hn hf d kk
theorem f_X1_36 : Cond.fieldLink RX1 36 (TX5 6).1 (TX5 6).2.1 (TX5 6).2.2.1 ∈ lw_g := tb_1 60 rfl rfl
theorem g_X1_36 {G : Gt} {cc : ByteArray} {nL pc a : Nat} {ls : List (Nat × V)} {st : List V} {h : Hp} (C : Cx G cc nL RX1) {x : Int32} (d : decode cc pc = .ok (.getfield 36, 3)) (hx : xI h a 6 = x) (kk : Rr G (pc + 3) ls (vi x :: st) h) : Rr G pc ls (vr 5 a :: st) h := r_getI (k := 5) (j := 6) (T := TX5) (N := 12) C rfl rfl rfl (by decide) f_X1_36 d hx kk
theorem f_X4_22 : Cond.fieldLink RX4 22 (TX5 6).1 (TX5 6).2.1 (TX5 6).2.2.1 ∈ lw_g := tb_1 61 rfl rfl
theorem g_X4_22 {G : Gt} {cc : ByteArray} {nL pc a : Nat} {ls : List (Nat × V)} {st : List V} {h : Hp} (C : Cx G cc nL RX4) {x : Int32} (d : decode cc pc = .ok (.getfield 22, 3)) (hx : xI h a 6 = x) (kk : Rr G (pc + 3) ls (vi x :: st) h) : Rr G pc ls (vr 5 a :: st) h := r_getI (k := 5) (j := 6) (T := TX5) (N := 12) C rfl rfl rfl (by decide) f_X4_22 d hx kk
theorem f_X0_27 : Cond.fieldLink RX0 27 (TX5 6).1 (TX5 6).2.1 (TX5 6).2.2.1 ∈ lw_g := tb_1 62 rfl rfl
theorem g_X0_27 {G : Gt} {cc : ByteArray} {nL pc a : Nat} {ls : List (Nat × V)} {st : List V} {h : Hp} (C : Cx G cc nL RX0) {x : Int32} (d : decode cc pc = .ok (.getfield 27, 3)) (hx : xI h a 6 = x) (kk : Rr G (pc + 3) ls (vi x :: st) h) : Rr G pc ls (vr 5 a :: st) h := r_getI (k := 5) (j := 6) (T := TX5) (N := 12) C rfl rfl rfl (by decide) f_X0_27 d hx kk
theorem f_X3_67 : Cond.fieldLink RX3 67 (TX5 6).1 (TX5 6).2.1 (TX5 6).2.2.1 ∈ lw_g := tb_1 63 rfl rfl
theorem g_X3_67 {G : Gt} {cc : ByteArray} {nL pc a : Nat} {ls : List (Nat × V)} {st : List V} {h : Hp} (C : Cx G cc nL RX3) {x : Int32} (d : decode cc pc = .ok (.getfield 67, 3)) (hx : xI h a 6 = x) (kk : Rr G (pc + 3) ls (vi x :: st) h) : Rr G pc ls (vr 5 a :: st) h := r_getI (k := 5) (j := 6) (T := TX5) (N := 12) C rfl rfl rfl (by decide) f_X3_67 d hx kk
theorem f_X6_154 : Cond.fieldLink RX6 154 (TX5 6).1 (TX5 6).2.1 (TX5 6).2.2.1 ∈ lw_g := tb_1 64 rfl rfl
theorem g_X6_154 {G : Gt} {cc : ByteArray} {nL pc a : Nat} {ls : List (Nat × V)} {st : List V} {h : Hp} (C : Cx G cc nL RX6) {x : Int32} (d : decode cc pc = .ok (.getfield 154, 3)) (hx : xI h a 6 = x) (kk : Rr G (pc + 3) ls (vi x :: st) h) : Rr G pc ls (vr 5 a :: st) h := r_getI (k := 5) (j := 6) (T := TX5) (N := 12) C rfl rfl rfl (by decide) f_X6_154 d hx kk
theorem f_X5_34 : Cond.fieldLink RX5 34 (TX5 7).1 (TX5 7).2.1 (TX5 7).2.2.1 ∈ lw_g := tb_1 65 rfl rfl
theorem g_X5_34 {G : Gt} {cc : ByteArray} {nL pc a : Nat} {ls : List (Nat × V)} {st : List V} {h : Hp} (C : Cx G cc nL RX5) (d : decode cc pc = .ok (.getfield 34, 3)) (kk : Rr G (pc + 3) ls (vr 22 (a + 5) :: st) h) : Rr G pc ls (vr 5 a :: st) h := r_getP (k := 5) (j := 7) (T := TX5) (N := 12) C rfl rfl rfl (by decide) f_X5_34 d kk
theorem f_X0_30 : Cond.fieldLink RX0 30 (TX5 7).1 (TX5 7).2.1 (TX5 7).2.2.1 ∈ lw_g := tb_1 66 rfl rfl
theorem g_X0_30 {G : Gt} {cc : ByteArray} {nL pc a : Nat} {ls : List (Nat × V)} {st : List V} {h : Hp} (C : Cx G cc nL RX0) (d : decode cc pc = .ok (.getfield 30, 3)) (kk : Rr G (pc + 3) ls (vr 22 (a + 5) :: st) h) : Rr G pc ls (vr 5 a :: st) h := r_getP (k := 5) (j := 7) (T := TX5) (N := 12) C rfl rfl rfl (by decide) f_X0_30 d kk
theorem f_X1_49 : Cond.fieldLink RX1 49 (TX5 7).1 (TX5 7).2.1 (TX5 7).2.2.1 ∈ lw_g := tb_1 67 rfl rfl
theorem g_X1_49 {G : Gt} {cc : ByteArray} {nL pc a : Nat} {ls : List (Nat × V)} {st : List V} {h : Hp} (C : Cx G cc nL RX1) (d : decode cc pc = .ok (.getfield 49, 3)) (kk : Rr G (pc + 3) ls (vr 22 (a + 5) :: st) h) : Rr G pc ls (vr 5 a :: st) h := r_getP (k := 5) (j := 7) (T := TX5) (N := 12) C rfl rfl rfl (by decide) f_X1_49 d kk
theorem f_X6_211 : Cond.fieldLink RX6 211 (TX5 7).1 (TX5 7).2.1 (TX5 7).2.2.1 ∈ lw_g := tb_1 68 rfl rfl
theorem g_X6_211 {G : Gt} {cc : ByteArray} {nL pc a : Nat} {ls : List (Nat × V)} {st : List V} {h : Hp} (C : Cx G cc nL RX6) (d : decode cc pc = .ok (.getfield 211, 3)) (kk : Rr G (pc + 3) ls (vr 22 (a + 5) :: st) h) : Rr G pc ls (vr 5 a :: st) h := r_getP (k := 5) (j := 7) (T := TX5) (N := 12) C rfl rfl rfl (by decide) f_X6_211 d kk
theorem f_X5_37 : Cond.fieldLink RX5 37 (TX5 8).1 (TX5 8).2.1 (TX5 8).2.2.1 ∈ lw_g := tb_1 69 rfl rfl
theorem g_X5_37 {G : Gt} {cc : ByteArray} {nL pc a : Nat} {ls : List (Nat × V)} {st : List V} {h : Hp} (C : Cx G cc nL RX5) (d : decode cc pc = .ok (.getfield 37, 3)) (kk : Rr G (pc + 3) ls (vr 22 (a + 6) :: st) h) : Rr G pc ls (vr 5 a :: st) h := r_getP (k := 5) (j := 8) (T := TX5) (N := 12) C rfl rfl rfl (by decide) f_X5_37 d kk
theorem f_X4_32 : Cond.fieldLink RX4 32 (TX5 8).1 (TX5 8).2.1 (TX5 8).2.2.1 ∈ lw_g := tb_1 70 rfl rfl
theorem g_X4_32 {G : Gt} {cc : ByteArray} {nL pc a : Nat} {ls : List (Nat × V)} {st : List V} {h : Hp} (C : Cx G cc nL RX4) (d : decode cc pc = .ok (.getfield 32, 3)) (kk : Rr G (pc + 3) ls (vr 22 (a + 6) :: st) h) : Rr G pc ls (vr 5 a :: st) h := r_getP (k := 5) (j := 8) (T := TX5) (N := 12) C rfl rfl rfl (by decide) f_X4_32 d kk
theorem f_X1_63 : Cond.fieldLink RX1 63 (TX5 8).1 (TX5 8).2.1 (TX5 8).2.2.1 ∈ lw_g := tb_1 71 rfl rfl
theorem g_X1_63 {G : Gt} {cc : ByteArray} {nL pc a : Nat} {ls : List (Nat × V)} {st : List V} {h : Hp} (C : Cx G cc nL RX1) (d : decode cc pc = .ok (.getfield 63, 3)) (kk : Rr G (pc + 3) ls (vr 22 (a + 6) :: st) h) : Rr G pc ls (vr 5 a :: st) h := r_getP (k := 5) (j := 8) (T := TX5) (N := 12) C rfl rfl rfl (by decide) f_X1_63 d kk
theorem f_X0_85 : Cond.fieldLink RX0 85 (TX5 8).1 (TX5 8).2.1 (TX5 8).2.2.1 ∈ lw_g := tb_1 72 rfl rfl
theorem g_X0_85 {G : Gt} {cc : ByteArray} {nL pc a : Nat} {ls : List (Nat × V)} {st : List V} {h : Hp} (C : Cx G cc nL RX0) (d : decode cc pc = .ok (.getfield 85, 3)) (kk : Rr G (pc + 3) ls (vr 22 (a + 6) :: st) h) : Rr G pc ls (vr 5 a :: st) h := r_getP (k := 5) (j := 8) (T := TX5) (N := 12) C rfl rfl rfl (by decide) f_X0_85 d kk
theorem f_X6_163 : Cond.fieldLink RX6 163 (TX5 8).1 (TX5 8).2.1 (TX5 8).2.2.1 ∈ lw_g := tb_1 73 rfl rfl
theorem g_X6_163 {G : Gt} {cc : ByteArray} {nL pc a : Nat} {ls : List (Nat × V)} {st : List V} {h : Hp} (C : Cx G cc nL RX6) (d : decode cc pc = .ok (.getfield 163, 3)) (kk : Rr G (pc + 3) ls (vr 22 (a + 6) :: st) h) : Rr G pc ls (vr 5 a :: st) h := r_getP (k := 5) (j := 8) (T := TX5) (N := 12) C rfl rfl rfl (by decide) f_X6_163 d kk
theorem f_X5_40 : Cond.fieldLink RX5 40 (TX5 9).1 (TX5 9).2.1 (TX5 9).2.2.1 ∈ lw_g := tb_1 74 rfl rfl
theorem g_X5_40 {G : Gt} {cc : ByteArray} {nL pc a : Nat} {ls : List (Nat × V)} {st : List V} {h : Hp} (C : Cx G cc nL RX5) (d : decode cc pc = .ok (.getfield 40, 3)) (kk : Rr G (pc + 3) ls (vr 23 (a + 7) :: st) h) : Rr G pc ls (vr 5 a :: st) h := r_getP (k := 5) (j := 9) (T := TX5) (N := 12) C rfl rfl rfl (by decide) f_X5_40 d kk
theorem f_X4_28 : Cond.fieldLink RX4 28 (TX5 9).1 (TX5 9).2.1 (TX5 9).2.2.1 ∈ lw_g := tb_1 75 rfl rfl
theorem g_X4_28 {G : Gt} {cc : ByteArray} {nL pc a : Nat} {ls : List (Nat × V)} {st : List V} {h : Hp} (C : Cx G cc nL RX4) (d : decode cc pc = .ok (.getfield 28, 3)) (kk : Rr G (pc + 3) ls (vr 23 (a + 7) :: st) h) : Rr G pc ls (vr 5 a :: st) h := r_getP (k := 5) (j := 9) (T := TX5) (N := 12) C rfl rfl rfl (by decide) f_X4_28 d kk
theorem f_X1_59 : Cond.fieldLink RX1 59 (TX5 9).1 (TX5 9).2.1 (TX5 9).2.2.1 ∈ lw_g := tb_1 76 rfl rfl
theorem g_X1_59 {G : Gt} {cc : ByteArray} {nL pc a : Nat} {ls : List (Nat × V)} {st : List V} {h : Hp} (C : Cx G cc nL RX1) (d : decode cc pc = .ok (.getfield 59, 3)) (kk : Rr G (pc + 3) ls (vr 23 (a + 7) :: st) h) : Rr G pc ls (vr 5 a :: st) h := r_getP (k := 5) (j := 9) (T := TX5) (N := 12) C rfl rfl rfl (by decide) f_X1_59 d kk
theorem f_X3_106 : Cond.fieldLink RX3 106 (TX5 9).1 (TX5 9).2.1 (TX5 9).2.2.1 ∈ lw_g := tb_1 77 rfl rfl
theorem g_X3_106 {G : Gt} {cc : ByteArray} {nL pc a : Nat} {ls : List (Nat × V)} {st : List V} {h : Hp} (C : Cx G cc nL RX3) (d : decode cc pc = .ok (.getfield 106, 3)) (kk : Rr G (pc + 3) ls (vr 23 (a + 7) :: st) h) : Rr G pc ls (vr 5 a :: st) h := r_getP (k := 5) (j := 9) (T := TX5) (N := 12) C rfl rfl rfl (by decide) f_X3_106 d kk
theorem f_X6_166 : Cond.fieldLink RX6 166 (TX5 9).1 (TX5 9).2.1 (TX5 9).2.2.1 ∈ lw_g := tb_1 78 rfl rfl
theorem g_X6_166 {G : Gt} {cc : ByteArray} {nL pc a : Nat} {ls : List (Nat × V)} {st : List V} {h : Hp} (C : Cx G cc nL RX6) (d : decode cc pc = .ok (.getfield 166, 3)) (kk : Rr G (pc + 3) ls (vr 23 (a + 7) :: st) h) : Rr G pc ls (vr 5 a :: st) h := r_getP (k := 5) (j := 9) (T := TX5) (N := 12) C rfl rfl rfl (by decide) f_X6_166 d kk
theorem f_X5_44 : Cond.fieldLink RX5 44 (TX5 10).1 (TX5 10).2.1 (TX5 10).2.2.1 ∈ lw_g := tb_1 79 rfl rfl
theorem g_X5_44 {G : Gt} {cc : ByteArray} {nL pc a : Nat} {ls : List (Nat × V)} {st : List V} {h : Hp} (C : Cx G cc nL RX5) (d : decode cc pc = .ok (.getfield 44, 3)) (kk : Rr G (pc + 3) ls (vr 22 (a + 8) :: st) h) : Rr G pc ls (vr 5 a :: st) h := r_getP (k := 5) (j := 10) (T := TX5) (N := 12) C rfl rfl rfl (by decide) f_X5_44 d kk
theorem f_X6_217 : Cond.fieldLink RX6 217 (TX5 10).1 (TX5 10).2.1 (TX5 10).2.2.1 ∈ lw_g := tb_1 80 rfl rfl
theorem g_X6_217 {G : Gt} {cc : ByteArray} {nL pc a : Nat} {ls : List (Nat × V)} {st : List V} {h : Hp} (C : Cx G cc nL RX6) (d : decode cc pc = .ok (.getfield 217, 3)) (kk : Rr G (pc + 3) ls (vr 22 (a + 8) :: st) h) : Rr G pc ls (vr 5 a :: st) h := r_getP (k := 5) (j := 10) (T := TX5) (N := 12) C rfl rfl rfl (by decide) f_X6_217 d kk
theorem f_X5_47 : Cond.fieldLink RX5 47 (TX5 11).1 (TX5 11).2.1 (TX5 11).2.2.1 ∈ lw_g := tb_1 81 rfl rfl
theorem g_X5_47 {G : Gt} {cc : ByteArray} {nL pc a : Nat} {ls : List (Nat × V)} {st : List V} {h : Hp} (C : Cx G cc nL RX5) {x : Int32} (d : decode cc pc = .ok (.getfield 47, 3)) (hx : xI h a 11 = x) (kk : Rr G (pc + 3) ls (vi x :: st) h) : Rr G pc ls (vr 5 a :: st) h := r_getI (k := 5) (j := 11) (T := TX5) (N := 12) C rfl rfl rfl (by decide) f_X5_47 d hx kk
theorem p_X5_47 {G : Gt} {cc : ByteArray} {nL pc a : Nat} {ls : List (Nat × V)} {st : List V} {h : Hp} (C : Cx G cc nL RX5) {x : Int32} (d : decode cc pc = .ok (.putfield 47, 3)) (hn : narrow (clTy 5 11) (.int x) = .int x) (hf : fits (clTy 5 11) (.int x) = true) (kk : Rr G (pc + 3) ls st (sI h a 11 x)) : Rr G pc ls (vi x :: vr 5 a :: st) h := r_putI (k := 5) (j := 11) (T := TX5) (N := 12) C rfl rfl rfl (by decide) f_X5_47 rfl hn hf d kk
theorem f_X6_334 : Cond.fieldLink RX6 334 (TX5 11).1 (TX5 11).2.1 (TX5 11).2.2.1 ∈ lw_g := tb_1 82 rfl rfl
theorem g_X6_334 {G : Gt} {cc : ByteArray} {nL pc a : Nat} {ls : List (Nat × V)} {st : List V} {h : Hp} (C : Cx G cc nL RX6) {x : Int32} (d : decode cc pc = .ok (.getfield 334, 3)) (hx : xI h a 11 = x) (kk : Rr G (pc + 3) ls (vi x :: st) h) : Rr G pc ls (vr 5 a :: st) h := r_getI (k := 5) (j := 11) (T := TX5) (N := 12) C rfl rfl rfl (by decide) f_X6_334 d hx kk
theorem p_X6_334 {G : Gt} {cc : ByteArray} {nL pc a : Nat} {ls : List (Nat × V)} {st : List V} {h : Hp} (C : Cx G cc nL RX6) {x : Int32} (d : decode cc pc = .ok (.putfield 334, 3)) (hn : narrow (clTy 5 11) (.int x) = .int x) (hf : fits (clTy 5 11) (.int x) = true) (kk : Rr G (pc + 3) ls st (sI h a 11 x)) : Rr G pc ls (vi x :: vr 5 a :: st) h := r_putI (k := 5) (j := 11) (T := TX5) (N := 12) C rfl rfl rfl (by decide) f_X6_334 rfl hn hf d kk
theorem f_X4_9 : Cond.fieldLink RX4 9 (TX4 0).1 (TX4 0).2.1 (TX4 0).2.2.1 ∈ lw_g := tb_1 116 rfl rfl
theorem g_X4_9 {G : Gt} {cc : ByteArray} {nL pc a : Nat} {ls : List (Nat × V)} {st : List V} {h : Hp} (C : Cx G cc nL RX4) (d : decode cc pc = .ok (.getfield 9, 3)) (kk : Rr G (pc + 3) ls (vr 24 (a + 1) :: st) h) : Rr G pc ls (vr 4 a :: st) h := r_getP (k := 4) (j := 0) (T := TX4) (N := 3) C rfl rfl rfl (by decide) f_X4_9 d kk
theorem f_X4_15 : Cond.fieldLink RX4 15 (TX4 1).1 (TX4 1).2.1 (TX4 1).2.2.1 ∈ lw_g := tb_1 117 rfl rfl
theorem g_X4_15 {G : Gt} {cc : ByteArray} {nL pc a : Nat} {ls : List (Nat × V)} {st : List V} {h : Hp} (C : Cx G cc nL RX4) (d : decode cc pc = .ok (.getfield 15, 3)) (kk : Rr G (pc + 3) ls (vr 25 (a + 2) :: st) h) : Rr G pc ls (vr 4 a :: st) h := r_getP (k := 4) (j := 1) (T := TX4) (N := 3) C rfl rfl rfl (by decide) f_X4_15 d kk
theorem f_X4_19 : Cond.fieldLink RX4 19 (TX4 2).1 (TX4 2).2.1 (TX4 2).2.2.1 ∈ lw_g := tb_1 118 rfl rfl
theorem g_X4_19 {G : Gt} {cc : ByteArray} {nL pc a : Nat} {ls : List (Nat × V)} {st : List V} {h : Hp} (C : Cx G cc nL RX4) (d : decode cc pc = .ok (.getfield 19, 3)) (kk : Rr G (pc + 3) ls (vr 22 (a + 3) :: st) h) : Rr G pc ls (vr 4 a :: st) h := r_getP (k := 4) (j := 2) (T := TX4) (N := 3) C rfl rfl rfl (by decide) f_X4_19 d kk
theorem f_X0_9 : Cond.fieldLink RX0 9 (TX0 0).1 (TX0 0).2.1 (TX0 0).2.2.1 ∈ lw_g := tb_1 133 rfl rfl
theorem g_X0_9 {G : Gt} {cc : ByteArray} {nL pc a : Nat} {ls : List (Nat × V)} {st : List V} {h : Hp} (C : Cx G cc nL RX0) (d : decode cc pc = .ok (.getfield 9, 3)) (kk : Rr G (pc + 3) ls (vr 22 (a + 1) :: st) h) : Rr G pc ls (vr 0 a :: st) h := r_getP (k := 0) (j := 0) (T := TX0) (N := 1) C rfl rfl rfl (by decide) f_X0_9 d kk
theorem f_X1_9 : Cond.fieldLink RX1 9 (TX1 0).1 (TX1 0).2.1 (TX1 0).2.2.1 ∈ lw_g := tb_1 146 rfl rfl
theorem g_X1_9 {G : Gt} {cc : ByteArray} {nL pc a : Nat} {ls : List (Nat × V)} {st : List V} {h : Hp} (C : Cx G cc nL RX1) (d : decode cc pc = .ok (.getfield 9, 3)) (kk : Rr G (pc + 3) ls (vr 21 (a + 1) :: st) h) : Rr G pc ls (vr 1 a :: st) h := r_getP (k := 1) (j := 0) (T := TX1) (N := 6) C rfl rfl rfl (by decide) f_X1_9 d kk
theorem f_X1_15 : Cond.fieldLink RX1 15 (TX1 1).1 (TX1 1).2.1 (TX1 1).2.2.1 ∈ lw_g := tb_1 147 rfl rfl
theorem g_X1_15 {G : Gt} {cc : ByteArray} {nL pc a : Nat} {ls : List (Nat × V)} {st : List V} {h : Hp} (C : Cx G cc nL RX1) (d : decode cc pc = .ok (.getfield 15, 3)) (kk : Rr G (pc + 3) ls (vr 21 (a + 2) :: st) h) : Rr G pc ls (vr 1 a :: st) h := r_getP (k := 1) (j := 1) (T := TX1) (N := 6) C rfl rfl rfl (by decide) f_X1_15 d kk
theorem f_X1_18 : Cond.fieldLink RX1 18 (TX1 2).1 (TX1 2).2.1 (TX1 2).2.2.1 ∈ lw_g := tb_1 148 rfl rfl
theorem g_X1_18 {G : Gt} {cc : ByteArray} {nL pc a : Nat} {ls : List (Nat × V)} {st : List V} {h : Hp} (C : Cx G cc nL RX1) (d : decode cc pc = .ok (.getfield 18, 3)) (kk : Rr G (pc + 3) ls (vr 27 (a + 3) :: st) h) : Rr G pc ls (vr 1 a :: st) h := r_getP (k := 1) (j := 2) (T := TX1) (N := 6) C rfl rfl rfl (by decide) f_X1_18 d kk
theorem f_X1_23 : Cond.fieldLink RX1 23 (TX1 3).1 (TX1 3).2.1 (TX1 3).2.2.1 ∈ lw_g := tb_1 149 rfl rfl
theorem g_X1_23 {G : Gt} {cc : ByteArray} {nL pc a : Nat} {ls : List (Nat × V)} {st : List V} {h : Hp} (C : Cx G cc nL RX1) (d : decode cc pc = .ok (.getfield 23, 3)) (kk : Rr G (pc + 3) ls (vr 32 (a + 4) :: st) h) : Rr G pc ls (vr 1 a :: st) h := r_getP (k := 1) (j := 3) (T := TX1) (N := 6) C rfl rfl rfl (by decide) f_X1_23 d kk
theorem f_X1_26 : Cond.fieldLink RX1 26 (TX1 4).1 (TX1 4).2.1 (TX1 4).2.2.1 ∈ lw_g := tb_1 150 rfl rfl
theorem g_X1_26 {G : Gt} {cc : ByteArray} {nL pc a : Nat} {ls : List (Nat × V)} {st : List V} {h : Hp} (C : Cx G cc nL RX1) (d : decode cc pc = .ok (.getfield 26, 3)) (kk : Rr G (pc + 3) ls (vr 28 (a + 12) :: st) h) : Rr G pc ls (vr 1 a :: st) h := r_getP (k := 1) (j := 4) (T := TX1) (N := 6) C rfl rfl rfl (by decide) f_X1_26 d kk
theorem f_X1_32 : Cond.fieldLink RX1 32 (TX1 5).1 (TX1 5).2.1 (TX1 5).2.2.1 ∈ lw_g := tb_1 151 rfl rfl
theorem g_X1_32 {G : Gt} {cc : ByteArray} {nL pc a : Nat} {ls : List (Nat × V)} {st : List V} {h : Hp} (C : Cx G cc nL RX1) {x : Int64} (d : decode cc pc = .ok (.getfield 32, 3)) (hx : xL h a 5 = x) (kk : Rr G (pc + 3) ls (vl x :: st) h) : Rr G pc ls (vr 1 a :: st) h := r_getL (k := 1) (j := 5) (T := TX1) (N := 6) C rfl rfl rfl (by decide) f_X1_32 d hx kk
theorem p_X1_32 {G : Gt} {cc : ByteArray} {nL pc a : Nat} {ls : List (Nat × V)} {st : List V} {h : Hp} (C : Cx G cc nL RX1) {x : Int64} (d : decode cc pc = .ok (.putfield 32, 3)) (kk : Rr G (pc + 3) ls st (sL h a 5 x)) : Rr G pc ls (vl x :: vr 1 a :: st) h := r_putL (k := 1) (j := 5) (T := TX1) (N := 6) C rfl rfl rfl (by decide) f_X1_32 rfl rfl rfl d kk
theorem f_X3_9 : Cond.fieldLink RX3 9 (TX3 0).1 (TX3 0).2.1 (TX3 0).2.2.1 ∈ lw_g := tb_1 171 rfl rfl
theorem g_X3_9 {G : Gt} {cc : ByteArray} {nL pc a : Nat} {ls : List (Nat × V)} {st : List V} {h : Hp} (C : Cx G cc nL RX3) (d : decode cc pc = .ok (.getfield 9, 3)) (kk : Rr G (pc + 3) ls (vr 29 (a + 1) :: st) h) : Rr G pc ls (vr 3 a :: st) h := r_getP (k := 3) (j := 0) (T := TX3) (N := 5) C rfl rfl rfl (by decide) f_X3_9 d kk
theorem f_X3_15 : Cond.fieldLink RX3 15 (TX3 1).1 (TX3 1).2.1 (TX3 1).2.2.1 ∈ lw_g := tb_1 172 rfl rfl
theorem g_X3_15 {G : Gt} {cc : ByteArray} {nL pc a : Nat} {ls : List (Nat × V)} {st : List V} {h : Hp} (C : Cx G cc nL RX3) {x : Int32} (d : decode cc pc = .ok (.getfield 15, 3)) (hx : xI h a 1 = x) (kk : Rr G (pc + 3) ls (vi x :: st) h) : Rr G pc ls (vr 3 a :: st) h := r_getI (k := 3) (j := 1) (T := TX3) (N := 5) C rfl rfl rfl (by decide) f_X3_15 d hx kk
theorem p_X3_15 {G : Gt} {cc : ByteArray} {nL pc a : Nat} {ls : List (Nat × V)} {st : List V} {h : Hp} (C : Cx G cc nL RX3) {x : Int32} (d : decode cc pc = .ok (.putfield 15, 3)) (hn : narrow (clTy 3 1) (.int x) = .int x) (hf : fits (clTy 3 1) (.int x) = true) (kk : Rr G (pc + 3) ls st (sI h a 1 x)) : Rr G pc ls (vi x :: vr 3 a :: st) h := r_putI (k := 3) (j := 1) (T := TX3) (N := 5) C rfl rfl rfl (by decide) f_X3_15 rfl hn hf d kk
theorem f_X3_19 : Cond.fieldLink RX3 19 (TX3 2).1 (TX3 2).2.1 (TX3 2).2.2.1 ∈ lw_g := tb_1 173 rfl rfl
theorem g_X3_19 {G : Gt} {cc : ByteArray} {nL pc a : Nat} {ls : List (Nat × V)} {st : List V} {h : Hp} (C : Cx G cc nL RX3) {x : Int32} (d : decode cc pc = .ok (.getfield 19, 3)) (hx : xI h a 2 = x) (kk : Rr G (pc + 3) ls (vi x :: st) h) : Rr G pc ls (vr 3 a :: st) h := r_getI (k := 3) (j := 2) (T := TX3) (N := 5) C rfl rfl rfl (by decide) f_X3_19 d hx kk
theorem p_X3_19 {G : Gt} {cc : ByteArray} {nL pc a : Nat} {ls : List (Nat × V)} {st : List V} {h : Hp} (C : Cx G cc nL RX3) {x : Int32} (d : decode cc pc = .ok (.putfield 19, 3)) (hn : narrow (clTy 3 2) (.int x) = .int x) (hf : fits (clTy 3 2) (.int x) = true) (kk : Rr G (pc + 3) ls st (sI h a 2 x)) : Rr G pc ls (vi x :: vr 3 a :: st) h := r_putI (k := 3) (j := 2) (T := TX3) (N := 5) C rfl rfl rfl (by decide) f_X3_19 rfl hn hf d kk
theorem f_X3_22 : Cond.fieldLink RX3 22 (TX3 3).1 (TX3 3).2.1 (TX3 3).2.2.1 ∈ lw_g := tb_1 174 rfl rfl
theorem g_X3_22 {G : Gt} {cc : ByteArray} {nL pc a : Nat} {ls : List (Nat × V)} {st : List V} {h : Hp} (C : Cx G cc nL RX3) {x : Int32} (d : decode cc pc = .ok (.getfield 22, 3)) (hx : xI h a 3 = x) (kk : Rr G (pc + 3) ls (vi x :: st) h) : Rr G pc ls (vr 3 a :: st) h := r_getI (k := 3) (j := 3) (T := TX3) (N := 5) C rfl rfl rfl (by decide) f_X3_22 d hx kk
theorem p_X3_22 {G : Gt} {cc : ByteArray} {nL pc a : Nat} {ls : List (Nat × V)} {st : List V} {h : Hp} (C : Cx G cc nL RX3) {x : Int32} (d : decode cc pc = .ok (.putfield 22, 3)) (hn : narrow (clTy 3 3) (.int x) = .int x) (hf : fits (clTy 3 3) (.int x) = true) (kk : Rr G (pc + 3) ls st (sI h a 3 x)) : Rr G pc ls (vi x :: vr 3 a :: st) h := r_putI (k := 3) (j := 3) (T := TX3) (N := 5) C rfl rfl rfl (by decide) f_X3_22 rfl hn hf d kk
theorem f_X3_25 : Cond.fieldLink RX3 25 (TX3 4).1 (TX3 4).2.1 (TX3 4).2.2.1 ∈ lw_g := tb_1 175 rfl rfl
theorem g_X3_25 {G : Gt} {cc : ByteArray} {nL pc a : Nat} {ls : List (Nat × V)} {st : List V} {h : Hp} (C : Cx G cc nL RX3) {x : Int32} (d : decode cc pc = .ok (.getfield 25, 3)) (hx : xI h a 4 = x) (kk : Rr G (pc + 3) ls (vi x :: st) h) : Rr G pc ls (vr 3 a :: st) h := r_getI (k := 3) (j := 4) (T := TX3) (N := 5) C rfl rfl rfl (by decide) f_X3_25 d hx kk
theorem p_X3_25 {G : Gt} {cc : ByteArray} {nL pc a : Nat} {ls : List (Nat × V)} {st : List V} {h : Hp} (C : Cx G cc nL RX3) {x : Int32} (d : decode cc pc = .ok (.putfield 25, 3)) (hn : narrow (clTy 3 4) (.int x) = .int x) (hf : fits (clTy 3 4) (.int x) = true) (kk : Rr G (pc + 3) ls st (sI h a 4 x)) : Rr G pc ls (vi x :: vr 3 a :: st) h := r_putI (k := 3) (j := 4) (T := TX3) (N := 5) C rfl rfl rfl (by decide) f_X3_25 rfl hn hf d kk
theorem f_X2_9 : Cond.fieldLink RX2 9 (TX2 0).1 (TX2 0).2.1 (TX2 0).2.2.1 ∈ lw_g := tb_1 196 rfl rfl
theorem g_X2_9 {G : Gt} {cc : ByteArray} {nL pc a : Nat} {ls : List (Nat × V)} {st : List V} {h : Hp} (C : Cx G cc nL RX2) (d : decode cc pc = .ok (.getfield 9, 3)) (kk : Rr G (pc + 3) ls (vr 22 (a + 1) :: st) h) : Rr G pc ls (vr 2 a :: st) h := r_getP (k := 2) (j := 0) (T := TX2) (N := 4) C rfl rfl rfl (by decide) f_X2_9 d kk
theorem f_X2_15 : Cond.fieldLink RX2 15 (TX2 1).1 (TX2 1).2.1 (TX2 1).2.2.1 ∈ lw_g := tb_1 197 rfl rfl
theorem g_X2_15 {G : Gt} {cc : ByteArray} {nL pc a : Nat} {ls : List (Nat × V)} {st : List V} {h : Hp} (C : Cx G cc nL RX2) (d : decode cc pc = .ok (.getfield 15, 3)) (kk : Rr G (pc + 3) ls (vr 22 (a + 2) :: st) h) : Rr G pc ls (vr 2 a :: st) h := r_getP (k := 2) (j := 1) (T := TX2) (N := 4) C rfl rfl rfl (by decide) f_X2_15 d kk
theorem f_X2_20 : Cond.fieldLink RX2 20 (TX2 2).1 (TX2 2).2.1 (TX2 2).2.2.1 ∈ lw_g := tb_1 198 rfl rfl
theorem g_X2_20 {G : Gt} {cc : ByteArray} {nL pc a : Nat} {ls : List (Nat × V)} {st : List V} {h : Hp} (C : Cx G cc nL RX2) (d : decode cc pc = .ok (.getfield 20, 3)) (kk : Rr G (pc + 3) ls (vr 33 (a + 3) :: st) h) : Rr G pc ls (vr 2 a :: st) h := r_getP (k := 2) (j := 2) (T := TX2) (N := 4) C rfl rfl rfl (by decide) f_X2_20 d kk
theorem f_X2_23 : Cond.fieldLink RX2 23 (TX2 3).1 (TX2 3).2.1 (TX2 3).2.2.1 ∈ lw_g := tb_1 199 rfl rfl
theorem g_X2_23 {G : Gt} {cc : ByteArray} {nL pc a : Nat} {ls : List (Nat × V)} {st : List V} {h : Hp} (C : Cx G cc nL RX2) (d : decode cc pc = .ok (.getfield 23, 3)) (kk : Rr G (pc + 3) ls (vr 22 (a + 12) :: st) h) : Rr G pc ls (vr 2 a :: st) h := r_getP (k := 2) (j := 3) (T := TX2) (N := 4) C rfl rfl rfl (by decide) f_X2_23 d kk
theorem f_X6_10 : Cond.fieldLink RX6 10 (TX6 0).1 (TX6 0).2.1 (TX6 0).2.2.1 ∈ lw_g := tb_1 209 rfl rfl
theorem g_X6_10 {G : Gt} {cc : ByteArray} {nL pc a : Nat} {ls : List (Nat × V)} {st : List V} {h : Hp} (C : Cx G cc nL RX6) (d : decode cc pc = .ok (.getfield 10, 3)) (kk : Rr G (pc + 3) ls (vr 5 (a + 1) :: st) h) : Rr G pc ls (vr 6 a :: st) h := r_getP (k := 6) (j := 0) (T := TX6) (N := 12) C rfl rfl rfl (by decide) f_X6_10 d kk
theorem f_X6_16 : Cond.fieldLink RX6 16 (TX6 1).1 (TX6 1).2.1 (TX6 1).2.2.1 ∈ lw_g := tb_1 210 rfl rfl
theorem g_X6_16 {G : Gt} {cc : ByteArray} {nL pc a : Nat} {ls : List (Nat × V)} {st : List V} {h : Hp} (C : Cx G cc nL RX6) (d : decode cc pc = .ok (.getfield 16, 3)) (kk : Rr G (pc + 3) ls (vr 5 (a + 10) :: st) h) : Rr G pc ls (vr 6 a :: st) h := r_getP (k := 6) (j := 1) (T := TX6) (N := 12) C rfl rfl rfl (by decide) f_X6_16 d kk
theorem f_X6_19 : Cond.fieldLink RX6 19 (TX6 2).1 (TX6 2).2.1 (TX6 2).2.2.1 ∈ lw_g := tb_1 211 rfl rfl
theorem g_X6_19 {G : Gt} {cc : ByteArray} {nL pc a : Nat} {ls : List (Nat × V)} {st : List V} {h : Hp} (C : Cx G cc nL RX6) (d : decode cc pc = .ok (.getfield 19, 3)) (kk : Rr G (pc + 3) ls (vr 5 (a + 19) :: st) h) : Rr G pc ls (vr 6 a :: st) h := r_getP (k := 6) (j := 2) (T := TX6) (N := 12) C rfl rfl rfl (by decide) f_X6_19 d kk
theorem f_X6_22 : Cond.fieldLink RX6 22 (TX6 3).1 (TX6 3).2.1 (TX6 3).2.2.1 ∈ lw_g := tb_1 212 rfl rfl
theorem g_X6_22 {G : Gt} {cc : ByteArray} {nL pc a : Nat} {ls : List (Nat × V)} {st : List V} {h : Hp} (C : Cx G cc nL RX6) {x : Int32} (d : decode cc pc = .ok (.getfield 22, 3)) (hx : xI h a 3 = x) (kk : Rr G (pc + 3) ls (vi x :: st) h) : Rr G pc ls (vr 6 a :: st) h := r_getI (k := 6) (j := 3) (T := TX6) (N := 12) C rfl rfl rfl (by decide) f_X6_22 d hx kk
theorem p_X6_22 {G : Gt} {cc : ByteArray} {nL pc a : Nat} {ls : List (Nat × V)} {st : List V} {h : Hp} (C : Cx G cc nL RX6) {x : Int32} (d : decode cc pc = .ok (.putfield 22, 3)) (hn : narrow (clTy 6 3) (.int x) = .int x) (hf : fits (clTy 6 3) (.int x) = true) (kk : Rr G (pc + 3) ls st (sI h a 3 x)) : Rr G pc ls (vi x :: vr 6 a :: st) h := r_putI (k := 6) (j := 3) (T := TX6) (N := 12) C rfl rfl rfl (by decide) f_X6_22 rfl hn hf d kk
theorem f_X6_29 : Cond.fieldLink RX6 29 (TX6 4).1 (TX6 4).2.1 (TX6 4).2.2.1 ∈ lw_g := tb_1 213 rfl rfl
theorem g_X6_29 {G : Gt} {cc : ByteArray} {nL pc a : Nat} {ls : List (Nat × V)} {st : List V} {h : Hp} (C : Cx G cc nL RX6) (d : decode cc pc = .ok (.getfield 29, 3)) (kk : Rr G (pc + 3) ls (vr 4 (a + 28) :: st) h) : Rr G pc ls (vr 6 a :: st) h := r_getP (k := 6) (j := 4) (T := TX6) (N := 12) C rfl rfl rfl (by decide) f_X6_29 d kk
theorem f_X6_36 : Cond.fieldLink RX6 36 (TX6 5).1 (TX6 5).2.1 (TX6 5).2.2.1 ∈ lw_g := tb_1 214 rfl rfl
theorem g_X6_36 {G : Gt} {cc : ByteArray} {nL pc a : Nat} {ls : List (Nat × V)} {st : List V} {h : Hp} (C : Cx G cc nL RX6) (d : decode cc pc = .ok (.getfield 36, 3)) (kk : Rr G (pc + 3) ls (vr 0 (a + 32) :: st) h) : Rr G pc ls (vr 6 a :: st) h := r_getP (k := 6) (j := 5) (T := TX6) (N := 12) C rfl rfl rfl (by decide) f_X6_36 d kk
theorem f_X6_43 : Cond.fieldLink RX6 43 (TX6 6).1 (TX6 6).2.1 (TX6 6).2.2.1 ∈ lw_g := tb_1 215 rfl rfl
theorem g_X6_43 {G : Gt} {cc : ByteArray} {nL pc a : Nat} {ls : List (Nat × V)} {st : List V} {h : Hp} (C : Cx G cc nL RX6) (d : decode cc pc = .ok (.getfield 43, 3)) (kk : Rr G (pc + 3) ls (vr 1 (a + 34) :: st) h) : Rr G pc ls (vr 6 a :: st) h := r_getP (k := 6) (j := 6) (T := TX6) (N := 12) C rfl rfl rfl (by decide) f_X6_43 d kk
theorem f_X6_50 : Cond.fieldLink RX6 50 (TX6 7).1 (TX6 7).2.1 (TX6 7).2.2.1 ∈ lw_g := tb_1 216 rfl rfl
theorem g_X6_50 {G : Gt} {cc : ByteArray} {nL pc a : Nat} {ls : List (Nat × V)} {st : List V} {h : Hp} (C : Cx G cc nL RX6) (d : decode cc pc = .ok (.getfield 50, 3)) (kk : Rr G (pc + 3) ls (vr 3 (a + 47) :: st) h) : Rr G pc ls (vr 6 a :: st) h := r_getP (k := 6) (j := 7) (T := TX6) (N := 12) C rfl rfl rfl (by decide) f_X6_50 d kk
theorem f_X6_57 : Cond.fieldLink RX6 57 (TX6 8).1 (TX6 8).2.1 (TX6 8).2.2.1 ∈ lw_g := tb_1 217 rfl rfl
theorem g_X6_57 {G : Gt} {cc : ByteArray} {nL pc a : Nat} {ls : List (Nat × V)} {st : List V} {h : Hp} (C : Cx G cc nL RX6) (d : decode cc pc = .ok (.getfield 57, 3)) (kk : Rr G (pc + 3) ls (vr 2 (a + 49) :: st) h) : Rr G pc ls (vr 6 a :: st) h := r_getP (k := 6) (j := 8) (T := TX6) (N := 12) C rfl rfl rfl (by decide) f_X6_57 d kk
theorem f_X6_61 : Cond.fieldLink RX6 61 (TX6 9).1 (TX6 9).2.1 (TX6 9).2.2.1 ∈ lw_g := tb_1 218 rfl rfl
theorem g_X6_61 {G : Gt} {cc : ByteArray} {nL pc a : Nat} {ls : List (Nat × V)} {st : List V} {h : Hp} (C : Cx G cc nL RX6) (d : decode cc pc = .ok (.getfield 61, 3)) (kk : Rr G (pc + 3) ls (vr 26 (a + 62) :: st) h) : Rr G pc ls (vr 6 a :: st) h := r_getP (k := 6) (j := 9) (T := TX6) (N := 12) C rfl rfl rfl (by decide) f_X6_61 d kk
theorem f_X6_65 : Cond.fieldLink RX6 65 (TX6 10).1 (TX6 10).2.1 (TX6 10).2.2.1 ∈ lw_g := tb_1 219 rfl rfl
theorem g_X6_65 {G : Gt} {cc : ByteArray} {nL pc a : Nat} {ls : List (Nat × V)} {st : List V} {h : Hp} (C : Cx G cc nL RX6) {x : Int32} (d : decode cc pc = .ok (.getfield 65, 3)) (hx : xI h a 10 = x) (kk : Rr G (pc + 3) ls (vi x :: st) h) : Rr G pc ls (vr 6 a :: st) h := r_getI (k := 6) (j := 10) (T := TX6) (N := 12) C rfl rfl rfl (by decide) f_X6_65 d hx kk
theorem p_X6_65 {G : Gt} {cc : ByteArray} {nL pc a : Nat} {ls : List (Nat × V)} {st : List V} {h : Hp} (C : Cx G cc nL RX6) {x : Int32} (d : decode cc pc = .ok (.putfield 65, 3)) (hn : narrow (clTy 6 10) (.int x) = .int x) (hf : fits (clTy 6 10) (.int x) = true) (kk : Rr G (pc + 3) ls st (sI h a 10 x)) : Rr G pc ls (vi x :: vr 6 a :: st) h := r_putI (k := 6) (j := 10) (T := TX6) (N := 12) C rfl rfl rfl (by decide) f_X6_65 rfl hn hf d kk
theorem f_X6_69 : Cond.fieldLink RX6 69 (TX6 11).1 (TX6 11).2.1 (TX6 11).2.2.1 ∈ lw_g := tb_1 220 rfl rfl
theorem g_X6_69 {G : Gt} {cc : ByteArray} {nL pc a : Nat} {ls : List (Nat × V)} {st : List V} {h : Hp} (C : Cx G cc nL RX6) {x : Int32} (d : decode cc pc = .ok (.getfield 69, 3)) (hx : xI h a 11 = x) (kk : Rr G (pc + 3) ls (vi x :: st) h) : Rr G pc ls (vr 6 a :: st) h := r_getI (k := 6) (j := 11) (T := TX6) (N := 12) C rfl rfl rfl (by decide) f_X6_69 d hx kk
theorem p_X6_69 {G : Gt} {cc : ByteArray} {nL pc a : Nat} {ls : List (Nat × V)} {st : List V} {h : Hp} (C : Cx G cc nL RX6) {x : Int32} (d : decode cc pc = .ok (.putfield 69, 3)) (hn : narrow (clTy 6 11) (.int x) = .int x) (hf : fits (clTy 6 11) (.int x) = true) (kk : Rr G (pc + 3) ls st (sI h a 11 x)) : Rr G pc ls (vi x :: vr 6 a :: st) h := r_putI (k := 6) (j := 11) (T := TX6) (N := 12) C rfl rfl rfl (by decide) f_X6_69 rfl hn hf d kk
theorem f_X7_7 : Cond.fieldLink RX7 7 (TX7 0).1 (TX7 0).2.1 (TX7 0).2.2.1 ∈ lw_g := tb_5 12 rfl rfl
theorem g_X7_7 {G : Gt} {cc : ByteArray} {nL pc a : Nat} {ls : List (Nat × V)} {st : List V} {h : Hp} (C : Cx G cc nL RX7) (d : decode cc pc = .ok (.getfield 7, 3)) (kk : Rr G (pc + 3) ls (vr 22 (a + 1) :: st) h) : Rr G pc ls (vr 7 a :: st) h := r_getP (k := 7) (j := 0) (T := TX7) (N := 32) C rfl rfl rfl (by decide) f_X7_7 d kk
theorem f_X7_13 : Cond.fieldLink RX7 13 (TX7 1).1 (TX7 1).2.1 (TX7 1).2.2.1 ∈ lw_g := tb_5 13 rfl rfl
theorem g_X7_13 {G : Gt} {cc : ByteArray} {nL pc a : Nat} {ls : List (Nat × V)} {st : List V} {h : Hp} (C : Cx G cc nL RX7) (d : decode cc pc = .ok (.getfield 13, 3)) (kk : Rr G (pc + 3) ls (vr 22 (a + 2) :: st) h) : Rr G pc ls (vr 7 a :: st) h := r_getP (k := 7) (j := 1) (T := TX7) (N := 32) C rfl rfl rfl (by decide) f_X7_13 d kk
theorem f_X7_16 : Cond.fieldLink RX7 16 (TX7 2).1 (TX7 2).2.1 (TX7 2).2.2.1 ∈ lw_g := tb_5 14 rfl rfl
theorem g_X7_16 {G : Gt} {cc : ByteArray} {nL pc a : Nat} {ls : List (Nat × V)} {st : List V} {h : Hp} (C : Cx G cc nL RX7) (d : decode cc pc = .ok (.getfield 16, 3)) (kk : Rr G (pc + 3) ls (vr 22 (a + 3) :: st) h) : Rr G pc ls (vr 7 a :: st) h := r_getP (k := 7) (j := 2) (T := TX7) (N := 32) C rfl rfl rfl (by decide) f_X7_16 d kk
theorem f_X7_21 : Cond.fieldLink RX7 21 (TX7 3).1 (TX7 3).2.1 (TX7 3).2.2.1 ∈ lw_g := tb_5 15 rfl rfl
theorem g_X7_21 {G : Gt} {cc : ByteArray} {nL pc a : Nat} {ls : List (Nat × V)} {st : List V} {h : Hp} (C : Cx G cc nL RX7) (d : decode cc pc = .ok (.getfield 21, 3)) (kk : Rr G (pc + 3) ls (vr 33 (a + 4) :: st) h) : Rr G pc ls (vr 7 a :: st) h := r_getP (k := 7) (j := 3) (T := TX7) (N := 32) C rfl rfl rfl (by decide) f_X7_21 d kk
theorem f_X7_24 : Cond.fieldLink RX7 24 (TX7 4).1 (TX7 4).2.1 (TX7 4).2.2.1 ∈ lw_g := tb_5 16 rfl rfl
theorem g_X7_24 {G : Gt} {cc : ByteArray} {nL pc a : Nat} {ls : List (Nat × V)} {st : List V} {h : Hp} (C : Cx G cc nL RX7) (d : decode cc pc = .ok (.getfield 24, 3)) (kk : Rr G (pc + 3) ls (vr 31 (a + 13) :: st) h) : Rr G pc ls (vr 7 a :: st) h := r_getP (k := 7) (j := 4) (T := TX7) (N := 32) C rfl rfl rfl (by decide) f_X7_24 d kk
theorem f_X7_28 : Cond.fieldLink RX7 28 (TX7 5).1 (TX7 5).2.1 (TX7 5).2.2.1 ∈ lw_g := tb_5 17 rfl rfl
theorem g_X7_28 {G : Gt} {cc : ByteArray} {nL pc a : Nat} {ls : List (Nat × V)} {st : List V} {h : Hp} (C : Cx G cc nL RX7) (d : decode cc pc = .ok (.getfield 28, 3)) (kk : Rr G (pc + 3) ls (vr 22 (a + 14) :: st) h) : Rr G pc ls (vr 7 a :: st) h := r_getP (k := 7) (j := 5) (T := TX7) (N := 32) C rfl rfl rfl (by decide) f_X7_28 d kk
theorem f_X7_31 : Cond.fieldLink RX7 31 (TX7 6).1 (TX7 6).2.1 (TX7 6).2.2.1 ∈ lw_g := tb_5 18 rfl rfl
theorem g_X7_31 {G : Gt} {cc : ByteArray} {nL pc a : Nat} {ls : List (Nat × V)} {st : List V} {h : Hp} (C : Cx G cc nL RX7) (d : decode cc pc = .ok (.getfield 31, 3)) (kk : Rr G (pc + 3) ls (vr 22 (a + 15) :: st) h) : Rr G pc ls (vr 7 a :: st) h := r_getP (k := 7) (j := 6) (T := TX7) (N := 32) C rfl rfl rfl (by decide) f_X7_31 d kk
theorem f_X7_34 : Cond.fieldLink RX7 34 (TX7 7).1 (TX7 7).2.1 (TX7 7).2.2.1 ∈ lw_g := tb_5 19 rfl rfl
theorem g_X7_34 {G : Gt} {cc : ByteArray} {nL pc a : Nat} {ls : List (Nat × V)} {st : List V} {h : Hp} (C : Cx G cc nL RX7) (d : decode cc pc = .ok (.getfield 34, 3)) (kk : Rr G (pc + 3) ls (vr 30 (a + 16) :: st) h) : Rr G pc ls (vr 7 a :: st) h := r_getP (k := 7) (j := 7) (T := TX7) (N := 32) C rfl rfl rfl (by decide) f_X7_34 d kk
theorem f_X7_138 : Cond.fieldLink RX7 138 (TX7 8).1 (TX7 8).2.1 (TX7 8).2.2.1 ∈ lw_g := tb_5 20 rfl rfl
theorem g_X7_138 {G : Gt} {cc : ByteArray} {nL pc a : Nat} {ls : List (Nat × V)} {st : List V} {h : Hp} (C : Cx G cc nL RX7) {x : Int32} (d : decode cc pc = .ok (.getfield 138, 3)) (hx : xI h a 8 = x) (kk : Rr G (pc + 3) ls (vi x :: st) h) : Rr G pc ls (vr 7 a :: st) h := r_getI (k := 7) (j := 8) (T := TX7) (N := 32) C rfl rfl rfl (by decide) f_X7_138 d hx kk
theorem p_X7_138 {G : Gt} {cc : ByteArray} {nL pc a : Nat} {ls : List (Nat × V)} {st : List V} {h : Hp} (C : Cx G cc nL RX7) {x : Int32} (d : decode cc pc = .ok (.putfield 138, 3)) (hn : narrow (clTy 7 8) (.int x) = .int x) (hf : fits (clTy 7 8) (.int x) = true) (kk : Rr G (pc + 3) ls st (sI h a 8 x)) : Rr G pc ls (vi x :: vr 7 a :: st) h := r_putI (k := 7) (j := 8) (T := TX7) (N := 32) C rfl rfl rfl (by decide) f_X7_138 rfl hn hf d kk
theorem f_X7_37 : Cond.fieldLink RX7 37 (TX7 9).1 (TX7 9).2.1 (TX7 9).2.2.1 ∈ lw_g := tb_5 21 rfl rfl
theorem g_X7_37 {G : Gt} {cc : ByteArray} {nL pc a : Nat} {ls : List (Nat × V)} {st : List V} {h : Hp} (C : Cx G cc nL RX7) (d : decode cc pc = .ok (.getfield 37, 3)) (kk : Rr G (pc + 3) ls (vr 22 (a + 17) :: st) h) : Rr G pc ls (vr 7 a :: st) h := r_getP (k := 7) (j := 9) (T := TX7) (N := 32) C rfl rfl rfl (by decide) f_X7_37 d kk
theorem f_X7_64 : Cond.fieldLink RX7 64 (TX7 10).1 (TX7 10).2.1 (TX7 10).2.2.1 ∈ lw_g := tb_5 22 rfl rfl
theorem g_X7_64 {G : Gt} {cc : ByteArray} {nL pc a : Nat} {ls : List (Nat × V)} {st : List V} {h : Hp} (C : Cx G cc nL RX7) {x : Int32} (d : decode cc pc = .ok (.getfield 64, 3)) (hx : xI h a 10 = x) (kk : Rr G (pc + 3) ls (vi x :: st) h) : Rr G pc ls (vr 7 a :: st) h := r_getI (k := 7) (j := 10) (T := TX7) (N := 32) C rfl rfl rfl (by decide) f_X7_64 d hx kk
theorem p_X7_64 {G : Gt} {cc : ByteArray} {nL pc a : Nat} {ls : List (Nat × V)} {st : List V} {h : Hp} (C : Cx G cc nL RX7) {x : Int32} (d : decode cc pc = .ok (.putfield 64, 3)) (hn : narrow (clTy 7 10) (.int x) = .int x) (hf : fits (clTy 7 10) (.int x) = true) (kk : Rr G (pc + 3) ls st (sI h a 10 x)) : Rr G pc ls (vi x :: vr 7 a :: st) h := r_putI (k := 7) (j := 10) (T := TX7) (N := 32) C rfl rfl rfl (by decide) f_X7_64 rfl hn hf d kk
theorem f_X7_40 : Cond.fieldLink RX7 40 (TX7 11).1 (TX7 11).2.1 (TX7 11).2.2.1 ∈ lw_g := tb_5 23 rfl rfl
theorem g_X7_40 {G : Gt} {cc : ByteArray} {nL pc a : Nat} {ls : List (Nat × V)} {st : List V} {h : Hp} (C : Cx G cc nL RX7) (d : decode cc pc = .ok (.getfield 40, 3)) (kk : Rr G (pc + 3) ls (vr 20 (a + 18) :: st) h) : Rr G pc ls (vr 7 a :: st) h := r_getP (k := 7) (j := 11) (T := TX7) (N := 32) C rfl rfl rfl (by decide) f_X7_40 d kk
theorem f_X7_43 : Cond.fieldLink RX7 43 (TX7 12).1 (TX7 12).2.1 (TX7 12).2.2.1 ∈ lw_g := tb_5 24 rfl rfl
theorem g_X7_43 {G : Gt} {cc : ByteArray} {nL pc a : Nat} {ls : List (Nat × V)} {st : List V} {h : Hp} (C : Cx G cc nL RX7) (d : decode cc pc = .ok (.getfield 43, 3)) (kk : Rr G (pc + 3) ls (vr 20 (a + 19) :: st) h) : Rr G pc ls (vr 7 a :: st) h := r_getP (k := 7) (j := 12) (T := TX7) (N := 32) C rfl rfl rfl (by decide) f_X7_43 d kk
theorem f_X7_71 : Cond.fieldLink RX7 71 (TX7 13).1 (TX7 13).2.1 (TX7 13).2.2.1 ∈ lw_g := tb_5 25 rfl rfl
theorem g_X7_71 {G : Gt} {cc : ByteArray} {nL pc a : Nat} {ls : List (Nat × V)} {st : List V} {h : Hp} (C : Cx G cc nL RX7) {x : Int32} (d : decode cc pc = .ok (.getfield 71, 3)) (hx : xI h a 13 = x) (kk : Rr G (pc + 3) ls (vi x :: st) h) : Rr G pc ls (vr 7 a :: st) h := r_getI (k := 7) (j := 13) (T := TX7) (N := 32) C rfl rfl rfl (by decide) f_X7_71 d hx kk
theorem p_X7_71 {G : Gt} {cc : ByteArray} {nL pc a : Nat} {ls : List (Nat × V)} {st : List V} {h : Hp} (C : Cx G cc nL RX7) {x : Int32} (d : decode cc pc = .ok (.putfield 71, 3)) (hn : narrow (clTy 7 13) (.int x) = .int x) (hf : fits (clTy 7 13) (.int x) = true) (kk : Rr G (pc + 3) ls st (sI h a 13 x)) : Rr G pc ls (vi x :: vr 7 a :: st) h := r_putI (k := 7) (j := 13) (T := TX7) (N := 32) C rfl rfl rfl (by decide) f_X7_71 rfl hn hf d kk
theorem f_X7_46 : Cond.fieldLink RX7 46 (TX7 14).1 (TX7 14).2.1 (TX7 14).2.2.1 ∈ lw_g := tb_5 26 rfl rfl
theorem g_X7_46 {G : Gt} {cc : ByteArray} {nL pc a : Nat} {ls : List (Nat × V)} {st : List V} {h : Hp} (C : Cx G cc nL RX7) (d : decode cc pc = .ok (.getfield 46, 3)) (kk : Rr G (pc + 3) ls (vr 21 (a + 20) :: st) h) : Rr G pc ls (vr 7 a :: st) h := r_getP (k := 7) (j := 14) (T := TX7) (N := 32) C rfl rfl rfl (by decide) f_X7_46 d kk
theorem f_X7_49 : Cond.fieldLink RX7 49 (TX7 15).1 (TX7 15).2.1 (TX7 15).2.2.1 ∈ lw_g := tb_5 27 rfl rfl
theorem g_X7_49 {G : Gt} {cc : ByteArray} {nL pc a : Nat} {ls : List (Nat × V)} {st : List V} {h : Hp} (C : Cx G cc nL RX7) (d : decode cc pc = .ok (.getfield 49, 3)) (kk : Rr G (pc + 3) ls (vr 21 (a + 21) :: st) h) : Rr G pc ls (vr 7 a :: st) h := r_getP (k := 7) (j := 15) (T := TX7) (N := 32) C rfl rfl rfl (by decide) f_X7_49 d kk
theorem f_X7_74 : Cond.fieldLink RX7 74 (TX7 16).1 (TX7 16).2.1 (TX7 16).2.2.1 ∈ lw_g := tb_5 28 rfl rfl
theorem g_X7_74 {G : Gt} {cc : ByteArray} {nL pc a : Nat} {ls : List (Nat × V)} {st : List V} {h : Hp} (C : Cx G cc nL RX7) {x : Int32} (d : decode cc pc = .ok (.getfield 74, 3)) (hx : xI h a 16 = x) (kk : Rr G (pc + 3) ls (vi x :: st) h) : Rr G pc ls (vr 7 a :: st) h := r_getI (k := 7) (j := 16) (T := TX7) (N := 32) C rfl rfl rfl (by decide) f_X7_74 d hx kk
theorem p_X7_74 {G : Gt} {cc : ByteArray} {nL pc a : Nat} {ls : List (Nat × V)} {st : List V} {h : Hp} (C : Cx G cc nL RX7) {x : Int32} (d : decode cc pc = .ok (.putfield 74, 3)) (hn : narrow (clTy 7 16) (.int x) = .int x) (hf : fits (clTy 7 16) (.int x) = true) (kk : Rr G (pc + 3) ls st (sI h a 16 x)) : Rr G pc ls (vi x :: vr 7 a :: st) h := r_putI (k := 7) (j := 16) (T := TX7) (N := 32) C rfl rfl rfl (by decide) f_X7_74 rfl hn hf d kk
theorem f_X7_54 : Cond.fieldLink RX7 54 (TX7 17).1 (TX7 17).2.1 (TX7 17).2.2.1 ∈ lw_g := tb_5 29 rfl rfl
theorem g_X7_54 {G : Gt} {cc : ByteArray} {nL pc a : Nat} {ls : List (Nat × V)} {st : List V} {h : Hp} (C : Cx G cc nL RX7) (d : decode cc pc = .ok (.getfield 54, 3)) (kk : Rr G (pc + 3) ls (vr 34 (a + 22) :: st) h) : Rr G pc ls (vr 7 a :: st) h := r_getP (k := 7) (j := 17) (T := TX7) (N := 32) C rfl rfl rfl (by decide) f_X7_54 d kk
theorem f_X7_339 : Cond.fieldLink RX7 339 (TX7 18).1 (TX7 18).2.1 (TX7 18).2.2.1 ∈ lw_g := tb_5 30 rfl rfl
theorem g_X7_339 {G : Gt} {cc : ByteArray} {nL pc a : Nat} {ls : List (Nat × V)} {st : List V} {h : Hp} (C : Cx G cc nL RX7) {x : Int32} (d : decode cc pc = .ok (.getfield 339, 3)) (hx : xI h a 18 = x) (kk : Rr G (pc + 3) ls (vi x :: st) h) : Rr G pc ls (vr 7 a :: st) h := r_getI (k := 7) (j := 18) (T := TX7) (N := 32) C rfl rfl rfl (by decide) f_X7_339 d hx kk
theorem p_X7_339 {G : Gt} {cc : ByteArray} {nL pc a : Nat} {ls : List (Nat × V)} {st : List V} {h : Hp} (C : Cx G cc nL RX7) {x : Int32} (d : decode cc pc = .ok (.putfield 339, 3)) (hn : narrow (clTy 7 18) (.int x) = .int x) (hf : fits (clTy 7 18) (.int x) = true) (kk : Rr G (pc + 3) ls st (sI h a 18 x)) : Rr G pc ls (vi x :: vr 7 a :: st) h := r_putI (k := 7) (j := 18) (T := TX7) (N := 32) C rfl rfl rfl (by decide) f_X7_339 rfl hn hf d kk
theorem f_X7_347 : Cond.fieldLink RX7 347 (TX7 19).1 (TX7 19).2.1 (TX7 19).2.2.1 ∈ lw_g := tb_5 31 rfl rfl
theorem g_X7_347 {G : Gt} {cc : ByteArray} {nL pc a : Nat} {ls : List (Nat × V)} {st : List V} {h : Hp} (C : Cx G cc nL RX7) {x : Int32} (d : decode cc pc = .ok (.getfield 347, 3)) (hx : xI h a 19 = x) (kk : Rr G (pc + 3) ls (vi x :: st) h) : Rr G pc ls (vr 7 a :: st) h := r_getI (k := 7) (j := 19) (T := TX7) (N := 32) C rfl rfl rfl (by decide) f_X7_347 d hx kk
theorem p_X7_347 {G : Gt} {cc : ByteArray} {nL pc a : Nat} {ls : List (Nat × V)} {st : List V} {h : Hp} (C : Cx G cc nL RX7) {x : Int32} (d : decode cc pc = .ok (.putfield 347, 3)) (hn : narrow (clTy 7 19) (.int x) = .int x) (hf : fits (clTy 7 19) (.int x) = true) (kk : Rr G (pc + 3) ls st (sI h a 19 x)) : Rr G pc ls (vi x :: vr 7 a :: st) h := r_putI (k := 7) (j := 19) (T := TX7) (N := 32) C rfl rfl rfl (by decide) f_X7_347 rfl hn hf d kk
theorem f_X7_57 : Cond.fieldLink RX7 57 (TX7 20).1 (TX7 20).2.1 (TX7 20).2.2.1 ∈ lw_g := tb_5 32 rfl rfl
theorem g_X7_57 {G : Gt} {cc : ByteArray} {nL pc a : Nat} {ls : List (Nat × V)} {st : List V} {h : Hp} (C : Cx G cc nL RX7) {x : Int32} (d : decode cc pc = .ok (.getfield 57, 3)) (hx : xI h a 20 = x) (kk : Rr G (pc + 3) ls (vi x :: st) h) : Rr G pc ls (vr 7 a :: st) h := r_getI (k := 7) (j := 20) (T := TX7) (N := 32) C rfl rfl rfl (by decide) f_X7_57 d hx kk
theorem p_X7_57 {G : Gt} {cc : ByteArray} {nL pc a : Nat} {ls : List (Nat × V)} {st : List V} {h : Hp} (C : Cx G cc nL RX7) {x : Int32} (d : decode cc pc = .ok (.putfield 57, 3)) (hn : narrow (clTy 7 20) (.int x) = .int x) (hf : fits (clTy 7 20) (.int x) = true) (kk : Rr G (pc + 3) ls st (sI h a 20 x)) : Rr G pc ls (vi x :: vr 7 a :: st) h := r_putI (k := 7) (j := 20) (T := TX7) (N := 32) C rfl rfl rfl (by decide) f_X7_57 rfl hn hf d kk
theorem f_X7_354 : Cond.fieldLink RX7 354 (TX7 21).1 (TX7 21).2.1 (TX7 21).2.2.1 ∈ lw_g := tb_5 33 rfl rfl
theorem f_X7_110 : Cond.fieldLink RX7 110 (TX7 22).1 (TX7 22).2.1 (TX7 22).2.2.1 ∈ lw_g := tb_5 34 rfl rfl
theorem f_X7_141 : Cond.fieldLink RX7 141 (TX7 23).1 (TX7 23).2.1 (TX7 23).2.2.1 ∈ lw_g := tb_5 35 rfl rfl
theorem g_X7_141 {G : Gt} {cc : ByteArray} {nL pc a : Nat} {ls : List (Nat × V)} {st : List V} {h : Hp} (C : Cx G cc nL RX7) {x : Int32} (d : decode cc pc = .ok (.getfield 141, 3)) (hx : xI h a 23 = x) (kk : Rr G (pc + 3) ls (vi x :: st) h) : Rr G pc ls (vr 7 a :: st) h := r_getI (k := 7) (j := 23) (T := TX7) (N := 32) C rfl rfl rfl (by decide) f_X7_141 d hx kk
theorem p_X7_141 {G : Gt} {cc : ByteArray} {nL pc a : Nat} {ls : List (Nat × V)} {st : List V} {h : Hp} (C : Cx G cc nL RX7) {x : Int32} (d : decode cc pc = .ok (.putfield 141, 3)) (hn : narrow (clTy 7 23) (.int x) = .int x) (hf : fits (clTy 7 23) (.int x) = true) (kk : Rr G (pc + 3) ls st (sI h a 23 x)) : Rr G pc ls (vi x :: vr 7 a :: st) h := r_putI (k := 7) (j := 23) (T := TX7) (N := 32) C rfl rfl rfl (by decide) f_X7_141 rfl hn hf d kk
theorem f_X7_151 : Cond.fieldLink RX7 151 (TX7 24).1 (TX7 24).2.1 (TX7 24).2.2.1 ∈ lw_g := tb_5 36 rfl rfl
theorem g_X7_151 {G : Gt} {cc : ByteArray} {nL pc a : Nat} {ls : List (Nat × V)} {st : List V} {h : Hp} (C : Cx G cc nL RX7) {x : Int32} (d : decode cc pc = .ok (.getfield 151, 3)) (hx : xI h a 24 = x) (kk : Rr G (pc + 3) ls (vi x :: st) h) : Rr G pc ls (vr 7 a :: st) h := r_getI (k := 7) (j := 24) (T := TX7) (N := 32) C rfl rfl rfl (by decide) f_X7_151 d hx kk
theorem p_X7_151 {G : Gt} {cc : ByteArray} {nL pc a : Nat} {ls : List (Nat × V)} {st : List V} {h : Hp} (C : Cx G cc nL RX7) {x : Int32} (d : decode cc pc = .ok (.putfield 151, 3)) (hn : narrow (clTy 7 24) (.int x) = .int x) (hf : fits (clTy 7 24) (.int x) = true) (kk : Rr G (pc + 3) ls st (sI h a 24 x)) : Rr G pc ls (vi x :: vr 7 a :: st) h := r_putI (k := 7) (j := 24) (T := TX7) (N := 32) C rfl rfl rfl (by decide) f_X7_151 rfl hn hf d kk
theorem f_X7_144 : Cond.fieldLink RX7 144 (TX7 25).1 (TX7 25).2.1 (TX7 25).2.2.1 ∈ lw_g := tb_5 37 rfl rfl
theorem g_X7_144 {G : Gt} {cc : ByteArray} {nL pc a : Nat} {ls : List (Nat × V)} {st : List V} {h : Hp} (C : Cx G cc nL RX7) {x : Int32} (d : decode cc pc = .ok (.getfield 144, 3)) (hx : xI h a 25 = x) (kk : Rr G (pc + 3) ls (vi x :: st) h) : Rr G pc ls (vr 7 a :: st) h := r_getI (k := 7) (j := 25) (T := TX7) (N := 32) C rfl rfl rfl (by decide) f_X7_144 d hx kk
theorem p_X7_144 {G : Gt} {cc : ByteArray} {nL pc a : Nat} {ls : List (Nat × V)} {st : List V} {h : Hp} (C : Cx G cc nL RX7) {x : Int32} (d : decode cc pc = .ok (.putfield 144, 3)) (hn : narrow (clTy 7 25) (.int x) = .int x) (hf : fits (clTy 7 25) (.int x) = true) (kk : Rr G (pc + 3) ls st (sI h a 25 x)) : Rr G pc ls (vi x :: vr 7 a :: st) h := r_putI (k := 7) (j := 25) (T := TX7) (N := 32) C rfl rfl rfl (by decide) f_X7_144 rfl hn hf d kk
theorem f_X7_147 : Cond.fieldLink RX7 147 (TX7 26).1 (TX7 26).2.1 (TX7 26).2.2.1 ∈ lw_g := tb_5 38 rfl rfl
theorem g_X7_147 {G : Gt} {cc : ByteArray} {nL pc a : Nat} {ls : List (Nat × V)} {st : List V} {h : Hp} (C : Cx G cc nL RX7) {x : Int64} (d : decode cc pc = .ok (.getfield 147, 3)) (hx : xL h a 26 = x) (kk : Rr G (pc + 3) ls (vl x :: st) h) : Rr G pc ls (vr 7 a :: st) h := r_getL (k := 7) (j := 26) (T := TX7) (N := 32) C rfl rfl rfl (by decide) f_X7_147 d hx kk
theorem p_X7_147 {G : Gt} {cc : ByteArray} {nL pc a : Nat} {ls : List (Nat × V)} {st : List V} {h : Hp} (C : Cx G cc nL RX7) {x : Int64} (d : decode cc pc = .ok (.putfield 147, 3)) (kk : Rr G (pc + 3) ls st (sL h a 26 x)) : Rr G pc ls (vl x :: vr 7 a :: st) h := r_putL (k := 7) (j := 26) (T := TX7) (N := 32) C rfl rfl rfl (by decide) f_X7_147 rfl rfl rfl d kk
theorem f_X7_164 : Cond.fieldLink RX7 164 (TX7 27).1 (TX7 27).2.1 (TX7 27).2.2.1 ∈ lw_g := tb_5 39 rfl rfl
theorem g_X7_164 {G : Gt} {cc : ByteArray} {nL pc a : Nat} {ls : List (Nat × V)} {st : List V} {h : Hp} (C : Cx G cc nL RX7) {x : Int32} (d : decode cc pc = .ok (.getfield 164, 3)) (hx : xI h a 27 = x) (kk : Rr G (pc + 3) ls (vi x :: st) h) : Rr G pc ls (vr 7 a :: st) h := r_getI (k := 7) (j := 27) (T := TX7) (N := 32) C rfl rfl rfl (by decide) f_X7_164 d hx kk
theorem p_X7_164 {G : Gt} {cc : ByteArray} {nL pc a : Nat} {ls : List (Nat × V)} {st : List V} {h : Hp} (C : Cx G cc nL RX7) {x : Int32} (d : decode cc pc = .ok (.putfield 164, 3)) (hn : narrow (clTy 7 27) (.int x) = .int x) (hf : fits (clTy 7 27) (.int x) = true) (kk : Rr G (pc + 3) ls st (sI h a 27 x)) : Rr G pc ls (vi x :: vr 7 a :: st) h := r_putI (k := 7) (j := 27) (T := TX7) (N := 32) C rfl rfl rfl (by decide) f_X7_164 rfl hn hf d kk
theorem f_X7_181 : Cond.fieldLink RX7 181 (TX7 28).1 (TX7 28).2.1 (TX7 28).2.2.1 ∈ lw_g := tb_5 40 rfl rfl
theorem g_X7_181 {G : Gt} {cc : ByteArray} {nL pc a : Nat} {ls : List (Nat × V)} {st : List V} {h : Hp} (C : Cx G cc nL RX7) {x : Int32} (d : decode cc pc = .ok (.getfield 181, 3)) (hx : xI h a 28 = x) (kk : Rr G (pc + 3) ls (vi x :: st) h) : Rr G pc ls (vr 7 a :: st) h := r_getI (k := 7) (j := 28) (T := TX7) (N := 32) C rfl rfl rfl (by decide) f_X7_181 d hx kk
theorem p_X7_181 {G : Gt} {cc : ByteArray} {nL pc a : Nat} {ls : List (Nat × V)} {st : List V} {h : Hp} (C : Cx G cc nL RX7) {x : Int32} (d : decode cc pc = .ok (.putfield 181, 3)) (hn : narrow (clTy 7 28) (.int x) = .int x) (hf : fits (clTy 7 28) (.int x) = true) (kk : Rr G (pc + 3) ls st (sI h a 28 x)) : Rr G pc ls (vi x :: vr 7 a :: st) h := r_putI (k := 7) (j := 28) (T := TX7) (N := 32) C rfl rfl rfl (by decide) f_X7_181 rfl hn hf d kk
theorem f_X7_228 : Cond.fieldLink RX7 228 (TX7 29).1 (TX7 29).2.1 (TX7 29).2.2.1 ∈ lw_g := tb_5 41 rfl rfl
theorem g_X7_228 {G : Gt} {cc : ByteArray} {nL pc a : Nat} {ls : List (Nat × V)} {st : List V} {h : Hp} (C : Cx G cc nL RX7) {x : Int32} (d : decode cc pc = .ok (.getfield 228, 3)) (hx : xI h a 29 = x) (kk : Rr G (pc + 3) ls (vi x :: st) h) : Rr G pc ls (vr 7 a :: st) h := r_getI (k := 7) (j := 29) (T := TX7) (N := 32) C rfl rfl rfl (by decide) f_X7_228 d hx kk
theorem p_X7_228 {G : Gt} {cc : ByteArray} {nL pc a : Nat} {ls : List (Nat × V)} {st : List V} {h : Hp} (C : Cx G cc nL RX7) {x : Int32} (d : decode cc pc = .ok (.putfield 228, 3)) (hn : narrow (clTy 7 29) (.int x) = .int x) (hf : fits (clTy 7 29) (.int x) = true) (kk : Rr G (pc + 3) ls st (sI h a 29 x)) : Rr G pc ls (vi x :: vr 7 a :: st) h := r_putI (k := 7) (j := 29) (T := TX7) (N := 32) C rfl rfl rfl (by decide) f_X7_228 rfl hn hf d kk
theorem f_X7_61 : Cond.fieldLink RX7 61 (TX7 30).1 (TX7 30).2.1 (TX7 30).2.2.1 ∈ lw_g := tb_5 42 rfl rfl
theorem g_X7_61 {G : Gt} {cc : ByteArray} {nL pc a : Nat} {ls : List (Nat × V)} {st : List V} {h : Hp} (C : Cx G cc nL RX7) (d : decode cc pc = .ok (.getfield 61, 3)) (kk : Rr G (pc + 3) ls (vr 20 (a + 31) :: st) h) : Rr G pc ls (vr 7 a :: st) h := r_getP (k := 7) (j := 30) (T := TX7) (N := 32) C rfl rfl rfl (by decide) f_X7_61 d kk
theorem f_X7_302 : Cond.fieldLink RX7 302 (TX7 31).1 (TX7 31).2.1 (TX7 31).2.2.1 ∈ lw_g := tb_5 43 rfl rfl
theorem g_X7_302 {G : Gt} {cc : ByteArray} {nL pc a : Nat} {ls : List (Nat × V)} {st : List V} {h : Hp} (C : Cx G cc nL RX7) {x : Int64} (d : decode cc pc = .ok (.getfield 302, 3)) (hx : xL h a 31 = x) (kk : Rr G (pc + 3) ls (vl x :: st) h) : Rr G pc ls (vr 7 a :: st) h := r_getL (k := 7) (j := 31) (T := TX7) (N := 32) C rfl rfl rfl (by decide) f_X7_302 d hx kk
theorem p_X7_302 {G : Gt} {cc : ByteArray} {nL pc a : Nat} {ls : List (Nat × V)} {st : List V} {h : Hp} (C : Cx G cc nL RX7) {x : Int64} (d : decode cc pc = .ok (.putfield 302, 3)) (kk : Rr G (pc + 3) ls st (sL h a 31 x)) : Rr G pc ls (vl x :: vr 7 a :: st) h := r_putL (k := 7) (j := 31) (T := TX7) (N := 32) C rfl rfl rfl (by decide) f_X7_302 rfl rfl rfl d kk
theorem n_X1_30 : Cond.constantLong RX1 30 (-1 : Int64) ∈ lw_g := tb_1 145 rfl rfl
theorem n_J6_265 : Cond.constant RJ6 265 (1431655765 : Int32) ∈ lw_g := tb_4 20 rfl rfl
theorem n_J6_266 : Cond.constant RJ6 266 (858993459 : Int32) ∈ lw_g := tb_4 21 rfl rfl
theorem n_J6_267 : Cond.constant RJ6 267 (252645135 : Int32) ∈ lw_g := tb_4 22 rfl rfl
theorem n_X6_255 : Cond.constantLong RX6 255 (-1 : Int64) ∈ lw_g := tb_4 31 rfl rfl
theorem n_X1_66 : Cond.constantLong RX1 66 (10 : Int64) ∈ lw_g := tb_4 65 rfl rfl
theorem n_X6_302 : Cond.constantLong RX6 302 (-1000000000002 : Int64) ∈ lw_g := tb_4 136 rfl rfl
theorem n_X6_304 : Cond.constantLong RX6 304 (-1000000000005 : Int64) ∈ lw_g := tb_4 137 rfl rfl
theorem n_X5_100 : Cond.constant RX5 100 (1103515245 : Int32) ∈ lw_g := tb_4 218 rfl rfl
theorem n_X7_77 : Cond.constantLong RX7 77 (7 : Int64) ∈ lw_g := tb_5 113 rfl rfl
theorem n_X7_79 : Cond.constantLong RX7 79 (4 : Int64) ∈ lw_g := tb_5 117 rfl rfl
theorem n_X7_81 : Cond.constantLong RX7 81 (40 : Int64) ∈ lw_g := tb_5 118 rfl rfl
theorem n_X7_94 : Cond.constantLong RX7 94 (5 : Int64) ∈ lw_g := tb_5 150 rfl rfl
theorem n_X7_96 : Cond.constantLong RX7 96 (99 : Int64) ∈ lw_g := tb_5 151 rfl rfl
theorem n_X7_118 : Cond.constantLong RX7 118 (9 : Int64) ∈ lw_g := tb_5 219 rfl rfl
theorem n_X7_120 : Cond.constantLong RX7 120 (10 : Int64) ∈ lw_g := tb_5 220 rfl rfl
theorem n_X7_160 : Cond.constantLong RX7 160 (48 : Int64) ∈ lw_g := tb_6 31 rfl rfl
theorem n_X7_162 : Cond.constantLong RX7 162 (100000 : Int64) ∈ lw_g := tb_6 32 rfl rfl
theorem n_X7_309 : Cond.constantLong RX7 309 (-1 : Int64) ∈ lw_g := tb_6 189 rfl rfl
theorem n_X7_320 : Cond.constantLong RX7 320 (1000000000000 : Int64) ∈ lw_g := tb_6 234 rfl rfl
theorem n_X7_325 : Cond.constantLong RX7 325 (8 : Int64) ∈ lw_g := tb_7 7 rfl rfl
theorem n_X7_327 : Cond.constantLong RX7 327 (20 : Int64) ∈ lw_g := tb_7 40 rfl rfl
theorem n_X7_342 : Cond.constantLong RX7 342 (60 : Int64) ∈ lw_g := tb_7 53 rfl rfl
theorem n_X7_335 : Cond.constant RX7 335 (1103515245 : Int32) ∈ lw_g := tb_7 62 rfl rfl
theorem n_X7_357 : Cond.constantLong RX7 357 (12 : Int64) ∈ lw_g := tb_7 79 rfl rfl
theorem n_X7_359 : Cond.constantLong RX7 359 (16 : Int64) ∈ lw_g := tb_7 80 rfl rfl
theorem q_cp : qcp := ⟨tb_2 75 rfl rfl, tb_2 74 rfl rfl, tb_1 10 rfl rfl⟩
theorem q_min : Cond.static Lib.Math.min.name ∈ lw_g ∧ Cond.initialized "java/lang/Math" ∈ lw_g ∧ Cond.code Lib.Math.min.name Lib.Math.min.code 2 (some .int) ∈ lw_g := ⟨tb_2 169 rfl rfl, tb_1 11 rfl rfl, tb_2 170 rfl rfl⟩
end
section
/-! PART 05: rows in the shape in which a program lays them -/
def b2i (b : Bool) : Int32 := cond b 1 0
theorem b2i_0 {b : Bool} : b2i b = 0 ↔ b = false := by cases b <;> simp [b2i]
theorem b2i_n {b : Bool} : ¬ b2i b = 0 ↔ b = true := by cases b <;> simp [b2i]
theorem b2i_inj {a b : Bool} (h : a = b) : b2i a = b2i b := by rw [h]
theorem nar_b (b : Bool) : narrow .boolean (.int (b2i b)) = .int (b2i b) := by cases b <;> rfl
section R5
variable {G : Gt} {cc : ByteArray} {nL pc : Nat} {own : String} {ls : List (Nat × V)} {st : List V} {h : Hp} {l : Launch} {d : Nat} {alX : List Nat}
theorem rn_lt (C : Cx G cc nL own) {a b : Nat} (ha : a < 2 ^ 31) (hb : b < 2 ^ 31) {off : Int} {tgt : Nat} (dd : decode cc pc = .ok (.if_icmp .lt off, 3)) (ht : (pc : Int) + off = (tgt : Int)) (k1 : a < b → Rr G tgt ls st h) (k2 : b ≤ a → Rr G (pc + 3) ls st h) : Rr G pc ls (vi (nI b) :: vi (nI a) :: st) h :=
  r_icmp_lt C dd ht (fun q => k1 ((nI_ltI ha hb).mp q)) (fun q => k2 (Nat.le_of_not_lt fun z => q ((nI_ltI ha hb).mpr z)))
theorem rn_ge (C : Cx G cc nL own) {a b : Nat} (ha : a < 2 ^ 31) (hb : b < 2 ^ 31) {off : Int} {tgt : Nat} (dd : decode cc pc = .ok (.if_icmp .ge off, 3)) (ht : (pc : Int) + off = (tgt : Int)) (k1 : b ≤ a → Rr G tgt ls st h) (k2 : a < b → Rr G (pc + 3) ls st h) : Rr G pc ls (vi (nI b) :: vi (nI a) :: st) h :=
  r_icmp_ge C dd ht (fun q => k1 ((nI_leI hb ha).mp q)) (fun q => k2 (Nat.lt_of_not_le fun z => q ((nI_leI hb ha).mpr z)))
theorem rn_gt (C : Cx G cc nL own) {a b : Nat} (ha : a < 2 ^ 31) (hb : b < 2 ^ 31) {off : Int} {tgt : Nat} (dd : decode cc pc = .ok (.if_icmp .gt off, 3)) (ht : (pc : Int) + off = (tgt : Int)) (k1 : b < a → Rr G tgt ls st h) (k2 : a ≤ b → Rr G (pc + 3) ls st h) : Rr G pc ls (vi (nI b) :: vi (nI a) :: st) h :=
  r_icmp_gt C dd ht (fun q => k1 ((nI_ltI hb ha).mp q)) (fun q => k2 (Nat.le_of_not_lt fun z => q ((nI_ltI hb ha).mpr z)))
theorem rn_le (C : Cx G cc nL own) {a b : Nat} (ha : a < 2 ^ 31) (hb : b < 2 ^ 31) {off : Int} {tgt : Nat} (dd : decode cc pc = .ok (.if_icmp .le off, 3)) (ht : (pc : Int) + off = (tgt : Int)) (k1 : a ≤ b → Rr G tgt ls st h) (k2 : b < a → Rr G (pc + 3) ls st h) : Rr G pc ls (vi (nI b) :: vi (nI a) :: st) h :=
  r_icmp_le C dd ht (fun q => k1 ((nI_leI ha hb).mp q)) (fun q => k2 (Nat.lt_of_not_le fun z => q ((nI_leI ha hb).mpr z)))
theorem rn_eq (C : Cx G cc nL own) {a b : Nat} (ha : a < 2 ^ 31) (hb : b < 2 ^ 31) {off : Int} {tgt : Nat} (dd : decode cc pc = .ok (.if_icmp .eq off, 3)) (ht : (pc : Int) + off = (tgt : Int)) (k1 : a = b → Rr G tgt ls st h) (k2 : ¬ a = b → Rr G (pc + 3) ls st h) : Rr G pc ls (vi (nI b) :: vi (nI a) :: st) h :=
  r_icmp_eq C dd ht (fun q => k1 ((nI_eq ha hb).mp q)) (fun q => k2 fun z => q ((nI_eq ha hb).mpr z))
theorem rn_ne (C : Cx G cc nL own) {a b : Nat} (ha : a < 2 ^ 31) (hb : b < 2 ^ 31) {off : Int} {tgt : Nat} (dd : decode cc pc = .ok (.if_icmp .ne off, 3)) (ht : (pc : Int) + off = (tgt : Int)) (k1 : ¬ a = b → Rr G tgt ls st h) (k2 : a = b → Rr G (pc + 3) ls st h) : Rr G pc ls (vi (nI b) :: vi (nI a) :: st) h :=
  r_icmp_ne C dd ht (fun q => k1 fun z => q ((nI_eq ha hb).mpr z)) (fun q => k2 ((nI_eq ha hb).mp q))
theorem rb_eq (C : Cx G cc nL own) {b : Bool} {off : Int} {tgt : Nat} (dd : decode cc pc = .ok (.ifCond .eq off, 3)) (ht : (pc : Int) + off = (tgt : Int)) (k1 : b = false → Rr G tgt ls st h) (k2 : b = true → Rr G (pc + 3) ls st h) : Rr G pc ls (vi (b2i b) :: st) h :=
  r_if_eq C dd ht (fun q => k1 (b2i_0.mp q)) (fun q => k2 (b2i_n.mp q))
theorem rb_ne (C : Cx G cc nL own) {b : Bool} {off : Int} {tgt : Nat} (dd : decode cc pc = .ok (.ifCond .ne off, 3)) (ht : (pc : Int) + off = (tgt : Int)) (k1 : b = true → Rr G tgt ls st h) (k2 : b = false → Rr G (pc + 3) ls st h) : Rr G pc ls (vi (b2i b) :: st) h :=
  r_if_ne C dd ht (fun q => k1 (b2i_n.mp q)) (fun q => k2 (b2i_0.mp q))
theorem rn_iadd (C : Cx G cc nL own) {a b : Nat} (dd : decode cc pc = .ok (.iadd, 1)) (kk : Rr G (pc + 1) ls (vi (nI (a + b)) :: st) h) : Rr G pc ls (vi (nI b) :: vi (nI a) :: st) h :=
  r_iadd C dd (by rw [nI_add]; exact kk)
theorem rn_isub (C : Cx G cc nL own) {a b : Nat} (hab : b ≤ a) (dd : decode cc pc = .ok (.isub, 1)) (kk : Rr G (pc + 1) ls (vi (nI (a - b)) :: st) h) : Rr G pc ls (vi (nI b) :: vi (nI a) :: st) h :=
  r_isub C dd (by rw [pk_sub hab]; exact kk)
theorem rn_imul (C : Cx G cc nL own) {a b : Nat} (dd : decode cc pc = .ok (.imul, 1)) (kk : Rr G (pc + 1) ls (vi (nI (a * b)) :: st) h) : Rr G pc ls (vi (nI b) :: vi (nI a) :: st) h :=
  r_imul C dd (by rw [pk_mul]; exact kk)
theorem rn_iinc (C : Cx G cc nL own) {i : Nat} {k : Nat} {n : Int} {a : Nat} {ls' : List (Nat × V)} (dd : decode cc pc = .ok (.iinc i n, 3)) (hl : lkv i ls = some (vi (nI a))) (hn : Int32.ofInt n = nI k) (hi : i < nL) (ks : List Nat) (hk : lpick (stv i (vi (nI (a + k))) ls) ks = ls') (kk : Rr G (pc + 3) ls' st h) : Rr G pc ls st h :=
  r_iinc C dd hl (by rw [hn, nI_add]) hi ks hk kk
/-- contracts of methods that only read -/
abbrev Mp (l : Launch) (y : MethodName) (cc : ByteArray) (nL : Nat) (ret : Option FieldType) (d : Nat) (as : List V) (h : Hp) (v : V) : Prop := Ms l y cc nL ret d as h (xK h) (fun r h' => r = some v ∧ h' = h)
variable {y : MethodName} {cc' : ByteArray} {nL' d' index n : Nat} {ret : Option FieldType} {as : List V} {al1 : List Nat} {post : Option V → Hp → Prop}
theorem r_cv {k a N : Nat} {T : u_T} {L : List Fd3} (C : Cx G cc nL own) (X : Rmx l G d alX) (I : VI y cc' nL' ret n) (q1 : Cond.methodLink own index y ∈ lw_g) (hM : Ms l y cc' nL' ret d' (vr k a :: as) h al1 post) (hd' : d' + 1 ≤ d) (hn : nL' ≤ 21) (hpre : xK h <+: al1) (hal : al1 <+: alX) (hc : vwCl[k]? = some (y.cls, T, N)) (hL : fkL[k]? = some L) (hcat : catS st ≤ 8) (hlen : n = as.length) (dd : decode cc pc = .ok (.invokevirtual index, 3))
    (kk : ∀ (r : Option V) (h' : Hp), post r h' → xK h' = al1 → Rr G (pc + 3) ls (r.toList ++ st) h') : Rr G pc ls (as.reverse ++ vr k a :: st) h :=
  r_callV C X hM hd' hn hpre hal hc hL hcat q1 I.1 I.2.1 I.2.2.1 I.2.2.2.1 I.2.2.2.2.1 (hlen ▸ I.2.2.2.2.2) dd kk
theorem r_cs (C : Cx G cc nL own) (X : Rmx l G d alX) (I : SI y cc' nL' ret n) (q1 : Cond.methodLink own index y ∈ lw_g) (hM : Ms l y cc' nL' ret d' as h al1 post) (hd' : d' + 1 ≤ d) (hn : nL' ≤ 21) (hpre : xK h <+: al1) (hal : al1 <+: alX) (hcat : catS st ≤ 8) (hlen : n = as.length) (dd : decode cc pc = .ok (.invokestatic index, 3))
    (kk : ∀ (r : Option V) (h' : Hp), post r h' → xK h' = al1 → Rr G (pc + 3) ls (r.toList ++ st) h') : Rr G pc ls (as.reverse ++ st) h :=
  r_callS C X hM hd' hn hpre hal hcat q1 I.1 I.2.1 I.2.2.1 I.2.2.2.1 (hlen ▸ I.2.2.2.2) dd kk
theorem r_cvP {k a N : Nat} {T : u_T} {L : List Fd3} {v : V} (C : Cx G cc nL own) (X : Rmx l G d alX) (I : VI y cc' nL' ret n) (q1 : Cond.methodLink own index y ∈ lw_g) (hM : Mp l y cc' nL' ret d' (vr k a :: as) h v) (hd' : d' + 1 ≤ d) (hn : nL' ≤ 21) (hal : xK h <+: alX) (hc : vwCl[k]? = some (y.cls, T, N)) (hL : fkL[k]? = some L) (hcat : catS st ≤ 8) (hlen : n = as.length) (dd : decode cc pc = .ok (.invokevirtual index, 3))
    (kk : Rr G (pc + 3) ls (v :: st) h) : Rr G pc ls (as.reverse ++ vr k a :: st) h := by
  refine r_cv C X I q1 hM hd' hn List.prefix_rfl hal hc hL hcat hlen dd (fun r h' hp _ => ?_)
  obtain ⟨rfl, rfl⟩ := hp
  exact kk
theorem r_csP {v : V} (C : Cx G cc nL own) (X : Rmx l G d alX) (I : SI y cc' nL' ret n) (q1 : Cond.methodLink own index y ∈ lw_g) (hM : Mp l y cc' nL' ret d' as h v) (hd' : d' + 1 ≤ d) (hn : nL' ≤ 21) (hal : xK h <+: alX) (hcat : catS st ≤ 8) (hlen : n = as.length) (dd : decode cc pc = .ok (.invokestatic index, 3))
    (kk : Rr G (pc + 3) ls (v :: st) h) : Rr G pc ls (as.reverse ++ st) h := by
  refine r_cs C X I q1 hM hd' hn List.prefix_rfl hal hcat hlen dd (fun r h' hp _ => ?_)
  obtain ⟨rfl, rfl⟩ := hp
  exact kk
/-- loops that count up -/
theorem loopU {Φ : Nat → Prop} {N : Nat} (hN : Φ N) (hs : ∀ i, i < N → Φ (i + 1) → Φ i) : ∀ i, i ≤ N → Φ i := by
  have key : ∀ n i, i + n = N → Φ i := by
    intro n
    induction n with
    | zero => intro i hi; rw [show i = N by omega]; exact hN
    | succ n ih => intro i hi; exact hs i (by omega) (ih (i + 1) (by omega))
  intro i hi
  exact key (N - i) i (by omega)
end R5
end
section
/-! PART 06: villages as numbers; what is reckoned of them -/
/-- parts, machines, people; holder 0, second 1, needs 2, worth 3, hand 4, away 5, cross 6, shares 7; seed -/
abbrev Vg : Type := Nat × Nat × Nat × (Nat → Nat → Int32) × Int32
abbrev vP (v : Vg) : Nat := v.1
abbrev vM (v : Vg) : Nat := v.2.1
abbrev vN (v : Vg) : Nat := v.2.2.1
abbrev vF (v : Vg) : Nat → Nat → Int32 := v.2.2.2.1
abbrev vS (v : Vg) : Int32 := v.2.2.2.2
def VilAt (h : Hp) (k : Nat) (v : Vg) : Prop :=
  xI h k 0 = nI (vP v) ∧ xI h k 3 = nI (vM v) ∧ xI h k 6 = nI (vN v) ∧ xI h k 11 = vS v ∧
  (∀ i, i < 12 → xI h (k + 1) i = vF v 0 i) ∧ (∀ i, i < 12 → xI h (k + 2) i = vF v 1 i) ∧ (∀ i, i < 6 → xI h (k + 3) i = vF v 2 i) ∧ (∀ i, i < 6 → xI h (k + 4) i = vF v 3 i) ∧
  (∀ i, i < 8 → xI h (k + 5) i = vF v 4 i) ∧ (∀ i, i < 8 → xI h (k + 6) i = vF v 5 i) ∧ (∀ i, i < 8 → xI h (k + 7) i = vF v 6 i) ∧ (∀ i, i < 8 → xI h (k + 8) i = vF v 7 i) ∧
  vP v ≤ 12 ∧ vM v ≤ 6 ∧ vN v ≤ 8 ∧ (∀ i, i < 8 → fits .boolean (.int (vF v 6 i)) = true)
section VA
variable {h : Hp} {k : Nat} {v : Vg}
theorem VilAt.eP (a : VilAt h k v) : xI h k 0 = nI (vP v) := a.1
theorem VilAt.eM (a : VilAt h k v) : xI h k 3 = nI (vM v) := a.2.1
theorem VilAt.eN (a : VilAt h k v) : xI h k 6 = nI (vN v) := a.2.2.1
theorem VilAt.eS (a : VilAt h k v) : xI h k 11 = vS v := a.2.2.2.1
theorem VilAt.e0 (a : VilAt h k v) {i : Nat} (hi : i < 12) : xI h (k + 1) i = vF v 0 i := a.2.2.2.2.1 i hi
theorem VilAt.e1 (a : VilAt h k v) {i : Nat} (hi : i < 12) : xI h (k + 2) i = vF v 1 i := a.2.2.2.2.2.1 i hi
theorem VilAt.e2 (a : VilAt h k v) {i : Nat} (hi : i < 6) : xI h (k + 3) i = vF v 2 i := a.2.2.2.2.2.2.1 i hi
theorem VilAt.e3 (a : VilAt h k v) {i : Nat} (hi : i < 6) : xI h (k + 4) i = vF v 3 i := a.2.2.2.2.2.2.2.1 i hi
theorem VilAt.e4 (a : VilAt h k v) {i : Nat} (hi : i < 8) : xI h (k + 5) i = vF v 4 i := a.2.2.2.2.2.2.2.2.1 i hi
theorem VilAt.e5 (a : VilAt h k v) {i : Nat} (hi : i < 8) : xI h (k + 6) i = vF v 5 i := a.2.2.2.2.2.2.2.2.2.1 i hi
theorem VilAt.e6 (a : VilAt h k v) {i : Nat} (hi : i < 8) : xI h (k + 7) i = vF v 6 i := a.2.2.2.2.2.2.2.2.2.2.1 i hi
theorem VilAt.e7 (a : VilAt h k v) {i : Nat} (hi : i < 8) : xI h (k + 8) i = vF v 7 i := a.2.2.2.2.2.2.2.2.2.2.2.1 i hi
theorem VilAt.bP (a : VilAt h k v) : vP v ≤ 12 := a.2.2.2.2.2.2.2.2.2.2.2.2.1
theorem VilAt.bM (a : VilAt h k v) : vM v ≤ 6 := a.2.2.2.2.2.2.2.2.2.2.2.2.2.1
theorem VilAt.bN (a : VilAt h k v) : vN v ≤ 8 := a.2.2.2.2.2.2.2.2.2.2.2.2.2.2.1
theorem VilAt.bC (a : VilAt h k v) {i : Nat} (hi : i < 8) : fits .boolean (.int (vF v 6 i)) = true := a.2.2.2.2.2.2.2.2.2.2.2.2.2.2.2 i hi
end VA
/-- a number of so many -/
def inR (x : Int32) (n : Nat) : Bool := decide (0 ≤ x.toInt ∧ x.toInt < n)
theorem inR_neg {x : Int32} {n : Nat} (h : x < 0) : inR x n = false := by
  rw [Int32.lt_iff_toInt_lt] at h
  have : (0 : Int32).toInt = 0 := by decide
  simp only [inR, decide_eq_false_iff_not]; omega
theorem inR_big {x : Int32} {n : Nat} (hn : n < 2 ^ 31) (h : nI n ≤ x) : inR x n = false := by
  rw [Int32.le_iff_toInt_le, nI_toInt hn] at h
  simp only [inR, decide_eq_false_iff_not]; omega
theorem inR_ok {x : Int32} {n : Nat} (hn : n < 2 ^ 31) (h0 : ¬ x < 0) (h : ¬ nI n ≤ x) : inR x n = true := by
  rw [Int32.lt_iff_toInt_lt] at h0
  rw [Int32.le_iff_toInt_le, nI_toInt hn] at h
  have : (0 : Int32).toInt = 0 := by decide
  simp only [inR, decide_eq_true_eq]; omega
theorem inR_nI {j n : Nat} (hj : j < 2 ^ 31) : inR (nI j) n = decide (j < n) := by
  simp only [inR, nI_toInt hj, decide_eq_decide]; omega
/-- a number is one of so many, or not -/
theorem inR_c (x : Int32) {n : Nat} (hn : n < 2 ^ 31) : (∃ j : Nat, j < n ∧ x = nI j ∧ inR x n = true) ∨ inR x n = false := by
  by_cases h0 : x < 0
  · exact Or.inr (inR_neg h0)
  · by_cases h1 : nI n ≤ x
    · exact Or.inr (inR_big hn h1)
    · obtain ⟨j, hj, rfl⟩ := nI_of h0
      have : inR (nI j) n = true := inR_ok hn h0 h1
      refine Or.inl ⟨j, ?_, rfl, this⟩
      rw [inR_nI hj] at this
      exact of_decide_eq_true this
/-- the set of those of n that are so, as bits -/
def bset (p : Nat → Bool) : Nat → Int32
  | 0 => nI 0
  | n + 1 => if p n then bset p n ||| (nI 1 <<< (nI n &&& 31)) else bset p n
def cnt (p : Nat → Bool) : Nat → Nat
  | 0 => 0
  | n + 1 => if p n then cnt p n + 1 else cnt p n
def sumIf (p : Nat → Bool) (f : Nat → Int32) : Nat → Int32
  | 0 => nI 0
  | n + 1 => if p n then sumIf p f n + f n else sumIf p f n
/-- the set has one -/
def inB (s o : Int32) : Bool := decide (¬ o = -1) && decide (¬ s &&& (nI 1 <<< (o &&& 31)) = 0)
/-- pieces of one among the first n parts -/
def pcs (v : Vg) (o : Int32) : Nat → Nat
  | 0 => 0
  | n + 1 => pcs v o n + (if vF v 0 n = o then 1 else 0) + (if vF v 1 n = o then 1 else 0)
theorem pcs_le (v : Vg) (o : Int32) : ∀ n, pcs v o n ≤ 2 * n
  | 0 => Nat.le_refl _
  | n + 1 => by
    have := pcs_le v o n
    simp only [pcs]
    split <;> split <;> omega
def full (n : Nat) : Int32 := nI (2 ^ n - 1)
theorem full_sh {n : Nat} (h : n ≤ 12) : (nI 1 <<< (nI n &&& 31)) - nI 1 = full n := by
  have key : ∀ m : Fin 13, (nI 1 <<< (nI m &&& 31)) - nI 1 = full m := by decide +kernel
  exact key ⟨n, by omega⟩
/-- the parts that a set of people has; of which it has both pieces; that one has -/
def hasP (v : Vg) (s : Int32) : Int32 := bset (fun p => inB s (vF v 0 p) || inB s (vF v 1 p)) (vP v)
def dblP (v : Vg) (s : Int32) : Int32 := bset (fun p => inB s (vF v 0 p) && inB s (vF v 1 p)) (vP v)
def ownP (v : Vg) (o : Int32) : Int32 := bset (fun p => decide (vF v 0 p = o) || decide (vF v 1 p = o)) (vP v)
def crs (v : Vg) : Int32 := bset (fun o => decide (¬ vF v 6 o = 0)) (vN v)
def needW (v : Vg) (ps : Int32) (m : Nat) : Bool := decide (vF v 2 m &&& (ps ^^^ -1) = 0)
def macW (v : Vg) (ps : Int32) : Int32 := bset (needW v ps) (vM v)
def hasRm (v : Vg) (o : Int32) : Bool := inR o (vN v) && decide (nI (pcs v o (vP v)) < vF v 4 o.toNatClampNeg)
/-- sets of n, as bits -/
theorem sub_full {x : Int32} {n : Nat} (h : n ≤ 12) : (x &&& (full n ^^^ -1) = 0) ↔ inR x (2 ^ n) = true := by
  have h12 : 2 ^ n ≤ 2 ^ 12 := Nat.pow_le_pow_right (by omega) h
  have fb : ∀ i, i < 32 → (full n).toBitVec.getLsbD i = decide (i < n) := fun i hi => by
    show (BitVec.ofNat 32 (2 ^ n - 1)).getLsbD i = _
    rw [BitVec.getLsbD_ofNat, Nat.testBit_two_pow_sub_one]; simp [hi]
  have mb : ∀ i, i < 32 → (-1 : Int32).toBitVec.getLsbD i = true := by decide +kernel
  have e1 : (x &&& (full n ^^^ -1) = 0) ↔ ∀ i, n ≤ i → x.toBitVec.toNat.testBit i = false := by
    constructor
    · intro q i hi
      by_cases h32 : i < 32
      · have q2 := congrArg (fun y : Int32 => y.toBitVec.getLsbD i) q
        simp only [Int32.toBitVec_and, Int32.toBitVec_xor, BitVec.getLsbD_and, BitVec.getLsbD_xor, fb i h32, mb i h32] at q2
        have : decide (i < n) = false := decide_eq_false (by omega)
        rw [this] at q2
        have z : (0 : Int32).toBitVec.getLsbD i = false := BitVec.getLsbD_zero
        rw [z] at q2
        have g : x.toBitVec.getLsbD i = false := by simpa using q2
        exact g
      · exact Nat.testBit_lt_two_pow (Nat.lt_of_lt_of_le x.toBitVec.isLt (Nat.pow_le_pow_right (by omega) (by omega)))
    · intro q
      apply Int32.toBitVec_inj.mp
      apply BitVec.eq_of_getLsbD_eq
      intro i hi
      rw [Int32.toBitVec_and, Int32.toBitVec_xor, BitVec.getLsbD_and, BitVec.getLsbD_xor, fb i hi, mb i hi]
      have z : (0 : Int32).toBitVec.getLsbD i = false := BitVec.getLsbD_zero
      rw [z]
      by_cases hn : i < n
      · simp [hn]
      · have := q i (by omega)
        have g : x.toBitVec.getLsbD i = false := this
        rw [g]; rfl
  rw [e1]
  have e2 : (∀ i, n ≤ i → x.toBitVec.toNat.testBit i = false) ↔ x.toBitVec.toNat < 2 ^ n := by
    constructor
    · intro q; exact Nat.lt_pow_two_of_testBit _ (fun i hi => q i hi)
    · intro q i hi; exact Nat.testBit_lt_two_pow (Nat.lt_of_lt_of_le q (Nat.pow_le_pow_right (by omega) hi))
  rw [e2]
  have e3 : x.toInt = if 2 * x.toBitVec.toNat < 2 ^ 32 then (x.toBitVec.toNat : Int) else x.toBitVec.toNat - ((2 ^ 32 : Nat) : Int) := BitVec.toInt_eq_toNat_cond x.toBitVec
  have hl := x.toBitVec.isLt
  unfold inR
  rw [decide_eq_true_iff]
  constructor
  · intro q
    rw [e3, if_pos (by omega)]; omega
  · intro ⟨q1, q2⟩
    rw [e3] at q1 q2
    split at q1
    · rw [if_pos (by assumption)] at q2; omega
    · omega
def worthS (v : Vg) (ps : Int32) : Int32 := sumIf (needW v ps) (fun m => vF v 3 m) (vM v)
def touch (v : Vg) (ps : Int32) : Nat := cnt (fun m => decide (¬ vF v 2 m &&& ps = 0)) (vM v)
def wkW (v : Vg) (m ps : Int32) : Bool := inR m (vM v) && needW v ps m.toNatClampNeg
def pairV (v : Vg) (m o : Int32) : Bool := inR m (vM v) && inR o (vM v) && decide (¬ m = o)
def bothW (v : Vg) (m o : Nat) (s : Int32) : Bool := decide ((vF v 2 m ||| vF v 2 o) &&& (hasP v s ^^^ -1) = 0) && decide (vF v 2 m &&& vF v 2 o &&& (dblP v s ^^^ -1) = 0)
end
section
/-! PART 07: the class of villages: what only reads -/
set_option maxHeartbeats 4000000 in
theorem c_X5_isPart {l : Launch} {h : Hp} {k : Nat} {v : Vg} (hv : VilAt h k v) (x : Int32) : Mp l yX5_isPart cX5_isPart 2 (some .boolean) 1 [vr 5 k, vi x] h (vi (b2i (inR x (vP v)))) := by
  refine Ms.of (by decide) (Nat.le_of_ble_eq_true rfl) (fun G C X F => ?_)
  have C : Cx G cX5_isPart 2 RX5 := C
  show Rr G 0 [(0, vr 5 k), (1, vi x)] [] h
  have bP := hv.bP
  have bM := hv.bM
  have bN := hv.bN
  refine r_iload_n C (dx dX5_isPart 0 rfl) rfl ?_
  refine r_if_lt (tgt := 16) C (dx dX5_isPart 1 rfl) (by decide) (fun c1 => ?_) (fun c1 => ?_)
  ·
    have c1 : x < 0 := c1
    refine r_iconst (v := nI 0) C (dx dX5_isPart 8 rfl) rfl ?_
    exact F.1 _ _ _ _ _ rfl rfl (dx dX5_isPart 9 rfl) rfl ⟨congrArg (fun x => some (vi x)) (show nI 0 = b2i _ by rw [show (inR x (vP v)) = false by first | exact inR_neg (by assumption) | exact inR_big (by omega) (by assumption) | exact inR_ok (by omega) (by assumption) (by assumption)]; rfl), rfl⟩
  ·
    have c1 : ¬ x < 0 := c1
    refine r_iload_n C (dx dX5_isPart 2 rfl) rfl ?_
    refine r_aload_n C (dx dX5_isPart 3 rfl) rfl ?_
    refine g_X5_9 (x := nI (vP v)) C (dx dX5_isPart 4 rfl) hv.eP ?_
    refine r_icmp_ge (tgt := 16) C (dx dX5_isPart 5 rfl) (by decide) (fun c2 => ?_) (fun c2 => ?_)
    ·
      have c2 : nI (vP v) ≤ x := c2
      refine r_iconst (v := nI 0) C (dx dX5_isPart 8 rfl) rfl ?_
      exact F.1 _ _ _ _ _ rfl rfl (dx dX5_isPart 9 rfl) rfl ⟨congrArg (fun x => some (vi x)) (show nI 0 = b2i _ by rw [show (inR x (vP v)) = false by first | exact inR_neg (by assumption) | exact inR_big (by omega) (by assumption) | exact inR_ok (by omega) (by assumption) (by assumption)]; rfl), rfl⟩
    ·
      have c2 : ¬ nI (vP v) ≤ x := c2
      refine r_iconst (v := nI 1) C (dx dX5_isPart 6 rfl) rfl ?_
      refine r_goto (tgt := 17) C (dx dX5_isPart 7 rfl) (by decide) ?_
      exact F.1 _ _ _ _ _ rfl rfl (dx dX5_isPart 9 rfl) rfl ⟨congrArg (fun x => some (vi x)) (show nI 1 = b2i _ by rw [show (inR x (vP v)) = true by first | exact inR_neg (by assumption) | exact inR_big (by omega) (by assumption) | exact inR_ok (by omega) (by assumption) (by assumption)]; rfl), rfl⟩
set_option maxHeartbeats 4000000 in
theorem c_X5_isMachine {l : Launch} {h : Hp} {k : Nat} {v : Vg} (hv : VilAt h k v) (x : Int32) : Mp l yX5_isMachine cX5_isMachine 2 (some .boolean) 1 [vr 5 k, vi x] h (vi (b2i (inR x (vM v)))) := by
  refine Ms.of (by decide) (Nat.le_of_ble_eq_true rfl) (fun G C X F => ?_)
  have C : Cx G cX5_isMachine 2 RX5 := C
  show Rr G 0 [(0, vr 5 k), (1, vi x)] [] h
  have bP := hv.bP
  have bM := hv.bM
  have bN := hv.bN
  refine r_iload_n C (dx dX5_isMachine 0 rfl) rfl ?_
  refine r_if_lt (tgt := 16) C (dx dX5_isMachine 1 rfl) (by decide) (fun c1 => ?_) (fun c1 => ?_)
  ·
    have c1 : x < 0 := c1
    refine r_iconst (v := nI 0) C (dx dX5_isMachine 8 rfl) rfl ?_
    exact F.1 _ _ _ _ _ rfl rfl (dx dX5_isMachine 9 rfl) rfl ⟨congrArg (fun x => some (vi x)) (show nI 0 = b2i _ by rw [show (inR x (vM v)) = false by first | exact inR_neg (by assumption) | exact inR_big (by omega) (by assumption) | exact inR_ok (by omega) (by assumption) (by assumption)]; rfl), rfl⟩
  ·
    have c1 : ¬ x < 0 := c1
    refine r_iload_n C (dx dX5_isMachine 2 rfl) rfl ?_
    refine r_aload_n C (dx dX5_isMachine 3 rfl) rfl ?_
    refine g_X5_22 (x := nI (vM v)) C (dx dX5_isMachine 4 rfl) hv.eM ?_
    refine r_icmp_ge (tgt := 16) C (dx dX5_isMachine 5 rfl) (by decide) (fun c2 => ?_) (fun c2 => ?_)
    ·
      have c2 : nI (vM v) ≤ x := c2
      refine r_iconst (v := nI 0) C (dx dX5_isMachine 8 rfl) rfl ?_
      exact F.1 _ _ _ _ _ rfl rfl (dx dX5_isMachine 9 rfl) rfl ⟨congrArg (fun x => some (vi x)) (show nI 0 = b2i _ by rw [show (inR x (vM v)) = false by first | exact inR_neg (by assumption) | exact inR_big (by omega) (by assumption) | exact inR_ok (by omega) (by assumption) (by assumption)]; rfl), rfl⟩
    ·
      have c2 : ¬ nI (vM v) ≤ x := c2
      refine r_iconst (v := nI 1) C (dx dX5_isMachine 6 rfl) rfl ?_
      refine r_goto (tgt := 17) C (dx dX5_isMachine 7 rfl) (by decide) ?_
      exact F.1 _ _ _ _ _ rfl rfl (dx dX5_isMachine 9 rfl) rfl ⟨congrArg (fun x => some (vi x)) (show nI 1 = b2i _ by rw [show (inR x (vM v)) = true by first | exact inR_neg (by assumption) | exact inR_big (by omega) (by assumption) | exact inR_ok (by omega) (by assumption) (by assumption)]; rfl), rfl⟩
set_option maxHeartbeats 4000000 in
theorem c_X5_isOne {l : Launch} {h : Hp} {k : Nat} {v : Vg} (hv : VilAt h k v) (x : Int32) : Mp l yX5_isOne cX5_isOne 2 (some .boolean) 1 [vr 5 k, vi x] h (vi (b2i (inR x (vN v)))) := by
  refine Ms.of (by decide) (Nat.le_of_ble_eq_true rfl) (fun G C X F => ?_)
  have C : Cx G cX5_isOne 2 RX5 := C
  show Rr G 0 [(0, vr 5 k), (1, vi x)] [] h
  have bP := hv.bP
  have bM := hv.bM
  have bN := hv.bN
  refine r_iload_n C (dx dX5_isOne 0 rfl) rfl ?_
  refine r_if_lt (tgt := 16) C (dx dX5_isOne 1 rfl) (by decide) (fun c1 => ?_) (fun c1 => ?_)
  ·
    have c1 : x < 0 := c1
    refine r_iconst (v := nI 0) C (dx dX5_isOne 8 rfl) rfl ?_
    exact F.1 _ _ _ _ _ rfl rfl (dx dX5_isOne 9 rfl) rfl ⟨congrArg (fun x => some (vi x)) (show nI 0 = b2i _ by rw [show (inR x (vN v)) = false by first | exact inR_neg (by assumption) | exact inR_big (by omega) (by assumption) | exact inR_ok (by omega) (by assumption) (by assumption)]; rfl), rfl⟩
  ·
    have c1 : ¬ x < 0 := c1
    refine r_iload_n C (dx dX5_isOne 2 rfl) rfl ?_
    refine r_aload_n C (dx dX5_isOne 3 rfl) rfl ?_
    refine g_X5_31 (x := nI (vN v)) C (dx dX5_isOne 4 rfl) hv.eN ?_
    refine r_icmp_ge (tgt := 16) C (dx dX5_isOne 5 rfl) (by decide) (fun c2 => ?_) (fun c2 => ?_)
    ·
      have c2 : nI (vN v) ≤ x := c2
      refine r_iconst (v := nI 0) C (dx dX5_isOne 8 rfl) rfl ?_
      exact F.1 _ _ _ _ _ rfl rfl (dx dX5_isOne 9 rfl) rfl ⟨congrArg (fun x => some (vi x)) (show nI 0 = b2i _ by rw [show (inR x (vN v)) = false by first | exact inR_neg (by assumption) | exact inR_big (by omega) (by assumption) | exact inR_ok (by omega) (by assumption) (by assumption)]; rfl), rfl⟩
    ·
      have c2 : ¬ nI (vN v) ≤ x := c2
      refine r_iconst (v := nI 1) C (dx dX5_isOne 6 rfl) rfl ?_
      refine r_goto (tgt := 17) C (dx dX5_isOne 7 rfl) (by decide) ?_
      exact F.1 _ _ _ _ _ rfl rfl (dx dX5_isOne 9 rfl) rfl ⟨congrArg (fun x => some (vi x)) (show nI 1 = b2i _ by rw [show (inR x (vN v)) = true by first | exact inR_neg (by assumption) | exact inR_big (by omega) (by assumption) | exact inR_ok (by omega) (by assumption) (by assumption)]; rfl), rfl⟩
set_option maxHeartbeats 4000000 in
theorem c_X5_allParts {l : Launch} {h : Hp} {k : Nat} {v : Vg} (hv : VilAt h k v)  : Mp l yX5_allParts cX5_allParts 1 (some .int) 1 [vr 5 k] h (vi (full (vP v))) := by
  refine Ms.of (by decide) (Nat.le_of_ble_eq_true rfl) (fun G C X F => ?_)
  have C : Cx G cX5_allParts 1 RX5 := C
  show Rr G 0 [(0, vr 5 k)] [] h
  have bP := hv.bP
  have bM := hv.bM
  have bN := hv.bN
  refine r_iconst (v := nI 1) C (dx dX5_allParts 0 rfl) rfl ?_
  refine r_aload_n C (dx dX5_allParts 1 rfl) rfl ?_
  refine g_X5_9 (x := nI (vP v)) C (dx dX5_allParts 2 rfl) hv.eP ?_
  refine r_ishl C (dx dX5_allParts 3 rfl) ?_
  refine r_iconst (v := nI 1) C (dx dX5_allParts 4 rfl) rfl ?_
  refine r_isub C (dx dX5_allParts 5 rfl) ?_
  exact F.1 _ _ _ _ _ rfl rfl (dx dX5_allParts 6 rfl) rfl ⟨congrArg (fun x => some (vi x)) (show ((nI 1) <<< ((nI (vP v)) &&& 31)) - (nI 1) = full (vP v) by exact full_sh (by omega)), rfl⟩
set_option maxHeartbeats 4000000 in
theorem c_X5_allMachines {l : Launch} {h : Hp} {k : Nat} {v : Vg} (hv : VilAt h k v)  : Mp l yX5_allMachines cX5_allMachines 1 (some .int) 1 [vr 5 k] h (vi (full (vM v))) := by
  refine Ms.of (by decide) (Nat.le_of_ble_eq_true rfl) (fun G C X F => ?_)
  have C : Cx G cX5_allMachines 1 RX5 := C
  show Rr G 0 [(0, vr 5 k)] [] h
  have bP := hv.bP
  have bM := hv.bM
  have bN := hv.bN
  refine r_iconst (v := nI 1) C (dx dX5_allMachines 0 rfl) rfl ?_
  refine r_aload_n C (dx dX5_allMachines 1 rfl) rfl ?_
  refine g_X5_22 (x := nI (vM v)) C (dx dX5_allMachines 2 rfl) hv.eM ?_
  refine r_ishl C (dx dX5_allMachines 3 rfl) ?_
  refine r_iconst (v := nI 1) C (dx dX5_allMachines 4 rfl) rfl ?_
  refine r_isub C (dx dX5_allMachines 5 rfl) ?_
  exact F.1 _ _ _ _ _ rfl rfl (dx dX5_allMachines 6 rfl) rfl ⟨congrArg (fun x => some (vi x)) (show ((nI 1) <<< ((nI (vM v)) &&& 31)) - (nI 1) = full (vM v) by exact full_sh (by omega)), rfl⟩
set_option maxHeartbeats 4000000 in
theorem c_X5_allPeople {l : Launch} {h : Hp} {k : Nat} {v : Vg} (hv : VilAt h k v)  : Mp l yX5_allPeople cX5_allPeople 1 (some .int) 1 [vr 5 k] h (vi (full (vN v))) := by
  refine Ms.of (by decide) (Nat.le_of_ble_eq_true rfl) (fun G C X F => ?_)
  have C : Cx G cX5_allPeople 1 RX5 := C
  show Rr G 0 [(0, vr 5 k)] [] h
  have bP := hv.bP
  have bM := hv.bM
  have bN := hv.bN
  refine r_iconst (v := nI 1) C (dx dX5_allPeople 0 rfl) rfl ?_
  refine r_aload_n C (dx dX5_allPeople 1 rfl) rfl ?_
  refine g_X5_31 (x := nI (vN v)) C (dx dX5_allPeople 2 rfl) hv.eN ?_
  refine r_ishl C (dx dX5_allPeople 3 rfl) ?_
  refine r_iconst (v := nI 1) C (dx dX5_allPeople 4 rfl) rfl ?_
  refine r_isub C (dx dX5_allPeople 5 rfl) ?_
  exact F.1 _ _ _ _ _ rfl rfl (dx dX5_allPeople 6 rfl) rfl ⟨congrArg (fun x => some (vi x)) (show ((nI 1) <<< ((nI (vN v)) &&& 31)) - (nI 1) = full (vN v) by exact full_sh (by omega)), rfl⟩
set_option maxHeartbeats 4000000 in
theorem c_X5_isSetOfParts {l : Launch} {h : Hp} {k : Nat} {v : Vg} (hv : VilAt h k v) (x : Int32) : Mp l yX5_isSetOfParts cX5_isSetOfParts 2 (some .boolean) 2 [vr 5 k, vi x] h (vi (b2i (inR x (2 ^ vP v)))) := by
  refine Ms.of (by decide) (Nat.le_of_ble_eq_true rfl) (fun G C X F => ?_)
  have C : Cx G cX5_isSetOfParts 2 RX5 := C
  show Rr G 0 [(0, vr 5 k), (1, vi x)] [] h
  have bP := hv.bP
  have bM := hv.bM
  have bN := hv.bN
  refine r_iload_n C (dx dX5_isSetOfParts 0 rfl) rfl ?_
  refine r_aload_n C (dx dX5_isSetOfParts 1 rfl) rfl ?_
  refine r_cvP (as := []) (st := [vi x]) (v := vi (full (vP v))) C X I_X5_allParts l_X5_60 (c_X5_allParts hv) (by decide) (Nat.le_of_ble_eq_true rfl) List.prefix_rfl rfl rfl (Nat.le_of_ble_eq_true rfl) rfl (dx dX5_isSetOfParts 2 rfl) ?_
  refine r_iconst (v := -1) C (dx dX5_isSetOfParts 3 rfl) rfl ?_
  refine r_ixor C (dx dX5_isSetOfParts 4 rfl) ?_
  refine r_iand C (dx dX5_isSetOfParts 5 rfl) ?_
  refine r_if_ne (tgt := 15) C (dx dX5_isSetOfParts 6 rfl) (by decide) (fun c1 => ?_) (fun c1 => ?_)
  ·
    have c1 : ¬ x &&& ((full (vP v)) ^^^ (-1)) = 0 := c1
    refine r_iconst (v := nI 0) C (dx dX5_isSetOfParts 9 rfl) rfl ?_
    exact F.1 _ _ _ _ _ rfl rfl (dx dX5_isSetOfParts 10 rfl) rfl ⟨congrArg (fun x => some (vi x)) (show nI 0 = b2i _ by rw [show (inR x (2 ^ vP v)) = false by (first | exact (sub_full (by omega)).mp (by assumption) | exact Bool.eq_false_iff.mpr (fun q => absurd ((sub_full (by omega)).mpr q) (by assumption)))]; rfl), rfl⟩
  ·
    have c1 : x &&& ((full (vP v)) ^^^ (-1)) = 0 := c1
    refine r_iconst (v := nI 1) C (dx dX5_isSetOfParts 7 rfl) rfl ?_
    refine r_goto (tgt := 16) C (dx dX5_isSetOfParts 8 rfl) (by decide) ?_
    exact F.1 _ _ _ _ _ rfl rfl (dx dX5_isSetOfParts 10 rfl) rfl ⟨congrArg (fun x => some (vi x)) (show nI 1 = b2i _ by rw [show (inR x (2 ^ vP v)) = true by (first | exact (sub_full (by omega)).mp (by assumption) | exact Bool.eq_false_iff.mpr (fun q => absurd ((sub_full (by omega)).mpr q) (by assumption)))]; rfl), rfl⟩
set_option maxHeartbeats 4000000 in
theorem c_X5_isSetOfPeople {l : Launch} {h : Hp} {k : Nat} {v : Vg} (hv : VilAt h k v) (x : Int32) : Mp l yX5_isSetOfPeople cX5_isSetOfPeople 2 (some .boolean) 2 [vr 5 k, vi x] h (vi (b2i (inR x (2 ^ vN v)))) := by
  refine Ms.of (by decide) (Nat.le_of_ble_eq_true rfl) (fun G C X F => ?_)
  have C : Cx G cX5_isSetOfPeople 2 RX5 := C
  show Rr G 0 [(0, vr 5 k), (1, vi x)] [] h
  have bP := hv.bP
  have bM := hv.bM
  have bN := hv.bN
  refine r_iload_n C (dx dX5_isSetOfPeople 0 rfl) rfl ?_
  refine r_aload_n C (dx dX5_isSetOfPeople 1 rfl) rfl ?_
  refine r_cvP (as := []) (st := [vi x]) (v := vi (full (vN v))) C X I_X5_allPeople l_X5_64 (c_X5_allPeople hv) (by decide) (Nat.le_of_ble_eq_true rfl) List.prefix_rfl rfl rfl (Nat.le_of_ble_eq_true rfl) rfl (dx dX5_isSetOfPeople 2 rfl) ?_
  refine r_iconst (v := -1) C (dx dX5_isSetOfPeople 3 rfl) rfl ?_
  refine r_ixor C (dx dX5_isSetOfPeople 4 rfl) ?_
  refine r_iand C (dx dX5_isSetOfPeople 5 rfl) ?_
  refine r_if_ne (tgt := 15) C (dx dX5_isSetOfPeople 6 rfl) (by decide) (fun c1 => ?_) (fun c1 => ?_)
  ·
    have c1 : ¬ x &&& ((full (vN v)) ^^^ (-1)) = 0 := c1
    refine r_iconst (v := nI 0) C (dx dX5_isSetOfPeople 9 rfl) rfl ?_
    exact F.1 _ _ _ _ _ rfl rfl (dx dX5_isSetOfPeople 10 rfl) rfl ⟨congrArg (fun x => some (vi x)) (show nI 0 = b2i _ by rw [show (inR x (2 ^ vN v)) = false by (first | exact (sub_full (by omega)).mp (by assumption) | exact Bool.eq_false_iff.mpr (fun q => absurd ((sub_full (by omega)).mpr q) (by assumption)))]; rfl), rfl⟩
  ·
    have c1 : x &&& ((full (vN v)) ^^^ (-1)) = 0 := c1
    refine r_iconst (v := nI 1) C (dx dX5_isSetOfPeople 7 rfl) rfl ?_
    refine r_goto (tgt := 16) C (dx dX5_isSetOfPeople 8 rfl) (by decide) ?_
    exact F.1 _ _ _ _ _ rfl rfl (dx dX5_isSetOfPeople 10 rfl) rfl ⟨congrArg (fun x => some (vi x)) (show nI 1 = b2i _ by rw [show (inR x (2 ^ vN v)) = true by (first | exact (sub_full (by omega)).mp (by assumption) | exact Bool.eq_false_iff.mpr (fun q => absurd ((sub_full (by omega)).mpr q) (by assumption)))]; rfl), rfl⟩
set_option maxHeartbeats 4000000 in
theorem c_X5_isIn {l : Launch} {h : Hp} (s o : Int32) : Mp l yX5_isIn cX5_isIn 2 (some .boolean) 1 [vi s, vi o] h (vi (b2i (inB s o))) := by
  refine Ms.of (by decide) (Nat.le_of_ble_eq_true rfl) (fun G C X F => ?_)
  have C : Cx G cX5_isIn 2 RX5 := C
  show Rr G 0 [(0, vi s), (1, vi o)] [] h
  refine r_iload_n C (dx dX5_isIn 0 rfl) rfl ?_
  refine r_iconst (v := -1) C (dx dX5_isIn 1 rfl) rfl ?_
  refine r_icmp_eq (tgt := 17) C (dx dX5_isIn 2 rfl) (by decide) (fun c1 => ?_) (fun c1 => ?_)
  ·
    have c1 : o = -1 := c1
    refine r_iconst (v := nI 0) C (dx dX5_isIn 11 rfl) rfl ?_
    exact F.1 _ _ _ _ _ rfl rfl (dx dX5_isIn 12 rfl) rfl ⟨congrArg (fun x => some (vi x)) (show nI 0 = b2i _ by rw [show (inB s o) = false by simp_all [inB]]; rfl), rfl⟩
  ·
    have c1 : ¬ o = -1 := c1
    refine r_iload_n C (dx dX5_isIn 3 rfl) rfl ?_
    refine r_iconst (v := nI 1) C (dx dX5_isIn 4 rfl) rfl ?_
    refine r_iload_n C (dx dX5_isIn 5 rfl) rfl ?_
    refine r_ishl C (dx dX5_isIn 6 rfl) ?_
    refine r_iand C (dx dX5_isIn 7 rfl) ?_
    refine r_if_eq (tgt := 17) C (dx dX5_isIn 8 rfl) (by decide) (fun c2 => ?_) (fun c2 => ?_)
    ·
      have c2 : s &&& ((nI 1) <<< (o &&& 31)) = 0 := c2
      refine r_iconst (v := nI 0) C (dx dX5_isIn 11 rfl) rfl ?_
      exact F.1 _ _ _ _ _ rfl rfl (dx dX5_isIn 12 rfl) rfl ⟨congrArg (fun x => some (vi x)) (show nI 0 = b2i _ by rw [show (inB s o) = false by simp_all [inB]]; rfl), rfl⟩
    ·
      have c2 : ¬ s &&& ((nI 1) <<< (o &&& 31)) = 0 := c2
      refine r_iconst (v := nI 1) C (dx dX5_isIn 9 rfl) rfl ?_
      refine r_goto (tgt := 18) C (dx dX5_isIn 10 rfl) (by decide) ?_
      exact F.1 _ _ _ _ _ rfl rfl (dx dX5_isIn 12 rfl) rfl ⟨congrArg (fun x => some (vi x)) (show nI 1 = b2i _ by rw [show (inB s o) = true by simp_all [inB]]; rfl), rfl⟩
set_option maxHeartbeats 4000000 in
theorem c_X5_isPair {l : Launch} {h : Hp} {k : Nat} {v : Vg} (hv : VilAt h k v) (x y : Int32) : Mp l yX5_isPair cX5_isPair 3 (some .boolean) 2 [vr 5 k, vi x, vi y] h (vi (b2i (pairV v x y))) := by
  refine Ms.of (by decide) (Nat.le_of_ble_eq_true rfl) (fun G C X F => ?_)
  have C : Cx G cX5_isPair 3 RX5 := C
  show Rr G 0 [(0, vr 5 k), (1, vi x), (2, vi y)] [] h
  have bP := hv.bP
  have bM := hv.bM
  have bN := hv.bN
  refine r_aload_n C (dx dX5_isPair 0 rfl) rfl ?_
  refine r_iload_n C (dx dX5_isPair 1 rfl) rfl ?_
  refine r_cvP (as := [vi x]) (st := []) (v := vi (b2i (inR x (vM v)))) C X I_X5_isMachine l_X5_56 (c_X5_isMachine hv _) (by decide) (Nat.le_of_ble_eq_true rfl) List.prefix_rfl rfl rfl (Nat.le_of_ble_eq_true rfl) rfl (dx dX5_isPair 2 rfl) ?_
  refine rb_eq (b := inR x (vM v)) (tgt := 25) C (dx dX5_isPair 3 rfl) (by decide) (fun c1 => ?_) (fun c1 => ?_)
  ·
    have c1 : (inR x (vM v)) = false := c1
    refine r_iconst (v := nI 0) C (dx dX5_isPair 13 rfl) rfl ?_
    exact F.1 _ _ _ _ _ rfl rfl (dx dX5_isPair 14 rfl) rfl ⟨congrArg (fun x => some (vi x)) (show nI 0 = b2i _ by rw [show (pairV v x y) = false by simp_all [pairV]]; rfl), rfl⟩
  ·
    have c1 : (inR x (vM v)) = true := c1
    refine r_aload_n C (dx dX5_isPair 4 rfl) rfl ?_
    refine r_iload_n C (dx dX5_isPair 5 rfl) rfl ?_
    refine r_cvP (as := [vi y]) (st := []) (v := vi (b2i (inR y (vM v)))) C X I_X5_isMachine l_X5_56 (c_X5_isMachine hv _) (by decide) (Nat.le_of_ble_eq_true rfl) List.prefix_rfl rfl rfl (Nat.le_of_ble_eq_true rfl) rfl (dx dX5_isPair 6 rfl) ?_
    refine rb_eq (b := inR y (vM v)) (tgt := 25) C (dx dX5_isPair 7 rfl) (by decide) (fun c2 => ?_) (fun c2 => ?_)
    ·
      have c2 : (inR y (vM v)) = false := c2
      refine r_iconst (v := nI 0) C (dx dX5_isPair 13 rfl) rfl ?_
      exact F.1 _ _ _ _ _ rfl rfl (dx dX5_isPair 14 rfl) rfl ⟨congrArg (fun x => some (vi x)) (show nI 0 = b2i _ by rw [show (pairV v x y) = false by simp_all [pairV]]; rfl), rfl⟩
    ·
      have c2 : (inR y (vM v)) = true := c2
      refine r_iload_n C (dx dX5_isPair 8 rfl) rfl ?_
      refine r_iload_n C (dx dX5_isPair 9 rfl) rfl ?_
      refine r_icmp_eq (tgt := 25) C (dx dX5_isPair 10 rfl) (by decide) (fun c3 => ?_) (fun c3 => ?_)
      ·
        have c3 : x = y := c3
        refine r_iconst (v := nI 0) C (dx dX5_isPair 13 rfl) rfl ?_
        exact F.1 _ _ _ _ _ rfl rfl (dx dX5_isPair 14 rfl) rfl ⟨congrArg (fun x => some (vi x)) (show nI 0 = b2i _ by rw [show (pairV v x y) = false by simp_all [pairV]]; rfl), rfl⟩
      ·
        have c3 : ¬ x = y := c3
        refine r_iconst (v := nI 1) C (dx dX5_isPair 11 rfl) rfl ?_
        refine r_goto (tgt := 26) C (dx dX5_isPair 12 rfl) (by decide) ?_
        exact F.1 _ _ _ _ _ rfl rfl (dx dX5_isPair 14 rfl) rfl ⟨congrArg (fun x => some (vi x)) (show nI 1 = b2i _ by rw [show (pairV v x y) = true by simp_all [pairV]]; rfl), rfl⟩
set_option maxHeartbeats 4000000 in
theorem c_X5_crossPeople {l : Launch} {h : Hp} {k : Nat} {v : Vg} (hv : VilAt h k v)  : Mp l yX5_crossPeople cX5_crossPeople 3 (some .int) 1 [vr 5 k] h (vi (crs v)) := by
  refine Ms.of (by decide) (Nat.le_of_ble_eq_true rfl) (fun G C X F => ?_)
  have C : Cx G cX5_crossPeople 3 RX5 := C
  show Rr G 0 [(0, vr 5 k)] [] h
  have bP := hv.bP
  have bM := hv.bM
  have bN := hv.bN
  refine r_iconst (v := nI 0) C (dx dX5_crossPeople 0 rfl) rfl ?_
  refine r_istore_n (ls' := [(0, vr 5 k), (1, vi (nI 0))]) C (dx dX5_crossPeople 1 rfl) (by decide) [1, 0] rfl ?_
  refine r_iconst (v := nI 0) C (dx dX5_crossPeople 2 rfl) rfl ?_
  refine r_istore_n (ls' := [(0, vr 5 k), (1, vi (nI 0)), (2, vi (nI 0))]) C (dx dX5_crossPeople 3 rfl) (by decide) [1, 2, 0] rfl ?_
  refine loopU (Φ := fun p => Rr G 4 [(0, vr 5 k), (1, vi (bset (fun o => decide (¬ vF v 6 o = 0)) p)), (2, vi (nI p))] [] h) (N := vN v) ?_ ?_ 0 (Nat.zero_le _)
  ·
    refine r_iload_n C (dx dX5_crossPeople 4 rfl) rfl ?_
    refine r_aload_n C (dx dX5_crossPeople 5 rfl) rfl ?_
    refine g_X5_31 (x := nI (vN v)) C (dx dX5_crossPeople 6 rfl) hv.eN ?_
    refine rn_ge (a := vN v) (b := vN v) (tgt := 33) C (by omega) (by omega) (dx dX5_crossPeople 7 rfl) (by decide) (fun c1 => ?_) (fun c1 => ?_)
    · first
      | (omega; done)
      | (
          have c1 : vN v ≤ vN v := c1
          refine r_iload_n C (dx dX5_crossPeople 21 rfl) rfl ?_
          exact F.1 _ _ _ _ _ rfl rfl (dx dX5_crossPeople 22 rfl) rfl ⟨congrArg (fun x => some (vi x)) (show bset (fun o => decide (¬ vF v 6 o = 0)) (vN v) = crs v by rfl), rfl⟩)
    · first
      | (omega; done)
      | (
          have c1 : vN v < vN v := c1
          refine r_aload_n C (dx dX5_crossPeople 8 rfl) rfl ?_
          refine g_X5_40 C (dx dX5_crossPeople 9 rfl) ?_
          refine r_iload_n C (dx dX5_crossPeople 10 rfl) rfl ?_
          refine r_zald (j := vN v) (x := vF v 6 (vN v)) C rfl rfl (by decide) rfl (by omega) (dx dX5_crossPeople 11 rfl) (hv.e6 (by omega)) ?_
          refine r_if_eq (tgt := 27) C (dx dX5_crossPeople 12 rfl) (by decide) (fun c2 => ?_) (fun c2 => ?_)
          ·
            have c2 : vF v 6 (vN v) = 0 := c2
            refine rn_iinc (a := vN v) (k := 1) (ls' := [(0, vr 5 k), (1, vi (bset (fun o => decide (¬ vF v 6 o = 0)) (vN v))), (2, vi (nI (vN v + 1)))]) C (dx dX5_crossPeople 19 rfl) rfl rfl (by decide) [1, 2, 0] rfl ?_
            refine r_goto (tgt := 4) C (dx dX5_crossPeople 20 rfl) (by decide) ?_
            have e9 : bset (fun o => decide (¬ vF v 6 o = 0)) (vN v) = bset (fun o => decide (¬ vF v 6 o = 0)) (vN v + 1) := by simp [bset, c1, c2]
            rw [e9]
            exact ih
          ·
            have c2 : ¬ vF v 6 (vN v) = 0 := c2
            refine r_iload_n C (dx dX5_crossPeople 13 rfl) rfl ?_
            refine r_iconst (v := nI 1) C (dx dX5_crossPeople 14 rfl) rfl ?_
            refine r_iload_n C (dx dX5_crossPeople 15 rfl) rfl ?_
            refine r_ishl C (dx dX5_crossPeople 16 rfl) ?_
            refine r_ior C (dx dX5_crossPeople 17 rfl) ?_
            refine r_istore_n (ls' := [(0, vr 5 k), (1, vi ((bset (fun o => decide (¬ vF v 6 o = 0)) (vN v)) ||| ((nI 1) <<< ((nI (vN v)) &&& 31)))), (2, vi (nI (vN v)))]) C (dx dX5_crossPeople 18 rfl) (by decide) [1, 0, 2] rfl ?_
            refine rn_iinc (a := vN v) (k := 1) (ls' := [(0, vr 5 k), (1, vi ((bset (fun o => decide (¬ vF v 6 o = 0)) (vN v)) ||| ((nI 1) <<< ((nI (vN v)) &&& 31)))), (2, vi (nI (vN v + 1)))]) C (dx dX5_crossPeople 19 rfl) rfl rfl (by decide) [1, 2, 0] rfl ?_
            refine r_goto (tgt := 4) C (dx dX5_crossPeople 20 rfl) (by decide) ?_
            have e9 : (bset (fun o => decide (¬ vF v 6 o = 0)) (vN v)) ||| ((nI 1) <<< ((nI (vN v)) &&& 31)) = bset (fun o => decide (¬ vF v 6 o = 0)) (vN v + 1) := by simp [bset, c1, c2]
            rw [e9]
            exact ih)
  ·
    intro p hp ih
    refine r_iload_n C (dx dX5_crossPeople 4 rfl) rfl ?_
    refine r_aload_n C (dx dX5_crossPeople 5 rfl) rfl ?_
    refine g_X5_31 (x := nI (vN v)) C (dx dX5_crossPeople 6 rfl) hv.eN ?_
    refine rn_ge (a := p) (b := vN v) (tgt := 33) C (by omega) (by omega) (dx dX5_crossPeople 7 rfl) (by decide) (fun c3 => ?_) (fun c3 => ?_)
    · first
      | (omega; done)
      | (
          have c3 : vN v ≤ p := c3
          refine r_iload_n C (dx dX5_crossPeople 21 rfl) rfl ?_
          exact F.1 _ _ _ _ _ rfl rfl (dx dX5_crossPeople 22 rfl) rfl ⟨congrArg (fun x => some (vi x)) (show bset (fun o => decide (¬ vF v 6 o = 0)) p = crs v by rfl), rfl⟩)
    · first
      | (omega; done)
      | (
          have c3 : p < vN v := c3
          refine r_aload_n C (dx dX5_crossPeople 8 rfl) rfl ?_
          refine g_X5_40 C (dx dX5_crossPeople 9 rfl) ?_
          refine r_iload_n C (dx dX5_crossPeople 10 rfl) rfl ?_
          refine r_zald (j := p) (x := vF v 6 p) C rfl rfl (by decide) rfl (by omega) (dx dX5_crossPeople 11 rfl) (hv.e6 (by omega)) ?_
          refine r_if_eq (tgt := 27) C (dx dX5_crossPeople 12 rfl) (by decide) (fun c4 => ?_) (fun c4 => ?_)
          ·
            have c4 : vF v 6 p = 0 := c4
            refine rn_iinc (a := p) (k := 1) (ls' := [(0, vr 5 k), (1, vi (bset (fun o => decide (¬ vF v 6 o = 0)) p)), (2, vi (nI (p + 1)))]) C (dx dX5_crossPeople 19 rfl) rfl rfl (by decide) [1, 2, 0] rfl ?_
            refine r_goto (tgt := 4) C (dx dX5_crossPeople 20 rfl) (by decide) ?_
            have e9 : bset (fun o => decide (¬ vF v 6 o = 0)) p = bset (fun o => decide (¬ vF v 6 o = 0)) (p + 1) := by simp [bset, c3, c4]
            rw [e9]
            exact ih
          ·
            have c4 : ¬ vF v 6 p = 0 := c4
            refine r_iload_n C (dx dX5_crossPeople 13 rfl) rfl ?_
            refine r_iconst (v := nI 1) C (dx dX5_crossPeople 14 rfl) rfl ?_
            refine r_iload_n C (dx dX5_crossPeople 15 rfl) rfl ?_
            refine r_ishl C (dx dX5_crossPeople 16 rfl) ?_
            refine r_ior C (dx dX5_crossPeople 17 rfl) ?_
            refine r_istore_n (ls' := [(0, vr 5 k), (1, vi ((bset (fun o => decide (¬ vF v 6 o = 0)) p) ||| ((nI 1) <<< ((nI p) &&& 31)))), (2, vi (nI p))]) C (dx dX5_crossPeople 18 rfl) (by decide) [1, 0, 2] rfl ?_
            refine rn_iinc (a := p) (k := 1) (ls' := [(0, vr 5 k), (1, vi ((bset (fun o => decide (¬ vF v 6 o = 0)) p) ||| ((nI 1) <<< ((nI p) &&& 31)))), (2, vi (nI (p + 1)))]) C (dx dX5_crossPeople 19 rfl) rfl rfl (by decide) [1, 2, 0] rfl ?_
            refine r_goto (tgt := 4) C (dx dX5_crossPeople 20 rfl) (by decide) ?_
            have e9 : (bset (fun o => decide (¬ vF v 6 o = 0)) p) ||| ((nI 1) <<< ((nI p) &&& 31)) = bset (fun o => decide (¬ vF v 6 o = 0)) (p + 1) := by simp [bset, c3, c4]
            rw [e9]
            exact ih)
set_option maxHeartbeats 4000000 in
theorem c_X5_piecesOf {l : Launch} {h : Hp} {k : Nat} {v : Vg} (hv : VilAt h k v) (o : Int32) : Mp l yX5_piecesOf cX5_piecesOf 4 (some .int) 1 [vr 5 k, vi o] h (vi (nI (pcs v o (vP v)))) := by
  refine Ms.of (by decide) (Nat.le_of_ble_eq_true rfl) (fun G C X F => ?_)
  have C : Cx G cX5_piecesOf 4 RX5 := C
  show Rr G 0 [(0, vr 5 k), (1, vi o)] [] h
  have bP := hv.bP
  have bM := hv.bM
  have bN := hv.bN
  refine r_iconst (v := nI 0) C (dx dX5_piecesOf 0 rfl) rfl ?_
  refine r_istore_n (ls' := [(0, vr 5 k), (1, vi o), (2, vi (nI 0))]) C (dx dX5_piecesOf 1 rfl) (by decide) [1, 2, 0] rfl ?_
  refine r_iconst (v := nI 0) C (dx dX5_piecesOf 2 rfl) rfl ?_
  refine r_istore_n (ls' := [(0, vr 5 k), (1, vi o), (2, vi (nI 0)), (3, vi (nI 0))]) C (dx dX5_piecesOf 3 rfl) (by decide) [1, 2, 3, 0] rfl ?_
  refine loopU (Φ := fun p => Rr G 4 [(0, vr 5 k), (1, vi o), (2, vi (nI (pcs v o p))), (3, vi (nI p))] [] h) (N := vP v) ?_ ?_ 0 (Nat.zero_le _)
  ·
    refine r_iload_n C (dx dX5_piecesOf 4 rfl) rfl ?_
    refine r_aload_n C (dx dX5_piecesOf 5 rfl) rfl ?_
    refine g_X5_9 (x := nI (vP v)) C (dx dX5_piecesOf 6 rfl) hv.eP ?_
    refine rn_ge (a := vP v) (b := vP v) (tgt := 44) C (by omega) (by omega) (dx dX5_piecesOf 7 rfl) (by decide) (fun c1 => ?_) (fun c1 => ?_)
    · first
      | (omega; done)
      | (
          have c1 : vP v ≤ vP v := c1
          refine r_iload_n C (dx dX5_piecesOf 24 rfl) rfl ?_
          exact F.1 _ _ _ _ _ rfl rfl (dx dX5_piecesOf 25 rfl) rfl ⟨congrArg (fun x => some (vi x)) rfl, rfl⟩)
    · first
      | (omega; done)
      | (
          have c1 : vP v < vP v := c1
          refine r_aload_n C (dx dX5_piecesOf 8 rfl) rfl ?_
          refine g_X5_15 C (dx dX5_piecesOf 9 rfl) ?_
          refine r_iload_n C (dx dX5_piecesOf 10 rfl) rfl ?_
          refine r_iald (j := vP v) (x := vF v 0 (vP v)) C rfl rfl (by decide) rfl (by omega) (dx dX5_piecesOf 11 rfl) (hv.e0 (by omega)) ?_
          refine r_iload_n C (dx dX5_piecesOf 12 rfl) rfl ?_
          refine r_icmp_ne (tgt := 25) C (dx dX5_piecesOf 13 rfl) (by decide) (fun c2 => ?_) (fun c2 => ?_)
          ·
            have c2 : ¬ vF v 0 (vP v) = o := c2
            refine r_aload_n C (dx dX5_piecesOf 15 rfl) rfl ?_
            refine g_X5_19 C (dx dX5_piecesOf 16 rfl) ?_
            refine r_iload_n C (dx dX5_piecesOf 17 rfl) rfl ?_
            refine r_iald (j := vP v) (x := vF v 1 (vP v)) C rfl rfl (by decide) rfl (by omega) (dx dX5_piecesOf 18 rfl) (hv.e1 (by omega)) ?_
            refine r_iload_n C (dx dX5_piecesOf 19 rfl) rfl ?_
            refine r_icmp_ne (tgt := 38) C (dx dX5_piecesOf 20 rfl) (by decide) (fun c3 => ?_) (fun c3 => ?_)
            ·
              have c3 : ¬ vF v 1 (vP v) = o := c3
              refine rn_iinc (a := vP v) (k := 1) (ls' := [(0, vr 5 k), (1, vi o), (2, vi (nI (pcs v o (vP v)))), (3, vi (nI (vP v + 1)))]) C (dx dX5_piecesOf 22 rfl) rfl rfl (by decide) [1, 2, 3, 0] rfl ?_
              refine r_goto (tgt := 4) C (dx dX5_piecesOf 23 rfl) (by decide) ?_
              have e9 : nI (pcs v o (vP v)) = nI (pcs v o (vP v + 1)) := by simp [pcs, c1, c2, c3]
              rw [e9]
              exact ih
            ·
              have c3 : vF v 1 (vP v) = o := c3
              refine rn_iinc (a := pcs v o (vP v)) (k := 1) (ls' := [(0, vr 5 k), (1, vi o), (2, vi (nI (pcs v o (vP v) + 1))), (3, vi (nI (vP v)))]) C (dx dX5_piecesOf 21 rfl) rfl rfl (by decide) [1, 2, 0, 3] rfl ?_
              refine rn_iinc (a := vP v) (k := 1) (ls' := [(0, vr 5 k), (1, vi o), (2, vi (nI (pcs v o (vP v) + 1))), (3, vi (nI (vP v + 1)))]) C (dx dX5_piecesOf 22 rfl) rfl rfl (by decide) [1, 2, 3, 0] rfl ?_
              refine r_goto (tgt := 4) C (dx dX5_piecesOf 23 rfl) (by decide) ?_
              have e9 : nI (pcs v o (vP v) + 1) = nI (pcs v o (vP v + 1)) := by simp [pcs, c1, c2, c3]
              rw [e9]
              exact ih
          ·
            have c2 : vF v 0 (vP v) = o := c2
            refine rn_iinc (a := pcs v o (vP v)) (k := 1) (ls' := [(0, vr 5 k), (1, vi o), (2, vi (nI (pcs v o (vP v) + 1))), (3, vi (nI (vP v)))]) C (dx dX5_piecesOf 14 rfl) rfl rfl (by decide) [1, 2, 0, 3] rfl ?_
            refine r_aload_n C (dx dX5_piecesOf 15 rfl) rfl ?_
            refine g_X5_19 C (dx dX5_piecesOf 16 rfl) ?_
            refine r_iload_n C (dx dX5_piecesOf 17 rfl) rfl ?_
            refine r_iald (j := vP v) (x := vF v 1 (vP v)) C rfl rfl (by decide) rfl (by omega) (dx dX5_piecesOf 18 rfl) (hv.e1 (by omega)) ?_
            refine r_iload_n C (dx dX5_piecesOf 19 rfl) rfl ?_
            refine r_icmp_ne (tgt := 38) C (dx dX5_piecesOf 20 rfl) (by decide) (fun c4 => ?_) (fun c4 => ?_)
            ·
              have c4 : ¬ vF v 1 (vP v) = o := c4
              refine rn_iinc (a := vP v) (k := 1) (ls' := [(0, vr 5 k), (1, vi o), (2, vi (nI (pcs v o (vP v) + 1))), (3, vi (nI (vP v + 1)))]) C (dx dX5_piecesOf 22 rfl) rfl rfl (by decide) [1, 2, 3, 0] rfl ?_
              refine r_goto (tgt := 4) C (dx dX5_piecesOf 23 rfl) (by decide) ?_
              have e9 : nI (pcs v o (vP v) + 1) = nI (pcs v o (vP v + 1)) := by simp [pcs, c1, c2, c4]
              rw [e9]
              exact ih
            ·
              have c4 : vF v 1 (vP v) = o := c4
              refine rn_iinc (a := pcs v o (vP v) + 1) (k := 1) (ls' := [(0, vr 5 k), (1, vi o), (2, vi (nI (pcs v o (vP v) + 1 + 1))), (3, vi (nI (vP v)))]) C (dx dX5_piecesOf 21 rfl) rfl rfl (by decide) [1, 2, 0, 3] rfl ?_
              refine rn_iinc (a := vP v) (k := 1) (ls' := [(0, vr 5 k), (1, vi o), (2, vi (nI (pcs v o (vP v) + 1 + 1))), (3, vi (nI (vP v + 1)))]) C (dx dX5_piecesOf 22 rfl) rfl rfl (by decide) [1, 2, 3, 0] rfl ?_
              refine r_goto (tgt := 4) C (dx dX5_piecesOf 23 rfl) (by decide) ?_
              have e9 : nI (pcs v o (vP v) + 1 + 1) = nI (pcs v o (vP v + 1)) := by simp [pcs, c1, c2, c4]
              rw [e9]
              exact ih)
  ·
    intro p hp ih
    refine r_iload_n C (dx dX5_piecesOf 4 rfl) rfl ?_
    refine r_aload_n C (dx dX5_piecesOf 5 rfl) rfl ?_
    refine g_X5_9 (x := nI (vP v)) C (dx dX5_piecesOf 6 rfl) hv.eP ?_
    refine rn_ge (a := p) (b := vP v) (tgt := 44) C (by omega) (by omega) (dx dX5_piecesOf 7 rfl) (by decide) (fun c5 => ?_) (fun c5 => ?_)
    · first
      | (omega; done)
      | (
          have c5 : vP v ≤ p := c5
          refine r_iload_n C (dx dX5_piecesOf 24 rfl) rfl ?_
          exact F.1 _ _ _ _ _ rfl rfl (dx dX5_piecesOf 25 rfl) rfl ⟨congrArg (fun x => some (vi x)) (show nI (pcs v o p) = nI (pcs v o (vP v)) by rfl), rfl⟩)
    · first
      | (omega; done)
      | (
          have c5 : p < vP v := c5
          refine r_aload_n C (dx dX5_piecesOf 8 rfl) rfl ?_
          refine g_X5_15 C (dx dX5_piecesOf 9 rfl) ?_
          refine r_iload_n C (dx dX5_piecesOf 10 rfl) rfl ?_
          refine r_iald (j := p) (x := vF v 0 p) C rfl rfl (by decide) rfl (by omega) (dx dX5_piecesOf 11 rfl) (hv.e0 (by omega)) ?_
          refine r_iload_n C (dx dX5_piecesOf 12 rfl) rfl ?_
          refine r_icmp_ne (tgt := 25) C (dx dX5_piecesOf 13 rfl) (by decide) (fun c6 => ?_) (fun c6 => ?_)
          ·
            have c6 : ¬ vF v 0 p = o := c6
            refine r_aload_n C (dx dX5_piecesOf 15 rfl) rfl ?_
            refine g_X5_19 C (dx dX5_piecesOf 16 rfl) ?_
            refine r_iload_n C (dx dX5_piecesOf 17 rfl) rfl ?_
            refine r_iald (j := p) (x := vF v 1 p) C rfl rfl (by decide) rfl (by omega) (dx dX5_piecesOf 18 rfl) (hv.e1 (by omega)) ?_
            refine r_iload_n C (dx dX5_piecesOf 19 rfl) rfl ?_
            refine r_icmp_ne (tgt := 38) C (dx dX5_piecesOf 20 rfl) (by decide) (fun c7 => ?_) (fun c7 => ?_)
            ·
              have c7 : ¬ vF v 1 p = o := c7
              refine rn_iinc (a := p) (k := 1) (ls' := [(0, vr 5 k), (1, vi o), (2, vi (nI (pcs v o p))), (3, vi (nI (p + 1)))]) C (dx dX5_piecesOf 22 rfl) rfl rfl (by decide) [1, 2, 3, 0] rfl ?_
              refine r_goto (tgt := 4) C (dx dX5_piecesOf 23 rfl) (by decide) ?_
              have e9 : nI (pcs v o p) = nI (pcs v o (p + 1)) := by simp [pcs, c5, c6, c7]
              rw [e9]
              exact ih
            ·
              have c7 : vF v 1 p = o := c7
              refine rn_iinc (a := pcs v o p) (k := 1) (ls' := [(0, vr 5 k), (1, vi o), (2, vi (nI (pcs v o p + 1))), (3, vi (nI p))]) C (dx dX5_piecesOf 21 rfl) rfl rfl (by decide) [1, 2, 0, 3] rfl ?_
              refine rn_iinc (a := p) (k := 1) (ls' := [(0, vr 5 k), (1, vi o), (2, vi (nI (pcs v o p + 1))), (3, vi (nI (p + 1)))]) C (dx dX5_piecesOf 22 rfl) rfl rfl (by decide) [1, 2, 3, 0] rfl ?_
              refine r_goto (tgt := 4) C (dx dX5_piecesOf 23 rfl) (by decide) ?_
              have e9 : nI (pcs v o p + 1) = nI (pcs v o (p + 1)) := by simp [pcs, c5, c6, c7]
              rw [e9]
              exact ih
          ·
            have c6 : vF v 0 p = o := c6
            refine rn_iinc (a := pcs v o p) (k := 1) (ls' := [(0, vr 5 k), (1, vi o), (2, vi (nI (pcs v o p + 1))), (3, vi (nI p))]) C (dx dX5_piecesOf 14 rfl) rfl rfl (by decide) [1, 2, 0, 3] rfl ?_
            refine r_aload_n C (dx dX5_piecesOf 15 rfl) rfl ?_
            refine g_X5_19 C (dx dX5_piecesOf 16 rfl) ?_
            refine r_iload_n C (dx dX5_piecesOf 17 rfl) rfl ?_
            refine r_iald (j := p) (x := vF v 1 p) C rfl rfl (by decide) rfl (by omega) (dx dX5_piecesOf 18 rfl) (hv.e1 (by omega)) ?_
            refine r_iload_n C (dx dX5_piecesOf 19 rfl) rfl ?_
            refine r_icmp_ne (tgt := 38) C (dx dX5_piecesOf 20 rfl) (by decide) (fun c8 => ?_) (fun c8 => ?_)
            ·
              have c8 : ¬ vF v 1 p = o := c8
              refine rn_iinc (a := p) (k := 1) (ls' := [(0, vr 5 k), (1, vi o), (2, vi (nI (pcs v o p + 1))), (3, vi (nI (p + 1)))]) C (dx dX5_piecesOf 22 rfl) rfl rfl (by decide) [1, 2, 3, 0] rfl ?_
              refine r_goto (tgt := 4) C (dx dX5_piecesOf 23 rfl) (by decide) ?_
              have e9 : nI (pcs v o p + 1) = nI (pcs v o (p + 1)) := by simp [pcs, c5, c6, c8]
              rw [e9]
              exact ih
            ·
              have c8 : vF v 1 p = o := c8
              refine rn_iinc (a := pcs v o p + 1) (k := 1) (ls' := [(0, vr 5 k), (1, vi o), (2, vi (nI (pcs v o p + 1 + 1))), (3, vi (nI p))]) C (dx dX5_piecesOf 21 rfl) rfl rfl (by decide) [1, 2, 0, 3] rfl ?_
              refine rn_iinc (a := p) (k := 1) (ls' := [(0, vr 5 k), (1, vi o), (2, vi (nI (pcs v o p + 1 + 1))), (3, vi (nI (p + 1)))]) C (dx dX5_piecesOf 22 rfl) rfl rfl (by decide) [1, 2, 3, 0] rfl ?_
              refine r_goto (tgt := 4) C (dx dX5_piecesOf 23 rfl) (by decide) ?_
              have e9 : nI (pcs v o p + 1 + 1) = nI (pcs v o (p + 1)) := by simp [pcs, c5, c6, c8]
              rw [e9]
              exact ih)
set_option maxHeartbeats 4000000 in
theorem c_X5_holderCount {l : Launch} {h : Hp} {k : Nat} {v : Vg} (hv : VilAt h k v)  : Mp l yX5_holderCount cX5_holderCount 3 (some .int) 1 [vr 5 k] h (vi (nI (cnt (fun p => decide (¬ vF v 0 p = -1)) (vP v)))) := by
  refine Ms.of (by decide) (Nat.le_of_ble_eq_true rfl) (fun G C X F => ?_)
  have C : Cx G cX5_holderCount 3 RX5 := C
  show Rr G 0 [(0, vr 5 k)] [] h
  have bP := hv.bP
  have bM := hv.bM
  have bN := hv.bN
  refine r_iconst (v := nI 0) C (dx dX5_holderCount 0 rfl) rfl ?_
  refine r_istore_n (ls' := [(0, vr 5 k), (1, vi (nI 0))]) C (dx dX5_holderCount 1 rfl) (by decide) [1, 0] rfl ?_
  refine r_iconst (v := nI 0) C (dx dX5_holderCount 2 rfl) rfl ?_
  refine r_istore_n (ls' := [(0, vr 5 k), (1, vi (nI 0)), (2, vi (nI 0))]) C (dx dX5_holderCount 3 rfl) (by decide) [1, 2, 0] rfl ?_
  refine loopU (Φ := fun p => Rr G 4 [(0, vr 5 k), (1, vi (nI (cnt (fun p => decide (¬ vF v 0 p = -1)) p))), (2, vi (nI p))] [] h) (N := vP v) ?_ ?_ 0 (Nat.zero_le _)
  ·
    refine r_iload_n C (dx dX5_holderCount 4 rfl) rfl ?_
    refine r_aload_n C (dx dX5_holderCount 5 rfl) rfl ?_
    refine g_X5_9 (x := nI (vP v)) C (dx dX5_holderCount 6 rfl) hv.eP ?_
    refine rn_ge (a := vP v) (b := vP v) (tgt := 31) C (by omega) (by omega) (dx dX5_holderCount 7 rfl) (by decide) (fun c1 => ?_) (fun c1 => ?_)
    · first
      | (omega; done)
      | (
          have c1 : vP v ≤ vP v := c1
          refine r_iload_n C (dx dX5_holderCount 17 rfl) rfl ?_
          exact F.1 _ _ _ _ _ rfl rfl (dx dX5_holderCount 18 rfl) rfl ⟨congrArg (fun x => some (vi x)) rfl, rfl⟩)
    · first
      | (omega; done)
      | (
          have c1 : vP v < vP v := c1
          refine r_aload_n C (dx dX5_holderCount 8 rfl) rfl ?_
          refine g_X5_15 C (dx dX5_holderCount 9 rfl) ?_
          refine r_iload_n C (dx dX5_holderCount 10 rfl) rfl ?_
          refine r_iald (j := vP v) (x := vF v 0 (vP v)) C rfl rfl (by decide) rfl (by omega) (dx dX5_holderCount 11 rfl) (hv.e0 (by omega)) ?_
          refine r_iconst (v := -1) C (dx dX5_holderCount 12 rfl) rfl ?_
          refine r_icmp_eq (tgt := 25) C (dx dX5_holderCount 13 rfl) (by decide) (fun c2 => ?_) (fun c2 => ?_)
          ·
            have c2 : vF v 0 (vP v) = -1 := c2
            refine rn_iinc (a := vP v) (k := 1) (ls' := [(0, vr 5 k), (1, vi (nI (cnt (fun p => decide (¬ vF v 0 p = -1)) (vP v)))), (2, vi (nI (vP v + 1)))]) C (dx dX5_holderCount 15 rfl) rfl rfl (by decide) [1, 2, 0] rfl ?_
            refine r_goto (tgt := 4) C (dx dX5_holderCount 16 rfl) (by decide) ?_
            have e9 : nI (cnt (fun p => decide (¬ vF v 0 p = -1)) (vP v)) = nI (cnt (fun p => decide (¬ vF v 0 p = -1)) (vP v + 1)) := by simp [cnt, c1, c2]
            rw [e9]
            exact ih
          ·
            have c2 : ¬ vF v 0 (vP v) = -1 := c2
            refine rn_iinc (a := cnt (fun p => decide (¬ vF v 0 p = -1)) (vP v)) (k := 1) (ls' := [(0, vr 5 k), (1, vi (nI (cnt (fun p => decide (¬ vF v 0 p = -1)) (vP v) + 1))), (2, vi (nI (vP v)))]) C (dx dX5_holderCount 14 rfl) rfl rfl (by decide) [1, 0, 2] rfl ?_
            refine rn_iinc (a := vP v) (k := 1) (ls' := [(0, vr 5 k), (1, vi (nI (cnt (fun p => decide (¬ vF v 0 p = -1)) (vP v) + 1))), (2, vi (nI (vP v + 1)))]) C (dx dX5_holderCount 15 rfl) rfl rfl (by decide) [1, 2, 0] rfl ?_
            refine r_goto (tgt := 4) C (dx dX5_holderCount 16 rfl) (by decide) ?_
            have e9 : nI (cnt (fun p => decide (¬ vF v 0 p = -1)) (vP v) + 1) = nI (cnt (fun p => decide (¬ vF v 0 p = -1)) (vP v + 1)) := by simp [cnt, c1, c2]
            rw [e9]
            exact ih)
  ·
    intro p hp ih
    refine r_iload_n C (dx dX5_holderCount 4 rfl) rfl ?_
    refine r_aload_n C (dx dX5_holderCount 5 rfl) rfl ?_
    refine g_X5_9 (x := nI (vP v)) C (dx dX5_holderCount 6 rfl) hv.eP ?_
    refine rn_ge (a := p) (b := vP v) (tgt := 31) C (by omega) (by omega) (dx dX5_holderCount 7 rfl) (by decide) (fun c3 => ?_) (fun c3 => ?_)
    · first
      | (omega; done)
      | (
          have c3 : vP v ≤ p := c3
          refine r_iload_n C (dx dX5_holderCount 17 rfl) rfl ?_
          exact F.1 _ _ _ _ _ rfl rfl (dx dX5_holderCount 18 rfl) rfl ⟨congrArg (fun x => some (vi x)) (show nI (cnt (fun p => decide (¬ vF v 0 p = -1)) p) = nI (cnt (fun p => decide (¬ vF v 0 p = -1)) (vP v)) by rfl), rfl⟩)
    · first
      | (omega; done)
      | (
          have c3 : p < vP v := c3
          refine r_aload_n C (dx dX5_holderCount 8 rfl) rfl ?_
          refine g_X5_15 C (dx dX5_holderCount 9 rfl) ?_
          refine r_iload_n C (dx dX5_holderCount 10 rfl) rfl ?_
          refine r_iald (j := p) (x := vF v 0 p) C rfl rfl (by decide) rfl (by omega) (dx dX5_holderCount 11 rfl) (hv.e0 (by omega)) ?_
          refine r_iconst (v := -1) C (dx dX5_holderCount 12 rfl) rfl ?_
          refine r_icmp_eq (tgt := 25) C (dx dX5_holderCount 13 rfl) (by decide) (fun c4 => ?_) (fun c4 => ?_)
          ·
            have c4 : vF v 0 p = -1 := c4
            refine rn_iinc (a := p) (k := 1) (ls' := [(0, vr 5 k), (1, vi (nI (cnt (fun p => decide (¬ vF v 0 p = -1)) p))), (2, vi (nI (p + 1)))]) C (dx dX5_holderCount 15 rfl) rfl rfl (by decide) [1, 2, 0] rfl ?_
            refine r_goto (tgt := 4) C (dx dX5_holderCount 16 rfl) (by decide) ?_
            have e9 : nI (cnt (fun p => decide (¬ vF v 0 p = -1)) p) = nI (cnt (fun p => decide (¬ vF v 0 p = -1)) (p + 1)) := by simp [cnt, c3, c4]
            rw [e9]
            exact ih
          ·
            have c4 : ¬ vF v 0 p = -1 := c4
            refine rn_iinc (a := cnt (fun p => decide (¬ vF v 0 p = -1)) p) (k := 1) (ls' := [(0, vr 5 k), (1, vi (nI (cnt (fun p => decide (¬ vF v 0 p = -1)) p + 1))), (2, vi (nI p))]) C (dx dX5_holderCount 14 rfl) rfl rfl (by decide) [1, 0, 2] rfl ?_
            refine rn_iinc (a := p) (k := 1) (ls' := [(0, vr 5 k), (1, vi (nI (cnt (fun p => decide (¬ vF v 0 p = -1)) p + 1))), (2, vi (nI (p + 1)))]) C (dx dX5_holderCount 15 rfl) rfl rfl (by decide) [1, 2, 0] rfl ?_
            refine r_goto (tgt := 4) C (dx dX5_holderCount 16 rfl) (by decide) ?_
            have e9 : nI (cnt (fun p => decide (¬ vF v 0 p = -1)) p + 1) = nI (cnt (fun p => decide (¬ vF v 0 p = -1)) (p + 1)) := by simp [cnt, c3, c4]
            rw [e9]
            exact ih)
set_option maxHeartbeats 4000000 in
theorem c_X5_secondCount {l : Launch} {h : Hp} {k : Nat} {v : Vg} (hv : VilAt h k v)  : Mp l yX5_secondCount cX5_secondCount 3 (some .int) 1 [vr 5 k] h (vi (nI (cnt (fun p => decide (¬ vF v 1 p = -1)) (vP v)))) := by
  refine Ms.of (by decide) (Nat.le_of_ble_eq_true rfl) (fun G C X F => ?_)
  have C : Cx G cX5_secondCount 3 RX5 := C
  show Rr G 0 [(0, vr 5 k)] [] h
  have bP := hv.bP
  have bM := hv.bM
  have bN := hv.bN
  refine r_iconst (v := nI 0) C (dx dX5_secondCount 0 rfl) rfl ?_
  refine r_istore_n (ls' := [(0, vr 5 k), (1, vi (nI 0))]) C (dx dX5_secondCount 1 rfl) (by decide) [1, 0] rfl ?_
  refine r_iconst (v := nI 0) C (dx dX5_secondCount 2 rfl) rfl ?_
  refine r_istore_n (ls' := [(0, vr 5 k), (1, vi (nI 0)), (2, vi (nI 0))]) C (dx dX5_secondCount 3 rfl) (by decide) [1, 2, 0] rfl ?_
  refine loopU (Φ := fun p => Rr G 4 [(0, vr 5 k), (1, vi (nI (cnt (fun p => decide (¬ vF v 1 p = -1)) p))), (2, vi (nI p))] [] h) (N := vP v) ?_ ?_ 0 (Nat.zero_le _)
  ·
    refine r_iload_n C (dx dX5_secondCount 4 rfl) rfl ?_
    refine r_aload_n C (dx dX5_secondCount 5 rfl) rfl ?_
    refine g_X5_9 (x := nI (vP v)) C (dx dX5_secondCount 6 rfl) hv.eP ?_
    refine rn_ge (a := vP v) (b := vP v) (tgt := 31) C (by omega) (by omega) (dx dX5_secondCount 7 rfl) (by decide) (fun c1 => ?_) (fun c1 => ?_)
    · first
      | (omega; done)
      | (
          have c1 : vP v ≤ vP v := c1
          refine r_iload_n C (dx dX5_secondCount 17 rfl) rfl ?_
          exact F.1 _ _ _ _ _ rfl rfl (dx dX5_secondCount 18 rfl) rfl ⟨congrArg (fun x => some (vi x)) rfl, rfl⟩)
    · first
      | (omega; done)
      | (
          have c1 : vP v < vP v := c1
          refine r_aload_n C (dx dX5_secondCount 8 rfl) rfl ?_
          refine g_X5_19 C (dx dX5_secondCount 9 rfl) ?_
          refine r_iload_n C (dx dX5_secondCount 10 rfl) rfl ?_
          refine r_iald (j := vP v) (x := vF v 1 (vP v)) C rfl rfl (by decide) rfl (by omega) (dx dX5_secondCount 11 rfl) (hv.e1 (by omega)) ?_
          refine r_iconst (v := -1) C (dx dX5_secondCount 12 rfl) rfl ?_
          refine r_icmp_eq (tgt := 25) C (dx dX5_secondCount 13 rfl) (by decide) (fun c2 => ?_) (fun c2 => ?_)
          ·
            have c2 : vF v 1 (vP v) = -1 := c2
            refine rn_iinc (a := vP v) (k := 1) (ls' := [(0, vr 5 k), (1, vi (nI (cnt (fun p => decide (¬ vF v 1 p = -1)) (vP v)))), (2, vi (nI (vP v + 1)))]) C (dx dX5_secondCount 15 rfl) rfl rfl (by decide) [1, 2, 0] rfl ?_
            refine r_goto (tgt := 4) C (dx dX5_secondCount 16 rfl) (by decide) ?_
            have e9 : nI (cnt (fun p => decide (¬ vF v 1 p = -1)) (vP v)) = nI (cnt (fun p => decide (¬ vF v 1 p = -1)) (vP v + 1)) := by simp [cnt, c1, c2]
            rw [e9]
            exact ih
          ·
            have c2 : ¬ vF v 1 (vP v) = -1 := c2
            refine rn_iinc (a := cnt (fun p => decide (¬ vF v 1 p = -1)) (vP v)) (k := 1) (ls' := [(0, vr 5 k), (1, vi (nI (cnt (fun p => decide (¬ vF v 1 p = -1)) (vP v) + 1))), (2, vi (nI (vP v)))]) C (dx dX5_secondCount 14 rfl) rfl rfl (by decide) [1, 0, 2] rfl ?_
            refine rn_iinc (a := vP v) (k := 1) (ls' := [(0, vr 5 k), (1, vi (nI (cnt (fun p => decide (¬ vF v 1 p = -1)) (vP v) + 1))), (2, vi (nI (vP v + 1)))]) C (dx dX5_secondCount 15 rfl) rfl rfl (by decide) [1, 2, 0] rfl ?_
            refine r_goto (tgt := 4) C (dx dX5_secondCount 16 rfl) (by decide) ?_
            have e9 : nI (cnt (fun p => decide (¬ vF v 1 p = -1)) (vP v) + 1) = nI (cnt (fun p => decide (¬ vF v 1 p = -1)) (vP v + 1)) := by simp [cnt, c1, c2]
            rw [e9]
            exact ih)
  ·
    intro p hp ih
    refine r_iload_n C (dx dX5_secondCount 4 rfl) rfl ?_
    refine r_aload_n C (dx dX5_secondCount 5 rfl) rfl ?_
    refine g_X5_9 (x := nI (vP v)) C (dx dX5_secondCount 6 rfl) hv.eP ?_
    refine rn_ge (a := p) (b := vP v) (tgt := 31) C (by omega) (by omega) (dx dX5_secondCount 7 rfl) (by decide) (fun c3 => ?_) (fun c3 => ?_)
    · first
      | (omega; done)
      | (
          have c3 : vP v ≤ p := c3
          refine r_iload_n C (dx dX5_secondCount 17 rfl) rfl ?_
          exact F.1 _ _ _ _ _ rfl rfl (dx dX5_secondCount 18 rfl) rfl ⟨congrArg (fun x => some (vi x)) (show nI (cnt (fun p => decide (¬ vF v 1 p = -1)) p) = nI (cnt (fun p => decide (¬ vF v 1 p = -1)) (vP v)) by rfl), rfl⟩)
    · first
      | (omega; done)
      | (
          have c3 : p < vP v := c3
          refine r_aload_n C (dx dX5_secondCount 8 rfl) rfl ?_
          refine g_X5_19 C (dx dX5_secondCount 9 rfl) ?_
          refine r_iload_n C (dx dX5_secondCount 10 rfl) rfl ?_
          refine r_iald (j := p) (x := vF v 1 p) C rfl rfl (by decide) rfl (by omega) (dx dX5_secondCount 11 rfl) (hv.e1 (by omega)) ?_
          refine r_iconst (v := -1) C (dx dX5_secondCount 12 rfl) rfl ?_
          refine r_icmp_eq (tgt := 25) C (dx dX5_secondCount 13 rfl) (by decide) (fun c4 => ?_) (fun c4 => ?_)
          ·
            have c4 : vF v 1 p = -1 := c4
            refine rn_iinc (a := p) (k := 1) (ls' := [(0, vr 5 k), (1, vi (nI (cnt (fun p => decide (¬ vF v 1 p = -1)) p))), (2, vi (nI (p + 1)))]) C (dx dX5_secondCount 15 rfl) rfl rfl (by decide) [1, 2, 0] rfl ?_
            refine r_goto (tgt := 4) C (dx dX5_secondCount 16 rfl) (by decide) ?_
            have e9 : nI (cnt (fun p => decide (¬ vF v 1 p = -1)) p) = nI (cnt (fun p => decide (¬ vF v 1 p = -1)) (p + 1)) := by simp [cnt, c3, c4]
            rw [e9]
            exact ih
          ·
            have c4 : ¬ vF v 1 p = -1 := c4
            refine rn_iinc (a := cnt (fun p => decide (¬ vF v 1 p = -1)) p) (k := 1) (ls' := [(0, vr 5 k), (1, vi (nI (cnt (fun p => decide (¬ vF v 1 p = -1)) p + 1))), (2, vi (nI p))]) C (dx dX5_secondCount 14 rfl) rfl rfl (by decide) [1, 0, 2] rfl ?_
            refine rn_iinc (a := p) (k := 1) (ls' := [(0, vr 5 k), (1, vi (nI (cnt (fun p => decide (¬ vF v 1 p = -1)) p + 1))), (2, vi (nI (p + 1)))]) C (dx dX5_secondCount 15 rfl) rfl rfl (by decide) [1, 2, 0] rfl ?_
            refine r_goto (tgt := 4) C (dx dX5_secondCount 16 rfl) (by decide) ?_
            have e9 : nI (cnt (fun p => decide (¬ vF v 1 p = -1)) p + 1) = nI (cnt (fun p => decide (¬ vF v 1 p = -1)) (p + 1)) := by simp [cnt, c3, c4]
            rw [e9]
            exact ih)
set_option maxHeartbeats 4000000 in
theorem c_X5_partsOfOne {l : Launch} {h : Hp} {k : Nat} {v : Vg} (hv : VilAt h k v) (o : Int32) : Mp l yX5_partsOfOne cX5_partsOfOne 4 (some .int) 1 [vr 5 k, vi o] h (vi (ownP v o)) := by
  refine Ms.of (by decide) (Nat.le_of_ble_eq_true rfl) (fun G C X F => ?_)
  have C : Cx G cX5_partsOfOne 4 RX5 := C
  show Rr G 0 [(0, vr 5 k), (1, vi o)] [] h
  have bP := hv.bP
  have bM := hv.bM
  have bN := hv.bN
  refine r_iconst (v := nI 0) C (dx dX5_partsOfOne 0 rfl) rfl ?_
  refine r_istore_n (ls' := [(0, vr 5 k), (1, vi o), (2, vi (nI 0))]) C (dx dX5_partsOfOne 1 rfl) (by decide) [1, 2, 0] rfl ?_
  refine r_iconst (v := nI 0) C (dx dX5_partsOfOne 2 rfl) rfl ?_
  refine r_istore_n (ls' := [(0, vr 5 k), (1, vi o), (2, vi (nI 0)), (3, vi (nI 0))]) C (dx dX5_partsOfOne 3 rfl) (by decide) [1, 2, 3, 0] rfl ?_
  refine loopU (Φ := fun p => Rr G 4 [(0, vr 5 k), (1, vi o), (2, vi (bset (fun p => decide (vF v 0 p = o) || decide (vF v 1 p = o)) p)), (3, vi (nI p))] [] h) (N := vP v) ?_ ?_ 0 (Nat.zero_le _)
  ·
    refine r_iload_n C (dx dX5_partsOfOne 4 rfl) rfl ?_
    refine r_aload_n C (dx dX5_partsOfOne 5 rfl) rfl ?_
    refine g_X5_9 (x := nI (vP v)) C (dx dX5_partsOfOne 6 rfl) hv.eP ?_
    refine rn_ge (a := vP v) (b := vP v) (tgt := 44) C (by omega) (by omega) (dx dX5_partsOfOne 7 rfl) (by decide) (fun c1 => ?_) (fun c1 => ?_)
    · first
      | (omega; done)
      | (
          have c1 : vP v ≤ vP v := c1
          refine r_iload_n C (dx dX5_partsOfOne 28 rfl) rfl ?_
          exact F.1 _ _ _ _ _ rfl rfl (dx dX5_partsOfOne 29 rfl) rfl ⟨congrArg (fun x => some (vi x)) (show bset (fun p => decide (vF v 0 p = o) || decide (vF v 1 p = o)) (vP v) = ownP v o by rfl), rfl⟩)
    · first
      | (omega; done)
      | (
          have c1 : vP v < vP v := c1
          refine r_aload_n C (dx dX5_partsOfOne 8 rfl) rfl ?_
          refine g_X5_15 C (dx dX5_partsOfOne 9 rfl) ?_
          refine r_iload_n C (dx dX5_partsOfOne 10 rfl) rfl ?_
          refine r_iald (j := vP v) (x := vF v 0 (vP v)) C rfl rfl (by decide) rfl (by omega) (dx dX5_partsOfOne 11 rfl) (hv.e0 (by omega)) ?_
          refine r_iload_n C (dx dX5_partsOfOne 12 rfl) rfl ?_
          refine r_icmp_eq (tgt := 32) C (dx dX5_partsOfOne 13 rfl) (by decide) (fun c2 => ?_) (fun c2 => ?_)
          ·
            have c2 : vF v 0 (vP v) = o := c2
            refine r_iload_n C (dx dX5_partsOfOne 20 rfl) rfl ?_
            refine r_iconst (v := nI 1) C (dx dX5_partsOfOne 21 rfl) rfl ?_
            refine r_iload_n C (dx dX5_partsOfOne 22 rfl) rfl ?_
            refine r_ishl C (dx dX5_partsOfOne 23 rfl) ?_
            refine r_ior C (dx dX5_partsOfOne 24 rfl) ?_
            refine r_istore_n (ls' := [(0, vr 5 k), (1, vi o), (2, vi ((bset (fun p => decide (vF v 0 p = o) || decide (vF v 1 p = o)) (vP v)) ||| ((nI 1) <<< ((nI (vP v)) &&& 31)))), (3, vi (nI (vP v)))]) C (dx dX5_partsOfOne 25 rfl) (by decide) [1, 2, 0, 3] rfl ?_
            refine rn_iinc (a := vP v) (k := 1) (ls' := [(0, vr 5 k), (1, vi o), (2, vi ((bset (fun p => decide (vF v 0 p = o) || decide (vF v 1 p = o)) (vP v)) ||| ((nI 1) <<< ((nI (vP v)) &&& 31)))), (3, vi (nI (vP v + 1)))]) C (dx dX5_partsOfOne 26 rfl) rfl rfl (by decide) [1, 2, 3, 0] rfl ?_
            refine r_goto (tgt := 4) C (dx dX5_partsOfOne 27 rfl) (by decide) ?_
            have e9 : (bset (fun p => decide (vF v 0 p = o) || decide (vF v 1 p = o)) (vP v)) ||| ((nI 1) <<< ((nI (vP v)) &&& 31)) = bset (fun p => decide (vF v 0 p = o) || decide (vF v 1 p = o)) (vP v + 1) := by simp [bset, c1, c2]
            rw [e9]
            exact ih
          ·
            have c2 : ¬ vF v 0 (vP v) = o := c2
            refine r_aload_n C (dx dX5_partsOfOne 14 rfl) rfl ?_
            refine g_X5_19 C (dx dX5_partsOfOne 15 rfl) ?_
            refine r_iload_n C (dx dX5_partsOfOne 16 rfl) rfl ?_
            refine r_iald (j := vP v) (x := vF v 1 (vP v)) C rfl rfl (by decide) rfl (by omega) (dx dX5_partsOfOne 17 rfl) (hv.e1 (by omega)) ?_
            refine r_iload_n C (dx dX5_partsOfOne 18 rfl) rfl ?_
            refine r_icmp_ne (tgt := 38) C (dx dX5_partsOfOne 19 rfl) (by decide) (fun c3 => ?_) (fun c3 => ?_)
            ·
              have c3 : ¬ vF v 1 (vP v) = o := c3
              refine rn_iinc (a := vP v) (k := 1) (ls' := [(0, vr 5 k), (1, vi o), (2, vi (bset (fun p => decide (vF v 0 p = o) || decide (vF v 1 p = o)) (vP v))), (3, vi (nI (vP v + 1)))]) C (dx dX5_partsOfOne 26 rfl) rfl rfl (by decide) [1, 2, 3, 0] rfl ?_
              refine r_goto (tgt := 4) C (dx dX5_partsOfOne 27 rfl) (by decide) ?_
              have e9 : bset (fun p => decide (vF v 0 p = o) || decide (vF v 1 p = o)) (vP v) = bset (fun p => decide (vF v 0 p = o) || decide (vF v 1 p = o)) (vP v + 1) := by simp [bset, c1, c2, c3]
              rw [e9]
              exact ih
            ·
              have c3 : vF v 1 (vP v) = o := c3
              refine r_iload_n C (dx dX5_partsOfOne 20 rfl) rfl ?_
              refine r_iconst (v := nI 1) C (dx dX5_partsOfOne 21 rfl) rfl ?_
              refine r_iload_n C (dx dX5_partsOfOne 22 rfl) rfl ?_
              refine r_ishl C (dx dX5_partsOfOne 23 rfl) ?_
              refine r_ior C (dx dX5_partsOfOne 24 rfl) ?_
              refine r_istore_n (ls' := [(0, vr 5 k), (1, vi o), (2, vi ((bset (fun p => decide (vF v 0 p = o) || decide (vF v 1 p = o)) (vP v)) ||| ((nI 1) <<< ((nI (vP v)) &&& 31)))), (3, vi (nI (vP v)))]) C (dx dX5_partsOfOne 25 rfl) (by decide) [1, 2, 0, 3] rfl ?_
              refine rn_iinc (a := vP v) (k := 1) (ls' := [(0, vr 5 k), (1, vi o), (2, vi ((bset (fun p => decide (vF v 0 p = o) || decide (vF v 1 p = o)) (vP v)) ||| ((nI 1) <<< ((nI (vP v)) &&& 31)))), (3, vi (nI (vP v + 1)))]) C (dx dX5_partsOfOne 26 rfl) rfl rfl (by decide) [1, 2, 3, 0] rfl ?_
              refine r_goto (tgt := 4) C (dx dX5_partsOfOne 27 rfl) (by decide) ?_
              have e9 : (bset (fun p => decide (vF v 0 p = o) || decide (vF v 1 p = o)) (vP v)) ||| ((nI 1) <<< ((nI (vP v)) &&& 31)) = bset (fun p => decide (vF v 0 p = o) || decide (vF v 1 p = o)) (vP v + 1) := by simp [bset, c1, c2, c3]
              rw [e9]
              exact ih)
  ·
    intro p hp ih
    refine r_iload_n C (dx dX5_partsOfOne 4 rfl) rfl ?_
    refine r_aload_n C (dx dX5_partsOfOne 5 rfl) rfl ?_
    refine g_X5_9 (x := nI (vP v)) C (dx dX5_partsOfOne 6 rfl) hv.eP ?_
    refine rn_ge (a := p) (b := vP v) (tgt := 44) C (by omega) (by omega) (dx dX5_partsOfOne 7 rfl) (by decide) (fun c4 => ?_) (fun c4 => ?_)
    · first
      | (omega; done)
      | (
          have c4 : vP v ≤ p := c4
          refine r_iload_n C (dx dX5_partsOfOne 28 rfl) rfl ?_
          exact F.1 _ _ _ _ _ rfl rfl (dx dX5_partsOfOne 29 rfl) rfl ⟨congrArg (fun x => some (vi x)) (show bset (fun p => decide (vF v 0 p = o) || decide (vF v 1 p = o)) p = ownP v o by rfl), rfl⟩)
    · first
      | (omega; done)
      | (
          have c4 : p < vP v := c4
          refine r_aload_n C (dx dX5_partsOfOne 8 rfl) rfl ?_
          refine g_X5_15 C (dx dX5_partsOfOne 9 rfl) ?_
          refine r_iload_n C (dx dX5_partsOfOne 10 rfl) rfl ?_
          refine r_iald (j := p) (x := vF v 0 p) C rfl rfl (by decide) rfl (by omega) (dx dX5_partsOfOne 11 rfl) (hv.e0 (by omega)) ?_
          refine r_iload_n C (dx dX5_partsOfOne 12 rfl) rfl ?_
          refine r_icmp_eq (tgt := 32) C (dx dX5_partsOfOne 13 rfl) (by decide) (fun c5 => ?_) (fun c5 => ?_)
          ·
            have c5 : vF v 0 p = o := c5
            refine r_iload_n C (dx dX5_partsOfOne 20 rfl) rfl ?_
            refine r_iconst (v := nI 1) C (dx dX5_partsOfOne 21 rfl) rfl ?_
            refine r_iload_n C (dx dX5_partsOfOne 22 rfl) rfl ?_
            refine r_ishl C (dx dX5_partsOfOne 23 rfl) ?_
            refine r_ior C (dx dX5_partsOfOne 24 rfl) ?_
            refine r_istore_n (ls' := [(0, vr 5 k), (1, vi o), (2, vi ((bset (fun p => decide (vF v 0 p = o) || decide (vF v 1 p = o)) p) ||| ((nI 1) <<< ((nI p) &&& 31)))), (3, vi (nI p))]) C (dx dX5_partsOfOne 25 rfl) (by decide) [1, 2, 0, 3] rfl ?_
            refine rn_iinc (a := p) (k := 1) (ls' := [(0, vr 5 k), (1, vi o), (2, vi ((bset (fun p => decide (vF v 0 p = o) || decide (vF v 1 p = o)) p) ||| ((nI 1) <<< ((nI p) &&& 31)))), (3, vi (nI (p + 1)))]) C (dx dX5_partsOfOne 26 rfl) rfl rfl (by decide) [1, 2, 3, 0] rfl ?_
            refine r_goto (tgt := 4) C (dx dX5_partsOfOne 27 rfl) (by decide) ?_
            have e9 : (bset (fun p => decide (vF v 0 p = o) || decide (vF v 1 p = o)) p) ||| ((nI 1) <<< ((nI p) &&& 31)) = bset (fun p => decide (vF v 0 p = o) || decide (vF v 1 p = o)) (p + 1) := by simp [bset, c4, c5]
            rw [e9]
            exact ih
          ·
            have c5 : ¬ vF v 0 p = o := c5
            refine r_aload_n C (dx dX5_partsOfOne 14 rfl) rfl ?_
            refine g_X5_19 C (dx dX5_partsOfOne 15 rfl) ?_
            refine r_iload_n C (dx dX5_partsOfOne 16 rfl) rfl ?_
            refine r_iald (j := p) (x := vF v 1 p) C rfl rfl (by decide) rfl (by omega) (dx dX5_partsOfOne 17 rfl) (hv.e1 (by omega)) ?_
            refine r_iload_n C (dx dX5_partsOfOne 18 rfl) rfl ?_
            refine r_icmp_ne (tgt := 38) C (dx dX5_partsOfOne 19 rfl) (by decide) (fun c6 => ?_) (fun c6 => ?_)
            ·
              have c6 : ¬ vF v 1 p = o := c6
              refine rn_iinc (a := p) (k := 1) (ls' := [(0, vr 5 k), (1, vi o), (2, vi (bset (fun p => decide (vF v 0 p = o) || decide (vF v 1 p = o)) p)), (3, vi (nI (p + 1)))]) C (dx dX5_partsOfOne 26 rfl) rfl rfl (by decide) [1, 2, 3, 0] rfl ?_
              refine r_goto (tgt := 4) C (dx dX5_partsOfOne 27 rfl) (by decide) ?_
              have e9 : bset (fun p => decide (vF v 0 p = o) || decide (vF v 1 p = o)) p = bset (fun p => decide (vF v 0 p = o) || decide (vF v 1 p = o)) (p + 1) := by simp [bset, c4, c5, c6]
              rw [e9]
              exact ih
            ·
              have c6 : vF v 1 p = o := c6
              refine r_iload_n C (dx dX5_partsOfOne 20 rfl) rfl ?_
              refine r_iconst (v := nI 1) C (dx dX5_partsOfOne 21 rfl) rfl ?_
              refine r_iload_n C (dx dX5_partsOfOne 22 rfl) rfl ?_
              refine r_ishl C (dx dX5_partsOfOne 23 rfl) ?_
              refine r_ior C (dx dX5_partsOfOne 24 rfl) ?_
              refine r_istore_n (ls' := [(0, vr 5 k), (1, vi o), (2, vi ((bset (fun p => decide (vF v 0 p = o) || decide (vF v 1 p = o)) p) ||| ((nI 1) <<< ((nI p) &&& 31)))), (3, vi (nI p))]) C (dx dX5_partsOfOne 25 rfl) (by decide) [1, 2, 0, 3] rfl ?_
              refine rn_iinc (a := p) (k := 1) (ls' := [(0, vr 5 k), (1, vi o), (2, vi ((bset (fun p => decide (vF v 0 p = o) || decide (vF v 1 p = o)) p) ||| ((nI 1) <<< ((nI p) &&& 31)))), (3, vi (nI (p + 1)))]) C (dx dX5_partsOfOne 26 rfl) rfl rfl (by decide) [1, 2, 3, 0] rfl ?_
              refine r_goto (tgt := 4) C (dx dX5_partsOfOne 27 rfl) (by decide) ?_
              have e9 : (bset (fun p => decide (vF v 0 p = o) || decide (vF v 1 p = o)) p) ||| ((nI 1) <<< ((nI p) &&& 31)) = bset (fun p => decide (vF v 0 p = o) || decide (vF v 1 p = o)) (p + 1) := by simp [bset, c4, c5, c6]
              rw [e9]
              exact ih)
set_option maxHeartbeats 4000000 in
theorem c_X5_partsWith {l : Launch} {h : Hp} {k : Nat} {v : Vg} (hv : VilAt h k v) (s : Int32) : Mp l yX5_partsWith cX5_partsWith 4 (some .int) 2 [vr 5 k, vi s] h (vi (hasP v s)) := by
  refine Ms.of (by decide) (Nat.le_of_ble_eq_true rfl) (fun G C X F => ?_)
  have C : Cx G cX5_partsWith 4 RX5 := C
  show Rr G 0 [(0, vr 5 k), (1, vi s)] [] h
  have bP := hv.bP
  have bM := hv.bM
  have bN := hv.bN
  refine r_iconst (v := nI 0) C (dx dX5_partsWith 0 rfl) rfl ?_
  refine r_istore_n (ls' := [(0, vr 5 k), (1, vi s), (2, vi (nI 0))]) C (dx dX5_partsWith 1 rfl) (by decide) [1, 2, 0] rfl ?_
  refine r_iconst (v := nI 0) C (dx dX5_partsWith 2 rfl) rfl ?_
  refine r_istore_n (ls' := [(0, vr 5 k), (1, vi s), (2, vi (nI 0)), (3, vi (nI 0))]) C (dx dX5_partsWith 3 rfl) (by decide) [1, 2, 3, 0] rfl ?_
  refine loopU (Φ := fun p => Rr G 4 [(0, vr 5 k), (1, vi s), (2, vi (bset (fun p => inB s (vF v 0 p) || inB s (vF v 1 p)) p)), (3, vi (nI p))] [] h) (N := vP v) ?_ ?_ 0 (Nat.zero_le _)
  ·
    refine r_iload_n C (dx dX5_partsWith 4 rfl) rfl ?_
    refine r_aload_n C (dx dX5_partsWith 5 rfl) rfl ?_
    refine g_X5_9 (x := nI (vP v)) C (dx dX5_partsWith 6 rfl) hv.eP ?_
    refine rn_ge (a := vP v) (b := vP v) (tgt := 50) C (by omega) (by omega) (dx dX5_partsWith 7 rfl) (by decide) (fun c1 => ?_) (fun c1 => ?_)
    · first
      | (omega; done)
      | (
          have c1 : vP v ≤ vP v := c1
          refine r_iload_n C (dx dX5_partsWith 30 rfl) rfl ?_
          exact F.1 _ _ _ _ _ rfl rfl (dx dX5_partsWith 31 rfl) rfl ⟨congrArg (fun x => some (vi x)) (show bset (fun p => inB s (vF v 0 p) || inB s (vF v 1 p)) (vP v) = hasP v s by rfl), rfl⟩)
    · first
      | (omega; done)
      | (
          have c1 : vP v < vP v := c1
          refine r_iload_n C (dx dX5_partsWith 8 rfl) rfl ?_
          refine r_aload_n C (dx dX5_partsWith 9 rfl) rfl ?_
          refine g_X5_15 C (dx dX5_partsWith 10 rfl) ?_
          refine r_iload_n C (dx dX5_partsWith 11 rfl) rfl ?_
          refine r_iald (j := vP v) (x := vF v 0 (vP v)) C rfl rfl (by decide) rfl (by omega) (dx dX5_partsWith 12 rfl) (hv.e0 (by omega)) ?_
          refine r_csP (as := [vi s, vi (vF v 0 (vP v))]) (st := []) (v := vi (b2i (inB s (vF v 0 (vP v))))) C X I_X5_isIn l_X5_74 (c_X5_isIn _ _) (by decide) (Nat.le_of_ble_eq_true rfl) List.prefix_rfl (Nat.le_of_ble_eq_true rfl) rfl (dx dX5_partsWith 13 rfl) ?_
          refine rb_ne (b := inB s (vF v 0 (vP v))) (tgt := 38) C (dx dX5_partsWith 14 rfl) (by decide) (fun c2 => ?_) (fun c2 => ?_)
          ·
            have c2 : (inB s (vF v 0 (vP v))) = true := c2
            refine r_iload_n C (dx dX5_partsWith 22 rfl) rfl ?_
            refine r_iconst (v := nI 1) C (dx dX5_partsWith 23 rfl) rfl ?_
            refine r_iload_n C (dx dX5_partsWith 24 rfl) rfl ?_
            refine r_ishl C (dx dX5_partsWith 25 rfl) ?_
            refine r_ior C (dx dX5_partsWith 26 rfl) ?_
            refine r_istore_n (ls' := [(0, vr 5 k), (1, vi s), (2, vi ((bset (fun p => inB s (vF v 0 p) || inB s (vF v 1 p)) (vP v)) ||| ((nI 1) <<< ((nI (vP v)) &&& 31)))), (3, vi (nI (vP v)))]) C (dx dX5_partsWith 27 rfl) (by decide) [1, 2, 0, 3] rfl ?_
            refine rn_iinc (a := vP v) (k := 1) (ls' := [(0, vr 5 k), (1, vi s), (2, vi ((bset (fun p => inB s (vF v 0 p) || inB s (vF v 1 p)) (vP v)) ||| ((nI 1) <<< ((nI (vP v)) &&& 31)))), (3, vi (nI (vP v + 1)))]) C (dx dX5_partsWith 28 rfl) rfl rfl (by decide) [1, 2, 3, 0] rfl ?_
            refine r_goto (tgt := 4) C (dx dX5_partsWith 29 rfl) (by decide) ?_
            have e9 : (bset (fun p => inB s (vF v 0 p) || inB s (vF v 1 p)) (vP v)) ||| ((nI 1) <<< ((nI (vP v)) &&& 31)) = bset (fun p => inB s (vF v 0 p) || inB s (vF v 1 p)) (vP v + 1) := by simp [bset, c1, c2]
            rw [e9]
            exact ih
          ·
            have c2 : (inB s (vF v 0 (vP v))) = false := c2
            refine r_iload_n C (dx dX5_partsWith 15 rfl) rfl ?_
            refine r_aload_n C (dx dX5_partsWith 16 rfl) rfl ?_
            refine g_X5_19 C (dx dX5_partsWith 17 rfl) ?_
            refine r_iload_n C (dx dX5_partsWith 18 rfl) rfl ?_
            refine r_iald (j := vP v) (x := vF v 1 (vP v)) C rfl rfl (by decide) rfl (by omega) (dx dX5_partsWith 19 rfl) (hv.e1 (by omega)) ?_
            refine r_csP (as := [vi s, vi (vF v 1 (vP v))]) (st := []) (v := vi (b2i (inB s (vF v 1 (vP v))))) C X I_X5_isIn l_X5_74 (c_X5_isIn _ _) (by decide) (Nat.le_of_ble_eq_true rfl) List.prefix_rfl (Nat.le_of_ble_eq_true rfl) rfl (dx dX5_partsWith 20 rfl) ?_
            refine rb_eq (b := inB s (vF v 1 (vP v))) (tgt := 44) C (dx dX5_partsWith 21 rfl) (by decide) (fun c3 => ?_) (fun c3 => ?_)
            ·
              have c3 : (inB s (vF v 1 (vP v))) = false := c3
              refine rn_iinc (a := vP v) (k := 1) (ls' := [(0, vr 5 k), (1, vi s), (2, vi (bset (fun p => inB s (vF v 0 p) || inB s (vF v 1 p)) (vP v))), (3, vi (nI (vP v + 1)))]) C (dx dX5_partsWith 28 rfl) rfl rfl (by decide) [1, 2, 3, 0] rfl ?_
              refine r_goto (tgt := 4) C (dx dX5_partsWith 29 rfl) (by decide) ?_
              have e9 : bset (fun p => inB s (vF v 0 p) || inB s (vF v 1 p)) (vP v) = bset (fun p => inB s (vF v 0 p) || inB s (vF v 1 p)) (vP v + 1) := by simp [bset, c1, c2, c3]
              rw [e9]
              exact ih
            ·
              have c3 : (inB s (vF v 1 (vP v))) = true := c3
              refine r_iload_n C (dx dX5_partsWith 22 rfl) rfl ?_
              refine r_iconst (v := nI 1) C (dx dX5_partsWith 23 rfl) rfl ?_
              refine r_iload_n C (dx dX5_partsWith 24 rfl) rfl ?_
              refine r_ishl C (dx dX5_partsWith 25 rfl) ?_
              refine r_ior C (dx dX5_partsWith 26 rfl) ?_
              refine r_istore_n (ls' := [(0, vr 5 k), (1, vi s), (2, vi ((bset (fun p => inB s (vF v 0 p) || inB s (vF v 1 p)) (vP v)) ||| ((nI 1) <<< ((nI (vP v)) &&& 31)))), (3, vi (nI (vP v)))]) C (dx dX5_partsWith 27 rfl) (by decide) [1, 2, 0, 3] rfl ?_
              refine rn_iinc (a := vP v) (k := 1) (ls' := [(0, vr 5 k), (1, vi s), (2, vi ((bset (fun p => inB s (vF v 0 p) || inB s (vF v 1 p)) (vP v)) ||| ((nI 1) <<< ((nI (vP v)) &&& 31)))), (3, vi (nI (vP v + 1)))]) C (dx dX5_partsWith 28 rfl) rfl rfl (by decide) [1, 2, 3, 0] rfl ?_
              refine r_goto (tgt := 4) C (dx dX5_partsWith 29 rfl) (by decide) ?_
              have e9 : (bset (fun p => inB s (vF v 0 p) || inB s (vF v 1 p)) (vP v)) ||| ((nI 1) <<< ((nI (vP v)) &&& 31)) = bset (fun p => inB s (vF v 0 p) || inB s (vF v 1 p)) (vP v + 1) := by simp [bset, c1, c2, c3]
              rw [e9]
              exact ih)
  ·
    intro p hp ih
    refine r_iload_n C (dx dX5_partsWith 4 rfl) rfl ?_
    refine r_aload_n C (dx dX5_partsWith 5 rfl) rfl ?_
    refine g_X5_9 (x := nI (vP v)) C (dx dX5_partsWith 6 rfl) hv.eP ?_
    refine rn_ge (a := p) (b := vP v) (tgt := 50) C (by omega) (by omega) (dx dX5_partsWith 7 rfl) (by decide) (fun c4 => ?_) (fun c4 => ?_)
    · first
      | (omega; done)
      | (
          have c4 : vP v ≤ p := c4
          refine r_iload_n C (dx dX5_partsWith 30 rfl) rfl ?_
          exact F.1 _ _ _ _ _ rfl rfl (dx dX5_partsWith 31 rfl) rfl ⟨congrArg (fun x => some (vi x)) (show bset (fun p => inB s (vF v 0 p) || inB s (vF v 1 p)) p = hasP v s by rfl), rfl⟩)
    · first
      | (omega; done)
      | (
          have c4 : p < vP v := c4
          refine r_iload_n C (dx dX5_partsWith 8 rfl) rfl ?_
          refine r_aload_n C (dx dX5_partsWith 9 rfl) rfl ?_
          refine g_X5_15 C (dx dX5_partsWith 10 rfl) ?_
          refine r_iload_n C (dx dX5_partsWith 11 rfl) rfl ?_
          refine r_iald (j := p) (x := vF v 0 p) C rfl rfl (by decide) rfl (by omega) (dx dX5_partsWith 12 rfl) (hv.e0 (by omega)) ?_
          refine r_csP (as := [vi s, vi (vF v 0 p)]) (st := []) (v := vi (b2i (inB s (vF v 0 p)))) C X I_X5_isIn l_X5_74 (c_X5_isIn _ _) (by decide) (Nat.le_of_ble_eq_true rfl) List.prefix_rfl (Nat.le_of_ble_eq_true rfl) rfl (dx dX5_partsWith 13 rfl) ?_
          refine rb_ne (b := inB s (vF v 0 p)) (tgt := 38) C (dx dX5_partsWith 14 rfl) (by decide) (fun c5 => ?_) (fun c5 => ?_)
          ·
            have c5 : (inB s (vF v 0 p)) = true := c5
            refine r_iload_n C (dx dX5_partsWith 22 rfl) rfl ?_
            refine r_iconst (v := nI 1) C (dx dX5_partsWith 23 rfl) rfl ?_
            refine r_iload_n C (dx dX5_partsWith 24 rfl) rfl ?_
            refine r_ishl C (dx dX5_partsWith 25 rfl) ?_
            refine r_ior C (dx dX5_partsWith 26 rfl) ?_
            refine r_istore_n (ls' := [(0, vr 5 k), (1, vi s), (2, vi ((bset (fun p => inB s (vF v 0 p) || inB s (vF v 1 p)) p) ||| ((nI 1) <<< ((nI p) &&& 31)))), (3, vi (nI p))]) C (dx dX5_partsWith 27 rfl) (by decide) [1, 2, 0, 3] rfl ?_
            refine rn_iinc (a := p) (k := 1) (ls' := [(0, vr 5 k), (1, vi s), (2, vi ((bset (fun p => inB s (vF v 0 p) || inB s (vF v 1 p)) p) ||| ((nI 1) <<< ((nI p) &&& 31)))), (3, vi (nI (p + 1)))]) C (dx dX5_partsWith 28 rfl) rfl rfl (by decide) [1, 2, 3, 0] rfl ?_
            refine r_goto (tgt := 4) C (dx dX5_partsWith 29 rfl) (by decide) ?_
            have e9 : (bset (fun p => inB s (vF v 0 p) || inB s (vF v 1 p)) p) ||| ((nI 1) <<< ((nI p) &&& 31)) = bset (fun p => inB s (vF v 0 p) || inB s (vF v 1 p)) (p + 1) := by simp [bset, c4, c5]
            rw [e9]
            exact ih
          ·
            have c5 : (inB s (vF v 0 p)) = false := c5
            refine r_iload_n C (dx dX5_partsWith 15 rfl) rfl ?_
            refine r_aload_n C (dx dX5_partsWith 16 rfl) rfl ?_
            refine g_X5_19 C (dx dX5_partsWith 17 rfl) ?_
            refine r_iload_n C (dx dX5_partsWith 18 rfl) rfl ?_
            refine r_iald (j := p) (x := vF v 1 p) C rfl rfl (by decide) rfl (by omega) (dx dX5_partsWith 19 rfl) (hv.e1 (by omega)) ?_
            refine r_csP (as := [vi s, vi (vF v 1 p)]) (st := []) (v := vi (b2i (inB s (vF v 1 p)))) C X I_X5_isIn l_X5_74 (c_X5_isIn _ _) (by decide) (Nat.le_of_ble_eq_true rfl) List.prefix_rfl (Nat.le_of_ble_eq_true rfl) rfl (dx dX5_partsWith 20 rfl) ?_
            refine rb_eq (b := inB s (vF v 1 p)) (tgt := 44) C (dx dX5_partsWith 21 rfl) (by decide) (fun c6 => ?_) (fun c6 => ?_)
            ·
              have c6 : (inB s (vF v 1 p)) = false := c6
              refine rn_iinc (a := p) (k := 1) (ls' := [(0, vr 5 k), (1, vi s), (2, vi (bset (fun p => inB s (vF v 0 p) || inB s (vF v 1 p)) p)), (3, vi (nI (p + 1)))]) C (dx dX5_partsWith 28 rfl) rfl rfl (by decide) [1, 2, 3, 0] rfl ?_
              refine r_goto (tgt := 4) C (dx dX5_partsWith 29 rfl) (by decide) ?_
              have e9 : bset (fun p => inB s (vF v 0 p) || inB s (vF v 1 p)) p = bset (fun p => inB s (vF v 0 p) || inB s (vF v 1 p)) (p + 1) := by simp [bset, c4, c5, c6]
              rw [e9]
              exact ih
            ·
              have c6 : (inB s (vF v 1 p)) = true := c6
              refine r_iload_n C (dx dX5_partsWith 22 rfl) rfl ?_
              refine r_iconst (v := nI 1) C (dx dX5_partsWith 23 rfl) rfl ?_
              refine r_iload_n C (dx dX5_partsWith 24 rfl) rfl ?_
              refine r_ishl C (dx dX5_partsWith 25 rfl) ?_
              refine r_ior C (dx dX5_partsWith 26 rfl) ?_
              refine r_istore_n (ls' := [(0, vr 5 k), (1, vi s), (2, vi ((bset (fun p => inB s (vF v 0 p) || inB s (vF v 1 p)) p) ||| ((nI 1) <<< ((nI p) &&& 31)))), (3, vi (nI p))]) C (dx dX5_partsWith 27 rfl) (by decide) [1, 2, 0, 3] rfl ?_
              refine rn_iinc (a := p) (k := 1) (ls' := [(0, vr 5 k), (1, vi s), (2, vi ((bset (fun p => inB s (vF v 0 p) || inB s (vF v 1 p)) p) ||| ((nI 1) <<< ((nI p) &&& 31)))), (3, vi (nI (p + 1)))]) C (dx dX5_partsWith 28 rfl) rfl rfl (by decide) [1, 2, 3, 0] rfl ?_
              refine r_goto (tgt := 4) C (dx dX5_partsWith 29 rfl) (by decide) ?_
              have e9 : (bset (fun p => inB s (vF v 0 p) || inB s (vF v 1 p)) p) ||| ((nI 1) <<< ((nI p) &&& 31)) = bset (fun p => inB s (vF v 0 p) || inB s (vF v 1 p)) (p + 1) := by simp [bset, c4, c5, c6]
              rw [e9]
              exact ih)
set_option maxHeartbeats 4000000 in
theorem c_X5_doublesWith {l : Launch} {h : Hp} {k : Nat} {v : Vg} (hv : VilAt h k v) (s : Int32) : Mp l yX5_doublesWith cX5_doublesWith 4 (some .int) 2 [vr 5 k, vi s] h (vi (dblP v s)) := by
  refine Ms.of (by decide) (Nat.le_of_ble_eq_true rfl) (fun G C X F => ?_)
  have C : Cx G cX5_doublesWith 4 RX5 := C
  show Rr G 0 [(0, vr 5 k), (1, vi s)] [] h
  have bP := hv.bP
  have bM := hv.bM
  have bN := hv.bN
  refine r_iconst (v := nI 0) C (dx dX5_doublesWith 0 rfl) rfl ?_
  refine r_istore_n (ls' := [(0, vr 5 k), (1, vi s), (2, vi (nI 0))]) C (dx dX5_doublesWith 1 rfl) (by decide) [1, 2, 0] rfl ?_
  refine r_iconst (v := nI 0) C (dx dX5_doublesWith 2 rfl) rfl ?_
  refine r_istore_n (ls' := [(0, vr 5 k), (1, vi s), (2, vi (nI 0)), (3, vi (nI 0))]) C (dx dX5_doublesWith 3 rfl) (by decide) [1, 2, 3, 0] rfl ?_
  refine loopU (Φ := fun p => Rr G 4 [(0, vr 5 k), (1, vi s), (2, vi (bset (fun p => inB s (vF v 0 p) && inB s (vF v 1 p)) p)), (3, vi (nI p))] [] h) (N := vP v) ?_ ?_ 0 (Nat.zero_le _)
  ·
    refine r_iload_n C (dx dX5_doublesWith 4 rfl) rfl ?_
    refine r_aload_n C (dx dX5_doublesWith 5 rfl) rfl ?_
    refine g_X5_9 (x := nI (vP v)) C (dx dX5_doublesWith 6 rfl) hv.eP ?_
    refine rn_ge (a := vP v) (b := vP v) (tgt := 50) C (by omega) (by omega) (dx dX5_doublesWith 7 rfl) (by decide) (fun c1 => ?_) (fun c1 => ?_)
    · first
      | (omega; done)
      | (
          have c1 : vP v ≤ vP v := c1
          refine r_iload_n C (dx dX5_doublesWith 30 rfl) rfl ?_
          exact F.1 _ _ _ _ _ rfl rfl (dx dX5_doublesWith 31 rfl) rfl ⟨congrArg (fun x => some (vi x)) (show bset (fun p => inB s (vF v 0 p) && inB s (vF v 1 p)) (vP v) = dblP v s by rfl), rfl⟩)
    · first
      | (omega; done)
      | (
          have c1 : vP v < vP v := c1
          refine r_iload_n C (dx dX5_doublesWith 8 rfl) rfl ?_
          refine r_aload_n C (dx dX5_doublesWith 9 rfl) rfl ?_
          refine g_X5_15 C (dx dX5_doublesWith 10 rfl) ?_
          refine r_iload_n C (dx dX5_doublesWith 11 rfl) rfl ?_
          refine r_iald (j := vP v) (x := vF v 0 (vP v)) C rfl rfl (by decide) rfl (by omega) (dx dX5_doublesWith 12 rfl) (hv.e0 (by omega)) ?_
          refine r_csP (as := [vi s, vi (vF v 0 (vP v))]) (st := []) (v := vi (b2i (inB s (vF v 0 (vP v))))) C X I_X5_isIn l_X5_74 (c_X5_isIn _ _) (by decide) (Nat.le_of_ble_eq_true rfl) List.prefix_rfl (Nat.le_of_ble_eq_true rfl) rfl (dx dX5_doublesWith 13 rfl) ?_
          refine rb_eq (b := inB s (vF v 0 (vP v))) (tgt := 44) C (dx dX5_doublesWith 14 rfl) (by decide) (fun c2 => ?_) (fun c2 => ?_)
          ·
            have c2 : (inB s (vF v 0 (vP v))) = false := c2
            refine rn_iinc (a := vP v) (k := 1) (ls' := [(0, vr 5 k), (1, vi s), (2, vi (bset (fun p => inB s (vF v 0 p) && inB s (vF v 1 p)) (vP v))), (3, vi (nI (vP v + 1)))]) C (dx dX5_doublesWith 28 rfl) rfl rfl (by decide) [1, 2, 3, 0] rfl ?_
            refine r_goto (tgt := 4) C (dx dX5_doublesWith 29 rfl) (by decide) ?_
            have e9 : bset (fun p => inB s (vF v 0 p) && inB s (vF v 1 p)) (vP v) = bset (fun p => inB s (vF v 0 p) && inB s (vF v 1 p)) (vP v + 1) := by simp [bset, c1, c2]
            rw [e9]
            exact ih
          ·
            have c2 : (inB s (vF v 0 (vP v))) = true := c2
            refine r_iload_n C (dx dX5_doublesWith 15 rfl) rfl ?_
            refine r_aload_n C (dx dX5_doublesWith 16 rfl) rfl ?_
            refine g_X5_19 C (dx dX5_doublesWith 17 rfl) ?_
            refine r_iload_n C (dx dX5_doublesWith 18 rfl) rfl ?_
            refine r_iald (j := vP v) (x := vF v 1 (vP v)) C rfl rfl (by decide) rfl (by omega) (dx dX5_doublesWith 19 rfl) (hv.e1 (by omega)) ?_
            refine r_csP (as := [vi s, vi (vF v 1 (vP v))]) (st := []) (v := vi (b2i (inB s (vF v 1 (vP v))))) C X I_X5_isIn l_X5_74 (c_X5_isIn _ _) (by decide) (Nat.le_of_ble_eq_true rfl) List.prefix_rfl (Nat.le_of_ble_eq_true rfl) rfl (dx dX5_doublesWith 20 rfl) ?_
            refine rb_eq (b := inB s (vF v 1 (vP v))) (tgt := 44) C (dx dX5_doublesWith 21 rfl) (by decide) (fun c3 => ?_) (fun c3 => ?_)
            ·
              have c3 : (inB s (vF v 1 (vP v))) = false := c3
              refine rn_iinc (a := vP v) (k := 1) (ls' := [(0, vr 5 k), (1, vi s), (2, vi (bset (fun p => inB s (vF v 0 p) && inB s (vF v 1 p)) (vP v))), (3, vi (nI (vP v + 1)))]) C (dx dX5_doublesWith 28 rfl) rfl rfl (by decide) [1, 2, 3, 0] rfl ?_
              refine r_goto (tgt := 4) C (dx dX5_doublesWith 29 rfl) (by decide) ?_
              have e9 : bset (fun p => inB s (vF v 0 p) && inB s (vF v 1 p)) (vP v) = bset (fun p => inB s (vF v 0 p) && inB s (vF v 1 p)) (vP v + 1) := by simp [bset, c1, c2, c3]
              rw [e9]
              exact ih
            ·
              have c3 : (inB s (vF v 1 (vP v))) = true := c3
              refine r_iload_n C (dx dX5_doublesWith 22 rfl) rfl ?_
              refine r_iconst (v := nI 1) C (dx dX5_doublesWith 23 rfl) rfl ?_
              refine r_iload_n C (dx dX5_doublesWith 24 rfl) rfl ?_
              refine r_ishl C (dx dX5_doublesWith 25 rfl) ?_
              refine r_ior C (dx dX5_doublesWith 26 rfl) ?_
              refine r_istore_n (ls' := [(0, vr 5 k), (1, vi s), (2, vi ((bset (fun p => inB s (vF v 0 p) && inB s (vF v 1 p)) (vP v)) ||| ((nI 1) <<< ((nI (vP v)) &&& 31)))), (3, vi (nI (vP v)))]) C (dx dX5_doublesWith 27 rfl) (by decide) [1, 2, 0, 3] rfl ?_
              refine rn_iinc (a := vP v) (k := 1) (ls' := [(0, vr 5 k), (1, vi s), (2, vi ((bset (fun p => inB s (vF v 0 p) && inB s (vF v 1 p)) (vP v)) ||| ((nI 1) <<< ((nI (vP v)) &&& 31)))), (3, vi (nI (vP v + 1)))]) C (dx dX5_doublesWith 28 rfl) rfl rfl (by decide) [1, 2, 3, 0] rfl ?_
              refine r_goto (tgt := 4) C (dx dX5_doublesWith 29 rfl) (by decide) ?_
              have e9 : (bset (fun p => inB s (vF v 0 p) && inB s (vF v 1 p)) (vP v)) ||| ((nI 1) <<< ((nI (vP v)) &&& 31)) = bset (fun p => inB s (vF v 0 p) && inB s (vF v 1 p)) (vP v + 1) := by simp [bset, c1, c2, c3]
              rw [e9]
              exact ih)
  ·
    intro p hp ih
    refine r_iload_n C (dx dX5_doublesWith 4 rfl) rfl ?_
    refine r_aload_n C (dx dX5_doublesWith 5 rfl) rfl ?_
    refine g_X5_9 (x := nI (vP v)) C (dx dX5_doublesWith 6 rfl) hv.eP ?_
    refine rn_ge (a := p) (b := vP v) (tgt := 50) C (by omega) (by omega) (dx dX5_doublesWith 7 rfl) (by decide) (fun c4 => ?_) (fun c4 => ?_)
    · first
      | (omega; done)
      | (
          have c4 : vP v ≤ p := c4
          refine r_iload_n C (dx dX5_doublesWith 30 rfl) rfl ?_
          exact F.1 _ _ _ _ _ rfl rfl (dx dX5_doublesWith 31 rfl) rfl ⟨congrArg (fun x => some (vi x)) (show bset (fun p => inB s (vF v 0 p) && inB s (vF v 1 p)) p = dblP v s by rfl), rfl⟩)
    · first
      | (omega; done)
      | (
          have c4 : p < vP v := c4
          refine r_iload_n C (dx dX5_doublesWith 8 rfl) rfl ?_
          refine r_aload_n C (dx dX5_doublesWith 9 rfl) rfl ?_
          refine g_X5_15 C (dx dX5_doublesWith 10 rfl) ?_
          refine r_iload_n C (dx dX5_doublesWith 11 rfl) rfl ?_
          refine r_iald (j := p) (x := vF v 0 p) C rfl rfl (by decide) rfl (by omega) (dx dX5_doublesWith 12 rfl) (hv.e0 (by omega)) ?_
          refine r_csP (as := [vi s, vi (vF v 0 p)]) (st := []) (v := vi (b2i (inB s (vF v 0 p)))) C X I_X5_isIn l_X5_74 (c_X5_isIn _ _) (by decide) (Nat.le_of_ble_eq_true rfl) List.prefix_rfl (Nat.le_of_ble_eq_true rfl) rfl (dx dX5_doublesWith 13 rfl) ?_
          refine rb_eq (b := inB s (vF v 0 p)) (tgt := 44) C (dx dX5_doublesWith 14 rfl) (by decide) (fun c5 => ?_) (fun c5 => ?_)
          ·
            have c5 : (inB s (vF v 0 p)) = false := c5
            refine rn_iinc (a := p) (k := 1) (ls' := [(0, vr 5 k), (1, vi s), (2, vi (bset (fun p => inB s (vF v 0 p) && inB s (vF v 1 p)) p)), (3, vi (nI (p + 1)))]) C (dx dX5_doublesWith 28 rfl) rfl rfl (by decide) [1, 2, 3, 0] rfl ?_
            refine r_goto (tgt := 4) C (dx dX5_doublesWith 29 rfl) (by decide) ?_
            have e9 : bset (fun p => inB s (vF v 0 p) && inB s (vF v 1 p)) p = bset (fun p => inB s (vF v 0 p) && inB s (vF v 1 p)) (p + 1) := by simp [bset, c4, c5]
            rw [e9]
            exact ih
          ·
            have c5 : (inB s (vF v 0 p)) = true := c5
            refine r_iload_n C (dx dX5_doublesWith 15 rfl) rfl ?_
            refine r_aload_n C (dx dX5_doublesWith 16 rfl) rfl ?_
            refine g_X5_19 C (dx dX5_doublesWith 17 rfl) ?_
            refine r_iload_n C (dx dX5_doublesWith 18 rfl) rfl ?_
            refine r_iald (j := p) (x := vF v 1 p) C rfl rfl (by decide) rfl (by omega) (dx dX5_doublesWith 19 rfl) (hv.e1 (by omega)) ?_
            refine r_csP (as := [vi s, vi (vF v 1 p)]) (st := []) (v := vi (b2i (inB s (vF v 1 p)))) C X I_X5_isIn l_X5_74 (c_X5_isIn _ _) (by decide) (Nat.le_of_ble_eq_true rfl) List.prefix_rfl (Nat.le_of_ble_eq_true rfl) rfl (dx dX5_doublesWith 20 rfl) ?_
            refine rb_eq (b := inB s (vF v 1 p)) (tgt := 44) C (dx dX5_doublesWith 21 rfl) (by decide) (fun c6 => ?_) (fun c6 => ?_)
            ·
              have c6 : (inB s (vF v 1 p)) = false := c6
              refine rn_iinc (a := p) (k := 1) (ls' := [(0, vr 5 k), (1, vi s), (2, vi (bset (fun p => inB s (vF v 0 p) && inB s (vF v 1 p)) p)), (3, vi (nI (p + 1)))]) C (dx dX5_doublesWith 28 rfl) rfl rfl (by decide) [1, 2, 3, 0] rfl ?_
              refine r_goto (tgt := 4) C (dx dX5_doublesWith 29 rfl) (by decide) ?_
              have e9 : bset (fun p => inB s (vF v 0 p) && inB s (vF v 1 p)) p = bset (fun p => inB s (vF v 0 p) && inB s (vF v 1 p)) (p + 1) := by simp [bset, c4, c5, c6]
              rw [e9]
              exact ih
            ·
              have c6 : (inB s (vF v 1 p)) = true := c6
              refine r_iload_n C (dx dX5_doublesWith 22 rfl) rfl ?_
              refine r_iconst (v := nI 1) C (dx dX5_doublesWith 23 rfl) rfl ?_
              refine r_iload_n C (dx dX5_doublesWith 24 rfl) rfl ?_
              refine r_ishl C (dx dX5_doublesWith 25 rfl) ?_
              refine r_ior C (dx dX5_doublesWith 26 rfl) ?_
              refine r_istore_n (ls' := [(0, vr 5 k), (1, vi s), (2, vi ((bset (fun p => inB s (vF v 0 p) && inB s (vF v 1 p)) p) ||| ((nI 1) <<< ((nI p) &&& 31)))), (3, vi (nI p))]) C (dx dX5_doublesWith 27 rfl) (by decide) [1, 2, 0, 3] rfl ?_
              refine rn_iinc (a := p) (k := 1) (ls' := [(0, vr 5 k), (1, vi s), (2, vi ((bset (fun p => inB s (vF v 0 p) && inB s (vF v 1 p)) p) ||| ((nI 1) <<< ((nI p) &&& 31)))), (3, vi (nI (p + 1)))]) C (dx dX5_doublesWith 28 rfl) rfl rfl (by decide) [1, 2, 3, 0] rfl ?_
              refine r_goto (tgt := 4) C (dx dX5_doublesWith 29 rfl) (by decide) ?_
              have e9 : (bset (fun p => inB s (vF v 0 p) && inB s (vF v 1 p)) p) ||| ((nI 1) <<< ((nI p) &&& 31)) = bset (fun p => inB s (vF v 0 p) && inB s (vF v 1 p)) (p + 1) := by simp [bset, c4, c5, c6]
              rw [e9]
              exact ih)
set_option maxHeartbeats 4000000 in
theorem c_X5_machinesWith {l : Launch} {h : Hp} {k : Nat} {v : Vg} (hv : VilAt h k v) (ps : Int32) : Mp l yX5_machinesWith cX5_machinesWith 4 (some .int) 1 [vr 5 k, vi ps] h (vi (macW v ps)) := by
  refine Ms.of (by decide) (Nat.le_of_ble_eq_true rfl) (fun G C X F => ?_)
  have C : Cx G cX5_machinesWith 4 RX5 := C
  show Rr G 0 [(0, vr 5 k), (1, vi ps)] [] h
  have bP := hv.bP
  have bM := hv.bM
  have bN := hv.bN
  refine r_iconst (v := nI 0) C (dx dX5_machinesWith 0 rfl) rfl ?_
  refine r_istore_n (ls' := [(0, vr 5 k), (1, vi ps), (2, vi (nI 0))]) C (dx dX5_machinesWith 1 rfl) (by decide) [1, 2, 0] rfl ?_
  refine r_iconst (v := nI 0) C (dx dX5_machinesWith 2 rfl) rfl ?_
  refine r_istore_n (ls' := [(0, vr 5 k), (1, vi ps), (2, vi (nI 0)), (3, vi (nI 0))]) C (dx dX5_machinesWith 3 rfl) (by decide) [1, 2, 3, 0] rfl ?_
  refine loopU (Φ := fun p => Rr G 4 [(0, vr 5 k), (1, vi ps), (2, vi (bset (needW v ps) p)), (3, vi (nI p))] [] h) (N := vM v) ?_ ?_ 0 (Nat.zero_le _)
  ·
    refine r_iload_n C (dx dX5_machinesWith 4 rfl) rfl ?_
    refine r_aload_n C (dx dX5_machinesWith 5 rfl) rfl ?_
    refine g_X5_22 (x := nI (vM v)) C (dx dX5_machinesWith 6 rfl) hv.eM ?_
    refine rn_ge (a := vM v) (b := vM v) (tgt := 37) C (by omega) (by omega) (dx dX5_machinesWith 7 rfl) (by decide) (fun c1 => ?_) (fun c1 => ?_)
    · first
      | (omega; done)
      | (
          have c1 : vM v ≤ vM v := c1
          refine r_iload_n C (dx dX5_machinesWith 25 rfl) rfl ?_
          exact F.1 _ _ _ _ _ rfl rfl (dx dX5_machinesWith 26 rfl) rfl ⟨congrArg (fun x => some (vi x)) (show bset (needW v ps) (vM v) = macW v ps by rfl), rfl⟩)
    · first
      | (omega; done)
      | (
          have c1 : vM v < vM v := c1
          refine r_aload_n C (dx dX5_machinesWith 8 rfl) rfl ?_
          refine g_X5_25 C (dx dX5_machinesWith 9 rfl) ?_
          refine r_iload_n C (dx dX5_machinesWith 10 rfl) rfl ?_
          refine r_iald (j := vM v) (x := vF v 2 (vM v)) C rfl rfl (by decide) rfl (by omega) (dx dX5_machinesWith 11 rfl) (hv.e2 (by omega)) ?_
          refine r_iload_n C (dx dX5_machinesWith 12 rfl) rfl ?_
          refine r_iconst (v := -1) C (dx dX5_machinesWith 13 rfl) rfl ?_
          refine r_ixor C (dx dX5_machinesWith 14 rfl) ?_
          refine r_iand C (dx dX5_machinesWith 15 rfl) ?_
          refine r_if_ne (tgt := 31) C (dx dX5_machinesWith 16 rfl) (by decide) (fun c2 => ?_) (fun c2 => ?_)
          ·
            have c2 : ¬ (vF v 2 (vM v)) &&& (ps ^^^ (-1)) = 0 := c2
            refine rn_iinc (a := vM v) (k := 1) (ls' := [(0, vr 5 k), (1, vi ps), (2, vi (bset (needW v ps) (vM v))), (3, vi (nI (vM v + 1)))]) C (dx dX5_machinesWith 23 rfl) rfl rfl (by decide) [1, 2, 3, 0] rfl ?_
            refine r_goto (tgt := 4) C (dx dX5_machinesWith 24 rfl) (by decide) ?_
            have e9 : bset (needW v ps) (vM v) = bset (needW v ps) (vM v + 1) := by simp_all [bset, needW]
            rw [e9]
            exact ih
          ·
            have c2 : (vF v 2 (vM v)) &&& (ps ^^^ (-1)) = 0 := c2
            refine r_iload_n C (dx dX5_machinesWith 17 rfl) rfl ?_
            refine r_iconst (v := nI 1) C (dx dX5_machinesWith 18 rfl) rfl ?_
            refine r_iload_n C (dx dX5_machinesWith 19 rfl) rfl ?_
            refine r_ishl C (dx dX5_machinesWith 20 rfl) ?_
            refine r_ior C (dx dX5_machinesWith 21 rfl) ?_
            refine r_istore_n (ls' := [(0, vr 5 k), (1, vi ps), (2, vi ((bset (needW v ps) (vM v)) ||| ((nI 1) <<< ((nI (vM v)) &&& 31)))), (3, vi (nI (vM v)))]) C (dx dX5_machinesWith 22 rfl) (by decide) [1, 2, 0, 3] rfl ?_
            refine rn_iinc (a := vM v) (k := 1) (ls' := [(0, vr 5 k), (1, vi ps), (2, vi ((bset (needW v ps) (vM v)) ||| ((nI 1) <<< ((nI (vM v)) &&& 31)))), (3, vi (nI (vM v + 1)))]) C (dx dX5_machinesWith 23 rfl) rfl rfl (by decide) [1, 2, 3, 0] rfl ?_
            refine r_goto (tgt := 4) C (dx dX5_machinesWith 24 rfl) (by decide) ?_
            have e9 : (bset (needW v ps) (vM v)) ||| ((nI 1) <<< ((nI (vM v)) &&& 31)) = bset (needW v ps) (vM v + 1) := by simp_all [bset, needW]
            rw [e9]
            exact ih)
  ·
    intro p hp ih
    refine r_iload_n C (dx dX5_machinesWith 4 rfl) rfl ?_
    refine r_aload_n C (dx dX5_machinesWith 5 rfl) rfl ?_
    refine g_X5_22 (x := nI (vM v)) C (dx dX5_machinesWith 6 rfl) hv.eM ?_
    refine rn_ge (a := p) (b := vM v) (tgt := 37) C (by omega) (by omega) (dx dX5_machinesWith 7 rfl) (by decide) (fun c3 => ?_) (fun c3 => ?_)
    · first
      | (omega; done)
      | (
          have c3 : vM v ≤ p := c3
          refine r_iload_n C (dx dX5_machinesWith 25 rfl) rfl ?_
          exact F.1 _ _ _ _ _ rfl rfl (dx dX5_machinesWith 26 rfl) rfl ⟨congrArg (fun x => some (vi x)) (show bset (needW v ps) p = macW v ps by rfl), rfl⟩)
    · first
      | (omega; done)
      | (
          have c3 : p < vM v := c3
          refine r_aload_n C (dx dX5_machinesWith 8 rfl) rfl ?_
          refine g_X5_25 C (dx dX5_machinesWith 9 rfl) ?_
          refine r_iload_n C (dx dX5_machinesWith 10 rfl) rfl ?_
          refine r_iald (j := p) (x := vF v 2 p) C rfl rfl (by decide) rfl (by omega) (dx dX5_machinesWith 11 rfl) (hv.e2 (by omega)) ?_
          refine r_iload_n C (dx dX5_machinesWith 12 rfl) rfl ?_
          refine r_iconst (v := -1) C (dx dX5_machinesWith 13 rfl) rfl ?_
          refine r_ixor C (dx dX5_machinesWith 14 rfl) ?_
          refine r_iand C (dx dX5_machinesWith 15 rfl) ?_
          refine r_if_ne (tgt := 31) C (dx dX5_machinesWith 16 rfl) (by decide) (fun c4 => ?_) (fun c4 => ?_)
          ·
            have c4 : ¬ (vF v 2 p) &&& (ps ^^^ (-1)) = 0 := c4
            refine rn_iinc (a := p) (k := 1) (ls' := [(0, vr 5 k), (1, vi ps), (2, vi (bset (needW v ps) p)), (3, vi (nI (p + 1)))]) C (dx dX5_machinesWith 23 rfl) rfl rfl (by decide) [1, 2, 3, 0] rfl ?_
            refine r_goto (tgt := 4) C (dx dX5_machinesWith 24 rfl) (by decide) ?_
            have e9 : bset (needW v ps) p = bset (needW v ps) (p + 1) := by simp_all [bset, needW]
            rw [e9]
            exact ih
          ·
            have c4 : (vF v 2 p) &&& (ps ^^^ (-1)) = 0 := c4
            refine r_iload_n C (dx dX5_machinesWith 17 rfl) rfl ?_
            refine r_iconst (v := nI 1) C (dx dX5_machinesWith 18 rfl) rfl ?_
            refine r_iload_n C (dx dX5_machinesWith 19 rfl) rfl ?_
            refine r_ishl C (dx dX5_machinesWith 20 rfl) ?_
            refine r_ior C (dx dX5_machinesWith 21 rfl) ?_
            refine r_istore_n (ls' := [(0, vr 5 k), (1, vi ps), (2, vi ((bset (needW v ps) p) ||| ((nI 1) <<< ((nI p) &&& 31)))), (3, vi (nI p))]) C (dx dX5_machinesWith 22 rfl) (by decide) [1, 2, 0, 3] rfl ?_
            refine rn_iinc (a := p) (k := 1) (ls' := [(0, vr 5 k), (1, vi ps), (2, vi ((bset (needW v ps) p) ||| ((nI 1) <<< ((nI p) &&& 31)))), (3, vi (nI (p + 1)))]) C (dx dX5_machinesWith 23 rfl) rfl rfl (by decide) [1, 2, 3, 0] rfl ?_
            refine r_goto (tgt := 4) C (dx dX5_machinesWith 24 rfl) (by decide) ?_
            have e9 : (bset (needW v ps) p) ||| ((nI 1) <<< ((nI p) &&& 31)) = bset (needW v ps) (p + 1) := by simp_all [bset, needW]
            rw [e9]
            exact ih)
set_option maxHeartbeats 4000000 in
theorem c_X5_machinesTouchedBy {l : Launch} {h : Hp} {k : Nat} {v : Vg} (hv : VilAt h k v) (ps : Int32) : Mp l yX5_machinesTouchedBy cX5_machinesTouchedBy 4 (some .int) 1 [vr 5 k, vi ps] h (vi (nI (touch v ps))) := by
  refine Ms.of (by decide) (Nat.le_of_ble_eq_true rfl) (fun G C X F => ?_)
  have C : Cx G cX5_machinesTouchedBy 4 RX5 := C
  show Rr G 0 [(0, vr 5 k), (1, vi ps)] [] h
  have bP := hv.bP
  have bM := hv.bM
  have bN := hv.bN
  refine r_iconst (v := nI 0) C (dx dX5_machinesTouchedBy 0 rfl) rfl ?_
  refine r_istore_n (ls' := [(0, vr 5 k), (1, vi ps), (2, vi (nI 0))]) C (dx dX5_machinesTouchedBy 1 rfl) (by decide) [1, 2, 0] rfl ?_
  refine r_iconst (v := nI 0) C (dx dX5_machinesTouchedBy 2 rfl) rfl ?_
  refine r_istore_n (ls' := [(0, vr 5 k), (1, vi ps), (2, vi (nI 0)), (3, vi (nI 0))]) C (dx dX5_machinesTouchedBy 3 rfl) (by decide) [1, 2, 3, 0] rfl ?_
  refine loopU (Φ := fun p => Rr G 4 [(0, vr 5 k), (1, vi ps), (2, vi (nI (cnt (fun m => decide (¬ vF v 2 m &&& ps = 0)) p))), (3, vi (nI p))] [] h) (N := vM v) ?_ ?_ 0 (Nat.zero_le _)
  ·
    refine r_iload_n C (dx dX5_machinesTouchedBy 4 rfl) rfl ?_
    refine r_aload_n C (dx dX5_machinesTouchedBy 5 rfl) rfl ?_
    refine g_X5_22 (x := nI (vM v)) C (dx dX5_machinesTouchedBy 6 rfl) hv.eM ?_
    refine rn_ge (a := vM v) (b := vM v) (tgt := 32) C (by omega) (by omega) (dx dX5_machinesTouchedBy 7 rfl) (by decide) (fun c1 => ?_) (fun c1 => ?_)
    · first
      | (omega; done)
      | (
          have c1 : vM v ≤ vM v := c1
          refine r_iload_n C (dx dX5_machinesTouchedBy 18 rfl) rfl ?_
          exact F.1 _ _ _ _ _ rfl rfl (dx dX5_machinesTouchedBy 19 rfl) rfl ⟨congrArg (fun x => some (vi x)) (show nI (cnt (fun m => decide (¬ vF v 2 m &&& ps = 0)) (vM v)) = nI (touch v ps) by rfl), rfl⟩)
    · first
      | (omega; done)
      | (
          have c1 : vM v < vM v := c1
          refine r_aload_n C (dx dX5_machinesTouchedBy 8 rfl) rfl ?_
          refine g_X5_25 C (dx dX5_machinesTouchedBy 9 rfl) ?_
          refine r_iload_n C (dx dX5_machinesTouchedBy 10 rfl) rfl ?_
          refine r_iald (j := vM v) (x := vF v 2 (vM v)) C rfl rfl (by decide) rfl (by omega) (dx dX5_machinesTouchedBy 11 rfl) (hv.e2 (by omega)) ?_
          refine r_iload_n C (dx dX5_machinesTouchedBy 12 rfl) rfl ?_
          refine r_iand C (dx dX5_machinesTouchedBy 13 rfl) ?_
          refine r_if_eq (tgt := 26) C (dx dX5_machinesTouchedBy 14 rfl) (by decide) (fun c2 => ?_) (fun c2 => ?_)
          ·
            have c2 : (vF v 2 (vM v)) &&& ps = 0 := c2
            refine rn_iinc (a := vM v) (k := 1) (ls' := [(0, vr 5 k), (1, vi ps), (2, vi (nI (cnt (fun m => decide (¬ vF v 2 m &&& ps = 0)) (vM v)))), (3, vi (nI (vM v + 1)))]) C (dx dX5_machinesTouchedBy 16 rfl) rfl rfl (by decide) [1, 2, 3, 0] rfl ?_
            refine r_goto (tgt := 4) C (dx dX5_machinesTouchedBy 17 rfl) (by decide) ?_
            have e9 : nI (cnt (fun m => decide (¬ vF v 2 m &&& ps = 0)) (vM v)) = nI (cnt (fun m => decide (¬ vF v 2 m &&& ps = 0)) (vM v + 1)) := by simp [cnt, c1, c2]
            rw [e9]
            exact ih
          ·
            have c2 : ¬ (vF v 2 (vM v)) &&& ps = 0 := c2
            refine rn_iinc (a := cnt (fun m => decide (¬ vF v 2 m &&& ps = 0)) (vM v)) (k := 1) (ls' := [(0, vr 5 k), (1, vi ps), (2, vi (nI (cnt (fun m => decide (¬ vF v 2 m &&& ps = 0)) (vM v) + 1))), (3, vi (nI (vM v)))]) C (dx dX5_machinesTouchedBy 15 rfl) rfl rfl (by decide) [1, 2, 0, 3] rfl ?_
            refine rn_iinc (a := vM v) (k := 1) (ls' := [(0, vr 5 k), (1, vi ps), (2, vi (nI (cnt (fun m => decide (¬ vF v 2 m &&& ps = 0)) (vM v) + 1))), (3, vi (nI (vM v + 1)))]) C (dx dX5_machinesTouchedBy 16 rfl) rfl rfl (by decide) [1, 2, 3, 0] rfl ?_
            refine r_goto (tgt := 4) C (dx dX5_machinesTouchedBy 17 rfl) (by decide) ?_
            have e9 : nI (cnt (fun m => decide (¬ vF v 2 m &&& ps = 0)) (vM v) + 1) = nI (cnt (fun m => decide (¬ vF v 2 m &&& ps = 0)) (vM v + 1)) := by simp [cnt, c1, c2]
            rw [e9]
            exact ih)
  ·
    intro p hp ih
    refine r_iload_n C (dx dX5_machinesTouchedBy 4 rfl) rfl ?_
    refine r_aload_n C (dx dX5_machinesTouchedBy 5 rfl) rfl ?_
    refine g_X5_22 (x := nI (vM v)) C (dx dX5_machinesTouchedBy 6 rfl) hv.eM ?_
    refine rn_ge (a := p) (b := vM v) (tgt := 32) C (by omega) (by omega) (dx dX5_machinesTouchedBy 7 rfl) (by decide) (fun c3 => ?_) (fun c3 => ?_)
    · first
      | (omega; done)
      | (
          have c3 : vM v ≤ p := c3
          refine r_iload_n C (dx dX5_machinesTouchedBy 18 rfl) rfl ?_
          exact F.1 _ _ _ _ _ rfl rfl (dx dX5_machinesTouchedBy 19 rfl) rfl ⟨congrArg (fun x => some (vi x)) (show nI (cnt (fun m => decide (¬ vF v 2 m &&& ps = 0)) p) = nI (touch v ps) by rfl), rfl⟩)
    · first
      | (omega; done)
      | (
          have c3 : p < vM v := c3
          refine r_aload_n C (dx dX5_machinesTouchedBy 8 rfl) rfl ?_
          refine g_X5_25 C (dx dX5_machinesTouchedBy 9 rfl) ?_
          refine r_iload_n C (dx dX5_machinesTouchedBy 10 rfl) rfl ?_
          refine r_iald (j := p) (x := vF v 2 p) C rfl rfl (by decide) rfl (by omega) (dx dX5_machinesTouchedBy 11 rfl) (hv.e2 (by omega)) ?_
          refine r_iload_n C (dx dX5_machinesTouchedBy 12 rfl) rfl ?_
          refine r_iand C (dx dX5_machinesTouchedBy 13 rfl) ?_
          refine r_if_eq (tgt := 26) C (dx dX5_machinesTouchedBy 14 rfl) (by decide) (fun c4 => ?_) (fun c4 => ?_)
          ·
            have c4 : (vF v 2 p) &&& ps = 0 := c4
            refine rn_iinc (a := p) (k := 1) (ls' := [(0, vr 5 k), (1, vi ps), (2, vi (nI (cnt (fun m => decide (¬ vF v 2 m &&& ps = 0)) p))), (3, vi (nI (p + 1)))]) C (dx dX5_machinesTouchedBy 16 rfl) rfl rfl (by decide) [1, 2, 3, 0] rfl ?_
            refine r_goto (tgt := 4) C (dx dX5_machinesTouchedBy 17 rfl) (by decide) ?_
            have e9 : nI (cnt (fun m => decide (¬ vF v 2 m &&& ps = 0)) p) = nI (cnt (fun m => decide (¬ vF v 2 m &&& ps = 0)) (p + 1)) := by simp [cnt, c3, c4]
            rw [e9]
            exact ih
          ·
            have c4 : ¬ (vF v 2 p) &&& ps = 0 := c4
            refine rn_iinc (a := cnt (fun m => decide (¬ vF v 2 m &&& ps = 0)) p) (k := 1) (ls' := [(0, vr 5 k), (1, vi ps), (2, vi (nI (cnt (fun m => decide (¬ vF v 2 m &&& ps = 0)) p + 1))), (3, vi (nI p))]) C (dx dX5_machinesTouchedBy 15 rfl) rfl rfl (by decide) [1, 2, 0, 3] rfl ?_
            refine rn_iinc (a := p) (k := 1) (ls' := [(0, vr 5 k), (1, vi ps), (2, vi (nI (cnt (fun m => decide (¬ vF v 2 m &&& ps = 0)) p + 1))), (3, vi (nI (p + 1)))]) C (dx dX5_machinesTouchedBy 16 rfl) rfl rfl (by decide) [1, 2, 3, 0] rfl ?_
            refine r_goto (tgt := 4) C (dx dX5_machinesTouchedBy 17 rfl) (by decide) ?_
            have e9 : nI (cnt (fun m => decide (¬ vF v 2 m &&& ps = 0)) p + 1) = nI (cnt (fun m => decide (¬ vF v 2 m &&& ps = 0)) (p + 1)) := by simp [cnt, c3, c4]
            rw [e9]
            exact ih)
set_option maxHeartbeats 4000000 in
theorem c_X5_worthWith {l : Launch} {h : Hp} {k : Nat} {v : Vg} (hv : VilAt h k v) (ps : Int32) : Mp l yX5_worthWith cX5_worthWith 4 (some .int) 1 [vr 5 k, vi ps] h (vi (worthS v ps)) := by
  refine Ms.of (by decide) (Nat.le_of_ble_eq_true rfl) (fun G C X F => ?_)
  have C : Cx G cX5_worthWith 4 RX5 := C
  show Rr G 0 [(0, vr 5 k), (1, vi ps)] [] h
  have bP := hv.bP
  have bM := hv.bM
  have bN := hv.bN
  refine r_iconst (v := nI 0) C (dx dX5_worthWith 0 rfl) rfl ?_
  refine r_istore_n (ls' := [(0, vr 5 k), (1, vi ps), (2, vi (nI 0))]) C (dx dX5_worthWith 1 rfl) (by decide) [1, 2, 0] rfl ?_
  refine r_iconst (v := nI 0) C (dx dX5_worthWith 2 rfl) rfl ?_
  refine r_istore_n (ls' := [(0, vr 5 k), (1, vi ps), (2, vi (nI 0)), (3, vi (nI 0))]) C (dx dX5_worthWith 3 rfl) (by decide) [1, 2, 3, 0] rfl ?_
  refine loopU (Φ := fun p => Rr G 4 [(0, vr 5 k), (1, vi ps), (2, vi (sumIf (needW v ps) (fun m => vF v 3 m) p)), (3, vi (nI p))] [] h) (N := vM v) ?_ ?_ 0 (Nat.zero_le _)
  ·
    refine r_iload_n C (dx dX5_worthWith 4 rfl) rfl ?_
    refine r_aload_n C (dx dX5_worthWith 5 rfl) rfl ?_
    refine g_X5_22 (x := nI (vM v)) C (dx dX5_worthWith 6 rfl) hv.eM ?_
    refine rn_ge (a := vM v) (b := vM v) (tgt := 40) C (by omega) (by omega) (dx dX5_worthWith 7 rfl) (by decide) (fun c1 => ?_) (fun c1 => ?_)
    · first
      | (omega; done)
      | (
          have c1 : vM v ≤ vM v := c1
          refine r_iload_n C (dx dX5_worthWith 26 rfl) rfl ?_
          exact F.1 _ _ _ _ _ rfl rfl (dx dX5_worthWith 27 rfl) rfl ⟨congrArg (fun x => some (vi x)) (show sumIf (needW v ps) (fun m => vF v 3 m) (vM v) = worthS v ps by rfl), rfl⟩)
    · first
      | (omega; done)
      | (
          have c1 : vM v < vM v := c1
          refine r_aload_n C (dx dX5_worthWith 8 rfl) rfl ?_
          refine g_X5_25 C (dx dX5_worthWith 9 rfl) ?_
          refine r_iload_n C (dx dX5_worthWith 10 rfl) rfl ?_
          refine r_iald (j := vM v) (x := vF v 2 (vM v)) C rfl rfl (by decide) rfl (by omega) (dx dX5_worthWith 11 rfl) (hv.e2 (by omega)) ?_
          refine r_iload_n C (dx dX5_worthWith 12 rfl) rfl ?_
          refine r_iconst (v := -1) C (dx dX5_worthWith 13 rfl) rfl ?_
          refine r_ixor C (dx dX5_worthWith 14 rfl) ?_
          refine r_iand C (dx dX5_worthWith 15 rfl) ?_
          refine r_if_ne (tgt := 34) C (dx dX5_worthWith 16 rfl) (by decide) (fun c2 => ?_) (fun c2 => ?_)
          ·
            have c2 : ¬ (vF v 2 (vM v)) &&& (ps ^^^ (-1)) = 0 := c2
            refine rn_iinc (a := vM v) (k := 1) (ls' := [(0, vr 5 k), (1, vi ps), (2, vi (sumIf (needW v ps) (fun m => vF v 3 m) (vM v))), (3, vi (nI (vM v + 1)))]) C (dx dX5_worthWith 24 rfl) rfl rfl (by decide) [1, 2, 3, 0] rfl ?_
            refine r_goto (tgt := 4) C (dx dX5_worthWith 25 rfl) (by decide) ?_
            have e9 : sumIf (needW v ps) (fun m => vF v 3 m) (vM v) = sumIf (needW v ps) (fun m => vF v 3 m) (vM v + 1) := by simp_all [sumIf, needW]
            rw [e9]
            exact ih
          ·
            have c2 : (vF v 2 (vM v)) &&& (ps ^^^ (-1)) = 0 := c2
            refine r_iload_n C (dx dX5_worthWith 17 rfl) rfl ?_
            refine r_aload_n C (dx dX5_worthWith 18 rfl) rfl ?_
            refine g_X5_28 C (dx dX5_worthWith 19 rfl) ?_
            refine r_iload_n C (dx dX5_worthWith 20 rfl) rfl ?_
            refine r_iald (j := vM v) (x := vF v 3 (vM v)) C rfl rfl (by decide) rfl (by omega) (dx dX5_worthWith 21 rfl) (hv.e3 (by omega)) ?_
            refine r_iadd C (dx dX5_worthWith 22 rfl) ?_
            refine r_istore_n (ls' := [(0, vr 5 k), (1, vi ps), (2, vi ((sumIf (needW v ps) (fun m => vF v 3 m) (vM v)) + (vF v 3 (vM v)))), (3, vi (nI (vM v)))]) C (dx dX5_worthWith 23 rfl) (by decide) [1, 2, 0, 3] rfl ?_
            refine rn_iinc (a := vM v) (k := 1) (ls' := [(0, vr 5 k), (1, vi ps), (2, vi ((sumIf (needW v ps) (fun m => vF v 3 m) (vM v)) + (vF v 3 (vM v)))), (3, vi (nI (vM v + 1)))]) C (dx dX5_worthWith 24 rfl) rfl rfl (by decide) [1, 2, 3, 0] rfl ?_
            refine r_goto (tgt := 4) C (dx dX5_worthWith 25 rfl) (by decide) ?_
            have e9 : (sumIf (needW v ps) (fun m => vF v 3 m) (vM v)) + (vF v 3 (vM v)) = sumIf (needW v ps) (fun m => vF v 3 m) (vM v + 1) := by simp_all [sumIf, needW]
            rw [e9]
            exact ih)
  ·
    intro p hp ih
    refine r_iload_n C (dx dX5_worthWith 4 rfl) rfl ?_
    refine r_aload_n C (dx dX5_worthWith 5 rfl) rfl ?_
    refine g_X5_22 (x := nI (vM v)) C (dx dX5_worthWith 6 rfl) hv.eM ?_
    refine rn_ge (a := p) (b := vM v) (tgt := 40) C (by omega) (by omega) (dx dX5_worthWith 7 rfl) (by decide) (fun c3 => ?_) (fun c3 => ?_)
    · first
      | (omega; done)
      | (
          have c3 : vM v ≤ p := c3
          refine r_iload_n C (dx dX5_worthWith 26 rfl) rfl ?_
          exact F.1 _ _ _ _ _ rfl rfl (dx dX5_worthWith 27 rfl) rfl ⟨congrArg (fun x => some (vi x)) (show sumIf (needW v ps) (fun m => vF v 3 m) p = worthS v ps by rfl), rfl⟩)
    · first
      | (omega; done)
      | (
          have c3 : p < vM v := c3
          refine r_aload_n C (dx dX5_worthWith 8 rfl) rfl ?_
          refine g_X5_25 C (dx dX5_worthWith 9 rfl) ?_
          refine r_iload_n C (dx dX5_worthWith 10 rfl) rfl ?_
          refine r_iald (j := p) (x := vF v 2 p) C rfl rfl (by decide) rfl (by omega) (dx dX5_worthWith 11 rfl) (hv.e2 (by omega)) ?_
          refine r_iload_n C (dx dX5_worthWith 12 rfl) rfl ?_
          refine r_iconst (v := -1) C (dx dX5_worthWith 13 rfl) rfl ?_
          refine r_ixor C (dx dX5_worthWith 14 rfl) ?_
          refine r_iand C (dx dX5_worthWith 15 rfl) ?_
          refine r_if_ne (tgt := 34) C (dx dX5_worthWith 16 rfl) (by decide) (fun c4 => ?_) (fun c4 => ?_)
          ·
            have c4 : ¬ (vF v 2 p) &&& (ps ^^^ (-1)) = 0 := c4
            refine rn_iinc (a := p) (k := 1) (ls' := [(0, vr 5 k), (1, vi ps), (2, vi (sumIf (needW v ps) (fun m => vF v 3 m) p)), (3, vi (nI (p + 1)))]) C (dx dX5_worthWith 24 rfl) rfl rfl (by decide) [1, 2, 3, 0] rfl ?_
            refine r_goto (tgt := 4) C (dx dX5_worthWith 25 rfl) (by decide) ?_
            have e9 : sumIf (needW v ps) (fun m => vF v 3 m) p = sumIf (needW v ps) (fun m => vF v 3 m) (p + 1) := by simp_all [sumIf, needW]
            rw [e9]
            exact ih
          ·
            have c4 : (vF v 2 p) &&& (ps ^^^ (-1)) = 0 := c4
            refine r_iload_n C (dx dX5_worthWith 17 rfl) rfl ?_
            refine r_aload_n C (dx dX5_worthWith 18 rfl) rfl ?_
            refine g_X5_28 C (dx dX5_worthWith 19 rfl) ?_
            refine r_iload_n C (dx dX5_worthWith 20 rfl) rfl ?_
            refine r_iald (j := p) (x := vF v 3 p) C rfl rfl (by decide) rfl (by omega) (dx dX5_worthWith 21 rfl) (hv.e3 (by omega)) ?_
            refine r_iadd C (dx dX5_worthWith 22 rfl) ?_
            refine r_istore_n (ls' := [(0, vr 5 k), (1, vi ps), (2, vi ((sumIf (needW v ps) (fun m => vF v 3 m) p) + (vF v 3 p))), (3, vi (nI p))]) C (dx dX5_worthWith 23 rfl) (by decide) [1, 2, 0, 3] rfl ?_
            refine rn_iinc (a := p) (k := 1) (ls' := [(0, vr 5 k), (1, vi ps), (2, vi ((sumIf (needW v ps) (fun m => vF v 3 m) p) + (vF v 3 p))), (3, vi (nI (p + 1)))]) C (dx dX5_worthWith 24 rfl) rfl rfl (by decide) [1, 2, 3, 0] rfl ?_
            refine r_goto (tgt := 4) C (dx dX5_worthWith 25 rfl) (by decide) ?_
            have e9 : (sumIf (needW v ps) (fun m => vF v 3 m) p) + (vF v 3 p) = sumIf (needW v ps) (fun m => vF v 3 m) (p + 1) := by simp_all [sumIf, needW]
            rw [e9]
            exact ih)
set_option maxHeartbeats 4000000 in
theorem c_X5_isAnyWorkedWith {l : Launch} {h : Hp} {k : Nat} {v : Vg} (hv : VilAt h k v) (ps : Int32) : Mp l yX5_isAnyWorkedWith cX5_isAnyWorkedWith 2 (some .boolean) 2 [vr 5 k, vi ps] h (vi (b2i (decide (¬ macW v ps = 0)))) := by
  refine Ms.of (by decide) (Nat.le_of_ble_eq_true rfl) (fun G C X F => ?_)
  have C : Cx G cX5_isAnyWorkedWith 2 RX5 := C
  show Rr G 0 [(0, vr 5 k), (1, vi ps)] [] h
  have bP := hv.bP
  have bM := hv.bM
  have bN := hv.bN
  refine r_aload_n C (dx dX5_isAnyWorkedWith 0 rfl) rfl ?_
  refine r_iload_n C (dx dX5_isAnyWorkedWith 1 rfl) rfl ?_
  refine r_cvP (as := [vi ps]) (st := []) (v := vi (macW v ps)) C X I_X5_machinesWith l_X5_78 (c_X5_machinesWith hv _) (by decide) (Nat.le_of_ble_eq_true rfl) List.prefix_rfl rfl rfl (Nat.le_of_ble_eq_true rfl) rfl (dx dX5_isAnyWorkedWith 2 rfl) ?_
  refine r_if_eq (tgt := 12) C (dx dX5_isAnyWorkedWith 3 rfl) (by decide) (fun c1 => ?_) (fun c1 => ?_)
  ·
    have c1 : macW v ps = 0 := c1
    refine r_iconst (v := nI 0) C (dx dX5_isAnyWorkedWith 6 rfl) rfl ?_
    exact F.1 _ _ _ _ _ rfl rfl (dx dX5_isAnyWorkedWith 7 rfl) rfl ⟨congrArg (fun x => some (vi x)) (show nI 0 = b2i _ by rw [show (decide (¬ macW v ps = 0)) = false by simp_all]; rfl), rfl⟩
  ·
    have c1 : ¬ macW v ps = 0 := c1
    refine r_iconst (v := nI 1) C (dx dX5_isAnyWorkedWith 4 rfl) rfl ?_
    refine r_goto (tgt := 13) C (dx dX5_isAnyWorkedWith 5 rfl) (by decide) ?_
    exact F.1 _ _ _ _ _ rfl rfl (dx dX5_isAnyWorkedWith 7 rfl) rfl ⟨congrArg (fun x => some (vi x)) (show nI 1 = b2i _ by rw [show (decide (¬ macW v ps = 0)) = true by simp_all]; rfl), rfl⟩
set_option maxHeartbeats 4000000 in
theorem c_X5_isWorkedWith {l : Launch} {h : Hp} {k : Nat} {v : Vg} (hv : VilAt h k v) (m ps : Int32) : Mp l yX5_isWorkedWith cX5_isWorkedWith 3 (some .boolean) 2 [vr 5 k, vi m, vi ps] h (vi (b2i (wkW v m ps))) := by
  refine Ms.of (by decide) (Nat.le_of_ble_eq_true rfl) (fun G C X F => ?_)
  have C : Cx G cX5_isWorkedWith 3 RX5 := C
  show Rr G 0 [(0, vr 5 k), (1, vi m), (2, vi ps)] [] h
  have bP := hv.bP
  have bM := hv.bM
  have bN := hv.bN
  rcases inR_c m (n := vM v) (by omega) with ⟨o, ho, rfl, eo⟩ | eo
  ·
    have hco : (nI o).toNatClampNeg = o := nI_clamp (by omega)
    refine r_aload_n C (dx dX5_isWorkedWith 0 rfl) rfl ?_
    refine r_iload_n C (dx dX5_isWorkedWith 1 rfl) rfl ?_
    refine r_cvP (as := [vi (nI o)]) (st := []) (v := vi (b2i (inR (nI o) (vM v)))) C X I_X5_isMachine l_X5_56 (c_X5_isMachine hv _) (by decide) (Nat.le_of_ble_eq_true rfl) List.prefix_rfl rfl rfl (Nat.le_of_ble_eq_true rfl) rfl (dx dX5_isWorkedWith 2 rfl) ?_
    refine rb_eq (b := inR (nI o) (vM v)) (tgt := 25) C (dx dX5_isWorkedWith 3 rfl) (by decide) (fun c1 => ?_) (fun c1 => ?_)
    · first
      | ((rw [eo] at c1; cases c1); done)
      | (
          have c1 : (inR (nI o) (vM v)) = false := c1
          refine r_iconst (v := nI 0) C (dx dX5_isWorkedWith 15 rfl) rfl ?_
          exact F.1 _ _ _ _ _ rfl rfl (dx dX5_isWorkedWith 16 rfl) rfl ⟨congrArg (fun x => some (vi x)) (show nI 0 = b2i _ by rw [show (wkW v (nI o) ps) = false by simp_all [wkW, needW]]; rfl), rfl⟩)
    · first
      | ((rw [eo] at c1; cases c1); done)
      | (
          have c1 : (inR (nI o) (vM v)) = true := c1
          refine r_aload_n C (dx dX5_isWorkedWith 4 rfl) rfl ?_
          refine g_X5_25 C (dx dX5_isWorkedWith 5 rfl) ?_
          refine r_iload_n C (dx dX5_isWorkedWith 6 rfl) rfl ?_
          refine r_iald (j := o) (x := vF v 2 o) C rfl rfl (by decide) rfl (by omega) (dx dX5_isWorkedWith 7 rfl) (hv.e2 (by omega)) ?_
          refine r_iload_n C (dx dX5_isWorkedWith 8 rfl) rfl ?_
          refine r_iconst (v := -1) C (dx dX5_isWorkedWith 9 rfl) rfl ?_
          refine r_ixor C (dx dX5_isWorkedWith 10 rfl) ?_
          refine r_iand C (dx dX5_isWorkedWith 11 rfl) ?_
          refine r_if_ne (tgt := 25) C (dx dX5_isWorkedWith 12 rfl) (by decide) (fun c2 => ?_) (fun c2 => ?_)
          · first
            | ((rw [eo] at c2; cases c2); done)
            | (
                have c2 : ¬ (vF v 2 o) &&& (ps ^^^ (-1)) = 0 := c2
                refine r_iconst (v := nI 0) C (dx dX5_isWorkedWith 15 rfl) rfl ?_
                exact F.1 _ _ _ _ _ rfl rfl (dx dX5_isWorkedWith 16 rfl) rfl ⟨congrArg (fun x => some (vi x)) (show nI 0 = b2i _ by rw [show (wkW v (nI o) ps) = false by simp_all [wkW, needW]]; rfl), rfl⟩)
          · first
            | ((rw [eo] at c2; cases c2); done)
            | (
                have c2 : (vF v 2 o) &&& (ps ^^^ (-1)) = 0 := c2
                refine r_iconst (v := nI 1) C (dx dX5_isWorkedWith 13 rfl) rfl ?_
                refine r_goto (tgt := 26) C (dx dX5_isWorkedWith 14 rfl) (by decide) ?_
                exact F.1 _ _ _ _ _ rfl rfl (dx dX5_isWorkedWith 16 rfl) rfl ⟨congrArg (fun x => some (vi x)) (show nI 1 = b2i _ by rw [show (wkW v (nI o) ps) = true by simp_all [wkW, needW]]; rfl), rfl⟩))
  ·
    refine r_aload_n C (dx dX5_isWorkedWith 0 rfl) rfl ?_
    refine r_iload_n C (dx dX5_isWorkedWith 1 rfl) rfl ?_
    refine r_cvP (as := [vi m]) (st := []) (v := vi (b2i (inR m (vM v)))) C X I_X5_isMachine l_X5_56 (c_X5_isMachine hv _) (by decide) (Nat.le_of_ble_eq_true rfl) List.prefix_rfl rfl rfl (Nat.le_of_ble_eq_true rfl) rfl (dx dX5_isWorkedWith 2 rfl) ?_
    refine rb_eq (b := inR m (vM v)) (tgt := 25) C (dx dX5_isWorkedWith 3 rfl) (by decide) (fun c3 => ?_) (fun c3 => ?_)
    · first
      | ((rw [eo] at c3; cases c3); done)
      | (
          have c3 : (inR m (vM v)) = false := c3
          refine r_iconst (v := nI 0) C (dx dX5_isWorkedWith 15 rfl) rfl ?_
          exact F.1 _ _ _ _ _ rfl rfl (dx dX5_isWorkedWith 16 rfl) rfl ⟨congrArg (fun x => some (vi x)) (show nI 0 = b2i _ by rw [show (wkW v m ps) = false by simp [wkW, eo]]; rfl), rfl⟩)
    · first
      | ((rw [eo] at c3; cases c3); done)
set_option maxHeartbeats 4000000 in
theorem c_X5_hasRoom {l : Launch} {h : Hp} {k : Nat} {v : Vg} (hv : VilAt h k v) (x : Int32) : Mp l yX5_hasRoom cX5_hasRoom 2 (some .boolean) 2 [vr 5 k, vi x] h (vi (b2i (hasRm v x))) := by
  refine Ms.of (by decide) (Nat.le_of_ble_eq_true rfl) (fun G C X F => ?_)
  have C : Cx G cX5_hasRoom 2 RX5 := C
  show Rr G 0 [(0, vr 5 k), (1, vi x)] [] h
  have bP := hv.bP
  have bM := hv.bM
  have bN := hv.bN
  rcases inR_c x (n := vN v) (by omega) with ⟨o, ho, rfl, eo⟩ | eo
  ·
    have hco : (nI o).toNatClampNeg = o := nI_clamp (by omega)
    refine r_aload_n C (dx dX5_hasRoom 0 rfl) rfl ?_
    refine r_iload_n C (dx dX5_hasRoom 1 rfl) rfl ?_
    refine r_cvP (as := [vi (nI o)]) (st := []) (v := vi (b2i (inR (nI o) (vN v)))) C X I_X5_isOne l_X5_67 (c_X5_isOne hv _) (by decide) (Nat.le_of_ble_eq_true rfl) List.prefix_rfl rfl rfl (Nat.le_of_ble_eq_true rfl) rfl (dx dX5_hasRoom 2 rfl) ?_
    refine rb_eq (b := inR (nI o) (vN v)) (tgt := 26) C (dx dX5_hasRoom 3 rfl) (by decide) (fun c1 => ?_) (fun c1 => ?_)
    · first
      | ((rw [eo] at c1; cases c1); done)
      | (
          have c1 : (inR (nI o) (vN v)) = false := c1
          refine r_iconst (v := nI 0) C (dx dX5_hasRoom 14 rfl) rfl ?_
          exact F.1 _ _ _ _ _ rfl rfl (dx dX5_hasRoom 15 rfl) rfl ⟨congrArg (fun x => some (vi x)) (show nI 0 = b2i _ by rw [show (hasRm v (nI o)) = false by simp_all [hasRm]]; rfl), rfl⟩)
    · first
      | ((rw [eo] at c1; cases c1); done)
      | (
          have c1 : (inR (nI o) (vN v)) = true := c1
          refine r_aload_n C (dx dX5_hasRoom 4 rfl) rfl ?_
          refine r_iload_n C (dx dX5_hasRoom 5 rfl) rfl ?_
          refine r_cvP (as := [vi (nI o)]) (st := []) (v := vi (nI (pcs v (nI o) (vP v)))) C X I_X5_piecesOf l_X5_70 (c_X5_piecesOf hv _) (by decide) (Nat.le_of_ble_eq_true rfl) List.prefix_rfl rfl rfl (Nat.le_of_ble_eq_true rfl) rfl (dx dX5_hasRoom 6 rfl) ?_
          refine r_aload_n C (dx dX5_hasRoom 7 rfl) rfl ?_
          refine g_X5_34 C (dx dX5_hasRoom 8 rfl) ?_
          refine r_iload_n C (dx dX5_hasRoom 9 rfl) rfl ?_
          refine r_iald (j := o) (x := vF v 4 o) C rfl rfl (by decide) rfl (by omega) (dx dX5_hasRoom 10 rfl) (hv.e4 (by omega)) ?_
          refine r_icmp_ge (tgt := 26) C (dx dX5_hasRoom 11 rfl) (by decide) (fun c2 => ?_) (fun c2 => ?_)
          · first
            | ((rw [eo] at c2; cases c2); done)
            | (
                have c2 : vF v 4 o ≤ nI (pcs v (nI o) (vP v)) := c2
                refine r_iconst (v := nI 0) C (dx dX5_hasRoom 14 rfl) rfl ?_
                exact F.1 _ _ _ _ _ rfl rfl (dx dX5_hasRoom 15 rfl) rfl ⟨congrArg (fun x => some (vi x)) (show nI 0 = b2i _ by rw [show (hasRm v (nI o)) = false by simp_all [hasRm]]; rfl), rfl⟩)
          · first
            | ((rw [eo] at c2; cases c2); done)
            | (
                have c2 : ¬ vF v 4 o ≤ nI (pcs v (nI o) (vP v)) := c2
                refine r_iconst (v := nI 1) C (dx dX5_hasRoom 12 rfl) rfl ?_
                refine r_goto (tgt := 27) C (dx dX5_hasRoom 13 rfl) (by decide) ?_
                exact F.1 _ _ _ _ _ rfl rfl (dx dX5_hasRoom 15 rfl) rfl ⟨congrArg (fun x => some (vi x)) (show nI 1 = b2i _ by rw [show (hasRm v (nI o)) = true by simp_all [hasRm]]; rfl), rfl⟩))
  ·
    refine r_aload_n C (dx dX5_hasRoom 0 rfl) rfl ?_
    refine r_iload_n C (dx dX5_hasRoom 1 rfl) rfl ?_
    refine r_cvP (as := [vi x]) (st := []) (v := vi (b2i (inR x (vN v)))) C X I_X5_isOne l_X5_67 (c_X5_isOne hv _) (by decide) (Nat.le_of_ble_eq_true rfl) List.prefix_rfl rfl rfl (Nat.le_of_ble_eq_true rfl) rfl (dx dX5_hasRoom 2 rfl) ?_
    refine rb_eq (b := inR x (vN v)) (tgt := 26) C (dx dX5_hasRoom 3 rfl) (by decide) (fun c3 => ?_) (fun c3 => ?_)
    · first
      | ((rw [eo] at c3; cases c3); done)
      | (
          have c3 : (inR x (vN v)) = false := c3
          refine r_iconst (v := nI 0) C (dx dX5_hasRoom 14 rfl) rfl ?_
          exact F.1 _ _ _ _ _ rfl rfl (dx dX5_hasRoom 15 rfl) rfl ⟨congrArg (fun x => some (vi x)) (show nI 0 = b2i _ by rw [show (hasRm v x) = false by simp [hasRm, eo]]; rfl), rfl⟩)
    · first
      | ((rw [eo] at c3; cases c3); done)
set_option maxHeartbeats 4000000 in
theorem c_X5_areBothWorked {l : Launch} {h : Hp} {k : Nat} {v : Vg} (hv : VilAt h k v) (m o : Nat) (s : Int32) (hm : m < vM v) (ho : o < vM v) (hne : m ≠ o) : Mp l yX5_areBothWorked cX5_areBothWorked 5 (some .boolean) 3 [vr 5 k, vi (nI m), vi (nI o), vi s] h (vi (b2i (bothW v m o s))) := by
  refine Ms.of (by decide) (Nat.le_of_ble_eq_true rfl) (fun G C X F => ?_)
  have C : Cx G cX5_areBothWorked 5 RX5 := C
  show Rr G 0 [(0, vr 5 k), (1, vi (nI m)), (2, vi (nI o)), (3, vi s)] [] h
  have bP := hv.bP
  have bM := hv.bM
  have bN := hv.bN
  have ep : pairV v (nI m) (nI o) = true := by simp [pairV, inR_nI (show m < 2 ^ 31 by omega), inR_nI (show o < 2 ^ 31 by omega), hm, ho, nI_eq (show m < 2 ^ 31 by omega) (show o < 2 ^ 31 by omega), hne]
  refine r_aload_n C (dx dX5_areBothWorked 0 rfl) rfl ?_
  refine r_iload_n C (dx dX5_areBothWorked 1 rfl) rfl ?_
  refine r_iload_n C (dx dX5_areBothWorked 2 rfl) rfl ?_
  refine r_cvP (as := [vi (nI m), vi (nI o)]) (st := []) (v := vi (b2i (pairV v (nI m) (nI o)))) C X I_X5_isPair l_X5_81 (c_X5_isPair hv _ _) (by decide) (Nat.le_of_ble_eq_true rfl) List.prefix_rfl rfl rfl (Nat.le_of_ble_eq_true rfl) rfl (dx dX5_areBothWorked 3 rfl) ?_
  refine rb_ne (b := pairV v (nI m) (nI o)) (tgt := 11) C (dx dX5_areBothWorked 4 rfl) (by decide) (fun c1 => ?_) (fun c1 => ?_)
  · first
    | ((rw [ep] at c1; cases c1); done)
    | (
        have c1 : (pairV v (nI m) (nI o)) = true := c1
        refine r_aload_n C (dx dX5_areBothWorked 7 rfl) rfl ?_
        refine g_X5_25 C (dx dX5_areBothWorked 8 rfl) ?_
        refine r_iload_n C (dx dX5_areBothWorked 9 rfl) rfl ?_
        refine r_iald (j := m) (x := vF v 2 m) C rfl rfl (by decide) rfl (by omega) (dx dX5_areBothWorked 10 rfl) (hv.e2 (by omega)) ?_
        refine r_aload_n C (dx dX5_areBothWorked 11 rfl) rfl ?_
        refine g_X5_25 C (dx dX5_areBothWorked 12 rfl) ?_
        refine r_iload_n C (dx dX5_areBothWorked 13 rfl) rfl ?_
        refine r_iald (j := o) (x := vF v 2 o) C rfl rfl (by decide) rfl (by omega) (dx dX5_areBothWorked 14 rfl) (hv.e2 (by omega)) ?_
        refine r_ior C (dx dX5_areBothWorked 15 rfl) ?_
        refine r_aload_n C (dx dX5_areBothWorked 16 rfl) rfl ?_
        refine r_iload_n C (dx dX5_areBothWorked 17 rfl) rfl ?_
        refine r_cvP (as := [vi s]) (st := [vi ((vF v 2 m) ||| (vF v 2 o))]) (v := vi (hasP v s)) C X I_X5_partsWith l_X5_84 (c_X5_partsWith hv _) (by decide) (Nat.le_of_ble_eq_true rfl) List.prefix_rfl rfl rfl (Nat.le_of_ble_eq_true rfl) rfl (dx dX5_areBothWorked 18 rfl) ?_
        refine r_iconst (v := -1) C (dx dX5_areBothWorked 19 rfl) rfl ?_
        refine r_ixor C (dx dX5_areBothWorked 20 rfl) ?_
        refine r_iand C (dx dX5_areBothWorked 21 rfl) ?_
        refine r_if_ne (tgt := 39) C (dx dX5_areBothWorked 22 rfl) (by decide) (fun c2 => ?_) (fun c2 => ?_)
        · first
          | ((rw [ep] at c2; cases c2); done)
          | (
              have c2 : ¬ ((vF v 2 m) ||| (vF v 2 o)) &&& ((hasP v s) ^^^ (-1)) = 0 := c2
              refine r_iconst (v := nI 0) C (dx dX5_areBothWorked 25 rfl) rfl ?_
              refine r_istore (ls' := [(0, vr 5 k), (1, vi (nI m)), (2, vi (nI o)), (3, vi s), (4, vi (nI 0))]) C (dx dX5_areBothWorked 26 rfl) (by decide) [1, 2, 3, 4, 0] rfl ?_
              refine r_iload C (dx dX5_areBothWorked 27 rfl) rfl ?_
              refine r_if_eq (tgt := 75) C (dx dX5_areBothWorked 28 rfl) (by decide) (fun _ => ?_) (fun c3 => (show False from by revert c3; decide).elim)
              refine r_iconst (v := nI 0) C (dx dX5_areBothWorked 47 rfl) rfl ?_
              exact F.1 _ _ _ _ _ rfl rfl (dx dX5_areBothWorked 48 rfl) rfl ⟨congrArg (fun x => some (vi x)) (show nI 0 = b2i _ by rw [show (bothW v m o s) = false by simp_all [bothW]]; rfl), rfl⟩)
        · first
          | ((rw [ep] at c2; cases c2); done)
          | (
              have c2 : ((vF v 2 m) ||| (vF v 2 o)) &&& ((hasP v s) ^^^ (-1)) = 0 := c2
              refine r_iconst (v := nI 1) C (dx dX5_areBothWorked 23 rfl) rfl ?_
              refine r_goto (tgt := 40) C (dx dX5_areBothWorked 24 rfl) (by decide) ?_
              refine r_istore (ls' := [(0, vr 5 k), (1, vi (nI m)), (2, vi (nI o)), (3, vi s), (4, vi (nI 1))]) C (dx dX5_areBothWorked 26 rfl) (by decide) [1, 2, 3, 4, 0] rfl ?_
              refine r_iload C (dx dX5_areBothWorked 27 rfl) rfl ?_
              refine r_if_eq (tgt := 75) C (dx dX5_areBothWorked 28 rfl) (by decide) (fun c4 => (show False from by revert c4; decide).elim) (fun _ => ?_)
              refine r_aload_n C (dx dX5_areBothWorked 29 rfl) rfl ?_
              refine g_X5_25 C (dx dX5_areBothWorked 30 rfl) ?_
              refine r_iload_n C (dx dX5_areBothWorked 31 rfl) rfl ?_
              refine r_iald (j := m) (x := vF v 2 m) C rfl rfl (by decide) rfl (by omega) (dx dX5_areBothWorked 32 rfl) (hv.e2 (by omega)) ?_
              refine r_aload_n C (dx dX5_areBothWorked 33 rfl) rfl ?_
              refine g_X5_25 C (dx dX5_areBothWorked 34 rfl) ?_
              refine r_iload_n C (dx dX5_areBothWorked 35 rfl) rfl ?_
              refine r_iald (j := o) (x := vF v 2 o) C rfl rfl (by decide) rfl (by omega) (dx dX5_areBothWorked 36 rfl) (hv.e2 (by omega)) ?_
              refine r_iand C (dx dX5_areBothWorked 37 rfl) ?_
              refine r_aload_n C (dx dX5_areBothWorked 38 rfl) rfl ?_
              refine r_iload_n C (dx dX5_areBothWorked 39 rfl) rfl ?_
              refine r_cvP (as := [vi s]) (st := [vi ((vF v 2 m) &&& (vF v 2 o))]) (v := vi (dblP v s)) C X I_X5_doublesWith l_X5_87 (c_X5_doublesWith hv _) (by decide) (Nat.le_of_ble_eq_true rfl) List.prefix_rfl rfl rfl (Nat.le_of_ble_eq_true rfl) rfl (dx dX5_areBothWorked 40 rfl) ?_
              refine r_iconst (v := -1) C (dx dX5_areBothWorked 41 rfl) rfl ?_
              refine r_ixor C (dx dX5_areBothWorked 42 rfl) ?_
              refine r_iand C (dx dX5_areBothWorked 43 rfl) ?_
              refine r_if_ne (tgt := 75) C (dx dX5_areBothWorked 44 rfl) (by decide) (fun c5 => ?_) (fun c5 => ?_)
              · first
                | ((rw [ep] at c5; cases c5); done)
                | (
                    have c5 : ¬ ((vF v 2 m) &&& (vF v 2 o)) &&& ((dblP v s) ^^^ (-1)) = 0 := c5
                    refine r_iconst (v := nI 0) C (dx dX5_areBothWorked 47 rfl) rfl ?_
                    exact F.1 _ _ _ _ _ rfl rfl (dx dX5_areBothWorked 48 rfl) rfl ⟨congrArg (fun x => some (vi x)) (show nI 0 = b2i _ by rw [show (bothW v m o s) = false by simp_all [bothW]]; rfl), rfl⟩)
              · first
                | ((rw [ep] at c5; cases c5); done)
                | (
                    have c5 : ((vF v 2 m) &&& (vF v 2 o)) &&& ((dblP v s) ^^^ (-1)) = 0 := c5
                    refine r_iconst (v := nI 1) C (dx dX5_areBothWorked 45 rfl) rfl ?_
                    refine r_goto (tgt := 76) C (dx dX5_areBothWorked 46 rfl) (by decide) ?_
                    exact F.1 _ _ _ _ _ rfl rfl (dx dX5_areBothWorked 48 rfl) rfl ⟨congrArg (fun x => some (vi x)) (show nI 1 = b2i _ by rw [show (bothW v m o s) = true by simp_all [bothW]]; rfl), rfl⟩)))
  · first
    | ((rw [ep] at c1; cases c1); done)
    | (
        have c1 : (pairV v (nI m) (nI o)) = false := c1
        refine r_iconst (v := nI 0) C (dx dX5_areBothWorked 5 rfl) rfl ?_
        exact F.1 _ _ _ _ _ rfl rfl (dx dX5_areBothWorked 6 rfl) rfl ⟨congrArg (fun x => some (vi x)) (show nI 0 = b2i _ by rw [show (bothW v m o s) = false by simp_all [bothW]]; rfl), rfl⟩)
end
section
/-! PART 08: what a store makes of a village; frames -/
def vset (v : Vg) (c i : Nat) (x : Int32) : Vg := (vP v, vM v, vN v, fun c' i' => if c' = c then (if i' = i then x else vF v c' i') else vF v c' i', vS v)
def vcp (u : Vg) (c : Nat) (v : Vg) : Vg := (vP u, vM u, vN u, fun c' i' => if c' = c then vF v c' i' else vF u c' i', vS u)
def vsP (v : Vg) (n : Nat) : Vg := (n, vM v, vN v, vF v, vS v)
def vsM (v : Vg) (n : Nat) : Vg := (vP v, n, vN v, vF v, vS v)
def vsN (v : Vg) (n : Nat) : Vg := (vP v, vM v, n, vF v, vS v)
def vsS (v : Vg) (x : Int32) : Vg := (vP v, vM v, vN v, vF v, x)
theorem sI_ne {h : Hp} {a j b i : Nat} {x : Int32} (hb : b ≠ a) : xI (sI h a j x) b i = xI h b i := by simp [sI, xI, hb]
theorem sI_at {h : Hp} {a j i : Nat} {x : Int32} : xI (sI h a j x) a i = if i = j then x else xI h a i := by simp [sI, xI, upd]
theorem cpI_ne {h : Hp} {a0 a sp dp n b i : Nat} (hb : b ≠ a) : xI (cpI h a0 a sp dp n) b i = xI h b i := by simp [cpI, xI, hb]
theorem cpI_at {h : Hp} {a0 a n i : Nat} (hi : i < n) : xI (cpI h a0 a 0 0 n) a i = xI h a0 i := by simp [cpI, xI, va_cpy, hi]
theorem sL_ne {h : Hp} {a j b i : Nat} {x : Int64} (hb : b ≠ a) : xL (sL h a j x) b i = xL h b i := by simp [sL, xL, hb]
theorem sL_at {h : Hp} {a j i : Nat} {x : Int64} : xL (sL h a j x) a i = if i = j then x else xL h a i := by simp [sL, xL, vp_updL]
/-- nothing outside lo .. hi - 1 has changed -/
def Fr (lo hi : Nat) (h h' : Hp) : Prop := ∀ b, (b < lo ∨ hi ≤ b) → xI h' b = xI h b ∧ xL h' b = xL h b ∧ xN h' b = xN h b
theorem Fr.rf {lo hi : Nat} {h : Hp} : Fr lo hi h h := fun _ _ => ⟨rfl, rfl, rfl⟩
theorem Fr.tr {lo hi : Nat} {h h1 h2 : Hp} (a : Fr lo hi h h1) (b : Fr lo hi h1 h2) : Fr lo hi h h2 := fun q hq => ⟨(b q hq).1.trans (a q hq).1, (b q hq).2.1.trans (a q hq).2.1, (b q hq).2.2.trans (a q hq).2.2⟩
theorem Fr.mono {lo hi lo' hi' : Nat} {h h1 : Hp} (a : Fr lo hi h h1) (h1' : lo' ≤ lo) (h2' : hi ≤ hi') : Fr lo' hi' h h1 := fun q hq => a q (by omega)
theorem Fr.sI {lo hi a j : Nat} {h : Hp} {x : Int32} (h1 : lo ≤ a) (h2 : a < hi) : Fr lo hi h (sI h a j x) := fun b hb => oth_sI b (by omega)
theorem Fr.sL {lo hi a j : Nat} {h : Hp} {x : Int64} (h1 : lo ≤ a) (h2 : a < hi) : Fr lo hi h (sL h a j x) := fun b hb => oth_sL b (by omega)
theorem Fr.cpI {lo hi a0 a sp dp n : Nat} {h : Hp} (h1 : lo ≤ a) (h2 : a < hi) : Fr lo hi h (cpI h a0 a sp dp n) := fun b hb => oth_cpI b (by omega)
theorem Fr.I {lo hi : Nat} {h h1 : Hp} (a : Fr lo hi h h1) {b : Nat} (hb : b < lo ∨ hi ≤ b) (i : Nat) : xI h1 b i = xI h b i := by rw [(a b hb).1]
theorem Fr.L {lo hi : Nat} {h h1 : Hp} (a : Fr lo hi h h1) {b : Nat} (hb : b < lo ∨ hi ≤ b) (i : Nat) : xL h1 b i = xL h b i := by rw [(a b hb).2.1]
theorem Fr.N {lo hi : Nat} {h h1 : Hp} (a : Fr lo hi h h1) {b : Nat} (hb : b < lo ∨ hi ≤ b) (i : Nat) : xN h1 b i = xN h b i := by rw [(a b hb).2.2]
theorem VilAt.fr {lo hi k : Nat} {h h1 : Hp} {v : Vg} (a : VilAt h k v) (f : Fr lo hi h h1) (hk : k + 9 ≤ lo ∨ hi ≤ k) : VilAt h1 k v := by
  refine ⟨(f.I (by omega) _).trans a.eP, (f.I (by omega) _).trans a.eM, (f.I (by omega) _).trans a.eN, (f.I (by omega) _).trans a.eS, fun i hi => (f.I (by omega) _).trans (a.e0 hi), fun i hi => (f.I (by omega) _).trans (a.e1 hi), fun i hi => (f.I (by omega) _).trans (a.e2 hi), fun i hi => (f.I (by omega) _).trans (a.e3 hi), fun i hi => (f.I (by omega) _).trans (a.e4 hi), fun i hi => (f.I (by omega) _).trans (a.e5 hi), fun i hi => (f.I (by omega) _).trans (a.e6 hi), fun i hi => (f.I (by omega) _).trans (a.e7 hi), a.bP, a.bM, a.bN, fun i hi => a.bC hi⟩
theorem VilAt.s0 {h : Hp} {k i : Nat} {v : Vg} {x : Int32} (a : VilAt h k v) : VilAt (sI h (k + 1) i x) k (vset v 0 i x) := by
  refine ⟨by rw [sI_ne (by omega)]; exact a.eP, by rw [sI_ne (by omega)]; exact a.eM, by rw [sI_ne (by omega)]; exact a.eN, by rw [sI_ne (by omega)]; exact a.eS, fun q hq => by rw [sI_at, a.e0 hq]; rfl, fun q hq => by rw [sI_ne (by omega), a.e1 hq]; rfl, fun q hq => by rw [sI_ne (by omega), a.e2 hq]; rfl, fun q hq => by rw [sI_ne (by omega), a.e3 hq]; rfl, fun q hq => by rw [sI_ne (by omega), a.e4 hq]; rfl, fun q hq => by rw [sI_ne (by omega), a.e5 hq]; rfl, fun q hq => by rw [sI_ne (by omega), a.e6 hq]; rfl, fun q hq => by rw [sI_ne (by omega), a.e7 hq]; rfl, a.bP, a.bM, a.bN, fun q hq => a.bC hq⟩
theorem VilAt.c0 {h : Hp} {k k2 : Nat} {u v : Vg} (a : VilAt h k u) (b : VilAt h k2 v) : VilAt (cpI h (k2 + 1) (k + 1) 0 0 12) k (vcp u 0 v) := by
  refine ⟨by rw [cpI_ne (by omega)]; exact a.eP, by rw [cpI_ne (by omega)]; exact a.eM, by rw [cpI_ne (by omega)]; exact a.eN, by rw [cpI_ne (by omega)]; exact a.eS, fun q hq => by rw [cpI_at hq, b.e0 hq]; rfl, fun q hq => by rw [cpI_ne (by omega), a.e1 hq]; rfl, fun q hq => by rw [cpI_ne (by omega), a.e2 hq]; rfl, fun q hq => by rw [cpI_ne (by omega), a.e3 hq]; rfl, fun q hq => by rw [cpI_ne (by omega), a.e4 hq]; rfl, fun q hq => by rw [cpI_ne (by omega), a.e5 hq]; rfl, fun q hq => by rw [cpI_ne (by omega), a.e6 hq]; rfl, fun q hq => by rw [cpI_ne (by omega), a.e7 hq]; rfl, a.bP, a.bM, a.bN, fun q hq => a.bC hq⟩
theorem VilAt.s1 {h : Hp} {k i : Nat} {v : Vg} {x : Int32} (a : VilAt h k v) : VilAt (sI h (k + 2) i x) k (vset v 1 i x) := by
  refine ⟨by rw [sI_ne (by omega)]; exact a.eP, by rw [sI_ne (by omega)]; exact a.eM, by rw [sI_ne (by omega)]; exact a.eN, by rw [sI_ne (by omega)]; exact a.eS, fun q hq => by rw [sI_ne (by omega), a.e0 hq]; rfl, fun q hq => by rw [sI_at, a.e1 hq]; rfl, fun q hq => by rw [sI_ne (by omega), a.e2 hq]; rfl, fun q hq => by rw [sI_ne (by omega), a.e3 hq]; rfl, fun q hq => by rw [sI_ne (by omega), a.e4 hq]; rfl, fun q hq => by rw [sI_ne (by omega), a.e5 hq]; rfl, fun q hq => by rw [sI_ne (by omega), a.e6 hq]; rfl, fun q hq => by rw [sI_ne (by omega), a.e7 hq]; rfl, a.bP, a.bM, a.bN, fun q hq => a.bC hq⟩
theorem VilAt.c1 {h : Hp} {k k2 : Nat} {u v : Vg} (a : VilAt h k u) (b : VilAt h k2 v) : VilAt (cpI h (k2 + 2) (k + 2) 0 0 12) k (vcp u 1 v) := by
  refine ⟨by rw [cpI_ne (by omega)]; exact a.eP, by rw [cpI_ne (by omega)]; exact a.eM, by rw [cpI_ne (by omega)]; exact a.eN, by rw [cpI_ne (by omega)]; exact a.eS, fun q hq => by rw [cpI_ne (by omega), a.e0 hq]; rfl, fun q hq => by rw [cpI_at hq, b.e1 hq]; rfl, fun q hq => by rw [cpI_ne (by omega), a.e2 hq]; rfl, fun q hq => by rw [cpI_ne (by omega), a.e3 hq]; rfl, fun q hq => by rw [cpI_ne (by omega), a.e4 hq]; rfl, fun q hq => by rw [cpI_ne (by omega), a.e5 hq]; rfl, fun q hq => by rw [cpI_ne (by omega), a.e6 hq]; rfl, fun q hq => by rw [cpI_ne (by omega), a.e7 hq]; rfl, a.bP, a.bM, a.bN, fun q hq => a.bC hq⟩
theorem VilAt.s2 {h : Hp} {k i : Nat} {v : Vg} {x : Int32} (a : VilAt h k v) : VilAt (sI h (k + 3) i x) k (vset v 2 i x) := by
  refine ⟨by rw [sI_ne (by omega)]; exact a.eP, by rw [sI_ne (by omega)]; exact a.eM, by rw [sI_ne (by omega)]; exact a.eN, by rw [sI_ne (by omega)]; exact a.eS, fun q hq => by rw [sI_ne (by omega), a.e0 hq]; rfl, fun q hq => by rw [sI_ne (by omega), a.e1 hq]; rfl, fun q hq => by rw [sI_at, a.e2 hq]; rfl, fun q hq => by rw [sI_ne (by omega), a.e3 hq]; rfl, fun q hq => by rw [sI_ne (by omega), a.e4 hq]; rfl, fun q hq => by rw [sI_ne (by omega), a.e5 hq]; rfl, fun q hq => by rw [sI_ne (by omega), a.e6 hq]; rfl, fun q hq => by rw [sI_ne (by omega), a.e7 hq]; rfl, a.bP, a.bM, a.bN, fun q hq => a.bC hq⟩
theorem VilAt.c2 {h : Hp} {k k2 : Nat} {u v : Vg} (a : VilAt h k u) (b : VilAt h k2 v) : VilAt (cpI h (k2 + 3) (k + 3) 0 0 6) k (vcp u 2 v) := by
  refine ⟨by rw [cpI_ne (by omega)]; exact a.eP, by rw [cpI_ne (by omega)]; exact a.eM, by rw [cpI_ne (by omega)]; exact a.eN, by rw [cpI_ne (by omega)]; exact a.eS, fun q hq => by rw [cpI_ne (by omega), a.e0 hq]; rfl, fun q hq => by rw [cpI_ne (by omega), a.e1 hq]; rfl, fun q hq => by rw [cpI_at hq, b.e2 hq]; rfl, fun q hq => by rw [cpI_ne (by omega), a.e3 hq]; rfl, fun q hq => by rw [cpI_ne (by omega), a.e4 hq]; rfl, fun q hq => by rw [cpI_ne (by omega), a.e5 hq]; rfl, fun q hq => by rw [cpI_ne (by omega), a.e6 hq]; rfl, fun q hq => by rw [cpI_ne (by omega), a.e7 hq]; rfl, a.bP, a.bM, a.bN, fun q hq => a.bC hq⟩
theorem VilAt.s3 {h : Hp} {k i : Nat} {v : Vg} {x : Int32} (a : VilAt h k v) : VilAt (sI h (k + 4) i x) k (vset v 3 i x) := by
  refine ⟨by rw [sI_ne (by omega)]; exact a.eP, by rw [sI_ne (by omega)]; exact a.eM, by rw [sI_ne (by omega)]; exact a.eN, by rw [sI_ne (by omega)]; exact a.eS, fun q hq => by rw [sI_ne (by omega), a.e0 hq]; rfl, fun q hq => by rw [sI_ne (by omega), a.e1 hq]; rfl, fun q hq => by rw [sI_ne (by omega), a.e2 hq]; rfl, fun q hq => by rw [sI_at, a.e3 hq]; rfl, fun q hq => by rw [sI_ne (by omega), a.e4 hq]; rfl, fun q hq => by rw [sI_ne (by omega), a.e5 hq]; rfl, fun q hq => by rw [sI_ne (by omega), a.e6 hq]; rfl, fun q hq => by rw [sI_ne (by omega), a.e7 hq]; rfl, a.bP, a.bM, a.bN, fun q hq => a.bC hq⟩
theorem VilAt.c3 {h : Hp} {k k2 : Nat} {u v : Vg} (a : VilAt h k u) (b : VilAt h k2 v) : VilAt (cpI h (k2 + 4) (k + 4) 0 0 6) k (vcp u 3 v) := by
  refine ⟨by rw [cpI_ne (by omega)]; exact a.eP, by rw [cpI_ne (by omega)]; exact a.eM, by rw [cpI_ne (by omega)]; exact a.eN, by rw [cpI_ne (by omega)]; exact a.eS, fun q hq => by rw [cpI_ne (by omega), a.e0 hq]; rfl, fun q hq => by rw [cpI_ne (by omega), a.e1 hq]; rfl, fun q hq => by rw [cpI_ne (by omega), a.e2 hq]; rfl, fun q hq => by rw [cpI_at hq, b.e3 hq]; rfl, fun q hq => by rw [cpI_ne (by omega), a.e4 hq]; rfl, fun q hq => by rw [cpI_ne (by omega), a.e5 hq]; rfl, fun q hq => by rw [cpI_ne (by omega), a.e6 hq]; rfl, fun q hq => by rw [cpI_ne (by omega), a.e7 hq]; rfl, a.bP, a.bM, a.bN, fun q hq => a.bC hq⟩
theorem VilAt.s4 {h : Hp} {k i : Nat} {v : Vg} {x : Int32} (a : VilAt h k v) : VilAt (sI h (k + 5) i x) k (vset v 4 i x) := by
  refine ⟨by rw [sI_ne (by omega)]; exact a.eP, by rw [sI_ne (by omega)]; exact a.eM, by rw [sI_ne (by omega)]; exact a.eN, by rw [sI_ne (by omega)]; exact a.eS, fun q hq => by rw [sI_ne (by omega), a.e0 hq]; rfl, fun q hq => by rw [sI_ne (by omega), a.e1 hq]; rfl, fun q hq => by rw [sI_ne (by omega), a.e2 hq]; rfl, fun q hq => by rw [sI_ne (by omega), a.e3 hq]; rfl, fun q hq => by rw [sI_at, a.e4 hq]; rfl, fun q hq => by rw [sI_ne (by omega), a.e5 hq]; rfl, fun q hq => by rw [sI_ne (by omega), a.e6 hq]; rfl, fun q hq => by rw [sI_ne (by omega), a.e7 hq]; rfl, a.bP, a.bM, a.bN, fun q hq => a.bC hq⟩
theorem VilAt.c4 {h : Hp} {k k2 : Nat} {u v : Vg} (a : VilAt h k u) (b : VilAt h k2 v) : VilAt (cpI h (k2 + 5) (k + 5) 0 0 8) k (vcp u 4 v) := by
  refine ⟨by rw [cpI_ne (by omega)]; exact a.eP, by rw [cpI_ne (by omega)]; exact a.eM, by rw [cpI_ne (by omega)]; exact a.eN, by rw [cpI_ne (by omega)]; exact a.eS, fun q hq => by rw [cpI_ne (by omega), a.e0 hq]; rfl, fun q hq => by rw [cpI_ne (by omega), a.e1 hq]; rfl, fun q hq => by rw [cpI_ne (by omega), a.e2 hq]; rfl, fun q hq => by rw [cpI_ne (by omega), a.e3 hq]; rfl, fun q hq => by rw [cpI_at hq, b.e4 hq]; rfl, fun q hq => by rw [cpI_ne (by omega), a.e5 hq]; rfl, fun q hq => by rw [cpI_ne (by omega), a.e6 hq]; rfl, fun q hq => by rw [cpI_ne (by omega), a.e7 hq]; rfl, a.bP, a.bM, a.bN, fun q hq => a.bC hq⟩
theorem VilAt.s5 {h : Hp} {k i : Nat} {v : Vg} {x : Int32} (a : VilAt h k v) : VilAt (sI h (k + 6) i x) k (vset v 5 i x) := by
  refine ⟨by rw [sI_ne (by omega)]; exact a.eP, by rw [sI_ne (by omega)]; exact a.eM, by rw [sI_ne (by omega)]; exact a.eN, by rw [sI_ne (by omega)]; exact a.eS, fun q hq => by rw [sI_ne (by omega), a.e0 hq]; rfl, fun q hq => by rw [sI_ne (by omega), a.e1 hq]; rfl, fun q hq => by rw [sI_ne (by omega), a.e2 hq]; rfl, fun q hq => by rw [sI_ne (by omega), a.e3 hq]; rfl, fun q hq => by rw [sI_ne (by omega), a.e4 hq]; rfl, fun q hq => by rw [sI_at, a.e5 hq]; rfl, fun q hq => by rw [sI_ne (by omega), a.e6 hq]; rfl, fun q hq => by rw [sI_ne (by omega), a.e7 hq]; rfl, a.bP, a.bM, a.bN, fun q hq => a.bC hq⟩
theorem VilAt.c5 {h : Hp} {k k2 : Nat} {u v : Vg} (a : VilAt h k u) (b : VilAt h k2 v) : VilAt (cpI h (k2 + 6) (k + 6) 0 0 8) k (vcp u 5 v) := by
  refine ⟨by rw [cpI_ne (by omega)]; exact a.eP, by rw [cpI_ne (by omega)]; exact a.eM, by rw [cpI_ne (by omega)]; exact a.eN, by rw [cpI_ne (by omega)]; exact a.eS, fun q hq => by rw [cpI_ne (by omega), a.e0 hq]; rfl, fun q hq => by rw [cpI_ne (by omega), a.e1 hq]; rfl, fun q hq => by rw [cpI_ne (by omega), a.e2 hq]; rfl, fun q hq => by rw [cpI_ne (by omega), a.e3 hq]; rfl, fun q hq => by rw [cpI_ne (by omega), a.e4 hq]; rfl, fun q hq => by rw [cpI_at hq, b.e5 hq]; rfl, fun q hq => by rw [cpI_ne (by omega), a.e6 hq]; rfl, fun q hq => by rw [cpI_ne (by omega), a.e7 hq]; rfl, a.bP, a.bM, a.bN, fun q hq => a.bC hq⟩
theorem VilAt.s6 {h : Hp} {k i : Nat} {v : Vg} {x : Int32} (a : VilAt h k v) (hx : fits .boolean (.int x) = true) : VilAt (sI h (k + 7) i x) k (vset v 6 i x) := by
  refine ⟨by rw [sI_ne (by omega)]; exact a.eP, by rw [sI_ne (by omega)]; exact a.eM, by rw [sI_ne (by omega)]; exact a.eN, by rw [sI_ne (by omega)]; exact a.eS, fun q hq => by rw [sI_ne (by omega), a.e0 hq]; rfl, fun q hq => by rw [sI_ne (by omega), a.e1 hq]; rfl, fun q hq => by rw [sI_ne (by omega), a.e2 hq]; rfl, fun q hq => by rw [sI_ne (by omega), a.e3 hq]; rfl, fun q hq => by rw [sI_ne (by omega), a.e4 hq]; rfl, fun q hq => by rw [sI_ne (by omega), a.e5 hq]; rfl, fun q hq => by rw [sI_at, a.e6 hq]; rfl, fun q hq => by rw [sI_ne (by omega), a.e7 hq]; rfl, a.bP, a.bM, a.bN, fun q hq => by show fits .boolean (.int (if q = i then x else vF v 6 q)) = true; split; exact hx; exact a.bC hq⟩
theorem VilAt.c6 {h : Hp} {k k2 : Nat} {u v : Vg} (a : VilAt h k u) (b : VilAt h k2 v) : VilAt (cpI h (k2 + 7) (k + 7) 0 0 8) k (vcp u 6 v) := by
  refine ⟨by rw [cpI_ne (by omega)]; exact a.eP, by rw [cpI_ne (by omega)]; exact a.eM, by rw [cpI_ne (by omega)]; exact a.eN, by rw [cpI_ne (by omega)]; exact a.eS, fun q hq => by rw [cpI_ne (by omega), a.e0 hq]; rfl, fun q hq => by rw [cpI_ne (by omega), a.e1 hq]; rfl, fun q hq => by rw [cpI_ne (by omega), a.e2 hq]; rfl, fun q hq => by rw [cpI_ne (by omega), a.e3 hq]; rfl, fun q hq => by rw [cpI_ne (by omega), a.e4 hq]; rfl, fun q hq => by rw [cpI_ne (by omega), a.e5 hq]; rfl, fun q hq => by rw [cpI_at hq, b.e6 hq]; rfl, fun q hq => by rw [cpI_ne (by omega), a.e7 hq]; rfl, a.bP, a.bM, a.bN, fun q hq => b.bC hq⟩
theorem VilAt.s7 {h : Hp} {k i : Nat} {v : Vg} {x : Int32} (a : VilAt h k v) : VilAt (sI h (k + 8) i x) k (vset v 7 i x) := by
  refine ⟨by rw [sI_ne (by omega)]; exact a.eP, by rw [sI_ne (by omega)]; exact a.eM, by rw [sI_ne (by omega)]; exact a.eN, by rw [sI_ne (by omega)]; exact a.eS, fun q hq => by rw [sI_ne (by omega), a.e0 hq]; rfl, fun q hq => by rw [sI_ne (by omega), a.e1 hq]; rfl, fun q hq => by rw [sI_ne (by omega), a.e2 hq]; rfl, fun q hq => by rw [sI_ne (by omega), a.e3 hq]; rfl, fun q hq => by rw [sI_ne (by omega), a.e4 hq]; rfl, fun q hq => by rw [sI_ne (by omega), a.e5 hq]; rfl, fun q hq => by rw [sI_ne (by omega), a.e6 hq]; rfl, fun q hq => by rw [sI_at, a.e7 hq]; rfl, a.bP, a.bM, a.bN, fun q hq => a.bC hq⟩
theorem VilAt.c7 {h : Hp} {k k2 : Nat} {u v : Vg} (a : VilAt h k u) (b : VilAt h k2 v) : VilAt (cpI h (k2 + 8) (k + 8) 0 0 8) k (vcp u 7 v) := by
  refine ⟨by rw [cpI_ne (by omega)]; exact a.eP, by rw [cpI_ne (by omega)]; exact a.eM, by rw [cpI_ne (by omega)]; exact a.eN, by rw [cpI_ne (by omega)]; exact a.eS, fun q hq => by rw [cpI_ne (by omega), a.e0 hq]; rfl, fun q hq => by rw [cpI_ne (by omega), a.e1 hq]; rfl, fun q hq => by rw [cpI_ne (by omega), a.e2 hq]; rfl, fun q hq => by rw [cpI_ne (by omega), a.e3 hq]; rfl, fun q hq => by rw [cpI_ne (by omega), a.e4 hq]; rfl, fun q hq => by rw [cpI_ne (by omega), a.e5 hq]; rfl, fun q hq => by rw [cpI_ne (by omega), a.e6 hq]; rfl, fun q hq => by rw [cpI_at hq, b.e7 hq]; rfl, a.bP, a.bM, a.bN, fun q hq => a.bC hq⟩
theorem VilAt.sP {h : Hp} {k n : Nat} {v : Vg} (a : VilAt h k v) (hn : n ≤ 12) : VilAt (sI h k 0 (nI n)) k (vsP v n) := by
  exact ⟨by rw [sI_at, if_pos rfl]; rfl, by rw [sI_at, if_neg (by decide)]; exact a.eM, by rw [sI_at, if_neg (by decide)]; exact a.eN, by rw [sI_at, if_neg (by decide)]; exact a.eS, fun q hq => by rw [sI_ne (by omega), a.e0 hq]; rfl, fun q hq => by rw [sI_ne (by omega), a.e1 hq]; rfl, fun q hq => by rw [sI_ne (by omega), a.e2 hq]; rfl, fun q hq => by rw [sI_ne (by omega), a.e3 hq]; rfl, fun q hq => by rw [sI_ne (by omega), a.e4 hq]; rfl, fun q hq => by rw [sI_ne (by omega), a.e5 hq]; rfl, fun q hq => by rw [sI_ne (by omega), a.e6 hq]; rfl, fun q hq => by rw [sI_ne (by omega), a.e7 hq]; rfl, hn, a.bM, a.bN, fun q hq => a.bC hq⟩
theorem VilAt.sM {h : Hp} {k n : Nat} {v : Vg} (a : VilAt h k v) (hn : n ≤ 6) : VilAt (sI h k 3 (nI n)) k (vsM v n) := by
  exact ⟨by rw [sI_at, if_neg (by decide)]; exact a.eP, by rw [sI_at, if_pos rfl]; rfl, by rw [sI_at, if_neg (by decide)]; exact a.eN, by rw [sI_at, if_neg (by decide)]; exact a.eS, fun q hq => by rw [sI_ne (by omega), a.e0 hq]; rfl, fun q hq => by rw [sI_ne (by omega), a.e1 hq]; rfl, fun q hq => by rw [sI_ne (by omega), a.e2 hq]; rfl, fun q hq => by rw [sI_ne (by omega), a.e3 hq]; rfl, fun q hq => by rw [sI_ne (by omega), a.e4 hq]; rfl, fun q hq => by rw [sI_ne (by omega), a.e5 hq]; rfl, fun q hq => by rw [sI_ne (by omega), a.e6 hq]; rfl, fun q hq => by rw [sI_ne (by omega), a.e7 hq]; rfl, a.bP, hn, a.bN, fun q hq => a.bC hq⟩
theorem VilAt.sN {h : Hp} {k n : Nat} {v : Vg} (a : VilAt h k v) (hn : n ≤ 8) : VilAt (sI h k 6 (nI n)) k (vsN v n) := by
  exact ⟨by rw [sI_at, if_neg (by decide)]; exact a.eP, by rw [sI_at, if_neg (by decide)]; exact a.eM, by rw [sI_at, if_pos rfl]; rfl, by rw [sI_at, if_neg (by decide)]; exact a.eS, fun q hq => by rw [sI_ne (by omega), a.e0 hq]; rfl, fun q hq => by rw [sI_ne (by omega), a.e1 hq]; rfl, fun q hq => by rw [sI_ne (by omega), a.e2 hq]; rfl, fun q hq => by rw [sI_ne (by omega), a.e3 hq]; rfl, fun q hq => by rw [sI_ne (by omega), a.e4 hq]; rfl, fun q hq => by rw [sI_ne (by omega), a.e5 hq]; rfl, fun q hq => by rw [sI_ne (by omega), a.e6 hq]; rfl, fun q hq => by rw [sI_ne (by omega), a.e7 hq]; rfl, a.bP, a.bM, hn, fun q hq => a.bC hq⟩
theorem VilAt.sS {h : Hp} {k : Nat} {v : Vg} {x : Int32} (a : VilAt h k v) : VilAt (sI h k 11 x) k (vsS v x) := by
  exact ⟨by rw [sI_at, if_neg (by decide)]; exact a.eP, by rw [sI_at, if_neg (by decide)]; exact a.eM, by rw [sI_at, if_neg (by decide)]; exact a.eN, by rw [sI_at, if_pos rfl]; rfl, fun q hq => by rw [sI_ne (by omega), a.e0 hq]; rfl, fun q hq => by rw [sI_ne (by omega), a.e1 hq]; rfl, fun q hq => by rw [sI_ne (by omega), a.e2 hq]; rfl, fun q hq => by rw [sI_ne (by omega), a.e3 hq]; rfl, fun q hq => by rw [sI_ne (by omega), a.e4 hq]; rfl, fun q hq => by rw [sI_ne (by omega), a.e5 hq]; rfl, fun q hq => by rw [sI_ne (by omega), a.e6 hq]; rfl, fun q hq => by rw [sI_ne (by omega), a.e7 hq]; rfl, a.bP, a.bM, a.bN, fun q hq => a.bC hq⟩
theorem pfx_eq {a b : List Nat} (h : a = b) : a <+: b := h ▸ List.prefix_rfl
/-- contracts of methods that write in one village -/
abbrev Mw (l : Launch) (y : MethodName) (cc : ByteArray) (nL : Nat) (ret : Option FieldType) (d : Nat) (as : List V) (h : Hp) (r0 : Option V) (k : Nat) (v' : Vg) : Prop := Ms l y cc nL ret d as h (xK h) (fun r h' => r = r0 ∧ VilAt h' k v' ∧ Fr k (k + 9) h h')
def addPartV (v : Vg) : Vg := vsP (vset (vset v 0 (vP v) (-1)) 1 (vP v) (-1)) (vP v + 1)
def addMacV (v : Vg) (x w : Int32) : Vg := vsM (vset (vset v 2 (vM v) x) 3 (vM v) w) (vM v + 1)
def addOneV (v : Vg) (x w : Int32) : Vg := vsN (vset (vset (vset (vset v 4 (vN v) x) 5 (vN v) w) 6 (vN v) 0) 7 (vN v) 0) (vN v + 1)
theorem VilAt.to {h : Hp} {k : Nat} {u v : Vg} (a : VilAt h k u) (h1 : vP u = vP v) (h2 : vM u = vM v) (h3 : vN u = vN v) (h4 : ∀ c i, c < 8 → vF u c i = vF v c i) (h5 : vS u = vS v) : VilAt h k v := by
  refine ⟨by rw [← h1]; exact a.eP, by rw [← h2]; exact a.eM, by rw [← h3]; exact a.eN, by rw [← h5]; exact a.eS, fun i hi => by rw [← h4 _ _ (by decide)]; exact a.e0 hi, fun i hi => by rw [← h4 _ _ (by decide)]; exact a.e1 hi, fun i hi => by rw [← h4 _ _ (by decide)]; exact a.e2 hi, fun i hi => by rw [← h4 _ _ (by decide)]; exact a.e3 hi, fun i hi => by rw [← h4 _ _ (by decide)]; exact a.e4 hi, fun i hi => by rw [← h4 _ _ (by decide)]; exact a.e5 hi, fun i hi => by rw [← h4 _ _ (by decide)]; exact a.e6 hi, fun i hi => by rw [← h4 _ _ (by decide)]; exact a.e7 hi, by rw [← h1]; exact a.bP, by rw [← h2]; exact a.bM, by rw [← h3]; exact a.bN, fun i hi => by rw [← h4 _ _ (by decide)]; exact a.bC hi⟩
theorem c8 {P : Nat → Prop} (h0 : P 0) (h1 : P 1) (h2 : P 2) (h3 : P 3) (h4 : P 4) (h5 : P 5) (h6 : P 6) (h7 : P 7) : ∀ c, c < 8 → P c := fun c hc => by
  match c, hc with
  | 0, _ => exact h0
  | 1, _ => exact h1
  | 2, _ => exact h2
  | 3, _ => exact h3
  | 4, _ => exact h4
  | 5, _ => exact h5
  | 6, _ => exact h6
  | 7, _ => exact h7
  | n + 8, h => omega
theorem vg_ext {a b : Vg} (h1 : vP a = vP b) (h2 : vM a = vM b) (h3 : vN a = vN b) (h4 : ∀ c i, vF a c i = vF b c i) (h5 : vS a = vS b) : a = b := by
  obtain ⟨a1, a2, a3, a4, a5⟩ := a
  obtain ⟨b1, b2, b3, b4, b5⟩ := b
  obtain rfl := h1
  obtain rfl := h2
  obtain rfl := h3
  obtain rfl := h5
  rw [show a4 = b4 from funext fun c => funext fun i => h4 c i]
/-- all pieces of one become another's, among the first n parts -/
def handV (v : Vg) (a b : Int32) (n : Nat) : Vg := (vP v, vM v, vN v, fun c i => if c < 2 ∧ i < n ∧ vF v c i = a then b else vF v c i, vS v)
theorem handV_s (v : Vg) (a b : Int32) (n : Nat) : handV v a b (n + 1) = (fun w : Vg => if vF w 1 n = a then vset w 1 n b else w) (if vF (handV v a b n) 0 n = a then vset (handV v a b n) 0 n b else handV v a b n) := by
  have k0 : ∀ c, vF (handV v a b n) c n = vF v c n := fun c => by simp [handV, vF]
  have e (c i : Nat) : vF (handV v a b (n + 1)) c i = if c < 2 ∧ i = n ∧ vF v c i = a then b else vF (handV v a b n) c i := by
    simp only [handV, vF]
    by_cases hi : i = n
    · subst hi; simp
    · have : (i < n + 1) = (i < n) := by simp; omega
      simp [hi, this]
  have k1 : vF (vset (handV v a b n) 0 n b) 1 n = vF v 1 n := k0 1
  by_cases h0 : vF v 0 n = a
  · rw [if_pos ((k0 0).trans h0)]
    by_cases h1 : vF v 1 n = a
    · show _ = if vF (vset (handV v a b n) 0 n b) 1 n = a then _ else _
      rw [if_pos (k1.trans h1)]
      refine vg_ext rfl rfl rfl (fun c i => ?_) rfl
      rw [e]
      rcases c with _ | _ | c <;> by_cases hi : i = n <;> simp_all [vset, vF] <;> (intros; omega)
    · show _ = if vF (vset (handV v a b n) 0 n b) 1 n = a then _ else _
      rw [if_neg (fun q => h1 (k1.symm.trans q))]
      refine vg_ext rfl rfl rfl (fun c i => ?_) rfl
      rw [e]
      rcases c with _ | _ | c <;> by_cases hi : i = n <;> simp_all [vset, vF] <;> (intros; omega)
  · rw [if_neg (fun q => h0 ((k0 0).symm.trans q))]
    by_cases h1 : vF v 1 n = a
    · show _ = if vF (handV v a b n) 1 n = a then _ else _
      rw [if_pos ((k0 1).trans h1)]
      refine vg_ext rfl rfl rfl (fun c i => ?_) rfl
      rw [e]
      rcases c with _ | _ | c <;> by_cases hi : i = n <;> simp_all [vset, vF] <;> (intros; omega)
    · show _ = if vF (handV v a b n) 1 n = a then _ else _
      rw [if_neg (fun q => h1 ((k0 1).symm.trans q))]
      refine vg_ext rfl rfl rfl (fun c i => ?_) rfl
      rw [e]
      rcases c with _ | _ | c <;> by_cases hi : i = n <;> simp_all [vset, vF] <;> (intros; omega)
def lcg (s : Int32) : Int32 := s * 1103515245 + nI 12345
def drw (s : Int32) : Int32 := (lcg s).toUInt32 >>> ((nI 16).toUInt32 &&& Int32.toUInt32 31) |>.toInt32 |> fun x => x - x / nI 10 * nI 10
/-- who owns a part of some needs -/
def ownS (v : Vg) (nd : Int32) : Nat → Int32
  | 0 => nI 0
  | n + 1 => if ¬ nd &&& (nI 1 <<< (nI n &&& 31)) = 0 ∧ ¬ vF v 0 n = -1 then ownS v nd n ||| (nI 1 <<< (vF v 0 n &&& 31)) else ownS v nd n
theorem ownS_c {u v : Vg} (nd : Int32) (h : ∀ i, vF u 0 i = vF v 0 i) : ∀ n, ownS u nd n = ownS v nd n
  | 0 => rfl
  | n + 1 => by simp only [ownS, h, ownS_c nd h n]
/-- one share more for the owners among the first n -/
def shrV (v : Vg) (nd : Int32) (n : Nat) : Vg := (vP v, vM v, vN v, fun c i => if c = 7 ∧ i < n ∧ ¬ ownS v nd (vP v) &&& (nI 1 <<< (nI i &&& 31)) = 0 then vF v 7 i + nI 1 else vF v c i, vS v)
theorem shrV_s (v : Vg) (nd : Int32) (n : Nat) : shrV v nd (n + 1) = if ¬ ownS v nd (vP v) &&& (nI 1 <<< (nI n &&& 31)) = 0 then vset (shrV v nd n) 7 n (vF (shrV v nd n) 7 n + nI 1) else shrV v nd n := by
  have e0 : vF (shrV v nd n) 7 n = vF v 7 n := by simp [shrV, vF]
  rw [e0]
  by_cases h : ownS v nd (vP v) &&& (nI 1 <<< (nI n &&& 31)) = 0
  · rw [if_neg (fun q => q h)]
    refine vg_ext rfl rfl rfl (fun c i => ?_) rfl
    by_cases hi : i = n
    · subst hi; simp [shrV, vF, h]
    · have : (i < n + 1) = (i < n) := by simp; omega
      simp only [shrV, vF, this]
  · rw [if_pos h]
    refine vg_ext rfl rfl rfl (fun c i => ?_) rfl
    by_cases hi : i = n
    · subst hi
      by_cases hc : c = 7 <;> simp [shrV, vF, vset, h, hc]
    · have : (i < n + 1) = (i < n) := by simp; omega
      simp only [shrV, vF, this, vset, hi, if_false, ite_self]
theorem shrV_c (v : Vg) (nd : Int32) (n : Nat) {c : Nat} (hc : c ≠ 7) (i : Nat) : vF (shrV v nd n) c i = vF v c i := by simp [shrV, vF, hc]
/-- who comes, and the seed behind -/
def cmS (v : Vg) : Nat → Int32 × Int32
  | 0 => (nI 0, vS v)
  | n + 1 => if vF v 6 n = 0 then (if drw (cmS v n).2 < vF v 5 n then (cmS v n).1 else (cmS v n).1 ||| (nI 1 <<< (nI n &&& 31)), lcg (cmS v n).2) else cmS v n
/-- the village behind the sharing of the first n machines -/
def goF (v : Vg) (ps : Int32) : Nat → Nat → Nat → Int32
  | 0 => vF v
  | n + 1 => if needW v ps n then vF (shrV (vP v, vM v, vN v, goF v ps n, vS v) (vF v 2 n) (vN v)) else goF v ps n
def goV (v : Vg) (ps : Int32) (s : Int32) (n : Nat) : Vg := (vP v, vM v, vN v, goF v ps n, s)
theorem goV_s (v : Vg) (ps s : Int32) (n : Nat) : goV v ps s (n + 1) = if needW v ps n then shrV (goV v ps s n) (vF v 2 n) (vN v) else goV v ps s n := by
  by_cases h : needW v ps n = true
  · rw [if_pos h]
    refine vg_ext rfl rfl rfl (fun c i => ?_) rfl
    have e : ownS (vP v, vM v, vN v, goF v ps n, vS v) (vF v 2 n) (vP v) = ownS (goV v ps s n) (vF v 2 n) (vP v) := ownS_c (u := (vP v, vM v, vN v, goF v ps n, vS v)) (v := goV v ps s n) _ (fun _ => rfl) _
    show (goF v ps (n + 1)) c i = _
    rw [goF, if_pos h]
    show (if c = 7 ∧ i < vN v ∧ ¬ ownS (vP v, vM v, vN v, goF v ps n, vS v) (vF v 2 n) (vP v) &&& (nI 1 <<< (nI i &&& 31)) = 0 then _ else _) = _
    rw [e]; rfl
  · rw [if_neg h]
    refine vg_ext rfl rfl rfl (fun c i => ?_) rfl
    show (goF v ps (n + 1)) c i = _
    rw [goF, if_neg h]; rfl
theorem goV_c (v : Vg) (ps s : Int32) {c : Nat} (hc : c ≠ 7) (i : Nat) : ∀ n, vF (goV v ps s n) c i = vF v c i
  | 0 => rfl
  | n + 1 => by
    rw [goV_s]
    split
    · rw [shrV_c _ _ _ hc]; exact goV_c v ps s hc i n
    · exact goV_c v ps s hc i n
theorem needW_c {u v : Vg} (h : ∀ i, vF u 2 i = vF v 2 i) (ps : Int32) (m : Nat) : needW u ps m = needW v ps m := by simp only [needW, h]
theorem sumIf_c {p q : Nat → Bool} {f g : Nat → Int32} (h1 : ∀ i, p i = q i) (h2 : ∀ i, f i = g i) : ∀ n, sumIf p f n = sumIf q g n
  | 0 => rfl
  | n + 1 => by simp only [sumIf, h1, h2, sumIf_c h1 h2 n]
theorem worthS_c {u v : Vg} (h : vM u = vM v) (h2 : ∀ i, vF u 2 i = vF v 2 i) (h3 : ∀ i, vF u 3 i = vF v 3 i) (ps : Int32) : worthS u ps = worthS v ps := by
  unfold worthS; rw [h]; exact sumIf_c (needW_c h2 ps) h3 _
/-- who there is has, on that day -/
def dayP (v : Vg) : Int32 := hasP v (cmS v (vN v)).1
def dayV (v : Vg) : Vg := goV v (dayP v) (cmS v (vN v)).2 (vM v)
end
