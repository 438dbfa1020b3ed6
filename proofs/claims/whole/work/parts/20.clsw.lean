/-! words of the tables, by their places; what fields and calls link to (written by wip/whole/gen.py) -/
theorem q_0 : (Jvm.Cond.selects "VectorPipes" ({ cls := "VectorPipes", name := "deny", desc := "(I)Z" } : Jvm.MethodName) ({ cls := "VectorPipes", name := "deny", desc := "(I)Z" } : Jvm.MethodName)) ∈ lw_G := gd (i := 0) (by decide +kernel) (by decide +kernel)
theorem q_1 : (Jvm.Cond.selects "VectorPipes" ({ cls := "VectorPipes", name := "agree", desc := "()Z" } : Jvm.MethodName) ({ cls := "VectorPipes", name := "agree", desc := "()Z" } : Jvm.MethodName)) ∈ lw_G := gd (i := 1) (by decide +kernel) (by decide +kernel)
theorem q_2 : (Jvm.Cond.selects "VectorPipes" ({ cls := "VectorPipes", name := "trayTrouble", desc := "(II)I" } : Jvm.MethodName) ({ cls := "VectorPipes", name := "trayTrouble", desc := "(II)I" } : Jvm.MethodName)) ∈ lw_G := gd (i := 2) (by decide +kernel) (by decide +kernel)
theorem q_3 : (Jvm.Cond.selects "VectorPipes$Tray" ({ cls := "VectorPipes$Tray", name := "cut", desc := "(J)J" } : Jvm.MethodName) ({ cls := "VectorPipes$Tray", name := "cut", desc := "(J)J" } : Jvm.MethodName)) ∈ lw_G := gd (i := 3) (by decide +kernel) (by decide +kernel)
theorem q_4 : (Jvm.Cond.selects "VectorPipes" ({ cls := "VectorPipes", name := "refuse", desc := "(I)I" } : Jvm.MethodName) ({ cls := "VectorPipes", name := "refuse", desc := "(I)I" } : Jvm.MethodName)) ∈ lw_G := gd (i := 4) (by decide +kernel) (by decide +kernel)
theorem q_5 : (Jvm.Cond.selects "VectorPipes" ({ cls := "VectorPipes", name := "tapeInt", desc := "(I)V" } : Jvm.MethodName) ({ cls := "VectorPipes", name := "tapeInt", desc := "(I)V" } : Jvm.MethodName)) ∈ lw_G := gd (i := 5) (by decide +kernel) (by decide +kernel)
theorem q_6 : (Jvm.Cond.selects "VectorPipes$Parse\x72" ({ cls := "VectorPipes$Parse\x72", name := "nextToken", desc := "()Z" } : Jvm.MethodName) ({ cls := "VectorPipes$Parse\x72", name := "nextToken", desc := "()Z" } : Jvm.MethodName)) ∈ lw_G := gd (i := 6) (by decide +kernel) (by decide +kernel)
theorem q_7 : (Jvm.Cond.selects "VectorPipes$Parse\x72" ({ cls := "VectorPipes$Parse\x72", name := "tokenFault", desc := "()I" } : Jvm.MethodName) ({ cls := "VectorPipes$Parse\x72", name := "tokenFault", desc := "()I" } : Jvm.MethodName)) ∈ lw_G := gd (i := 7) (by decide +kernel) (by decide +kernel)
theorem q_8 : (Jvm.Cond.selects "VectorPipes$Parse\x72" ({ cls := "VectorPipes$Parse\x72", name := "follow", desc := "()I" } : Jvm.MethodName) ({ cls := "VectorPipes$Parse\x72", name := "follow", desc := "()I" } : Jvm.MethodName)) ∈ lw_G := gd (i := 8) (by decide +kernel) (by decide +kernel)
theorem q_9 : (Jvm.Cond.selects "VectorPipes$Parse\x72" ({ cls := "VectorPipes$Parse\x72", name := "isText", desc := "(Ljava/lang/String;)Z" } : Jvm.MethodName) ({ cls := "VectorPipes$Parse\x72", name := "isText", desc := "(Ljava/lang/String;)Z" } : Jvm.MethodName)) ∈ lw_G := gd (i := 9) (by decide +kernel) (by decide +kernel)
theorem q_10 : (Jvm.Cond.selects "VectorPipes$Parse\x72" ({ cls := "VectorPipes$Parse\x72", name := "followName", desc := "(C)I" } : Jvm.MethodName) ({ cls := "VectorPipes$Parse\x72", name := "followName", desc := "(C)I" } : Jvm.MethodName)) ∈ lw_G := gd (i := 10) (by decide +kernel) (by decide +kernel)
theorem q_11 : (Jvm.Cond.selects "VectorPipes$Parse\x72" ({ cls := "VectorPipes$Parse\x72", name := "letterBehind", desc := "(CI)I" } : Jvm.MethodName) ({ cls := "VectorPipes$Parse\x72", name := "letterBehind", desc := "(CI)I" } : Jvm.MethodName)) ∈ lw_G := gd (i := 11) (by decide +kernel) (by decide +kernel)
theorem q_12 : (Jvm.Cond.selects "VectorPipes$Parse\x72" ({ cls := "VectorPipes$Parse\x72", name := "followNumbe\x72", desc := "(C)I" } : Jvm.MethodName) ({ cls := "VectorPipes$Parse\x72", name := "followNumbe\x72", desc := "(C)I" } : Jvm.MethodName)) ∈ lw_G := gd (i := 12) (by decide +kernel) (by decide +kernel)
theorem q_13 : (Jvm.Cond.selects "VectorPipes$Parse\x72" ({ cls := "VectorPipes$Parse\x72", name := "beginInstruction", desc := "()I" } : Jvm.MethodName) ({ cls := "VectorPipes$Parse\x72", name := "beginInstruction", desc := "()I" } : Jvm.MethodName)) ∈ lw_G := gd (i := 13) (by decide +kernel) (by decide +kernel)
theorem q_14 : (Jvm.Cond.selects "VectorPipes$Parse\x72" ({ cls := "VectorPipes$Parse\x72", name := "opNamed", desc := "()LVectorPipes$Op;" } : Jvm.MethodName) ({ cls := "VectorPipes$Parse\x72", name := "opNamed", desc := "()LVectorPipes$Op;" } : Jvm.MethodName)) ∈ lw_G := gd (i := 14) (by decide +kernel) (by decide +kernel)
theorem q_15 : (Jvm.Cond.selects "VectorPipes" ({ cls := "VectorPipes", name := "answe\x72", desc := "(I)I" } : Jvm.MethodName) ({ cls := "VectorPipes", name := "answe\x72", desc := "(I)I" } : Jvm.MethodName)) ∈ lw_G := gd (i := 15) (by decide +kernel) (by decide +kernel)
theorem q_16 : (Jvm.Cond.selects "VectorPipes" ({ cls := "VectorPipes", name := "rowTrouble", desc := "(I)I" } : Jvm.MethodName) ({ cls := "VectorPipes", name := "rowTrouble", desc := "(I)I" } : Jvm.MethodName)) ∈ lw_G := gd (i := 16) (by decide +kernel) (by decide +kernel)
theorem q_17 : (Jvm.Cond.selects "VectorPipes" ({ cls := "VectorPipes", name := "tellOf", desc := "(LVectorPipes$Num;)I" } : Jvm.MethodName) ({ cls := "VectorPipes", name := "tellOf", desc := "(LVectorPipes$Num;)I" } : Jvm.MethodName)) ∈ lw_G := gd (i := 17) (by decide +kernel) (by decide +kernel)
theorem q_18 : (Jvm.Cond.selects "VectorPipes$Binary" ({ cls := "VectorPipes$Binary", name := "split", desc := "(D)V" } : Jvm.MethodName) ({ cls := "VectorPipes$Binary", name := "split", desc := "(D)V" } : Jvm.MethodName)) ∈ lw_G := gd (i := 18) (by decide +kernel) (by decide +kernel)
theorem q_19 : (Jvm.Cond.selects "VectorPipes" ({ cls := "VectorPipes", name := "placeNumbe\x72", desc := "(LVectorPipes$Row;IJI)I" } : Jvm.MethodName) ({ cls := "VectorPipes", name := "placeNumbe\x72", desc := "(LVectorPipes$Row;IJI)I" } : Jvm.MethodName)) ∈ lw_G := gd (i := 19) (by decide +kernel) (by decide +kernel)
theorem q_20 : (Jvm.Cond.selects "VectorPipes" ({ cls := "VectorPipes", name := "wholesaleTrouble", desc := "(III)I" } : Jvm.MethodName) ({ cls := "VectorPipes", name := "wholesaleTrouble", desc := "(III)I" } : Jvm.MethodName)) ∈ lw_G := gd (i := 20) (by decide +kernel) (by decide +kernel)
theorem q_21 : (Jvm.Cond.selects "VectorPipes$Runne\x72" ({ cls := "VectorPipes$Runne\x72", name := "endRound", desc := "()I" } : Jvm.MethodName) ({ cls := "VectorPipes$Runne\x72", name := "endRound", desc := "()I" } : Jvm.MethodName)) ∈ lw_G := gd (i := 21) (by decide +kernel) (by decide +kernel)
theorem q_22 : (Jvm.Cond.selects "VectorPipes$Times" ({ cls := "VectorPipes$Times", name := "note", desc := "(I)V" } : Jvm.MethodName) ({ cls := "VectorPipes$Times", name := "note", desc := "(I)V" } : Jvm.MethodName)) ∈ lw_G := gd (i := 22) (by decide +kernel) (by decide +kernel)
theorem q_23 : (Jvm.Cond.selects "VectorPipes$Times" ({ cls := "VectorPipes$Times", name := "rowReady", desc := "(LVectorPipes$Instr;I)I" } : Jvm.MethodName) ({ cls := "VectorPipes$Times", name := "rowReady", desc := "(LVectorPipes$Instr;I)I" } : Jvm.MethodName)) ∈ lw_G := gd (i := 23) (by decide +kernel) (by decide +kernel)
theorem q_24 : (Jvm.Cond.selects "VectorPipes$Runne\x72" ({ cls := "VectorPipes$Runne\x72", name := "doAtOnce", desc := "(ILVectorPipes$Instr;)Z" } : Jvm.MethodName) ({ cls := "VectorPipes$Runne\x72", name := "doAtOnce", desc := "(ILVectorPipes$Instr;)Z" } : Jvm.MethodName)) ∈ lw_G := gd (i := 24) (by decide +kernel) (by decide +kernel)
theorem q_25 : (Jvm.Cond.selects "VectorPipes$Times" ({ cls := "VectorPipes$Times", name := "endAt", desc := "(II)V" } : Jvm.MethodName) ({ cls := "VectorPipes$Times", name := "endAt", desc := "(II)V" } : Jvm.MethodName)) ∈ lw_G := gd (i := 25) (by decide +kernel) (by decide +kernel)
theorem q_26 : (Jvm.Cond.selects "VectorPipes$Runne\x72" ({ cls := "VectorPipes$Runne\x72", name := "doFold", desc := "(ILVectorPipes$Instr;)Z" } : Jvm.MethodName) ({ cls := "VectorPipes$Runne\x72", name := "doFold", desc := "(ILVectorPipes$Instr;)Z" } : Jvm.MethodName)) ∈ lw_G := gd (i := 26) (by decide +kernel) (by decide +kernel)
theorem q_27 : (Jvm.Cond.selects "VectorPipes$Runne\x72" ({ cls := "VectorPipes$Runne\x72", name := "trap", desc := "(III)Z" } : Jvm.MethodName) ({ cls := "VectorPipes$Runne\x72", name := "trap", desc := "(III)Z" } : Jvm.MethodName)) ∈ lw_G := gd (i := 27) (by decide +kernel) (by decide +kernel)
theorem q_28 : (Jvm.Cond.selects "VectorPipes$Num" ({ cls := "VectorPipes$Num", name := "takesOdd", desc := "(LVectorPipes$Num;)Z" } : Jvm.MethodName) ({ cls := "VectorPipes$Num", name := "takesOdd", desc := "(LVectorPipes$Num;)Z" } : Jvm.MethodName)) ∈ lw_G := gd (i := 28) (by decide +kernel) (by decide +kernel)
theorem q_29 : (Jvm.Cond.selects "VectorPipes$Times" ({ cls := "VectorPipes$Times", name := "readNow", desc := "(III)V" } : Jvm.MethodName) ({ cls := "VectorPipes$Times", name := "readNow", desc := "(III)V" } : Jvm.MethodName)) ∈ lw_G := gd (i := 29) (by decide +kernel) (by decide +kernel)
theorem q_30 : (Jvm.Cond.selects "VectorPipes$Runne\x72" ({ cls := "VectorPipes$Runne\x72", name := "doElements", desc := "(ILVectorPipes$Instr;)Z" } : Jvm.MethodName) ({ cls := "VectorPipes$Runne\x72", name := "doElements", desc := "(ILVectorPipes$Instr;)Z" } : Jvm.MethodName)) ∈ lw_G := gd (i := 30) (by decide +kernel) (by decide +kernel)
theorem q_31 : (Jvm.Cond.selects "VectorPipes$Runne\x72" ({ cls := "VectorPipes$Runne\x72", name := "lacksRow", desc := "(LVectorPipes$Instr;)Z" } : Jvm.MethodName) ({ cls := "VectorPipes$Runne\x72", name := "lacksRow", desc := "(LVectorPipes$Instr;)Z" } : Jvm.MethodName)) ∈ lw_G := gd (i := 31) (by decide +kernel) (by decide +kernel)
theorem q_32 : (Jvm.Cond.selects "VectorPipes$Runne\x72" ({ cls := "VectorPipes$Runne\x72", name := "offsetFits", desc := "(LVectorPipes$Instr;I)Z" } : Jvm.MethodName) ({ cls := "VectorPipes$Runne\x72", name := "offsetFits", desc := "(LVectorPipes$Instr;I)Z" } : Jvm.MethodName)) ∈ lw_G := gd (i := 32) (by decide +kernel) (by decide +kernel)
theorem q_33 : (Jvm.Cond.selects "VectorPipes$Runne\x72" ({ cls := "VectorPipes$Runne\x72", name := "placeOf", desc := "(LVectorPipes$Instr;I)I" } : Jvm.MethodName) ({ cls := "VectorPipes$Runne\x72", name := "placeOf", desc := "(LVectorPipes$Instr;I)I" } : Jvm.MethodName)) ∈ lw_G := gd (i := 33) (by decide +kernel) (by decide +kernel)
theorem q_34 : (Jvm.Cond.selects "VectorPipes$Times" ({ cls := "VectorPipes$Times", name := "operandsReady", desc := "(LVectorPipes$Instr;I)I" } : Jvm.MethodName) ({ cls := "VectorPipes$Times", name := "operandsReady", desc := "(LVectorPipes$Instr;I)I" } : Jvm.MethodName)) ∈ lw_G := gd (i := 34) (by decide +kernel) (by decide +kernel)
theorem q_35 : (Jvm.Cond.selects "VectorPipes$Times" ({ cls := "VectorPipes$Times", name := "readyAt", desc := "(II)I" } : Jvm.MethodName) ({ cls := "VectorPipes$Times", name := "readyAt", desc := "(II)I" } : Jvm.MethodName)) ∈ lw_G := gd (i := 35) (by decide +kernel) (by decide +kernel)
theorem q_36 : (Jvm.Cond.selects "VectorPipes$Times" ({ cls := "VectorPipes$Times", name := "throughBank", desc := "(III)I" } : Jvm.MethodName) ({ cls := "VectorPipes$Times", name := "throughBank", desc := "(III)I" } : Jvm.MethodName)) ∈ lw_G := gd (i := 36) (by decide +kernel) (by decide +kernel)
theorem q_37 : (Jvm.Cond.selects "VectorPipes$Times" ({ cls := "VectorPipes$Times", name := "readOperands", desc := "(LVectorPipes$Instr;I)V" } : Jvm.MethodName) ({ cls := "VectorPipes$Times", name := "readOperands", desc := "(LVectorPipes$Instr;I)V" } : Jvm.MethodName)) ∈ lw_G := gd (i := 37) (by decide +kernel) (by decide +kernel)
theorem q_38 : (Jvm.Cond.selects "VectorPipes$Times" ({ cls := "VectorPipes$Times", name := "readyFrom", desc := "(III)V" } : Jvm.MethodName) ({ cls := "VectorPipes$Times", name := "readyFrom", desc := "(III)V" } : Jvm.MethodName)) ∈ lw_G := gd (i := 38) (by decide +kernel) (by decide +kernel)
theorem q_39 : (Jvm.Cond.selects "VectorPipes$Runne\x72" ({ cls := "VectorPipes$Runne\x72", name := "doElement", desc := "(LVectorPipes$Instr;II)V" } : Jvm.MethodName) ({ cls := "VectorPipes$Runne\x72", name := "doElement", desc := "(LVectorPipes$Instr;II)V" } : Jvm.MethodName)) ∈ lw_G := gd (i := 39) (by decide +kernel) (by decide +kernel)
theorem q_40 : (Jvm.Cond.selects "VectorPipes$Runne\x72" ({ cls := "VectorPipes$Runne\x72", name := "holds", desc := "(LVectorPipes$Instr;I)Z" } : Jvm.MethodName) ({ cls := "VectorPipes$Runne\x72", name := "holds", desc := "(LVectorPipes$Instr;I)Z" } : Jvm.MethodName)) ∈ lw_G := gd (i := 40) (by decide +kernel) (by decide +kernel)
theorem q_41 : (Jvm.Cond.selects "VectorPipes$Runne\x72" ({ cls := "VectorPipes$Runne\x72", name := "packElement", desc := "(LVectorPipes$Instr;I)V" } : Jvm.MethodName) ({ cls := "VectorPipes$Runne\x72", name := "packElement", desc := "(LVectorPipes$Instr;I)V" } : Jvm.MethodName)) ∈ lw_G := gd (i := 41) (by decide +kernel) (by decide +kernel)
theorem q_42 : (Jvm.Cond.selects "VectorPipes$Runne\x72" ({ cls := "VectorPipes$Runne\x72", name := "reckon", desc := "(LVectorPipes$Instr;II)V" } : Jvm.MethodName) ({ cls := "VectorPipes$Runne\x72", name := "reckon", desc := "(LVectorPipes$Instr;II)V" } : Jvm.MethodName)) ∈ lw_G := gd (i := 42) (by decide +kernel) (by decide +kernel)
theorem q_43 : (Jvm.Cond.selects "VectorPipes$Runne\x72" ({ cls := "VectorPipes$Runne\x72", name := "behind", desc := "(ILVectorPipes$Instr;)I" } : Jvm.MethodName) ({ cls := "VectorPipes$Runne\x72", name := "behind", desc := "(ILVectorPipes$Instr;)I" } : Jvm.MethodName)) ∈ lw_G := gd (i := 43) (by decide +kernel) (by decide +kernel)
theorem q_44 : (Jvm.Cond.selects "VectorPipes$Runne\x72" ({ cls := "VectorPipes$Runne\x72", name := "beginStrip", desc := "(ILVectorPipes$Instr;)I" } : Jvm.MethodName) ({ cls := "VectorPipes$Runne\x72", name := "beginStrip", desc := "(ILVectorPipes$Instr;)I" } : Jvm.MethodName)) ∈ lw_G := gd (i := 44) (by decide +kernel) (by decide +kernel)
theorem q_45 : (Jvm.Cond.selects "VectorPipes" ({ cls := "VectorPipes", name := "isInstruction", desc := "(I)Z" } : Jvm.MethodName) ({ cls := "VectorPipes", name := "isInstruction", desc := "(I)Z" } : Jvm.MethodName)) ∈ lw_G := gd (i := 45) (by decide +kernel) (by decide +kernel)
theorem q_46 : (Jvm.Cond.selects "VectorPipes" ({ cls := "VectorPipes", name := "sumInto", desc := "(LVectorPipes$Num;II)V" } : Jvm.MethodName) ({ cls := "VectorPipes", name := "sumInto", desc := "(LVectorPipes$Num;II)V" } : Jvm.MethodName)) ∈ lw_G := gd (i := 46) (by decide +kernel) (by decide +kernel)
theorem q_47 : (Jvm.Cond.selects "VectorPipes" ({ cls := "VectorPipes", name := "aloneTrouble", desc := "(III)I" } : Jvm.MethodName) ({ cls := "VectorPipes", name := "aloneTrouble", desc := "(III)I" } : Jvm.MethodName)) ∈ lw_G := gd (i := 47) (by decide +kernel) (by decide +kernel)
theorem q_48 : (Jvm.Cond.selects "VectorPipes$Inst\x72" ({ cls := "VectorPipes$Inst\x72", name := "bit", desc := "(II)I" } : Jvm.MethodName) ({ cls := "VectorPipes$Inst\x72", name := "bit", desc := "(II)I" } : Jvm.MethodName)) ∈ lw_G := gd (i := 48) (by decide +kernel) (by decide +kernel)
theorem q_49 : (Jvm.Cond.selects "VectorPipes$Program" ({ cls := "VectorPipes$Program", name := "endsAhead", desc := "(I)Z" } : Jvm.MethodName) ({ cls := "VectorPipes$Program", name := "endsAhead", desc := "(I)Z" } : Jvm.MethodName)) ∈ lw_G := gd (i := 49) (by decide +kernel) (by decide +kernel)
theorem q_50 : (Jvm.Cond.selects "VectorPipes" ({ cls := "VectorPipes", name := "trialCycles", desc := "(I)I" } : Jvm.MethodName) ({ cls := "VectorPipes", name := "trialCycles", desc := "(I)I" } : Jvm.MethodName)) ∈ lw_G := gd (i := 50) (by decide +kernel) (by decide +kernel)
theorem q_137 : (Jvm.Cond.initialized "VectorPipes") ∈ lw_G := gd (i := 137) (by decide +kernel) (by decide +kernel)
theorem q_138 : (Jvm.Cond.initialized "VectorPipes$Tray") ∈ lw_G := gd (i := 138) (by decide +kernel) (by decide +kernel)
theorem q_139 : (Jvm.Cond.initialized "VectorPipes$Parse\x72") ∈ lw_G := gd (i := 139) (by decide +kernel) (by decide +kernel)
theorem q_140 : (Jvm.Cond.initialized "VectorPipes$Machine") ∈ lw_G := gd (i := 140) (by decide +kernel) (by decide +kernel)
theorem q_141 : (Jvm.Cond.initialized "VectorPipes$Row") ∈ lw_G := gd (i := 141) (by decide +kernel) (by decide +kernel)
theorem q_142 : (Jvm.Cond.initialized "java/lang/Math") ∈ lw_G := gd (i := 142) (by decide +kernel) (by decide +kernel)
theorem q_143 : (Jvm.Cond.initialized "VectorPipes$Program") ∈ lw_G := gd (i := 143) (by decide +kernel) (by decide +kernel)
theorem q_144 : (Jvm.Cond.initialized "VectorPipes$Binary") ∈ lw_G := gd (i := 144) (by decide +kernel) (by decide +kernel)
theorem q_145 : (Jvm.Cond.initialized "VectorPipes$Runne\x72") ∈ lw_G := gd (i := 145) (by decide +kernel) (by decide +kernel)
theorem q_146 : (Jvm.Cond.initialized "VectorPipes$Num") ∈ lw_G := gd (i := 146) (by decide +kernel) (by decide +kernel)
theorem q_147 : (Jvm.Cond.initialized "VectorPipes$Times") ∈ lw_G := gd (i := 147) (by decide +kernel) (by decide +kernel)
theorem q_149 : (Jvm.Cond.initialized "java/util/Arrays") ∈ lw_G := gd (i := 149) (by decide +kernel) (by decide +kernel)
theorem q_150 : (Jvm.Cond.initialized "java/lang/System") ∈ lw_G := gd (i := 150) (by decide +kernel) (by decide +kernel)
theorem q_155 : (Jvm.Cond.initialized "java/lang/Enum") ∈ lw_G := gd (i := 155) (by decide +kernel) (by decide +kernel)
theorem q_156 : (Jvm.Cond.initialized "VectorPipes$Op") ∈ lw_G := gd (i := 156) (by decide +kernel) (by decide +kernel)
theorem q_157 : (Jvm.Cond.initialized "VectorPipes$Inst\x72") ∈ lw_G := gd (i := 157) (by decide +kernel) (by decide +kernel)
theorem q_160 : (Jvm.Cond.initialized "java/lang/Intege\x72") ∈ lw_G := gd (i := 160) (by decide +kernel) (by decide +kernel)
theorem q_167 : (Jvm.Cond.methodLink "VectorPipes" (1 : Nat) ({ cls := "java/lang/Object", name := "<init>", desc := "()V" } : Jvm.MethodName)) ∈ lw_G := gd (i := 167) (by decide +kernel) (by decide +kernel)
theorem q_168 : (Jvm.Cond.instanceMethod ({ cls := "java/lang/Object", name := "<init>", desc := "()V" } : Jvm.MethodName)) ∈ lw_G := gd (i := 168) (by decide +kernel) (by decide +kernel)
theorem q_169 : (Jvm.Cond.code ({ cls := "java/lang/Object", name := "<init>", desc := "()V" } : Jvm.MethodName) object_method_1_code (1 : Nat) (Option.none : Option Jvm.ClassFile.FieldType)) ∈ lw_G := gd (i := 169) (by decide +kernel) (by decide +kernel)
theorem q_170 : (Jvm.Cond.classLink "VectorPipes" (9 : Nat) "VectorPipes$Tray") ∈ lw_G := gd (i := 170) (by decide +kernel) (by decide +kernel)
theorem q_172 : (Jvm.Cond.instantiable "VectorPipes$Tray" (4 : Nat)) ∈ lw_G := gd (i := 172) (by decide +kernel) (by decide +kernel)
theorem q_173 : (Jvm.Cond.methodLink "VectorPipes" (15 : Nat) ({ cls := "VectorPipes$Tray", name := "<init>", desc := "()V" } : Jvm.MethodName)) ∈ lw_G := gd (i := 173) (by decide +kernel) (by decide +kernel)
theorem q_174 : (Jvm.Cond.instanceMethod ({ cls := "VectorPipes$Tray", name := "<init>", desc := "()V" } : Jvm.MethodName)) ∈ lw_G := gd (i := 174) (by decide +kernel) (by decide +kernel)
theorem q_175 : (Jvm.Cond.code ({ cls := "VectorPipes$Tray", name := "<init>", desc := "()V" } : Jvm.MethodName) prog_13_method_1_code (1 : Nat) (Option.none : Option Jvm.ClassFile.FieldType)) ∈ lw_G := gd (i := 175) (by decide +kernel) (by decide +kernel)
theorem q_176 : (Jvm.Cond.methodLink "VectorPipes$Tray" (3 : Nat) ({ cls := "java/lang/Object", name := "<init>", desc := "()V" } : Jvm.MethodName)) ∈ lw_G := gd (i := 176) (by decide +kernel) (by decide +kernel)
theorem q_177 : (Jvm.Cond.fieldLink "VectorPipes$Tray" (15 : Nat) "VectorPipes$Tray" "there" "Z") ∈ lw_G := gd (i := 177) (by decide +kernel) (by decide +kernel)
theorem q_178 : (Jvm.Cond.fieldLink "VectorPipes" (128 : Nat) "VectorPipes$Tray" "there" "Z") ∈ lw_G := gd (i := 178) (by decide +kernel) (by decide +kernel)
theorem q_179 : (Jvm.Cond.fieldLink "VectorPipes$Tray" (19 : Nat) "VectorPipes$Tray" "sort" "I") ∈ lw_G := gd (i := 179) (by decide +kernel) (by decide +kernel)
theorem q_180 : (Jvm.Cond.fieldLink "VectorPipes" (150 : Nat) "VectorPipes$Tray" "sort" "I") ∈ lw_G := gd (i := 180) (by decide +kernel) (by decide +kernel)
theorem q_181 : (Jvm.Cond.fieldLink "VectorPipes$Tray" (23 : Nat) "VectorPipes$Tray" "length" "I") ∈ lw_G := gd (i := 181) (by decide +kernel) (by decide +kernel)
theorem q_182 : (Jvm.Cond.fieldLink "VectorPipes" (269 : Nat) "VectorPipes$Tray" "length" "I") ∈ lw_G := gd (i := 182) (by decide +kernel) (by decide +kernel)
theorem q_183 : (Jvm.Cond.fieldLink "VectorPipes$Tray" (9 : Nat) "VectorPipes$Tray" "cells" "[J") ∈ lw_G := gd (i := 183) (by decide +kernel) (by decide +kernel)
theorem q_184 : (Jvm.Cond.fieldLink "VectorPipes" (157 : Nat) "VectorPipes$Tray" "cells" "[J") ∈ lw_G := gd (i := 184) (by decide +kernel) (by decide +kernel)
theorem q_194 : (Jvm.Cond.arrayClass Jvm.ClassFile.FieldType.long) ∈ lw_G := gd (i := 194) (by decide +kernel) (by decide +kernel)
theorem q_195 : (Jvm.Cond.classLink "VectorPipes" (20 : Nat) "VectorPipes$Parse\x72") ∈ lw_G := gd (i := 195) (by decide +kernel) (by decide +kernel)
theorem q_196 : (Jvm.Cond.instantiable "VectorPipes$Parse\x72" (12 : Nat)) ∈ lw_G := gd (i := 196) (by decide +kernel) (by decide +kernel)
theorem q_197 : (Jvm.Cond.methodLink "VectorPipes" (22 : Nat) ({ cls := "VectorPipes$Parse\x72", name := "<init>", desc := "()V" } : Jvm.MethodName)) ∈ lw_G := gd (i := 197) (by decide +kernel) (by decide +kernel)
theorem q_198 : (Jvm.Cond.instanceMethod ({ cls := "VectorPipes$Parse\x72", name := "<init>", desc := "()V" } : Jvm.MethodName)) ∈ lw_G := gd (i := 198) (by decide +kernel) (by decide +kernel)
theorem q_199 : (Jvm.Cond.code ({ cls := "VectorPipes$Parse\x72", name := "<init>", desc := "()V" } : Jvm.MethodName) prog_8_method_1_code (1 : Nat) (Option.none : Option Jvm.ClassFile.FieldType)) ∈ lw_G := gd (i := 199) (by decide +kernel) (by decide +kernel)
theorem q_200 : (Jvm.Cond.methodLink "VectorPipes$Parse\x72" (3 : Nat) ({ cls := "java/lang/Object", name := "<init>", desc := "()V" } : Jvm.MethodName)) ∈ lw_G := gd (i := 200) (by decide +kernel) (by decide +kernel)
theorem q_202 : (Jvm.Cond.fieldLink "VectorPipes$Parse\x72" (9 : Nat) "VectorPipes$Parse\x72" "fault" "I") ∈ lw_G := gd (i := 202) (by decide +kernel) (by decide +kernel)
theorem q_203 : (Jvm.Cond.fieldLink "VectorPipes" (187 : Nat) "VectorPipes$Parse\x72" "fault" "I") ∈ lw_G := gd (i := 203) (by decide +kernel) (by decide +kernel)
theorem q_204 : (Jvm.Cond.fieldLink "VectorPipes$Parse\x72" (15 : Nat) "VectorPipes$Parse\x72" "place" "I") ∈ lw_G := gd (i := 204) (by decide +kernel) (by decide +kernel)
theorem q_205 : (Jvm.Cond.fieldLink "VectorPipes" (190 : Nat) "VectorPipes$Parse\x72" "place" "I") ∈ lw_G := gd (i := 205) (by decide +kernel) (by decide +kernel)
theorem q_206 : (Jvm.Cond.fieldLink "VectorPipes$Parse\x72" (18 : Nat) "VectorPipes$Parse\x72" "text" "[B") ∈ lw_G := gd (i := 206) (by decide +kernel) (by decide +kernel)
theorem q_207 : (Jvm.Cond.fieldLink "VectorPipes$Parse\x72" (34 : Nat) "VectorPipes$Parse\x72" "length" "I") ∈ lw_G := gd (i := 207) (by decide +kernel) (by decide +kernel)
theorem q_208 : (Jvm.Cond.fieldLink "VectorPipes$Parse\x72" (65 : Nat) "VectorPipes$Parse\x72" "start" "I") ∈ lw_G := gd (i := 208) (by decide +kernel) (by decide +kernel)
theorem q_209 : (Jvm.Cond.fieldLink "VectorPipes$Parse\x72" (37 : Nat) "VectorPipes$Parse\x72" "end" "I") ∈ lw_G := gd (i := 209) (by decide +kernel) (by decide +kernel)
theorem q_210 : (Jvm.Cond.fieldLink "VectorPipes$Parse\x72" (76 : Nat) "VectorPipes$Parse\x72" "sort" "I") ∈ lw_G := gd (i := 210) (by decide +kernel) (by decide +kernel)
theorem q_211 : (Jvm.Cond.fieldLink "VectorPipes$Parse\x72" (43 : Nat) "VectorPipes$Parse\x72" "program" "LVectorPipes$Program;") ∈ lw_G := gd (i := 211) (by decide +kernel) (by decide +kernel)
theorem q_212 : (Jvm.Cond.fieldLink "VectorPipes$Parse\x72" (47 : Nat) "VectorPipes$Parse\x72" "current" "LVectorPipes$Instr;") ∈ lw_G := gd (i := 212) (by decide +kernel) (by decide +kernel)
theorem q_213 : (Jvm.Cond.fieldLink "VectorPipes$Parse\x72" (24 : Nat) "VectorPipes$Parse\x72" "form" "Ljava/lang/String;") ∈ lw_G := gd (i := 213) (by decide +kernel) (by decide +kernel)
theorem q_214 : (Jvm.Cond.fieldLink "VectorPipes$Parse\x72" (51 : Nat) "VectorPipes$Parse\x72" "step" "I") ∈ lw_G := gd (i := 214) (by decide +kernel) (by decide +kernel)
theorem q_215 : (Jvm.Cond.fieldLink "VectorPipes$Parse\x72" (54 : Nat) "VectorPipes$Parse\x72" "open" "LVectorPipes$Instr;") ∈ lw_G := gd (i := 215) (by decide +kernel) (by decide +kernel)
theorem q_241 : (Jvm.Cond.arrayClass Jvm.ClassFile.FieldType.byte) ∈ lw_G := gd (i := 241) (by decide +kernel) (by decide +kernel)
theorem q_242 : (Jvm.Cond.classLink "VectorPipes" (27 : Nat) "VectorPipes$Machine") ∈ lw_G := gd (i := 242) (by decide +kernel) (by decide +kernel)
theorem q_243 : (Jvm.Cond.instantiable "VectorPipes$Machine" (9 : Nat)) ∈ lw_G := gd (i := 243) (by decide +kernel) (by decide +kernel)
theorem q_244 : (Jvm.Cond.methodLink "VectorPipes" (29 : Nat) ({ cls := "VectorPipes$Machine", name := "<init>", desc := "()V" } : Jvm.MethodName)) ∈ lw_G := gd (i := 244) (by decide +kernel) (by decide +kernel)
theorem q_245 : (Jvm.Cond.instanceMethod ({ cls := "VectorPipes$Machine", name := "<init>", desc := "()V" } : Jvm.MethodName)) ∈ lw_G := gd (i := 245) (by decide +kernel) (by decide +kernel)
theorem q_246 : (Jvm.Cond.code ({ cls := "VectorPipes$Machine", name := "<init>", desc := "()V" } : Jvm.MethodName) prog_5_method_1_code (2 : Nat) (Option.none : Option Jvm.ClassFile.FieldType)) ∈ lw_G := gd (i := 246) (by decide +kernel) (by decide +kernel)
theorem q_247 : (Jvm.Cond.methodLink "VectorPipes$Machine" (3 : Nat) ({ cls := "java/lang/Object", name := "<init>", desc := "()V" } : Jvm.MethodName)) ∈ lw_G := gd (i := 247) (by decide +kernel) (by decide +kernel)
theorem q_248 : (Jvm.Cond.classLink "VectorPipes$Machine" (9 : Nat) "VectorPipes$Row") ∈ lw_G := gd (i := 248) (by decide +kernel) (by decide +kernel)
theorem q_250 : (Jvm.Cond.instantiable "VectorPipes$Row" (2 : Nat)) ∈ lw_G := gd (i := 250) (by decide +kernel) (by decide +kernel)
theorem q_251 : (Jvm.Cond.methodLink "VectorPipes$Machine" (17 : Nat) ({ cls := "VectorPipes$Row", name := "<init>", desc := "(I)V" } : Jvm.MethodName)) ∈ lw_G := gd (i := 251) (by decide +kernel) (by decide +kernel)
theorem q_252 : (Jvm.Cond.instanceMethod ({ cls := "VectorPipes$Row", name := "<init>", desc := "(I)V" } : Jvm.MethodName)) ∈ lw_G := gd (i := 252) (by decide +kernel) (by decide +kernel)
theorem q_253 : (Jvm.Cond.code ({ cls := "VectorPipes$Row", name := "<init>", desc := "(I)V" } : Jvm.MethodName) prog_10_method_1_code (3 : Nat) (Option.none : Option Jvm.ClassFile.FieldType)) ∈ lw_G := gd (i := 253) (by decide +kernel) (by decide +kernel)
theorem q_254 : (Jvm.Cond.methodLink "VectorPipes$Row" (1 : Nat) ({ cls := "java/lang/Object", name := "<init>", desc := "()V" } : Jvm.MethodName)) ∈ lw_G := gd (i := 254) (by decide +kernel) (by decide +kernel)
theorem q_255 : (Jvm.Cond.methodLink "VectorPipes$Row" (7 : Nat) ({ cls := "java/lang/Math", name := "max", desc := "(II)I" } : Jvm.MethodName)) ∈ lw_G := gd (i := 255) (by decide +kernel) (by decide +kernel)
theorem q_256 : (Jvm.Cond.static ({ cls := "java/lang/Math", name := "max", desc := "(II)I" } : Jvm.MethodName)) ∈ lw_G := gd (i := 256) (by decide +kernel) (by decide +kernel)
theorem q_257 : (Jvm.Cond.code ({ cls := "java/lang/Math", name := "max", desc := "(II)I" } : Jvm.MethodName) prog_19_method_65_code (2 : Nat) (Option.some Jvm.ClassFile.FieldType.int)) ∈ lw_G := gd (i := 257) (by decide +kernel) (by decide +kernel)
theorem q_258 : (Jvm.Cond.fieldLink "VectorPipes$Row" (13 : Nat) "VectorPipes$Row" "values" "[D") ∈ lw_G := gd (i := 258) (by decide +kernel) (by decide +kernel)
theorem q_259 : (Jvm.Cond.fieldLink "VectorPipes$Row" (19 : Nat) "VectorPipes$Row" "odd" "[Z") ∈ lw_G := gd (i := 259) (by decide +kernel) (by decide +kernel)
theorem q_265 : (Jvm.Cond.arrayClass Jvm.ClassFile.FieldType.double) ∈ lw_G := gd (i := 265) (by decide +kernel) (by decide +kernel)
theorem q_266 : (Jvm.Cond.arrayClass Jvm.ClassFile.FieldType.boolean) ∈ lw_G := gd (i := 266) (by decide +kernel) (by decide +kernel)
theorem q_267 : (Jvm.Cond.classLink "VectorPipes$Machine" (41 : Nat) "VectorPipes$Program") ∈ lw_G := gd (i := 267) (by decide +kernel) (by decide +kernel)
theorem q_268 : (Jvm.Cond.instantiable "VectorPipes$Program" (2 : Nat)) ∈ lw_G := gd (i := 268) (by decide +kernel) (by decide +kernel)
theorem q_269 : (Jvm.Cond.methodLink "VectorPipes$Machine" (43 : Nat) ({ cls := "VectorPipes$Program", name := "<init>", desc := "()V" } : Jvm.MethodName)) ∈ lw_G := gd (i := 269) (by decide +kernel) (by decide +kernel)
theorem q_270 : (Jvm.Cond.instanceMethod ({ cls := "VectorPipes$Program", name := "<init>", desc := "()V" } : Jvm.MethodName)) ∈ lw_G := gd (i := 270) (by decide +kernel) (by decide +kernel)
theorem q_271 : (Jvm.Cond.code ({ cls := "VectorPipes$Program", name := "<init>", desc := "()V" } : Jvm.MethodName) prog_9_method_1_code (1 : Nat) (Option.none : Option Jvm.ClassFile.FieldType)) ∈ lw_G := gd (i := 271) (by decide +kernel) (by decide +kernel)
theorem q_272 : (Jvm.Cond.methodLink "VectorPipes$Program" (3 : Nat) ({ cls := "java/lang/Object", name := "<init>", desc := "()V" } : Jvm.MethodName)) ∈ lw_G := gd (i := 272) (by decide +kernel) (by decide +kernel)
theorem q_273 : (Jvm.Cond.classLink "VectorPipes$Program" (9 : Nat) "VectorPipes$Inst\x72") ∈ lw_G := gd (i := 273) (by decide +kernel) (by decide +kernel)
theorem q_275 : (Jvm.Cond.fieldLink "VectorPipes$Program" (11 : Nat) "VectorPipes$Program" "list" "[LVectorPipes$Instr;") ∈ lw_G := gd (i := 275) (by decide +kernel) (by decide +kernel)
theorem q_276 : (Jvm.Cond.fieldLink "VectorPipes$Program" (20 : Nat) "VectorPipes$Program" "count" "I") ∈ lw_G := gd (i := 276) (by decide +kernel) (by decide +kernel)
theorem q_277 : (Jvm.Cond.fieldLink "VectorPipes$Parse\x72" (96 : Nat) "VectorPipes$Program" "count" "I") ∈ lw_G := gd (i := 277) (by decide +kernel) (by decide +kernel)
theorem q_278 : (Jvm.Cond.fieldLink "VectorPipes" (184 : Nat) "VectorPipes$Program" "count" "I") ∈ lw_G := gd (i := 278) (by decide +kernel) (by decide +kernel)
theorem q_284 : (Jvm.Cond.fieldLink "VectorPipes$Machine" (11 : Nat) "VectorPipes$Machine" "rows" "[LVectorPipes$Row;") ∈ lw_G := gd (i := 284) (by decide +kernel) (by decide +kernel)
theorem q_285 : (Jvm.Cond.fieldLink "VectorPipes" (219 : Nat) "VectorPipes$Machine" "rows" "[LVectorPipes$Row;") ∈ lw_G := gd (i := 285) (by decide +kernel) (by decide +kernel)
theorem q_286 : (Jvm.Cond.fieldLink "VectorPipes$Machine" (20 : Nat) "VectorPipes$Machine" "there" "[Z") ∈ lw_G := gd (i := 286) (by decide +kernel) (by decide +kernel)
theorem q_287 : (Jvm.Cond.fieldLink "VectorPipes" (209 : Nat) "VectorPipes$Machine" "there" "[Z") ∈ lw_G := gd (i := 287) (by decide +kernel) (by decide +kernel)
theorem q_288 : (Jvm.Cond.fieldLink "VectorPipes$Machine" (24 : Nat) "VectorPipes$Machine" "scalars" "LVectorPipes$Row;") ∈ lw_G := gd (i := 288) (by decide +kernel) (by decide +kernel)
theorem q_289 : (Jvm.Cond.fieldLink "VectorPipes$Runne\x72" (173 : Nat) "VectorPipes$Machine" "scalars" "LVectorPipes$Row;") ∈ lw_G := gd (i := 289) (by decide +kernel) (by decide +kernel)
theorem q_290 : (Jvm.Cond.fieldLink "VectorPipes" (231 : Nat) "VectorPipes$Machine" "scalars" "LVectorPipes$Row;") ∈ lw_G := gd (i := 290) (by decide +kernel) (by decide +kernel)
theorem q_291 : (Jvm.Cond.fieldLink "VectorPipes$Machine" (28 : Nat) "VectorPipes$Machine" "memory" "LVectorPipes$Row;") ∈ lw_G := gd (i := 291) (by decide +kernel) (by decide +kernel)
theorem q_292 : (Jvm.Cond.fieldLink "VectorPipes$Runne\x72" (289 : Nat) "VectorPipes$Machine" "memory" "LVectorPipes$Row;") ∈ lw_G := gd (i := 292) (by decide +kernel) (by decide +kernel)
theorem q_293 : (Jvm.Cond.fieldLink "VectorPipes" (238 : Nat) "VectorPipes$Machine" "memory" "LVectorPipes$Row;") ∈ lw_G := gd (i := 293) (by decide +kernel) (by decide +kernel)
theorem q_294 : (Jvm.Cond.fieldLink "VectorPipes$Machine" (52 : Nat) "VectorPipes$Machine" "mask" "I") ∈ lw_G := gd (i := 294) (by decide +kernel) (by decide +kernel)
theorem q_295 : (Jvm.Cond.fieldLink "VectorPipes$Runne\x72" (154 : Nat) "VectorPipes$Machine" "mask" "I") ∈ lw_G := gd (i := 295) (by decide +kernel) (by decide +kernel)
theorem q_296 : (Jvm.Cond.fieldLink "VectorPipes" (202 : Nat) "VectorPipes$Machine" "mask" "I") ∈ lw_G := gd (i := 296) (by decide +kernel) (by decide +kernel)
theorem q_297 : (Jvm.Cond.fieldLink "VectorPipes$Machine" (31 : Nat) "VectorPipes$Machine" "vl" "I") ∈ lw_G := gd (i := 297) (by decide +kernel) (by decide +kernel)
theorem q_298 : (Jvm.Cond.fieldLink "VectorPipes$Runne\x72" (77 : Nat) "VectorPipes$Machine" "vl" "I") ∈ lw_G := gd (i := 298) (by decide +kernel) (by decide +kernel)
theorem q_299 : (Jvm.Cond.fieldLink "VectorPipes" (193 : Nat) "VectorPipes$Machine" "vl" "I") ∈ lw_G := gd (i := 299) (by decide +kernel) (by decide +kernel)
theorem q_300 : (Jvm.Cond.fieldLink "VectorPipes$Machine" (35 : Nat) "VectorPipes$Machine" "banks" "I") ∈ lw_G := gd (i := 300) (by decide +kernel) (by decide +kernel)
theorem q_301 : (Jvm.Cond.fieldLink "VectorPipes" (196 : Nat) "VectorPipes$Machine" "banks" "I") ∈ lw_G := gd (i := 301) (by decide +kernel) (by decide +kernel)
theorem q_302 : (Jvm.Cond.fieldLink "VectorPipes$Machine" (38 : Nat) "VectorPipes$Machine" "busy" "I") ∈ lw_G := gd (i := 302) (by decide +kernel) (by decide +kernel)
theorem q_303 : (Jvm.Cond.fieldLink "VectorPipes$Runne\x72" (252 : Nat) "VectorPipes$Machine" "busy" "I") ∈ lw_G := gd (i := 303) (by decide +kernel) (by decide +kernel)
theorem q_304 : (Jvm.Cond.fieldLink "VectorPipes" (199 : Nat) "VectorPipes$Machine" "busy" "I") ∈ lw_G := gd (i := 304) (by decide +kernel) (by decide +kernel)
theorem q_305 : (Jvm.Cond.fieldLink "VectorPipes$Machine" (44 : Nat) "VectorPipes$Machine" "plan" "LVectorPipes$Program;") ∈ lw_G := gd (i := 305) (by decide +kernel) (by decide +kernel)
theorem q_306 : (Jvm.Cond.fieldLink "VectorPipes$Runne\x72" (56 : Nat) "VectorPipes$Machine" "plan" "LVectorPipes$Program;") ∈ lw_G := gd (i := 306) (by decide +kernel) (by decide +kernel)
theorem q_307 : (Jvm.Cond.fieldLink "VectorPipes" (178 : Nat) "VectorPipes$Machine" "plan" "LVectorPipes$Program;") ∈ lw_G := gd (i := 307) (by decide +kernel) (by decide +kernel)
theorem q_328 : (Jvm.Cond.classLink "VectorPipes" (38 : Nat) "VectorPipes$Binary") ∈ lw_G := gd (i := 328) (by decide +kernel) (by decide +kernel)
theorem q_329 : (Jvm.Cond.instantiable "VectorPipes$Binary" (5 : Nat)) ∈ lw_G := gd (i := 329) (by decide +kernel) (by decide +kernel)
theorem q_330 : (Jvm.Cond.methodLink "VectorPipes" (40 : Nat) ({ cls := "VectorPipes$Binary", name := "<init>", desc := "()V" } : Jvm.MethodName)) ∈ lw_G := gd (i := 330) (by decide +kernel) (by decide +kernel)
theorem q_331 : (Jvm.Cond.instanceMethod ({ cls := "VectorPipes$Binary", name := "<init>", desc := "()V" } : Jvm.MethodName)) ∈ lw_G := gd (i := 331) (by decide +kernel) (by decide +kernel)
theorem q_332 : (Jvm.Cond.code ({ cls := "VectorPipes$Binary", name := "<init>", desc := "()V" } : Jvm.MethodName) prog_3_method_1_code (4 : Nat) (Option.none : Option Jvm.ClassFile.FieldType)) ∈ lw_G := gd (i := 332) (by decide +kernel) (by decide +kernel)
theorem q_333 : (Jvm.Cond.methodLink "VectorPipes$Binary" (1 : Nat) ({ cls := "java/lang/Object", name := "<init>", desc := "()V" } : Jvm.MethodName)) ∈ lw_G := gd (i := 333) (by decide +kernel) (by decide +kernel)
theorem q_334 : (Jvm.Cond.constantDouble "VectorPipes$Binary" (13 : Nat) (4611686018427387904 : UInt64)) ∈ lw_G := gd (i := 334) (by decide +kernel) (by decide +kernel)
theorem q_335 : (Jvm.Cond.fieldLink "VectorPipes$Binary" (21 : Nat) "VectorPipes$Binary" "toldMantissa" "J") ∈ lw_G := gd (i := 335) (by decide +kernel) (by decide +kernel)
theorem q_336 : (Jvm.Cond.fieldLink "VectorPipes" (94 : Nat) "VectorPipes$Binary" "toldMantissa" "J") ∈ lw_G := gd (i := 336) (by decide +kernel) (by decide +kernel)
theorem q_337 : (Jvm.Cond.fieldLink "VectorPipes$Binary" (25 : Nat) "VectorPipes$Binary" "toldExponent" "I") ∈ lw_G := gd (i := 337) (by decide +kernel) (by decide +kernel)
theorem q_338 : (Jvm.Cond.fieldLink "VectorPipes" (98 : Nat) "VectorPipes$Binary" "toldExponent" "I") ∈ lw_G := gd (i := 338) (by decide +kernel) (by decide +kernel)
theorem q_339 : (Jvm.Cond.fieldLink "VectorPipes$Binary" (9 : Nat) "VectorPipes$Binary" "powers" "[D") ∈ lw_G := gd (i := 339) (by decide +kernel) (by decide +kernel)
theorem q_340 : (Jvm.Cond.fieldLink "VectorPipes$Binary" (37 : Nat) "VectorPipes$Binary" "mantissa" "J") ∈ lw_G := gd (i := 340) (by decide +kernel) (by decide +kernel)
theorem q_341 : (Jvm.Cond.fieldLink "VectorPipes$Binary" (42 : Nat) "VectorPipes$Binary" "exponent" "I") ∈ lw_G := gd (i := 341) (by decide +kernel) (by decide +kernel)
theorem q_353 : (Jvm.Cond.classLink "VectorPipes" (45 : Nat) "VectorPipes$Runne\x72") ∈ lw_G := gd (i := 353) (by decide +kernel) (by decide +kernel)
theorem q_354 : (Jvm.Cond.instantiable "VectorPipes$Runne\x72" (11 : Nat)) ∈ lw_G := gd (i := 354) (by decide +kernel) (by decide +kernel)
theorem q_355 : (Jvm.Cond.methodLink "VectorPipes" (47 : Nat) ({ cls := "VectorPipes$Runne\x72", name := "<init>", desc := "(LVectorPipes$Binary;)V" } : Jvm.MethodName)) ∈ lw_G := gd (i := 355) (by decide +kernel) (by decide +kernel)
theorem q_356 : (Jvm.Cond.instanceMethod ({ cls := "VectorPipes$Runne\x72", name := "<init>", desc := "(LVectorPipes$Binary;)V" } : Jvm.MethodName)) ∈ lw_G := gd (i := 356) (by decide +kernel) (by decide +kernel)
theorem q_357 : (Jvm.Cond.code ({ cls := "VectorPipes$Runne\x72", name := "<init>", desc := "(LVectorPipes$Binary;)V" } : Jvm.MethodName) prog_11_method_1_code (2 : Nat) (Option.none : Option Jvm.ClassFile.FieldType)) ∈ lw_G := gd (i := 357) (by decide +kernel) (by decide +kernel)
theorem q_358 : (Jvm.Cond.methodLink "VectorPipes$Runne\x72" (3 : Nat) ({ cls := "java/lang/Object", name := "<init>", desc := "()V" } : Jvm.MethodName)) ∈ lw_G := gd (i := 358) (by decide +kernel) (by decide +kernel)
theorem q_359 : (Jvm.Cond.classLink "VectorPipes$Runne\x72" (15 : Nat) "VectorPipes$Row") ∈ lw_G := gd (i := 359) (by decide +kernel) (by decide +kernel)
theorem q_360 : (Jvm.Cond.methodLink "VectorPipes$Runne\x72" (17 : Nat) ({ cls := "VectorPipes$Row", name := "<init>", desc := "(I)V" } : Jvm.MethodName)) ∈ lw_G := gd (i := 360) (by decide +kernel) (by decide +kernel)
theorem q_361 : (Jvm.Cond.classLink "VectorPipes$Runne\x72" (24 : Nat) "VectorPipes$Num") ∈ lw_G := gd (i := 361) (by decide +kernel) (by decide +kernel)
theorem q_362 : (Jvm.Cond.instantiable "VectorPipes$Num" (2 : Nat)) ∈ lw_G := gd (i := 362) (by decide +kernel) (by decide +kernel)
theorem q_364 : (Jvm.Cond.instanceMethod ({ cls := "VectorPipes$Num", name := "<init>", desc := "()V" } : Jvm.MethodName)) ∈ lw_G := gd (i := 364) (by decide +kernel) (by decide +kernel)
theorem q_365 : (Jvm.Cond.code ({ cls := "VectorPipes$Num", name := "<init>", desc := "()V" } : Jvm.MethodName) prog_6_method_1_code (1 : Nat) (Option.none : Option Jvm.ClassFile.FieldType)) ∈ lw_G := gd (i := 365) (by decide +kernel) (by decide +kernel)
theorem q_366 : (Jvm.Cond.methodLink "VectorPipes$Num" (1 : Nat) ({ cls := "java/lang/Object", name := "<init>", desc := "()V" } : Jvm.MethodName)) ∈ lw_G := gd (i := 366) (by decide +kernel) (by decide +kernel)
theorem q_367 : (Jvm.Cond.fieldLink "VectorPipes$Num" (7 : Nat) "VectorPipes$Num" "value" "D") ∈ lw_G := gd (i := 367) (by decide +kernel) (by decide +kernel)
theorem q_368 : (Jvm.Cond.fieldLink "VectorPipes$Binary" (29 : Nat) "VectorPipes$Num" "value" "D") ∈ lw_G := gd (i := 368) (by decide +kernel) (by decide +kernel)
theorem q_369 : (Jvm.Cond.fieldLink "VectorPipes$Row" (23 : Nat) "VectorPipes$Num" "value" "D") ∈ lw_G := gd (i := 369) (by decide +kernel) (by decide +kernel)
theorem q_370 : (Jvm.Cond.fieldLink "VectorPipes$Num" (13 : Nat) "VectorPipes$Num" "odd" "Z") ∈ lw_G := gd (i := 370) (by decide +kernel) (by decide +kernel)
theorem q_371 : (Jvm.Cond.fieldLink "VectorPipes$Row" (29 : Nat) "VectorPipes$Num" "odd" "Z") ∈ lw_G := gd (i := 371) (by decide +kernel) (by decide +kernel)
theorem q_372 : (Jvm.Cond.fieldLink "VectorPipes$Binary" (49 : Nat) "VectorPipes$Num" "odd" "Z") ∈ lw_G := gd (i := 372) (by decide +kernel) (by decide +kernel)
theorem q_373 : (Jvm.Cond.fieldLink "VectorPipes$Runne\x72" (321 : Nat) "VectorPipes$Num" "odd" "Z") ∈ lw_G := gd (i := 373) (by decide +kernel) (by decide +kernel)
theorem q_379 : (Jvm.Cond.fieldLink "VectorPipes$Runne\x72" (9 : Nat) "VectorPipes$Runne\x72" "binary" "LVectorPipes$Binary;") ∈ lw_G := gd (i := 379) (by decide +kernel) (by decide +kernel)
theorem q_380 : (Jvm.Cond.fieldLink "VectorPipes$Runne\x72" (20 : Nat) "VectorPipes$Runne\x72" "work" "LVectorPipes$Row;") ∈ lw_G := gd (i := 380) (by decide +kernel) (by decide +kernel)
theorem q_381 : (Jvm.Cond.fieldLink "VectorPipes$Runne\x72" (27 : Nat) "VectorPipes$Runne\x72" "x" "LVectorPipes$Num;") ∈ lw_G := gd (i := 381) (by decide +kernel) (by decide +kernel)
theorem q_382 : (Jvm.Cond.fieldLink "VectorPipes$Runne\x72" (31 : Nat) "VectorPipes$Runne\x72" "y" "LVectorPipes$Num;") ∈ lw_G := gd (i := 382) (by decide +kernel) (by decide +kernel)
theorem q_383 : (Jvm.Cond.fieldLink "VectorPipes$Runne\x72" (34 : Nat) "VectorPipes$Runne\x72" "m" "LVectorPipes$Machine;") ∈ lw_G := gd (i := 383) (by decide +kernel) (by decide +kernel)
theorem q_384 : (Jvm.Cond.fieldLink "VectorPipes$Runne\x72" (38 : Nat) "VectorPipes$Runne\x72" "times" "LVectorPipes$Times;") ∈ lw_G := gd (i := 384) (by decide +kernel) (by decide +kernel)
theorem q_385 : (Jvm.Cond.fieldLink "VectorPipes$Runne\x72" (47 : Nat) "VectorPipes$Runne\x72" "strip" "LVectorPipes$Instr;") ∈ lw_G := gd (i := 385) (by decide +kernel) (by decide +kernel)
theorem q_386 : (Jvm.Cond.fieldLink "VectorPipes$Runne\x72" (124 : Nat) "VectorPipes$Runne\x72" "stripAt" "I") ∈ lw_G := gd (i := 386) (by decide +kernel) (by decide +kernel)
theorem q_387 : (Jvm.Cond.fieldLink "VectorPipes$Runne\x72" (127 : Nat) "VectorPipes$Runne\x72" "vlAhead" "I") ∈ lw_G := gd (i := 387) (by decide +kernel) (by decide +kernel)
theorem q_388 : (Jvm.Cond.fieldLink "VectorPipes$Runne\x72" (51 : Nat) "VectorPipes$Runne\x72" "base" "I") ∈ lw_G := gd (i := 388) (by decide +kernel) (by decide +kernel)
theorem q_389 : (Jvm.Cond.fieldLink "VectorPipes$Runne\x72" (235 : Nat) "VectorPipes$Runne\x72" "packed" "I") ∈ lw_G := gd (i := 389) (by decide +kernel) (by decide +kernel)
theorem q_413 : (Jvm.Cond.classLink "VectorPipes" (54 : Nat) "VectorPipes$Times") ∈ lw_G := gd (i := 413) (by decide +kernel) (by decide +kernel)
theorem q_414 : (Jvm.Cond.instantiable "VectorPipes$Times" (17 : Nat)) ∈ lw_G := gd (i := 414) (by decide +kernel) (by decide +kernel)
theorem q_415 : (Jvm.Cond.methodLink "VectorPipes" (56 : Nat) ({ cls := "VectorPipes$Times", name := "<init>", desc := "()V" } : Jvm.MethodName)) ∈ lw_G := gd (i := 415) (by decide +kernel) (by decide +kernel)
theorem q_416 : (Jvm.Cond.instanceMethod ({ cls := "VectorPipes$Times", name := "<init>", desc := "()V" } : Jvm.MethodName)) ∈ lw_G := gd (i := 416) (by decide +kernel) (by decide +kernel)
theorem q_417 : (Jvm.Cond.code ({ cls := "VectorPipes$Times", name := "<init>", desc := "()V" } : Jvm.MethodName) prog_12_method_1_code (1 : Nat) (Option.none : Option Jvm.ClassFile.FieldType)) ∈ lw_G := gd (i := 417) (by decide +kernel) (by decide +kernel)
theorem q_418 : (Jvm.Cond.methodLink "VectorPipes$Times" (3 : Nat) ({ cls := "java/lang/Object", name := "<init>", desc := "()V" } : Jvm.MethodName)) ∈ lw_G := gd (i := 418) (by decide +kernel) (by decide +kernel)
theorem q_421 : (Jvm.Cond.fieldLink "VectorPipes$Times" (33 : Nat) "VectorPipes$Times" "cycles" "I") ∈ lw_G := gd (i := 421) (by decide +kernel) (by decide +kernel)
theorem q_422 : (Jvm.Cond.fieldLink "VectorPipes" (294 : Nat) "VectorPipes$Times" "cycles" "I") ∈ lw_G := gd (i := 422) (by decide +kernel) (by decide +kernel)
theorem q_423 : (Jvm.Cond.fieldLink "VectorPipes$Times" (37 : Nat) "VectorPipes$Times" "stalled" "I") ∈ lw_G := gd (i := 423) (by decide +kernel) (by decide +kernel)
theorem q_424 : (Jvm.Cond.fieldLink "VectorPipes" (297 : Nat) "VectorPipes$Times" "stalled" "I") ∈ lw_G := gd (i := 424) (by decide +kernel) (by decide +kernel)
theorem q_425 : (Jvm.Cond.fieldLink "VectorPipes$Times" (40 : Nat) "VectorPipes$Times" "done" "I") ∈ lw_G := gd (i := 425) (by decide +kernel) (by decide +kernel)
theorem q_426 : (Jvm.Cond.fieldLink "VectorPipes$Runne\x72" (100 : Nat) "VectorPipes$Times" "done" "I") ∈ lw_G := gd (i := 426) (by decide +kernel) (by decide +kernel)
theorem q_427 : (Jvm.Cond.fieldLink "VectorPipes" (291 : Nat) "VectorPipes$Times" "done" "I") ∈ lw_G := gd (i := 427) (by decide +kernel) (by decide +kernel)
theorem q_428 : (Jvm.Cond.fieldLink "VectorPipes$Times" (43 : Nat) "VectorPipes$Times" "trap" "I") ∈ lw_G := gd (i := 428) (by decide +kernel) (by decide +kernel)
theorem q_429 : (Jvm.Cond.fieldLink "VectorPipes$Runne\x72" (136 : Nat) "VectorPipes$Times" "trap" "I") ∈ lw_G := gd (i := 429) (by decide +kernel) (by decide +kernel)
theorem q_430 : (Jvm.Cond.fieldLink "VectorPipes" (288 : Nat) "VectorPipes$Times" "trap" "I") ∈ lw_G := gd (i := 430) (by decide +kernel) (by decide +kernel)
theorem q_431 : (Jvm.Cond.fieldLink "VectorPipes$Times" (46 : Nat) "VectorPipes$Times" "trapAt" "I") ∈ lw_G := gd (i := 431) (by decide +kernel) (by decide +kernel)
theorem q_432 : (Jvm.Cond.fieldLink "VectorPipes$Runne\x72" (139 : Nat) "VectorPipes$Times" "trapAt" "I") ∈ lw_G := gd (i := 432) (by decide +kernel) (by decide +kernel)
theorem q_433 : (Jvm.Cond.fieldLink "VectorPipes" (300 : Nat) "VectorPipes$Times" "trapAt" "I") ∈ lw_G := gd (i := 433) (by decide +kernel) (by decide +kernel)
theorem q_434 : (Jvm.Cond.fieldLink "VectorPipes$Times" (49 : Nat) "VectorPipes$Times" "trapElement" "I") ∈ lw_G := gd (i := 434) (by decide +kernel) (by decide +kernel)
theorem q_435 : (Jvm.Cond.fieldLink "VectorPipes$Runne\x72" (142 : Nat) "VectorPipes$Times" "trapElement" "I") ∈ lw_G := gd (i := 435) (by decide +kernel) (by decide +kernel)
theorem q_436 : (Jvm.Cond.fieldLink "VectorPipes" (303 : Nat) "VectorPipes$Times" "trapElement" "I") ∈ lw_G := gd (i := 436) (by decide +kernel) (by decide +kernel)
theorem q_437 : (Jvm.Cond.fieldLink "VectorPipes$Times" (9 : Nat) "VectorPipes$Times" "began" "[I") ∈ lw_G := gd (i := 437) (by decide +kernel) (by decide +kernel)
theorem q_438 : (Jvm.Cond.fieldLink "VectorPipes" (314 : Nat) "VectorPipes$Times" "began" "[I") ∈ lw_G := gd (i := 438) (by decide +kernel) (by decide +kernel)
theorem q_439 : (Jvm.Cond.fieldLink "VectorPipes$Times" (15 : Nat) "VectorPipes$Times" "ended" "[I") ∈ lw_G := gd (i := 439) (by decide +kernel) (by decide +kernel)
theorem q_440 : (Jvm.Cond.fieldLink "VectorPipes" (318 : Nat) "VectorPipes$Times" "ended" "[I") ∈ lw_G := gd (i := 440) (by decide +kernel) (by decide +kernel)
theorem q_441 : (Jvm.Cond.fieldLink "VectorPipes$Times" (52 : Nat) "VectorPipes$Times" "begun" "I") ∈ lw_G := gd (i := 441) (by decide +kernel) (by decide +kernel)
theorem q_442 : (Jvm.Cond.fieldLink "VectorPipes$Times" (55 : Nat) "VectorPipes$Times" "lastEnd" "I") ∈ lw_G := gd (i := 442) (by decide +kernel) (by decide +kernel)
theorem q_443 : (Jvm.Cond.fieldLink "VectorPipes$Times" (58 : Nat) "VectorPipes$Times" "taken" "I") ∈ lw_G := gd (i := 443) (by decide +kernel) (by decide +kernel)
theorem q_444 : (Jvm.Cond.fieldLink "VectorPipes$Times" (61 : Nat) "VectorPipes$Times" "maskReady" "I") ∈ lw_G := gd (i := 444) (by decide +kernel) (by decide +kernel)
theorem q_445 : (Jvm.Cond.fieldLink "VectorPipes$Times" (64 : Nat) "VectorPipes$Times" "maskRead" "I") ∈ lw_G := gd (i := 445) (by decide +kernel) (by decide +kernel)
theorem q_446 : (Jvm.Cond.fieldLink "VectorPipes$Times" (21 : Nat) "VectorPipes$Times" "free" "[I") ∈ lw_G := gd (i := 446) (by decide +kernel) (by decide +kernel)
theorem q_447 : (Jvm.Cond.fieldLink "VectorPipes$Times" (24 : Nat) "VectorPipes$Times" "ready" "[I") ∈ lw_G := gd (i := 447) (by decide +kernel) (by decide +kernel)
theorem q_448 : (Jvm.Cond.fieldLink "VectorPipes$Times" (27 : Nat) "VectorPipes$Times" "lastRead" "[I") ∈ lw_G := gd (i := 448) (by decide +kernel) (by decide +kernel)
theorem q_449 : (Jvm.Cond.fieldLink "VectorPipes$Times" (30 : Nat) "VectorPipes$Times" "bankFree" "[I") ∈ lw_G := gd (i := 449) (by decide +kernel) (by decide +kernel)
theorem q_485 : (Jvm.Cond.arrayClass Jvm.ClassFile.FieldType.int) ∈ lw_G := gd (i := 485) (by decide +kernel) (by decide +kernel)
theorem q_486 : (Jvm.Cond.classLink "VectorPipes" (64 : Nat) "VectorPipes$Program") ∈ lw_G := gd (i := 486) (by decide +kernel) (by decide +kernel)
theorem q_487 : (Jvm.Cond.methodLink "VectorPipes" (66 : Nat) ({ cls := "VectorPipes$Program", name := "<init>", desc := "()V" } : Jvm.MethodName)) ∈ lw_G := gd (i := 487) (by decide +kernel) (by decide +kernel)
theorem q_488 : (Jvm.Cond.classLink "VectorPipes" (74 : Nat) "VectorPipes$Num") ∈ lw_G := gd (i := 488) (by decide +kernel) (by decide +kernel)
theorem q_490 : (Jvm.Cond.fieldLink "VectorPipes" (11 : Nat) "VectorPipes" "trays" "[LVectorPipes$Tray;") ∈ lw_G := gd (i := 490) (by decide +kernel) (by decide +kernel)
theorem q_491 : (Jvm.Cond.fieldLink "VectorPipes" (16 : Nat) "VectorPipes" "tape" "[B") ∈ lw_G := gd (i := 491) (by decide +kernel) (by decide +kernel)
theorem q_492 : (Jvm.Cond.fieldLink "VectorPipes" (167 : Nat) "VectorPipes" "taped" "I") ∈ lw_G := gd (i := 492) (by decide +kernel) (by decide +kernel)
theorem q_493 : (Jvm.Cond.fieldLink "VectorPipes" (23 : Nat) "VectorPipes" "parse\x72" "LVectorPipes$Parser;") ∈ lw_G := gd (i := 493) (by decide +kernel) (by decide +kernel)
theorem q_494 : (Jvm.Cond.fieldLink "VectorPipes" (30 : Nat) "VectorPipes" "machine" "LVectorPipes$Machine;") ∈ lw_G := gd (i := 494) (by decide +kernel) (by decide +kernel)
theorem q_495 : (Jvm.Cond.fieldLink "VectorPipes" (34 : Nat) "VectorPipes" "marks" "[LVectorPipes$Machine;") ∈ lw_G := gd (i := 495) (by decide +kernel) (by decide +kernel)
theorem q_496 : (Jvm.Cond.fieldLink "VectorPipes" (363 : Nat) "VectorPipes" "marked" "I") ∈ lw_G := gd (i := 496) (by decide +kernel) (by decide +kernel)
theorem q_497 : (Jvm.Cond.fieldLink "VectorPipes" (50 : Nat) "VectorPipes" "runne\x72" "LVectorPipes$Runner;") ∈ lw_G := gd (i := 497) (by decide +kernel) (by decide +kernel)
theorem q_498 : (Jvm.Cond.fieldLink "VectorPipes" (57 : Nat) "VectorPipes" "latest" "LVectorPipes$Times;") ∈ lw_G := gd (i := 498) (by decide +kernel) (by decide +kernel)
theorem q_499 : (Jvm.Cond.fieldLink "VectorPipes" (285 : Nat) "VectorPipes" "hasRun" "Z") ∈ lw_G := gd (i := 499) (by decide +kernel) (by decide +kernel)
theorem q_500 : (Jvm.Cond.fieldLink "VectorPipes" (181 : Nat) "VectorPipes" "hasTimes" "Z") ∈ lw_G := gd (i := 500) (by decide +kernel) (by decide +kernel)
theorem q_501 : (Jvm.Cond.fieldLink "VectorPipes" (61 : Nat) "VectorPipes" "trial" "LVectorPipes$Machine;") ∈ lw_G := gd (i := 501) (by decide +kernel) (by decide +kernel)
theorem q_502 : (Jvm.Cond.fieldLink "VectorPipes" (67 : Nat) "VectorPipes" "swapped" "LVectorPipes$Program;") ∈ lw_G := gd (i := 502) (by decide +kernel) (by decide +kernel)
theorem q_503 : (Jvm.Cond.fieldLink "VectorPipes" (71 : Nat) "VectorPipes" "trialTimes" "LVectorPipes$Times;") ∈ lw_G := gd (i := 503) (by decide +kernel) (by decide +kernel)
theorem q_504 : (Jvm.Cond.fieldLink "VectorPipes" (41 : Nat) "VectorPipes" "binary" "LVectorPipes$Binary;") ∈ lw_G := gd (i := 504) (by decide +kernel) (by decide +kernel)
theorem q_505 : (Jvm.Cond.fieldLink "VectorPipes" (77 : Nat) "VectorPipes" "told" "LVectorPipes$Num;") ∈ lw_G := gd (i := 505) (by decide +kernel) (by decide +kernel)
theorem q_506 : (Jvm.Cond.fieldLink "VectorPipes" (81 : Nat) "VectorPipes" "first" "LVectorPipes$Num;") ∈ lw_G := gd (i := 506) (by decide +kernel) (by decide +kernel)
theorem q_507 : (Jvm.Cond.fieldLink "VectorPipes" (84 : Nat) "VectorPipes" "othe\x72" "LVectorPipes$Num;") ∈ lw_G := gd (i := 507) (by decide +kernel) (by decide +kernel)
theorem q_508 : (Jvm.Cond.fieldLink "VectorPipes" (87 : Nat) "VectorPipes" "third" "LVectorPipes$Num;") ∈ lw_G := gd (i := 508) (by decide +kernel) (by decide +kernel)
theorem q_509 : (Jvm.Cond.fieldLink "VectorPipes" (90 : Nat) "VectorPipes" "status" "I") ∈ lw_G := gd (i := 509) (by decide +kernel) (by decide +kernel)
theorem q_567 : (Jvm.Cond.methodLink "VectorPipes" (113 : Nat) ({ cls := "VectorPipes", name := "isTray", desc := "(I)Z" } : Jvm.MethodName)) ∈ lw_G := gd (i := 567) (by decide +kernel) (by decide +kernel)
theorem q_568 : (Jvm.Cond.static ({ cls := "VectorPipes", name := "isTray", desc := "(I)Z" } : Jvm.MethodName)) ∈ lw_G := gd (i := 568) (by decide +kernel) (by decide +kernel)
theorem q_569 : (Jvm.Cond.code ({ cls := "VectorPipes", name := "isTray", desc := "(I)Z" } : Jvm.MethodName) prog_1_method_12_code (1 : Nat) (Option.some Jvm.ClassFile.FieldType.boolean)) ∈ lw_G := gd (i := 569) (by decide +kernel) (by decide +kernel)
theorem q_570 : (Jvm.Cond.methodLink "VectorPipes" (109 : Nat) ({ cls := "VectorPipes", name := "within", desc := "(III)Z" } : Jvm.MethodName)) ∈ lw_G := gd (i := 570) (by decide +kernel) (by decide +kernel)
theorem q_571 : (Jvm.Cond.static ({ cls := "VectorPipes", name := "within", desc := "(III)Z" } : Jvm.MethodName)) ∈ lw_G := gd (i := 571) (by decide +kernel) (by decide +kernel)
theorem q_572 : (Jvm.Cond.code ({ cls := "VectorPipes", name := "within", desc := "(III)Z" } : Jvm.MethodName) prog_1_method_10_code (3 : Nat) (Option.some Jvm.ClassFile.FieldType.boolean)) ∈ lw_G := gd (i := 572) (by decide +kernel) (by decide +kernel)
theorem q_573 : (Jvm.Cond.methodLink "VectorPipes" (117 : Nat) ({ cls := "VectorPipes", name := "deny", desc := "(I)Z" } : Jvm.MethodName)) ∈ lw_G := gd (i := 573) (by decide +kernel) (by decide +kernel)
theorem q_575 : (Jvm.Cond.instanceMethod ({ cls := "VectorPipes", name := "deny", desc := "(I)Z" } : Jvm.MethodName)) ∈ lw_G := gd (i := 575) (by decide +kernel) (by decide +kernel)
theorem q_576 : (Jvm.Cond.code ({ cls := "VectorPipes", name := "deny", desc := "(I)Z" } : Jvm.MethodName) prog_1_method_6_code (2 : Nat) (Option.some Jvm.ClassFile.FieldType.boolean)) ∈ lw_G := gd (i := 576) (by decide +kernel) (by decide +kernel)
theorem q_577 : (Jvm.Cond.methodLink "VectorPipes" (120 : Nat) ({ cls := "VectorPipes$Tray", name := "begin", desc := "(II)V" } : Jvm.MethodName)) ∈ lw_G := gd (i := 577) (by decide +kernel) (by decide +kernel)
theorem q_578 : (Jvm.Cond.instanceMethod ({ cls := "VectorPipes$Tray", name := "begin", desc := "(II)V" } : Jvm.MethodName)) ∈ lw_G := gd (i := 578) (by decide +kernel) (by decide +kernel)
theorem q_579 : (Jvm.Cond.selects "VectorPipes$Tray" ({ cls := "VectorPipes$Tray", name := "begin", desc := "(II)V" } : Jvm.MethodName) ({ cls := "VectorPipes$Tray", name := "begin", desc := "(II)V" } : Jvm.MethodName)) ∈ lw_G := gd (i := 579) (by decide +kernel) (by decide +kernel)
theorem q_580 : (Jvm.Cond.code ({ cls := "VectorPipes$Tray", name := "begin", desc := "(II)V" } : Jvm.MethodName) prog_13_method_2_code (3 : Nat) (Option.none : Option Jvm.ClassFile.FieldType)) ∈ lw_G := gd (i := 580) (by decide +kernel) (by decide +kernel)
theorem q_581 : (Jvm.Cond.methodLink "VectorPipes$Tray" (26 : Nat) ({ cls := "java/util/Arrays", name := "fill", desc := "([JJ)V" } : Jvm.MethodName)) ∈ lw_G := gd (i := 581) (by decide +kernel) (by decide +kernel)
theorem q_582 : (Jvm.Cond.static ({ cls := "java/util/Arrays", name := "fill", desc := "([JJ)V" } : Jvm.MethodName)) ∈ lw_G := gd (i := 582) (by decide +kernel) (by decide +kernel)
theorem q_583 : (Jvm.Cond.code ({ cls := "java/util/Arrays", name := "fill", desc := "([JJ)V" } : Jvm.MethodName) prog_25_method_101_code (5 : Nat) (Option.none : Option Jvm.ClassFile.FieldType)) ∈ lw_G := gd (i := 583) (by decide +kernel) (by decide +kernel)
theorem q_584 : (Jvm.Cond.methodLink "VectorPipes" (124 : Nat) ({ cls := "VectorPipes", name := "agree", desc := "()Z" } : Jvm.MethodName)) ∈ lw_G := gd (i := 584) (by decide +kernel) (by decide +kernel)
theorem q_586 : (Jvm.Cond.instanceMethod ({ cls := "VectorPipes", name := "agree", desc := "()Z" } : Jvm.MethodName)) ∈ lw_G := gd (i := 586) (by decide +kernel) (by decide +kernel)
theorem q_587 : (Jvm.Cond.code ({ cls := "VectorPipes", name := "agree", desc := "()Z" } : Jvm.MethodName) prog_1_method_8_code (1 : Nat) (Option.some Jvm.ClassFile.FieldType.boolean)) ∈ lw_G := gd (i := 587) (by decide +kernel) (by decide +kernel)
theorem q_592 : (Jvm.Cond.methodLink "VectorPipes" (135 : Nat) ({ cls := "VectorPipes", name := "trayTrouble", desc := "(II)I" } : Jvm.MethodName)) ∈ lw_G := gd (i := 592) (by decide +kernel) (by decide +kernel)
theorem q_594 : (Jvm.Cond.instanceMethod ({ cls := "VectorPipes", name := "trayTrouble", desc := "(II)I" } : Jvm.MethodName)) ∈ lw_G := gd (i := 594) (by decide +kernel) (by decide +kernel)
theorem q_595 : (Jvm.Cond.code ({ cls := "VectorPipes", name := "trayTrouble", desc := "(II)I" } : Jvm.MethodName) prog_1_method_14_code (3 : Nat) (Option.some Jvm.ClassFile.FieldType.int)) ∈ lw_G := gd (i := 595) (by decide +kernel) (by decide +kernel)
theorem q_596 : (Jvm.Cond.methodLink "VectorPipes" (132 : Nat) ({ cls := "VectorPipes$Tray", name := "has", desc := "(I)Z" } : Jvm.MethodName)) ∈ lw_G := gd (i := 596) (by decide +kernel) (by decide +kernel)
theorem q_597 : (Jvm.Cond.instanceMethod ({ cls := "VectorPipes$Tray", name := "has", desc := "(I)Z" } : Jvm.MethodName)) ∈ lw_G := gd (i := 597) (by decide +kernel) (by decide +kernel)
theorem q_598 : (Jvm.Cond.selects "VectorPipes$Tray" ({ cls := "VectorPipes$Tray", name := "has", desc := "(I)Z" } : Jvm.MethodName) ({ cls := "VectorPipes$Tray", name := "has", desc := "(I)Z" } : Jvm.MethodName)) ∈ lw_G := gd (i := 598) (by decide +kernel) (by decide +kernel)
theorem q_599 : (Jvm.Cond.code ({ cls := "VectorPipes$Tray", name := "has", desc := "(I)Z" } : Jvm.MethodName) prog_13_method_3_code (2 : Nat) (Option.some Jvm.ClassFile.FieldType.boolean)) ∈ lw_G := gd (i := 599) (by decide +kernel) (by decide +kernel)
theorem q_600 : (Jvm.Cond.methodLink "VectorPipes" (139 : Nat) ({ cls := "VectorPipes$Tray", name := "keep", desc := "(IJ)V" } : Jvm.MethodName)) ∈ lw_G := gd (i := 600) (by decide +kernel) (by decide +kernel)
theorem q_601 : (Jvm.Cond.instanceMethod ({ cls := "VectorPipes$Tray", name := "keep", desc := "(IJ)V" } : Jvm.MethodName)) ∈ lw_G := gd (i := 601) (by decide +kernel) (by decide +kernel)
theorem q_602 : (Jvm.Cond.selects "VectorPipes$Tray" ({ cls := "VectorPipes$Tray", name := "keep", desc := "(IJ)V" } : Jvm.MethodName) ({ cls := "VectorPipes$Tray", name := "keep", desc := "(IJ)V" } : Jvm.MethodName)) ∈ lw_G := gd (i := 602) (by decide +kernel) (by decide +kernel)
theorem q_603 : (Jvm.Cond.code ({ cls := "VectorPipes$Tray", name := "keep", desc := "(IJ)V" } : Jvm.MethodName) prog_13_method_6_code (4 : Nat) (Option.none : Option Jvm.ClassFile.FieldType)) ∈ lw_G := gd (i := 603) (by decide +kernel) (by decide +kernel)
theorem q_604 : (Jvm.Cond.methodLink "VectorPipes$Tray" (32 : Nat) ({ cls := "VectorPipes$Tray", name := "has", desc := "(I)Z" } : Jvm.MethodName)) ∈ lw_G := gd (i := 604) (by decide +kernel) (by decide +kernel)
theorem q_605 : (Jvm.Cond.methodLink "VectorPipes$Tray" (36 : Nat) ({ cls := "VectorPipes$Tray", name := "cut", desc := "(J)J" } : Jvm.MethodName)) ∈ lw_G := gd (i := 605) (by decide +kernel) (by decide +kernel)
theorem q_607 : (Jvm.Cond.instanceMethod ({ cls := "VectorPipes$Tray", name := "cut", desc := "(J)J" } : Jvm.MethodName)) ∈ lw_G := gd (i := 607) (by decide +kernel) (by decide +kernel)
theorem q_608 : (Jvm.Cond.code ({ cls := "VectorPipes$Tray", name := "cut", desc := "(J)J" } : Jvm.MethodName) prog_13_method_7_code (3 : Nat) (Option.some Jvm.ClassFile.FieldType.long)) ∈ lw_G := gd (i := 608) (by decide +kernel) (by decide +kernel)
theorem q_613 : (Jvm.Cond.methodLink "VectorPipes" (143 : Nat) ({ cls := "VectorPipes", name := "refuse", desc := "(I)I" } : Jvm.MethodName)) ∈ lw_G := gd (i := 613) (by decide +kernel) (by decide +kernel)
theorem q_615 : (Jvm.Cond.instanceMethod ({ cls := "VectorPipes", name := "refuse", desc := "(I)I" } : Jvm.MethodName)) ∈ lw_G := gd (i := 615) (by decide +kernel) (by decide +kernel)
theorem q_616 : (Jvm.Cond.code ({ cls := "VectorPipes", name := "refuse", desc := "(I)I" } : Jvm.MethodName) prog_1_method_5_code (2 : Nat) (Option.some Jvm.ClassFile.FieldType.int)) ∈ lw_G := gd (i := 616) (by decide +kernel) (by decide +kernel)
theorem q_617 : (Jvm.Cond.methodLink "VectorPipes" (146 : Nat) ({ cls := "VectorPipes$Tray", name := "fetch", desc := "(I)J" } : Jvm.MethodName)) ∈ lw_G := gd (i := 617) (by decide +kernel) (by decide +kernel)
theorem q_618 : (Jvm.Cond.instanceMethod ({ cls := "VectorPipes$Tray", name := "fetch", desc := "(I)J" } : Jvm.MethodName)) ∈ lw_G := gd (i := 618) (by decide +kernel) (by decide +kernel)
theorem q_619 : (Jvm.Cond.selects "VectorPipes$Tray" ({ cls := "VectorPipes$Tray", name := "fetch", desc := "(I)J" } : Jvm.MethodName) ({ cls := "VectorPipes$Tray", name := "fetch", desc := "(I)J" } : Jvm.MethodName)) ∈ lw_G := gd (i := 619) (by decide +kernel) (by decide +kernel)
theorem q_620 : (Jvm.Cond.code ({ cls := "VectorPipes$Tray", name := "fetch", desc := "(I)J" } : Jvm.MethodName) prog_13_method_5_code (2 : Nat) (Option.some Jvm.ClassFile.FieldType.long)) ∈ lw_G := gd (i := 620) (by decide +kernel) (by decide +kernel)
theorem q_625 : (Jvm.Cond.methodLink "VectorPipes" (153 : Nat) ({ cls := "VectorPipes$Tray", name := "holds", desc := "(II)Z" } : Jvm.MethodName)) ∈ lw_G := gd (i := 625) (by decide +kernel) (by decide +kernel)
theorem q_626 : (Jvm.Cond.instanceMethod ({ cls := "VectorPipes$Tray", name := "holds", desc := "(II)Z" } : Jvm.MethodName)) ∈ lw_G := gd (i := 626) (by decide +kernel) (by decide +kernel)
theorem q_627 : (Jvm.Cond.selects "VectorPipes$Tray" ({ cls := "VectorPipes$Tray", name := "holds", desc := "(II)Z" } : Jvm.MethodName) ({ cls := "VectorPipes$Tray", name := "holds", desc := "(II)Z" } : Jvm.MethodName)) ∈ lw_G := gd (i := 627) (by decide +kernel) (by decide +kernel)
theorem q_628 : (Jvm.Cond.code ({ cls := "VectorPipes$Tray", name := "holds", desc := "(II)Z" } : Jvm.MethodName) prog_13_method_4_code (3 : Nat) (Option.some Jvm.ClassFile.FieldType.boolean)) ∈ lw_G := gd (i := 628) (by decide +kernel) (by decide +kernel)
theorem q_629 : (Jvm.Cond.methodLink "VectorPipes" (161 : Nat) ({ cls := "java/lang/System", name := "arraycopy", desc := "(Ljava/lang/Object;ILjava/lang/Object;II)V" } : Jvm.MethodName)) ∈ lw_G := gd (i := 629) (by decide +kernel) (by decide +kernel)
theorem q_630 : (Jvm.Cond.static ({ cls := "java/lang/System", name := "arraycopy", desc := "(Ljava/lang/Object;ILjava/lang/Object;II)V" } : Jvm.MethodName)) ∈ lw_G := gd (i := 630) (by decide +kernel) (by decide +kernel)
theorem q_631 : (Jvm.Cond.native ({ cls := "java/lang/System", name := "arraycopy", desc := "(Ljava/lang/Object;ILjava/lang/Object;II)V" } : Jvm.MethodName)) ∈ lw_G := gd (i := 631) (by decide +kernel) (by decide +kernel)
theorem q_636 : (Jvm.Cond.methodLink "VectorPipes" (170 : Nat) ({ cls := "VectorPipes", name := "tapeInt", desc := "(I)V" } : Jvm.MethodName)) ∈ lw_G := gd (i := 636) (by decide +kernel) (by decide +kernel)
theorem q_638 : (Jvm.Cond.instanceMethod ({ cls := "VectorPipes", name := "tapeInt", desc := "(I)V" } : Jvm.MethodName)) ∈ lw_G := gd (i := 638) (by decide +kernel) (by decide +kernel)
theorem q_639 : (Jvm.Cond.code ({ cls := "VectorPipes", name := "tapeInt", desc := "(I)V" } : Jvm.MethodName) prog_1_method_19_code (3 : Nat) (Option.none : Option Jvm.ClassFile.FieldType)) ∈ lw_G := gd (i := 639) (by decide +kernel) (by decide +kernel)
theorem q_644 : (Jvm.Cond.methodLink "VectorPipes" (174 : Nat) ({ cls := "VectorPipes$Parse\x72", name := "parse", desc := "([BI)LVectorPipes$Program;" } : Jvm.MethodName)) ∈ lw_G := gd (i := 644) (by decide +kernel) (by decide +kernel)
theorem q_645 : (Jvm.Cond.instanceMethod ({ cls := "VectorPipes$Parse\x72", name := "parse", desc := "([BI)LVectorPipes$Program;" } : Jvm.MethodName)) ∈ lw_G := gd (i := 645) (by decide +kernel) (by decide +kernel)
theorem q_646 : (Jvm.Cond.selects "VectorPipes$Parse\x72" ({ cls := "VectorPipes$Parse\x72", name := "parse", desc := "([BI)LVectorPipes$Program;" } : Jvm.MethodName) ({ cls := "VectorPipes$Parse\x72", name := "parse", desc := "([BI)LVectorPipes$Program;" } : Jvm.MethodName)) ∈ lw_G := gd (i := 646) (by decide +kernel) (by decide +kernel)
theorem q_647 : (Jvm.Cond.code ({ cls := "VectorPipes$Parse\x72", name := "parse", desc := "([BI)LVectorPipes$Program;" } : Jvm.MethodName) prog_8_method_2_code (4 : Nat) (Option.some (Jvm.ClassFile.FieldType.object "VectorPipes$Program"))) ∈ lw_G := gd (i := 647) (by decide +kernel) (by decide +kernel)
theorem q_648 : (Jvm.Cond.methodLink "VectorPipes$Parse\x72" (28 : Nat) ({ cls := "java/lang/Math", name := "min", desc := "(II)I" } : Jvm.MethodName)) ∈ lw_G := gd (i := 648) (by decide +kernel) (by decide +kernel)
theorem q_649 : (Jvm.Cond.static ({ cls := "java/lang/Math", name := "min", desc := "(II)I" } : Jvm.MethodName)) ∈ lw_G := gd (i := 649) (by decide +kernel) (by decide +kernel)
theorem q_650 : (Jvm.Cond.code ({ cls := "java/lang/Math", name := "min", desc := "(II)I" } : Jvm.MethodName) prog_19_method_69_code (2 : Nat) (Option.some Jvm.ClassFile.FieldType.int)) ∈ lw_G := gd (i := 650) (by decide +kernel) (by decide +kernel)
theorem q_651 : (Jvm.Cond.classLink "VectorPipes$Parse\x72" (40 : Nat) "VectorPipes$Program") ∈ lw_G := gd (i := 651) (by decide +kernel) (by decide +kernel)
theorem q_652 : (Jvm.Cond.methodLink "VectorPipes$Parse\x72" (42 : Nat) ({ cls := "VectorPipes$Program", name := "<init>", desc := "()V" } : Jvm.MethodName)) ∈ lw_G := gd (i := 652) (by decide +kernel) (by decide +kernel)
theorem q_653 : (Jvm.Cond.methodLink "VectorPipes$Parse\x72" (57 : Nat) ({ cls := "VectorPipes$Parse\x72", name := "nextToken", desc := "()Z" } : Jvm.MethodName)) ∈ lw_G := gd (i := 653) (by decide +kernel) (by decide +kernel)
theorem q_655 : (Jvm.Cond.instanceMethod ({ cls := "VectorPipes$Parse\x72", name := "nextToken", desc := "()Z" } : Jvm.MethodName)) ∈ lw_G := gd (i := 655) (by decide +kernel) (by decide +kernel)
theorem q_656 : (Jvm.Cond.code ({ cls := "VectorPipes$Parse\x72", name := "nextToken", desc := "()Z" } : Jvm.MethodName) prog_8_method_3_code (1 : Nat) (Option.some Jvm.ClassFile.FieldType.boolean)) ∈ lw_G := gd (i := 656) (by decide +kernel) (by decide +kernel)
theorem q_657 : (Jvm.Cond.methodLink "VectorPipes$Parse\x72" (72 : Nat) ({ cls := "VectorPipes$Parse\x72", name := "sortOf", desc := "(B)I" } : Jvm.MethodName)) ∈ lw_G := gd (i := 657) (by decide +kernel) (by decide +kernel)
theorem q_658 : (Jvm.Cond.static ({ cls := "VectorPipes$Parse\x72", name := "sortOf", desc := "(B)I" } : Jvm.MethodName)) ∈ lw_G := gd (i := 658) (by decide +kernel) (by decide +kernel)
theorem q_659 : (Jvm.Cond.code ({ cls := "VectorPipes$Parse\x72", name := "sortOf", desc := "(B)I" } : Jvm.MethodName) prog_8_method_4_code (1 : Nat) (Option.some Jvm.ClassFile.FieldType.int)) ∈ lw_G := gd (i := 659) (by decide +kernel) (by decide +kernel)
theorem q_660 : (Jvm.Cond.methodLink "VectorPipes$Parse\x72" (61 : Nat) ({ cls := "VectorPipes$Parse\x72", name := "tokenFault", desc := "()I" } : Jvm.MethodName)) ∈ lw_G := gd (i := 660) (by decide +kernel) (by decide +kernel)
theorem q_662 : (Jvm.Cond.instanceMethod ({ cls := "VectorPipes$Parse\x72", name := "tokenFault", desc := "()I" } : Jvm.MethodName)) ∈ lw_G := gd (i := 662) (by decide +kernel) (by decide +kernel)
theorem q_663 : (Jvm.Cond.code ({ cls := "VectorPipes$Parse\x72", name := "tokenFault", desc := "()I" } : Jvm.MethodName) prog_8_method_5_code (1 : Nat) (Option.some Jvm.ClassFile.FieldType.int)) ∈ lw_G := gd (i := 663) (by decide +kernel) (by decide +kernel)
theorem q_664 : (Jvm.Cond.methodLink "VectorPipes$Parse\x72" (68 : Nat) ({ cls := "java/lang/String", name := "length", desc := "()I" } : Jvm.MethodName)) ∈ lw_G := gd (i := 664) (by decide +kernel) (by decide +kernel)
theorem q_665 : (Jvm.Cond.instanceMethod ({ cls := "java/lang/String", name := "length", desc := "()I" } : Jvm.MethodName)) ∈ lw_G := gd (i := 665) (by decide +kernel) (by decide +kernel)
theorem q_666 : (Jvm.Cond.selects "java/lang/String" ({ cls := "java/lang/String", name := "length", desc := "()I" } : Jvm.MethodName) ({ cls := "java/lang/String", name := "length", desc := "()I" } : Jvm.MethodName)) ∈ lw_G := gd (i := 666) (by decide +kernel) (by decide +kernel)
theorem q_667 : (Jvm.Cond.code ({ cls := "java/lang/String", name := "length", desc := "()I" } : Jvm.MethodName) prog_21_method_54_code (1 : Nat) (Option.some Jvm.ClassFile.FieldType.int)) ∈ lw_G := gd (i := 667) (by decide +kernel) (by decide +kernel)
theorem q_674 : (Jvm.Cond.methodLink "VectorPipes$Parse\x72" (79 : Nat) ({ cls := "VectorPipes$Parse\x72", name := "follow", desc := "()I" } : Jvm.MethodName)) ∈ lw_G := gd (i := 674) (by decide +kernel) (by decide +kernel)
theorem q_676 : (Jvm.Cond.instanceMethod ({ cls := "VectorPipes$Parse\x72", name := "follow", desc := "()I" } : Jvm.MethodName)) ∈ lw_G := gd (i := 676) (by decide +kernel) (by decide +kernel)
theorem q_677 : (Jvm.Cond.code ({ cls := "VectorPipes$Parse\x72", name := "follow", desc := "()I" } : Jvm.MethodName) prog_8_method_7_code (2 : Nat) (Option.some Jvm.ClassFile.FieldType.int)) ∈ lw_G := gd (i := 677) (by decide +kernel) (by decide +kernel)
theorem q_678 : (Jvm.Cond.methodLink "VectorPipes$Parse\x72" (111 : Nat) ({ cls := "java/lang/String", name := "charAt", desc := "(I)C" } : Jvm.MethodName)) ∈ lw_G := gd (i := 678) (by decide +kernel) (by decide +kernel)
theorem q_679 : (Jvm.Cond.instanceMethod ({ cls := "java/lang/String", name := "charAt", desc := "(I)C" } : Jvm.MethodName)) ∈ lw_G := gd (i := 679) (by decide +kernel) (by decide +kernel)
theorem q_680 : (Jvm.Cond.selects "java/lang/String" ({ cls := "java/lang/String", name := "charAt", desc := "(I)C" } : Jvm.MethodName) ({ cls := "java/lang/String", name := "charAt", desc := "(I)C" } : Jvm.MethodName)) ∈ lw_G := gd (i := 680) (by decide +kernel) (by decide +kernel)
theorem q_681 : (Jvm.Cond.code ({ cls := "java/lang/String", name := "charAt", desc := "(I)C" } : Jvm.MethodName) prog_21_method_56_code (2 : Nat) (Option.some Jvm.ClassFile.FieldType.char)) ∈ lw_G := gd (i := 681) (by decide +kernel) (by decide +kernel)
theorem q_717 : (Jvm.Cond.methodLink "VectorPipes$Parse\x72" (117 : Nat) ({ cls := "VectorPipes$Parse\x72", name := "isText", desc := "(Ljava/lang/String;)Z" } : Jvm.MethodName)) ∈ lw_G := gd (i := 717) (by decide +kernel) (by decide +kernel)
theorem q_719 : (Jvm.Cond.instanceMethod ({ cls := "VectorPipes$Parse\x72", name := "isText", desc := "(Ljava/lang/String;)Z" } : Jvm.MethodName)) ∈ lw_G := gd (i := 719) (by decide +kernel) (by decide +kernel)
theorem q_720 : (Jvm.Cond.code ({ cls := "VectorPipes$Parse\x72", name := "isText", desc := "(Ljava/lang/String;)Z" } : Jvm.MethodName) prog_8_method_12_code (3 : Nat) (Option.some Jvm.ClassFile.FieldType.boolean)) ∈ lw_G := gd (i := 720) (by decide +kernel) (by decide +kernel)
theorem q_724 : (Jvm.Cond.methodLink "VectorPipes$Parse\x72" (130 : Nat) ({ cls := "VectorPipes$Parse\x72", name := "followName", desc := "(C)I" } : Jvm.MethodName)) ∈ lw_G := gd (i := 724) (by decide +kernel) (by decide +kernel)
theorem q_726 : (Jvm.Cond.instanceMethod ({ cls := "VectorPipes$Parse\x72", name := "followName", desc := "(C)I" } : Jvm.MethodName)) ∈ lw_G := gd (i := 726) (by decide +kernel) (by decide +kernel)
theorem q_727 : (Jvm.Cond.code ({ cls := "VectorPipes$Parse\x72", name := "followName", desc := "(C)I" } : Jvm.MethodName) prog_8_method_8_code (3 : Nat) (Option.some Jvm.ClassFile.FieldType.int)) ∈ lw_G := gd (i := 727) (by decide +kernel) (by decide +kernel)
theorem q_728 : (Jvm.Cond.methodLink "VectorPipes$Parse\x72" (137 : Nat) ({ cls := "VectorPipes$Parse\x72", name := "letterBehind", desc := "(CI)I" } : Jvm.MethodName)) ∈ lw_G := gd (i := 728) (by decide +kernel) (by decide +kernel)
theorem q_730 : (Jvm.Cond.instanceMethod ({ cls := "VectorPipes$Parse\x72", name := "letterBehind", desc := "(CI)I" } : Jvm.MethodName)) ∈ lw_G := gd (i := 730) (by decide +kernel) (by decide +kernel)
theorem q_731 : (Jvm.Cond.code ({ cls := "VectorPipes$Parse\x72", name := "letterBehind", desc := "(CI)I" } : Jvm.MethodName) prog_8_method_11_code (4 : Nat) (Option.some Jvm.ClassFile.FieldType.int)) ∈ lw_G := gd (i := 731) (by decide +kernel) (by decide +kernel)
theorem q_732 : (Jvm.Cond.methodLink "VectorPipes$Parse\x72" (134 : Nat) ({ cls := "VectorPipes$Parse\x72", name := "followNumbe\x72", desc := "(C)I" } : Jvm.MethodName)) ∈ lw_G := gd (i := 732) (by decide +kernel) (by decide +kernel)
theorem q_734 : (Jvm.Cond.instanceMethod ({ cls := "VectorPipes$Parse\x72", name := "followNumbe\x72", desc := "(C)I" } : Jvm.MethodName)) ∈ lw_G := gd (i := 734) (by decide +kernel) (by decide +kernel)
theorem q_735 : (Jvm.Cond.code ({ cls := "VectorPipes$Parse\x72", name := "followNumbe\x72", desc := "(C)I" } : Jvm.MethodName) prog_8_method_9_code (4 : Nat) (Option.some Jvm.ClassFile.FieldType.int)) ∈ lw_G := gd (i := 735) (by decide +kernel) (by decide +kernel)
theorem q_736 : (Jvm.Cond.methodLink "VectorPipes$Parse\x72" (153 : Nat) ({ cls := "VectorPipes$Parse\x72", name := "mostFo\x72", desc := "(C)I" } : Jvm.MethodName)) ∈ lw_G := gd (i := 736) (by decide +kernel) (by decide +kernel)
theorem q_737 : (Jvm.Cond.static ({ cls := "VectorPipes$Parse\x72", name := "mostFo\x72", desc := "(C)I" } : Jvm.MethodName)) ∈ lw_G := gd (i := 737) (by decide +kernel) (by decide +kernel)
theorem q_738 : (Jvm.Cond.code ({ cls := "VectorPipes$Parse\x72", name := "mostFo\x72", desc := "(C)I" } : Jvm.MethodName) prog_8_method_10_code (1 : Nat) (Option.some Jvm.ClassFile.FieldType.int)) ∈ lw_G := gd (i := 738) (by decide +kernel) (by decide +kernel)
theorem q_739 : (Jvm.Cond.methodLink "VectorPipes$Parse\x72" (82 : Nat) ({ cls := "VectorPipes$Parse\x72", name := "beginInstruction", desc := "()I" } : Jvm.MethodName)) ∈ lw_G := gd (i := 739) (by decide +kernel) (by decide +kernel)
theorem q_741 : (Jvm.Cond.instanceMethod ({ cls := "VectorPipes$Parse\x72", name := "beginInstruction", desc := "()I" } : Jvm.MethodName)) ∈ lw_G := gd (i := 741) (by decide +kernel) (by decide +kernel)
theorem q_742 : (Jvm.Cond.code ({ cls := "VectorPipes$Parse\x72", name := "beginInstruction", desc := "()I" } : Jvm.MethodName) prog_8_method_6_code (2 : Nat) (Option.some Jvm.ClassFile.FieldType.int)) ∈ lw_G := gd (i := 742) (by decide +kernel) (by decide +kernel)
theorem q_743 : (Jvm.Cond.methodLink "VectorPipes$Parse\x72" (85 : Nat) ({ cls := "VectorPipes$Parse\x72", name := "opNamed", desc := "()LVectorPipes$Op;" } : Jvm.MethodName)) ∈ lw_G := gd (i := 743) (by decide +kernel) (by decide +kernel)
theorem q_745 : (Jvm.Cond.instanceMethod ({ cls := "VectorPipes$Parse\x72", name := "opNamed", desc := "()LVectorPipes$Op;" } : Jvm.MethodName)) ∈ lw_G := gd (i := 745) (by decide +kernel) (by decide +kernel)
theorem q_746 : (Jvm.Cond.code ({ cls := "VectorPipes$Parse\x72", name := "opNamed", desc := "()LVectorPipes$Op;" } : Jvm.MethodName) prog_8_method_13_code (5 : Nat) (Option.some (Jvm.ClassFile.FieldType.object "VectorPipes$Op"))) ∈ lw_G := gd (i := 746) (by decide +kernel) (by decide +kernel)
theorem q_749 : (Jvm.Cond.fieldLink "VectorPipes$Parse\x72" (89 : Nat) "VectorPipes$Op" "END" "LVectorPipes$Op;") ∈ lw_G := gd (i := 749) (by decide +kernel) (by decide +kernel)
theorem q_751 : (Jvm.Cond.fieldLink "VectorPipes$Parse\x72" (104 : Nat) "VectorPipes$Op" "STRIP" "LVectorPipes$Op;") ∈ lw_G := gd (i := 751) (by decide +kernel) (by decide +kernel)
theorem q_753 : (Jvm.Cond.methodLink "VectorPipes$Parse\x72" (107 : Nat) ({ cls := "VectorPipes$Program", name := "append", desc := "(LVectorPipes$Op;)LVectorPipes$Instr;" } : Jvm.MethodName)) ∈ lw_G := gd (i := 753) (by decide +kernel) (by decide +kernel)
theorem q_754 : (Jvm.Cond.instanceMethod ({ cls := "VectorPipes$Program", name := "append", desc := "(LVectorPipes$Op;)LVectorPipes$Instr;" } : Jvm.MethodName)) ∈ lw_G := gd (i := 754) (by decide +kernel) (by decide +kernel)
theorem q_755 : (Jvm.Cond.selects "VectorPipes$Program" ({ cls := "VectorPipes$Program", name := "append", desc := "(LVectorPipes$Op;)LVectorPipes$Instr;" } : Jvm.MethodName) ({ cls := "VectorPipes$Program", name := "append", desc := "(LVectorPipes$Op;)LVectorPipes$Instr;" } : Jvm.MethodName)) ∈ lw_G := gd (i := 755) (by decide +kernel) (by decide +kernel)
theorem q_756 : (Jvm.Cond.code ({ cls := "VectorPipes$Program", name := "append", desc := "(LVectorPipes$Op;)LVectorPipes$Instr;" } : Jvm.MethodName) prog_9_method_2_code (3 : Nat) (Option.some (Jvm.ClassFile.FieldType.object "VectorPipes$Inst\x72"))) ∈ lw_G := gd (i := 756) (by decide +kernel) (by decide +kernel)
theorem q_757 : (Jvm.Cond.instantiable "VectorPipes$Inst\x72" (10 : Nat)) ∈ lw_G := gd (i := 757) (by decide +kernel) (by decide +kernel)
theorem q_758 : (Jvm.Cond.methodLink "VectorPipes$Program" (17 : Nat) ({ cls := "VectorPipes$Inst\x72", name := "<init>", desc := "(LVectorPipes$Op;)V" } : Jvm.MethodName)) ∈ lw_G := gd (i := 758) (by decide +kernel) (by decide +kernel)
theorem q_759 : (Jvm.Cond.instanceMethod ({ cls := "VectorPipes$Inst\x72", name := "<init>", desc := "(LVectorPipes$Op;)V" } : Jvm.MethodName)) ∈ lw_G := gd (i := 759) (by decide +kernel) (by decide +kernel)
theorem q_760 : (Jvm.Cond.code ({ cls := "VectorPipes$Inst\x72", name := "<init>", desc := "(LVectorPipes$Op;)V" } : Jvm.MethodName) prog_4_method_1_code (2 : Nat) (Option.none : Option Jvm.ClassFile.FieldType)) ∈ lw_G := gd (i := 760) (by decide +kernel) (by decide +kernel)
theorem q_761 : (Jvm.Cond.methodLink "VectorPipes$Inst\x72" (5 : Nat) ({ cls := "java/lang/Object", name := "<init>", desc := "()V" } : Jvm.MethodName)) ∈ lw_G := gd (i := 761) (by decide +kernel) (by decide +kernel)
theorem q_762 : (Jvm.Cond.fieldLink "VectorPipes$Inst\x72" (11 : Nat) "VectorPipes$Inst\x72" "op" "LVectorPipes$Op;") ∈ lw_G := gd (i := 762) (by decide +kernel) (by decide +kernel)
theorem q_763 : (Jvm.Cond.fieldLink "VectorPipes$Runne\x72" (84 : Nat) "VectorPipes$Inst\x72" "op" "LVectorPipes$Op;") ∈ lw_G := gd (i := 763) (by decide +kernel) (by decide +kernel)
theorem q_764 : (Jvm.Cond.fieldLink "VectorPipes$Program" (28 : Nat) "VectorPipes$Inst\x72" "op" "LVectorPipes$Op;") ∈ lw_G := gd (i := 764) (by decide +kernel) (by decide +kernel)
theorem q_765 : (Jvm.Cond.fieldLink "VectorPipes$Times" (86 : Nat) "VectorPipes$Inst\x72" "op" "LVectorPipes$Op;") ∈ lw_G := gd (i := 765) (by decide +kernel) (by decide +kernel)
theorem q_766 : (Jvm.Cond.fieldLink "VectorPipes$Inst\x72" (28 : Nat) "VectorPipes$Inst\x72" "d" "I") ∈ lw_G := gd (i := 766) (by decide +kernel) (by decide +kernel)
theorem q_767 : (Jvm.Cond.fieldLink "VectorPipes$Runne\x72" (189 : Nat) "VectorPipes$Inst\x72" "d" "I") ∈ lw_G := gd (i := 767) (by decide +kernel) (by decide +kernel)
theorem q_768 : (Jvm.Cond.fieldLink "VectorPipes$Parse\x72" (141 : Nat) "VectorPipes$Inst\x72" "d" "I") ∈ lw_G := gd (i := 768) (by decide +kernel) (by decide +kernel)
theorem q_769 : (Jvm.Cond.fieldLink "VectorPipes$Times" (118 : Nat) "VectorPipes$Inst\x72" "d" "I") ∈ lw_G := gd (i := 769) (by decide +kernel) (by decide +kernel)
theorem q_770 : (Jvm.Cond.fieldLink "VectorPipes$Inst\x72" (36 : Nat) "VectorPipes$Inst\x72" "a" "I") ∈ lw_G := gd (i := 770) (by decide +kernel) (by decide +kernel)
theorem q_771 : (Jvm.Cond.fieldLink "VectorPipes$Parse\x72" (144 : Nat) "VectorPipes$Inst\x72" "a" "I") ∈ lw_G := gd (i := 771) (by decide +kernel) (by decide +kernel)
theorem q_772 : (Jvm.Cond.fieldLink "VectorPipes$Runne\x72" (267 : Nat) "VectorPipes$Inst\x72" "a" "I") ∈ lw_G := gd (i := 772) (by decide +kernel) (by decide +kernel)
theorem q_773 : (Jvm.Cond.fieldLink "VectorPipes$Times" (147 : Nat) "VectorPipes$Inst\x72" "a" "I") ∈ lw_G := gd (i := 773) (by decide +kernel) (by decide +kernel)
theorem q_774 : (Jvm.Cond.fieldLink "VectorPipes$Inst\x72" (39 : Nat) "VectorPipes$Inst\x72" "b" "I") ∈ lw_G := gd (i := 774) (by decide +kernel) (by decide +kernel)
theorem q_775 : (Jvm.Cond.fieldLink "VectorPipes$Parse\x72" (147 : Nat) "VectorPipes$Inst\x72" "b" "I") ∈ lw_G := gd (i := 775) (by decide +kernel) (by decide +kernel)
theorem q_776 : (Jvm.Cond.fieldLink "VectorPipes$Runne\x72" (270 : Nat) "VectorPipes$Inst\x72" "b" "I") ∈ lw_G := gd (i := 776) (by decide +kernel) (by decide +kernel)
theorem q_777 : (Jvm.Cond.fieldLink "VectorPipes$Times" (150 : Nat) "VectorPipes$Inst\x72" "b" "I") ∈ lw_G := gd (i := 777) (by decide +kernel) (by decide +kernel)
theorem q_778 : (Jvm.Cond.fieldLink "VectorPipes$Inst\x72" (42 : Nat) "VectorPipes$Inst\x72" "scala\x72" "I") ∈ lw_G := gd (i := 778) (by decide +kernel) (by decide +kernel)
theorem q_779 : (Jvm.Cond.fieldLink "VectorPipes$Runne\x72" (176 : Nat) "VectorPipes$Inst\x72" "scala\x72" "I") ∈ lw_G := gd (i := 779) (by decide +kernel) (by decide +kernel)
theorem q_780 : (Jvm.Cond.fieldLink "VectorPipes$Parse\x72" (150 : Nat) "VectorPipes$Inst\x72" "scala\x72" "I") ∈ lw_G := gd (i := 780) (by decide +kernel) (by decide +kernel)
theorem q_781 : (Jvm.Cond.fieldLink "VectorPipes$Parse\x72" (156 : Nat) "VectorPipes$Inst\x72" "at" "I") ∈ lw_G := gd (i := 781) (by decide +kernel) (by decide +kernel)
theorem q_782 : (Jvm.Cond.fieldLink "VectorPipes$Runne\x72" (280 : Nat) "VectorPipes$Inst\x72" "at" "I") ∈ lw_G := gd (i := 782) (by decide +kernel) (by decide +kernel)
theorem q_783 : (Jvm.Cond.fieldLink "VectorPipes$Parse\x72" (158 : Nat) "VectorPipes$Inst\x72" "by" "I") ∈ lw_G := gd (i := 783) (by decide +kernel) (by decide +kernel)
theorem q_784 : (Jvm.Cond.fieldLink "VectorPipes$Runne\x72" (286 : Nat) "VectorPipes$Inst\x72" "by" "I") ∈ lw_G := gd (i := 784) (by decide +kernel) (by decide +kernel)
theorem q_785 : (Jvm.Cond.fieldLink "VectorPipes$Runne\x72" (115 : Nat) "VectorPipes$Inst\x72" "numbe\x72" "I") ∈ lw_G := gd (i := 785) (by decide +kernel) (by decide +kernel)
theorem q_786 : (Jvm.Cond.fieldLink "VectorPipes$Parse\x72" (160 : Nat) "VectorPipes$Inst\x72" "numbe\x72" "I") ∈ lw_G := gd (i := 786) (by decide +kernel) (by decide +kernel)
theorem q_787 : (Jvm.Cond.fieldLink "VectorPipes$Inst\x72" (15 : Nat) "VectorPipes$Inst\x72" "masked" "Z") ∈ lw_G := gd (i := 787) (by decide +kernel) (by decide +kernel)
theorem q_788 : (Jvm.Cond.fieldLink "VectorPipes$Parse\x72" (121 : Nat) "VectorPipes$Inst\x72" "masked" "Z") ∈ lw_G := gd (i := 788) (by decide +kernel) (by decide +kernel)
theorem q_789 : (Jvm.Cond.fieldLink "VectorPipes$Runne\x72" (308 : Nat) "VectorPipes$Inst\x72" "masked" "Z") ∈ lw_G := gd (i := 789) (by decide +kernel) (by decide +kernel)
theorem q_790 : (Jvm.Cond.fieldLink "VectorPipes$Times" (156 : Nat) "VectorPipes$Inst\x72" "masked" "Z") ∈ lw_G := gd (i := 790) (by decide +kernel) (by decide +kernel)
theorem q_791 : (Jvm.Cond.fieldLink "VectorPipes$Runne\x72" (68 : Nat) "VectorPipes$Inst\x72" "behind" "I") ∈ lw_G := gd (i := 791) (by decide +kernel) (by decide +kernel)
theorem q_792 : (Jvm.Cond.fieldLink "VectorPipes$Parse\x72" (99 : Nat) "VectorPipes$Inst\x72" "behind" "I") ∈ lw_G := gd (i := 792) (by decide +kernel) (by decide +kernel)
theorem q_793 : (Jvm.Cond.fieldLink "VectorPipes$Program" (56 : Nat) "VectorPipes$Inst\x72" "behind" "I") ∈ lw_G := gd (i := 793) (by decide +kernel) (by decide +kernel)
theorem q_815 : (Jvm.Cond.methodLink "VectorPipes" (105 : Nat) ({ cls := "VectorPipes", name := "answe\x72", desc := "(I)I" } : Jvm.MethodName)) ∈ lw_G := gd (i := 815) (by decide +kernel) (by decide +kernel)
theorem q_817 : (Jvm.Cond.instanceMethod ({ cls := "VectorPipes", name := "answe\x72", desc := "(I)I" } : Jvm.MethodName)) ∈ lw_G := gd (i := 817) (by decide +kernel) (by decide +kernel)
theorem q_818 : (Jvm.Cond.code ({ cls := "VectorPipes", name := "answe\x72", desc := "(I)I" } : Jvm.MethodName) prog_1_method_7_code (2 : Nat) (Option.some Jvm.ClassFile.FieldType.int)) ∈ lw_G := gd (i := 818) (by decide +kernel) (by decide +kernel)
theorem q_827 : (Jvm.Cond.methodLink "VectorPipes" (205 : Nat) ({ cls := "VectorPipes$Machine", name := "rowsThere", desc := "()I" } : Jvm.MethodName)) ∈ lw_G := gd (i := 827) (by decide +kernel) (by decide +kernel)
theorem q_828 : (Jvm.Cond.instanceMethod ({ cls := "VectorPipes$Machine", name := "rowsThere", desc := "()I" } : Jvm.MethodName)) ∈ lw_G := gd (i := 828) (by decide +kernel) (by decide +kernel)
theorem q_829 : (Jvm.Cond.selects "VectorPipes$Machine" ({ cls := "VectorPipes$Machine", name := "rowsThere", desc := "()I" } : Jvm.MethodName) ({ cls := "VectorPipes$Machine", name := "rowsThere", desc := "()I" } : Jvm.MethodName)) ∈ lw_G := gd (i := 829) (by decide +kernel) (by decide +kernel)
theorem q_830 : (Jvm.Cond.code ({ cls := "VectorPipes$Machine", name := "rowsThere", desc := "()I" } : Jvm.MethodName) prog_5_method_3_code (3 : Nat) (Option.some Jvm.ClassFile.FieldType.int)) ∈ lw_G := gd (i := 830) (by decide +kernel) (by decide +kernel)
theorem q_835 : (Jvm.Cond.methodLink "VectorPipes" (216 : Nat) ({ cls := "VectorPipes", name := "rowTrouble", desc := "(I)I" } : Jvm.MethodName)) ∈ lw_G := gd (i := 835) (by decide +kernel) (by decide +kernel)
theorem q_837 : (Jvm.Cond.instanceMethod ({ cls := "VectorPipes", name := "rowTrouble", desc := "(I)I" } : Jvm.MethodName)) ∈ lw_G := gd (i := 837) (by decide +kernel) (by decide +kernel)
theorem q_838 : (Jvm.Cond.code ({ cls := "VectorPipes", name := "rowTrouble", desc := "(I)I" } : Jvm.MethodName) prog_1_method_23_code (2 : Nat) (Option.some Jvm.ClassFile.FieldType.int)) ∈ lw_G := gd (i := 838) (by decide +kernel) (by decide +kernel)
theorem q_839 : (Jvm.Cond.methodLink "VectorPipes" (223 : Nat) ({ cls := "VectorPipes$Row", name := "fetch", desc := "(ILVectorPipes$Num;)V" } : Jvm.MethodName)) ∈ lw_G := gd (i := 839) (by decide +kernel) (by decide +kernel)
theorem q_840 : (Jvm.Cond.instanceMethod ({ cls := "VectorPipes$Row", name := "fetch", desc := "(ILVectorPipes$Num;)V" } : Jvm.MethodName)) ∈ lw_G := gd (i := 840) (by decide +kernel) (by decide +kernel)
theorem q_841 : (Jvm.Cond.selects "VectorPipes$Row" ({ cls := "VectorPipes$Row", name := "fetch", desc := "(ILVectorPipes$Num;)V" } : Jvm.MethodName) ({ cls := "VectorPipes$Row", name := "fetch", desc := "(ILVectorPipes$Num;)V" } : Jvm.MethodName)) ∈ lw_G := gd (i := 841) (by decide +kernel) (by decide +kernel)
theorem q_842 : (Jvm.Cond.code ({ cls := "VectorPipes$Row", name := "fetch", desc := "(ILVectorPipes$Num;)V" } : Jvm.MethodName) prog_10_method_2_code (3 : Nat) (Option.none : Option Jvm.ClassFile.FieldType)) ∈ lw_G := gd (i := 842) (by decide +kernel) (by decide +kernel)
theorem q_843 : (Jvm.Cond.methodLink "VectorPipes" (228 : Nat) ({ cls := "VectorPipes", name := "tellOf", desc := "(LVectorPipes$Num;)I" } : Jvm.MethodName)) ∈ lw_G := gd (i := 843) (by decide +kernel) (by decide +kernel)
theorem q_845 : (Jvm.Cond.instanceMethod ({ cls := "VectorPipes", name := "tellOf", desc := "(LVectorPipes$Num;)I" } : Jvm.MethodName)) ∈ lw_G := gd (i := 845) (by decide +kernel) (by decide +kernel)
theorem q_846 : (Jvm.Cond.code ({ cls := "VectorPipes", name := "tellOf", desc := "(LVectorPipes$Num;)I" } : Jvm.MethodName) prog_1_method_9_code (2 : Nat) (Option.some Jvm.ClassFile.FieldType.int)) ∈ lw_G := gd (i := 846) (by decide +kernel) (by decide +kernel)
theorem q_847 : (Jvm.Cond.methodLink "VectorPipes" (101 : Nat) ({ cls := "VectorPipes$Binary", name := "tellKind", desc := "(LVectorPipes$Num;)I" } : Jvm.MethodName)) ∈ lw_G := gd (i := 847) (by decide +kernel) (by decide +kernel)
theorem q_848 : (Jvm.Cond.instanceMethod ({ cls := "VectorPipes$Binary", name := "tellKind", desc := "(LVectorPipes$Num;)I" } : Jvm.MethodName)) ∈ lw_G := gd (i := 848) (by decide +kernel) (by decide +kernel)
theorem q_849 : (Jvm.Cond.selects "VectorPipes$Binary" ({ cls := "VectorPipes$Binary", name := "tellKind", desc := "(LVectorPipes$Num;)I" } : Jvm.MethodName) ({ cls := "VectorPipes$Binary", name := "tellKind", desc := "(LVectorPipes$Num;)I" } : Jvm.MethodName)) ∈ lw_G := gd (i := 849) (by decide +kernel) (by decide +kernel)
theorem q_850 : (Jvm.Cond.code ({ cls := "VectorPipes$Binary", name := "tellKind", desc := "(LVectorPipes$Num;)I" } : Jvm.MethodName) prog_3_method_2_code (4 : Nat) (Option.some Jvm.ClassFile.FieldType.int)) ∈ lw_G := gd (i := 850) (by decide +kernel) (by decide +kernel)
theorem q_851 : (Jvm.Cond.methodLink "VectorPipes$Binary" (15 : Nat) ({ cls := "VectorPipes$Num", name := "kind", desc := "()I" } : Jvm.MethodName)) ∈ lw_G := gd (i := 851) (by decide +kernel) (by decide +kernel)
theorem q_852 : (Jvm.Cond.instanceMethod ({ cls := "VectorPipes$Num", name := "kind", desc := "()I" } : Jvm.MethodName)) ∈ lw_G := gd (i := 852) (by decide +kernel) (by decide +kernel)
theorem q_853 : (Jvm.Cond.selects "VectorPipes$Num" ({ cls := "VectorPipes$Num", name := "kind", desc := "()I" } : Jvm.MethodName) ({ cls := "VectorPipes$Num", name := "kind", desc := "()I" } : Jvm.MethodName)) ∈ lw_G := gd (i := 853) (by decide +kernel) (by decide +kernel)
theorem q_854 : (Jvm.Cond.code ({ cls := "VectorPipes$Num", name := "kind", desc := "()I" } : Jvm.MethodName) prog_6_method_5_code (1 : Nat) (Option.some Jvm.ClassFile.FieldType.int)) ∈ lw_G := gd (i := 854) (by decide +kernel) (by decide +kernel)
theorem q_855 : (Jvm.Cond.methodLink "VectorPipes$Num" (30 : Nat) ({ cls := "VectorPipes$Num", name := "isMinusZero", desc := "(D)Z" } : Jvm.MethodName)) ∈ lw_G := gd (i := 855) (by decide +kernel) (by decide +kernel)
theorem q_856 : (Jvm.Cond.static ({ cls := "VectorPipes$Num", name := "isMinusZero", desc := "(D)Z" } : Jvm.MethodName)) ∈ lw_G := gd (i := 856) (by decide +kernel) (by decide +kernel)
theorem q_857 : (Jvm.Cond.code ({ cls := "VectorPipes$Num", name := "isMinusZero", desc := "(D)Z" } : Jvm.MethodName) prog_6_method_7_code (2 : Nat) (Option.some Jvm.ClassFile.FieldType.boolean)) ∈ lw_G := gd (i := 857) (by decide +kernel) (by decide +kernel)
theorem q_858 : (Jvm.Cond.methodLink "VectorPipes$Num" (34 : Nat) ({ cls := "VectorPipes$Num", name := "isInfinite", desc := "(D)Z" } : Jvm.MethodName)) ∈ lw_G := gd (i := 858) (by decide +kernel) (by decide +kernel)
theorem q_859 : (Jvm.Cond.static ({ cls := "VectorPipes$Num", name := "isInfinite", desc := "(D)Z" } : Jvm.MethodName)) ∈ lw_G := gd (i := 859) (by decide +kernel) (by decide +kernel)
theorem q_860 : (Jvm.Cond.code ({ cls := "VectorPipes$Num", name := "isInfinite", desc := "(D)Z" } : Jvm.MethodName) prog_6_method_6_code (2 : Nat) (Option.some Jvm.ClassFile.FieldType.boolean)) ∈ lw_G := gd (i := 860) (by decide +kernel) (by decide +kernel)
theorem q_861 : (Jvm.Cond.constantDouble "VectorPipes$Num" (37 : Nat) (9218868437227405311 : UInt64)) ∈ lw_G := gd (i := 861) (by decide +kernel) (by decide +kernel)
theorem q_862 : (Jvm.Cond.constantDouble "VectorPipes$Num" (39 : Nat) (18442240474082181119 : UInt64)) ∈ lw_G := gd (i := 862) (by decide +kernel) (by decide +kernel)
theorem q_863 : (Jvm.Cond.methodLink "VectorPipes$Binary" (33 : Nat) ({ cls := "VectorPipes$Binary", name := "split", desc := "(D)V" } : Jvm.MethodName)) ∈ lw_G := gd (i := 863) (by decide +kernel) (by decide +kernel)
theorem q_865 : (Jvm.Cond.instanceMethod ({ cls := "VectorPipes$Binary", name := "split", desc := "(D)V" } : Jvm.MethodName)) ∈ lw_G := gd (i := 865) (by decide +kernel) (by decide +kernel)
theorem q_866 : (Jvm.Cond.code ({ cls := "VectorPipes$Binary", name := "split", desc := "(D)V" } : Jvm.MethodName) prog_3_method_3_code (7 : Nat) (Option.none : Option Jvm.ClassFile.FieldType)) ∈ lw_G := gd (i := 866) (by decide +kernel) (by decide +kernel)
theorem q_867 : (Jvm.Cond.constantDouble "VectorPipes$Binary" (45 : Nat) (4845873199050653696 : UInt64)) ∈ lw_G := gd (i := 867) (by decide +kernel) (by decide +kernel)
theorem q_868 : (Jvm.Cond.constantDouble "VectorPipes$Binary" (47 : Nat) (4841369599423283200 : UInt64)) ∈ lw_G := gd (i := 868) (by decide +kernel) (by decide +kernel)
theorem q_869 : (Jvm.Cond.constantLong "VectorPipes$Binary" (40 : Nat) (2 : Int64)) ∈ lw_G := gd (i := 869) (by decide +kernel) (by decide +kernel)
theorem q_878 : (Jvm.Cond.methodLink "VectorPipes" (235 : Nat) ({ cls := "VectorPipes", name := "isWord", desc := "(I)Z" } : Jvm.MethodName)) ∈ lw_G := gd (i := 878) (by decide +kernel) (by decide +kernel)
theorem q_879 : (Jvm.Cond.static ({ cls := "VectorPipes", name := "isWord", desc := "(I)Z" } : Jvm.MethodName)) ∈ lw_G := gd (i := 879) (by decide +kernel) (by decide +kernel)
theorem q_880 : (Jvm.Cond.code ({ cls := "VectorPipes", name := "isWord", desc := "(I)Z" } : Jvm.MethodName) prog_1_method_11_code (1 : Nat) (Option.some Jvm.ClassFile.FieldType.boolean)) ∈ lw_G := gd (i := 880) (by decide +kernel) (by decide +kernel)
theorem q_885 : (Jvm.Cond.methodLink "VectorPipes" (241 : Nat) ({ cls := "VectorPipes", name := "isNumbe\x72", desc := "(JI)Z" } : Jvm.MethodName)) ∈ lw_G := gd (i := 885) (by decide +kernel) (by decide +kernel)
theorem q_886 : (Jvm.Cond.static ({ cls := "VectorPipes", name := "isNumbe\x72", desc := "(JI)Z" } : Jvm.MethodName)) ∈ lw_G := gd (i := 886) (by decide +kernel) (by decide +kernel)
theorem q_887 : (Jvm.Cond.code ({ cls := "VectorPipes", name := "isNumbe\x72", desc := "(JI)Z" } : Jvm.MethodName) prog_1_method_24_code (3 : Nat) (Option.some Jvm.ClassFile.FieldType.boolean)) ∈ lw_G := gd (i := 887) (by decide +kernel) (by decide +kernel)
theorem q_888 : (Jvm.Cond.constantLong "VectorPipes" (212 : Nat) (-9007199254740992 : Int64)) ∈ lw_G := gd (i := 888) (by decide +kernel) (by decide +kernel)
theorem q_889 : (Jvm.Cond.constantLong "VectorPipes" (214 : Nat) (9007199254740992 : Int64)) ∈ lw_G := gd (i := 889) (by decide +kernel) (by decide +kernel)
theorem q_890 : (Jvm.Cond.methodLink "VectorPipes" (245 : Nat) ({ cls := "VectorPipes$Binary", name := "join", desc := "(JI)D" } : Jvm.MethodName)) ∈ lw_G := gd (i := 890) (by decide +kernel) (by decide +kernel)
theorem q_891 : (Jvm.Cond.instanceMethod ({ cls := "VectorPipes$Binary", name := "join", desc := "(JI)D" } : Jvm.MethodName)) ∈ lw_G := gd (i := 891) (by decide +kernel) (by decide +kernel)
theorem q_892 : (Jvm.Cond.selects "VectorPipes$Binary" ({ cls := "VectorPipes$Binary", name := "join", desc := "(JI)D" } : Jvm.MethodName) ({ cls := "VectorPipes$Binary", name := "join", desc := "(JI)D" } : Jvm.MethodName)) ∈ lw_G := gd (i := 892) (by decide +kernel) (by decide +kernel)
theorem q_893 : (Jvm.Cond.code ({ cls := "VectorPipes$Binary", name := "join", desc := "(JI)D" } : Jvm.MethodName) prog_3_method_4_code (9 : Nat) (Option.some Jvm.ClassFile.FieldType.double)) ∈ lw_G := gd (i := 893) (by decide +kernel) (by decide +kernel)
theorem q_894 : (Jvm.Cond.methodLink "VectorPipes" (249 : Nat) ({ cls := "VectorPipes$Num", name := "set", desc := "(D)V" } : Jvm.MethodName)) ∈ lw_G := gd (i := 894) (by decide +kernel) (by decide +kernel)
theorem q_895 : (Jvm.Cond.instanceMethod ({ cls := "VectorPipes$Num", name := "set", desc := "(D)V" } : Jvm.MethodName)) ∈ lw_G := gd (i := 895) (by decide +kernel) (by decide +kernel)
theorem q_896 : (Jvm.Cond.selects "VectorPipes$Num" ({ cls := "VectorPipes$Num", name := "set", desc := "(D)V" } : Jvm.MethodName) ({ cls := "VectorPipes$Num", name := "set", desc := "(D)V" } : Jvm.MethodName)) ∈ lw_G := gd (i := 896) (by decide +kernel) (by decide +kernel)
theorem q_897 : (Jvm.Cond.code ({ cls := "VectorPipes$Num", name := "set", desc := "(D)V" } : Jvm.MethodName) prog_6_method_2_code (3 : Nat) (Option.none : Option Jvm.ClassFile.FieldType)) ∈ lw_G := gd (i := 897) (by decide +kernel) (by decide +kernel)
theorem q_898 : (Jvm.Cond.methodLink "VectorPipes" (253 : Nat) ({ cls := "VectorPipes$Machine", name := "land", desc := "(IILVectorPipes$Num;)V" } : Jvm.MethodName)) ∈ lw_G := gd (i := 898) (by decide +kernel) (by decide +kernel)
theorem q_899 : (Jvm.Cond.instanceMethod ({ cls := "VectorPipes$Machine", name := "land", desc := "(IILVectorPipes$Num;)V" } : Jvm.MethodName)) ∈ lw_G := gd (i := 899) (by decide +kernel) (by decide +kernel)
theorem q_900 : (Jvm.Cond.selects "VectorPipes$Machine" ({ cls := "VectorPipes$Machine", name := "land", desc := "(IILVectorPipes$Num;)V" } : Jvm.MethodName) ({ cls := "VectorPipes$Machine", name := "land", desc := "(IILVectorPipes$Num;)V" } : Jvm.MethodName)) ∈ lw_G := gd (i := 900) (by decide +kernel) (by decide +kernel)
theorem q_901 : (Jvm.Cond.code ({ cls := "VectorPipes$Machine", name := "land", desc := "(IILVectorPipes$Num;)V" } : Jvm.MethodName) prog_5_method_4_code (4 : Nat) (Option.none : Option Jvm.ClassFile.FieldType)) ∈ lw_G := gd (i := 901) (by decide +kernel) (by decide +kernel)
theorem q_902 : (Jvm.Cond.methodLink "VectorPipes$Machine" (55 : Nat) ({ cls := "VectorPipes$Row", name := "clea\x72", desc := "()V" } : Jvm.MethodName)) ∈ lw_G := gd (i := 902) (by decide +kernel) (by decide +kernel)
theorem q_903 : (Jvm.Cond.instanceMethod ({ cls := "VectorPipes$Row", name := "clea\x72", desc := "()V" } : Jvm.MethodName)) ∈ lw_G := gd (i := 903) (by decide +kernel) (by decide +kernel)
theorem q_904 : (Jvm.Cond.selects "VectorPipes$Row" ({ cls := "VectorPipes$Row", name := "clea\x72", desc := "()V" } : Jvm.MethodName) ({ cls := "VectorPipes$Row", name := "clea\x72", desc := "()V" } : Jvm.MethodName)) ∈ lw_G := gd (i := 904) (by decide +kernel) (by decide +kernel)
theorem q_905 : (Jvm.Cond.code ({ cls := "VectorPipes$Row", name := "clea\x72", desc := "()V" } : Jvm.MethodName) prog_10_method_4_code (2 : Nat) (Option.none : Option Jvm.ClassFile.FieldType)) ∈ lw_G := gd (i := 905) (by decide +kernel) (by decide +kernel)
theorem q_906 : (Jvm.Cond.methodLink "VectorPipes$Machine" (58 : Nat) ({ cls := "VectorPipes$Row", name := "keep", desc := "(ILVectorPipes$Num;)V" } : Jvm.MethodName)) ∈ lw_G := gd (i := 906) (by decide +kernel) (by decide +kernel)
theorem q_907 : (Jvm.Cond.instanceMethod ({ cls := "VectorPipes$Row", name := "keep", desc := "(ILVectorPipes$Num;)V" } : Jvm.MethodName)) ∈ lw_G := gd (i := 907) (by decide +kernel) (by decide +kernel)
theorem q_908 : (Jvm.Cond.selects "VectorPipes$Row" ({ cls := "VectorPipes$Row", name := "keep", desc := "(ILVectorPipes$Num;)V" } : Jvm.MethodName) ({ cls := "VectorPipes$Row", name := "keep", desc := "(ILVectorPipes$Num;)V" } : Jvm.MethodName)) ∈ lw_G := gd (i := 908) (by decide +kernel) (by decide +kernel)
theorem q_909 : (Jvm.Cond.code ({ cls := "VectorPipes$Row", name := "keep", desc := "(ILVectorPipes$Num;)V" } : Jvm.MethodName) prog_10_method_3_code (3 : Nat) (Option.none : Option Jvm.ClassFile.FieldType)) ∈ lw_G := gd (i := 909) (by decide +kernel) (by decide +kernel)
theorem q_914 : (Jvm.Cond.methodLink "VectorPipes" (257 : Nat) ({ cls := "VectorPipes", name := "placeNumbe\x72", desc := "(LVectorPipes$Row;IJI)I" } : Jvm.MethodName)) ∈ lw_G := gd (i := 914) (by decide +kernel) (by decide +kernel)
theorem q_916 : (Jvm.Cond.instanceMethod ({ cls := "VectorPipes", name := "placeNumbe\x72", desc := "(LVectorPipes$Row;IJI)I" } : Jvm.MethodName)) ∈ lw_G := gd (i := 916) (by decide +kernel) (by decide +kernel)
theorem q_917 : (Jvm.Cond.code ({ cls := "VectorPipes", name := "placeNumbe\x72", desc := "(LVectorPipes$Row;IJI)I" } : Jvm.MethodName) prog_1_method_31_code (6 : Nat) (Option.some Jvm.ClassFile.FieldType.int)) ∈ lw_G := gd (i := 917) (by decide +kernel) (by decide +kernel)
theorem q_918 : (Jvm.Cond.methodLink "VectorPipes" (261 : Nat) ({ cls := "VectorPipes$Row", name := "keep", desc := "(ILVectorPipes$Num;)V" } : Jvm.MethodName)) ∈ lw_G := gd (i := 918) (by decide +kernel) (by decide +kernel)
theorem q_927 : (Jvm.Cond.methodLink "VectorPipes" (263 : Nat) ({ cls := "VectorPipes$Num", name := "kind", desc := "()I" } : Jvm.MethodName)) ∈ lw_G := gd (i := 927) (by decide +kernel) (by decide +kernel)
theorem q_928 : (Jvm.Cond.methodLink "VectorPipes" (266 : Nat) ({ cls := "VectorPipes$Num", name := "setKind", desc := "(I)V" } : Jvm.MethodName)) ∈ lw_G := gd (i := 928) (by decide +kernel) (by decide +kernel)
theorem q_929 : (Jvm.Cond.instanceMethod ({ cls := "VectorPipes$Num", name := "setKind", desc := "(I)V" } : Jvm.MethodName)) ∈ lw_G := gd (i := 929) (by decide +kernel) (by decide +kernel)
theorem q_930 : (Jvm.Cond.selects "VectorPipes$Num" ({ cls := "VectorPipes$Num", name := "setKind", desc := "(I)V" } : Jvm.MethodName) ({ cls := "VectorPipes$Num", name := "setKind", desc := "(I)V" } : Jvm.MethodName)) ∈ lw_G := gd (i := 930) (by decide +kernel) (by decide +kernel)
theorem q_931 : (Jvm.Cond.code ({ cls := "VectorPipes$Num", name := "setKind", desc := "(I)V" } : Jvm.MethodName) prog_6_method_4_code (2 : Nat) (Option.none : Option Jvm.ClassFile.FieldType)) ∈ lw_G := gd (i := 931) (by decide +kernel) (by decide +kernel)
theorem q_932 : (Jvm.Cond.constantDouble "VectorPipes$Num" (17 : Nat) (9223372036854775808 : UInt64)) ∈ lw_G := gd (i := 932) (by decide +kernel) (by decide +kernel)
theorem q_933 : (Jvm.Cond.methodLink "VectorPipes$Num" (19 : Nat) ({ cls := "VectorPipes$Num", name := "set", desc := "(D)V" } : Jvm.MethodName)) ∈ lw_G := gd (i := 933) (by decide +kernel) (by decide +kernel)
theorem q_934 : (Jvm.Cond.constantDouble "VectorPipes$Num" (23 : Nat) (9218868437227405312 : UInt64)) ∈ lw_G := gd (i := 934) (by decide +kernel) (by decide +kernel)
theorem q_935 : (Jvm.Cond.constantDouble "VectorPipes$Num" (25 : Nat) (18442240474082181120 : UInt64)) ∈ lw_G := gd (i := 935) (by decide +kernel) (by decide +kernel)
theorem q_936 : (Jvm.Cond.methodLink "VectorPipes$Num" (27 : Nat) ({ cls := "VectorPipes$Num", name := "setOdd", desc := "()V" } : Jvm.MethodName)) ∈ lw_G := gd (i := 936) (by decide +kernel) (by decide +kernel)
theorem q_937 : (Jvm.Cond.instanceMethod ({ cls := "VectorPipes$Num", name := "setOdd", desc := "()V" } : Jvm.MethodName)) ∈ lw_G := gd (i := 937) (by decide +kernel) (by decide +kernel)
theorem q_938 : (Jvm.Cond.selects "VectorPipes$Num" ({ cls := "VectorPipes$Num", name := "setOdd", desc := "()V" } : Jvm.MethodName) ({ cls := "VectorPipes$Num", name := "setOdd", desc := "()V" } : Jvm.MethodName)) ∈ lw_G := gd (i := 938) (by decide +kernel) (by decide +kernel)
theorem q_939 : (Jvm.Cond.code ({ cls := "VectorPipes$Num", name := "setOdd", desc := "()V" } : Jvm.MethodName) prog_6_method_3_code (1 : Nat) (Option.none : Option Jvm.ClassFile.FieldType)) ∈ lw_G := gd (i := 939) (by decide +kernel) (by decide +kernel)
theorem q_944 : (Jvm.Cond.methodLink "VectorPipes" (272 : Nat) ({ cls := "VectorPipes", name := "wholesaleTrouble", desc := "(III)I" } : Jvm.MethodName)) ∈ lw_G := gd (i := 944) (by decide +kernel) (by decide +kernel)
theorem q_946 : (Jvm.Cond.instanceMethod ({ cls := "VectorPipes", name := "wholesaleTrouble", desc := "(III)I" } : Jvm.MethodName)) ∈ lw_G := gd (i := 946) (by decide +kernel) (by decide +kernel)
theorem q_947 : (Jvm.Cond.code ({ cls := "VectorPipes", name := "wholesaleTrouble", desc := "(III)I" } : Jvm.MethodName) prog_1_method_33_code (4 : Nat) (Option.some Jvm.ClassFile.FieldType.int)) ∈ lw_G := gd (i := 947) (by decide +kernel) (by decide +kernel)
theorem q_952 : (Jvm.Cond.methodLink "VectorPipes" (276 : Nat) ({ cls := "VectorPipes$Num", name := "asLong", desc := "()J" } : Jvm.MethodName)) ∈ lw_G := gd (i := 952) (by decide +kernel) (by decide +kernel)
theorem q_953 : (Jvm.Cond.instanceMethod ({ cls := "VectorPipes$Num", name := "asLong", desc := "()J" } : Jvm.MethodName)) ∈ lw_G := gd (i := 953) (by decide +kernel) (by decide +kernel)
theorem q_954 : (Jvm.Cond.selects "VectorPipes$Num" ({ cls := "VectorPipes$Num", name := "asLong", desc := "()J" } : Jvm.MethodName) ({ cls := "VectorPipes$Num", name := "asLong", desc := "()J" } : Jvm.MethodName)) ∈ lw_G := gd (i := 954) (by decide +kernel) (by decide +kernel)
theorem q_955 : (Jvm.Cond.code ({ cls := "VectorPipes$Num", name := "asLong", desc := "()J" } : Jvm.MethodName) prog_6_method_16_code (1 : Nat) (Option.some Jvm.ClassFile.FieldType.long)) ∈ lw_G := gd (i := 955) (by decide +kernel) (by decide +kernel)
theorem q_964 : (Jvm.Cond.constant "VectorPipes" (280 : Nat) (65535 : Int32)) ∈ lw_G := gd (i := 964) (by decide +kernel) (by decide +kernel)
theorem q_969 : (Jvm.Cond.methodLink "VectorPipes" (281 : Nat) ({ cls := "VectorPipes$Runne\x72", name := "perform", desc := "(LVectorPipes$Machine;LVectorPipes$Times;)V" } : Jvm.MethodName)) ∈ lw_G := gd (i := 969) (by decide +kernel) (by decide +kernel)
theorem q_970 : (Jvm.Cond.instanceMethod ({ cls := "VectorPipes$Runne\x72", name := "perform", desc := "(LVectorPipes$Machine;LVectorPipes$Times;)V" } : Jvm.MethodName)) ∈ lw_G := gd (i := 970) (by decide +kernel) (by decide +kernel)
theorem q_971 : (Jvm.Cond.selects "VectorPipes$Runne\x72" ({ cls := "VectorPipes$Runne\x72", name := "perform", desc := "(LVectorPipes$Machine;LVectorPipes$Times;)V" } : Jvm.MethodName) ({ cls := "VectorPipes$Runne\x72", name := "perform", desc := "(LVectorPipes$Machine;LVectorPipes$Times;)V" } : Jvm.MethodName)) ∈ lw_G := gd (i := 971) (by decide +kernel) (by decide +kernel)
theorem q_972 : (Jvm.Cond.code ({ cls := "VectorPipes$Runne\x72", name := "perform", desc := "(LVectorPipes$Machine;LVectorPipes$Times;)V" } : Jvm.MethodName) prog_11_method_2_code (7 : Nat) (Option.none : Option Jvm.ClassFile.FieldType)) ∈ lw_G := gd (i := 972) (by decide +kernel) (by decide +kernel)
theorem q_973 : (Jvm.Cond.methodLink "VectorPipes$Runne\x72" (42 : Nat) ({ cls := "VectorPipes$Times", name := "clea\x72", desc := "()V" } : Jvm.MethodName)) ∈ lw_G := gd (i := 973) (by decide +kernel) (by decide +kernel)
theorem q_974 : (Jvm.Cond.instanceMethod ({ cls := "VectorPipes$Times", name := "clea\x72", desc := "()V" } : Jvm.MethodName)) ∈ lw_G := gd (i := 974) (by decide +kernel) (by decide +kernel)
theorem q_975 : (Jvm.Cond.selects "VectorPipes$Times" ({ cls := "VectorPipes$Times", name := "clea\x72", desc := "()V" } : Jvm.MethodName) ({ cls := "VectorPipes$Times", name := "clea\x72", desc := "()V" } : Jvm.MethodName)) ∈ lw_G := gd (i := 975) (by decide +kernel) (by decide +kernel)
theorem q_976 : (Jvm.Cond.code ({ cls := "VectorPipes$Times", name := "clea\x72", desc := "()V" } : Jvm.MethodName) prog_12_method_2_code (1 : Nat) (Option.none : Option Jvm.ClassFile.FieldType)) ∈ lw_G := gd (i := 976) (by decide +kernel) (by decide +kernel)
theorem q_977 : (Jvm.Cond.methodLink "VectorPipes$Times" (67 : Nat) ({ cls := "java/util/Arrays", name := "fill", desc := "([II)V" } : Jvm.MethodName)) ∈ lw_G := gd (i := 977) (by decide +kernel) (by decide +kernel)
theorem q_978 : (Jvm.Cond.static ({ cls := "java/util/Arrays", name := "fill", desc := "([II)V" } : Jvm.MethodName)) ∈ lw_G := gd (i := 978) (by decide +kernel) (by decide +kernel)
theorem q_979 : (Jvm.Cond.code ({ cls := "java/util/Arrays", name := "fill", desc := "([II)V" } : Jvm.MethodName) prog_25_method_103_code (4 : Nat) (Option.none : Option Jvm.ClassFile.FieldType)) ∈ lw_G := gd (i := 979) (by decide +kernel) (by decide +kernel)
theorem q_980 : (Jvm.Cond.constant "VectorPipes$Runne\x72" (55 : Nat) (1000000 : Int32)) ∈ lw_G := gd (i := 980) (by decide +kernel) (by decide +kernel)
theorem q_981 : (Jvm.Cond.methodLink "VectorPipes$Runne\x72" (62 : Nat) ({ cls := "VectorPipes$Program", name := "at", desc := "(I)LVectorPipes$Instr;" } : Jvm.MethodName)) ∈ lw_G := gd (i := 981) (by decide +kernel) (by decide +kernel)
theorem q_982 : (Jvm.Cond.instanceMethod ({ cls := "VectorPipes$Program", name := "at", desc := "(I)LVectorPipes$Instr;" } : Jvm.MethodName)) ∈ lw_G := gd (i := 982) (by decide +kernel) (by decide +kernel)
theorem q_983 : (Jvm.Cond.selects "VectorPipes$Program" ({ cls := "VectorPipes$Program", name := "at", desc := "(I)LVectorPipes$Instr;" } : Jvm.MethodName) ({ cls := "VectorPipes$Program", name := "at", desc := "(I)LVectorPipes$Instr;" } : Jvm.MethodName)) ∈ lw_G := gd (i := 983) (by decide +kernel) (by decide +kernel)
theorem q_984 : (Jvm.Cond.code ({ cls := "VectorPipes$Program", name := "at", desc := "(I)LVectorPipes$Instr;" } : Jvm.MethodName) prog_9_method_3_code (2 : Nat) (Option.some (Jvm.ClassFile.FieldType.object "VectorPipes$Inst\x72"))) ∈ lw_G := gd (i := 984) (by decide +kernel) (by decide +kernel)
theorem q_985 : (Jvm.Cond.methodLink "VectorPipes$Runne\x72" (73 : Nat) ({ cls := "VectorPipes$Runne\x72", name := "endRound", desc := "()I" } : Jvm.MethodName)) ∈ lw_G := gd (i := 985) (by decide +kernel) (by decide +kernel)
theorem q_987 : (Jvm.Cond.instanceMethod ({ cls := "VectorPipes$Runne\x72", name := "endRound", desc := "()I" } : Jvm.MethodName)) ∈ lw_G := gd (i := 987) (by decide +kernel) (by decide +kernel)
theorem q_988 : (Jvm.Cond.code ({ cls := "VectorPipes$Runne\x72", name := "endRound", desc := "()I" } : Jvm.MethodName) prog_11_method_5_code (2 : Nat) (Option.some Jvm.ClassFile.FieldType.int)) ∈ lw_G := gd (i := 988) (by decide +kernel) (by decide +kernel)
theorem q_989 : (Jvm.Cond.methodLink "VectorPipes$Runne\x72" (133 : Nat) ({ cls := "VectorPipes$Times", name := "beginEnd", desc := "()V" } : Jvm.MethodName)) ∈ lw_G := gd (i := 989) (by decide +kernel) (by decide +kernel)
theorem q_990 : (Jvm.Cond.instanceMethod ({ cls := "VectorPipes$Times", name := "beginEnd", desc := "()V" } : Jvm.MethodName)) ∈ lw_G := gd (i := 990) (by decide +kernel) (by decide +kernel)
theorem q_991 : (Jvm.Cond.selects "VectorPipes$Times" ({ cls := "VectorPipes$Times", name := "beginEnd", desc := "()V" } : Jvm.MethodName) ({ cls := "VectorPipes$Times", name := "beginEnd", desc := "()V" } : Jvm.MethodName)) ∈ lw_G := gd (i := 991) (by decide +kernel) (by decide +kernel)
theorem q_992 : (Jvm.Cond.code ({ cls := "VectorPipes$Times", name := "beginEnd", desc := "()V" } : Jvm.MethodName) prog_12_method_8_code (1 : Nat) (Option.none : Option Jvm.ClassFile.FieldType)) ∈ lw_G := gd (i := 992) (by decide +kernel) (by decide +kernel)
theorem q_993 : (Jvm.Cond.methodLink "VectorPipes$Times" (77 : Nat) ({ cls := "java/lang/Math", name := "max", desc := "(II)I" } : Jvm.MethodName)) ∈ lw_G := gd (i := 993) (by decide +kernel) (by decide +kernel)
theorem q_994 : (Jvm.Cond.methodLink "VectorPipes$Times" (82 : Nat) ({ cls := "VectorPipes$Times", name := "note", desc := "(I)V" } : Jvm.MethodName)) ∈ lw_G := gd (i := 994) (by decide +kernel) (by decide +kernel)
theorem q_996 : (Jvm.Cond.instanceMethod ({ cls := "VectorPipes$Times", name := "note", desc := "(I)V" } : Jvm.MethodName)) ∈ lw_G := gd (i := 996) (by decide +kernel) (by decide +kernel)
theorem q_997 : (Jvm.Cond.code ({ cls := "VectorPipes$Times", name := "note", desc := "(I)V" } : Jvm.MethodName) prog_12_method_3_code (2 : Nat) (Option.none : Option Jvm.ClassFile.FieldType)) ∈ lw_G := gd (i := 997) (by decide +kernel) (by decide +kernel)
theorem q_998 : (Jvm.Cond.methodLink "VectorPipes$Runne\x72" (130 : Nat) ({ cls := "java/lang/Math", name := "min", desc := "(II)I" } : Jvm.MethodName)) ∈ lw_G := gd (i := 998) (by decide +kernel) (by decide +kernel)
theorem q_999 : (Jvm.Cond.methodLink "VectorPipes$Runne\x72" (80 : Nat) ({ cls := "VectorPipes$Times", name := "beginInst\x72", desc := "(ILVectorPipes$Instr;I)V" } : Jvm.MethodName)) ∈ lw_G := gd (i := 999) (by decide +kernel) (by decide +kernel)
theorem q_1000 : (Jvm.Cond.instanceMethod ({ cls := "VectorPipes$Times", name := "beginInst\x72", desc := "(ILVectorPipes$Instr;I)V" } : Jvm.MethodName)) ∈ lw_G := gd (i := 1000) (by decide +kernel) (by decide +kernel)
theorem q_1001 : (Jvm.Cond.selects "VectorPipes$Times" ({ cls := "VectorPipes$Times", name := "beginInst\x72", desc := "(ILVectorPipes$Instr;I)V" } : Jvm.MethodName) ({ cls := "VectorPipes$Times", name := "beginInst\x72", desc := "(ILVectorPipes$Instr;I)V" } : Jvm.MethodName)) ∈ lw_G := gd (i := 1001) (by decide +kernel) (by decide +kernel)
theorem q_1002 : (Jvm.Cond.code ({ cls := "VectorPipes$Times", name := "beginInst\x72", desc := "(ILVectorPipes$Instr;I)V" } : Jvm.MethodName) prog_12_method_9_code (6 : Nat) (Option.none : Option Jvm.ClassFile.FieldType)) ∈ lw_G := gd (i := 1002) (by decide +kernel) (by decide +kernel)
theorem q_1003 : (Jvm.Cond.methodLink "VectorPipes$Times" (97 : Nat) ({ cls := "VectorPipes$Inst\x72", name := "usesMask", desc := "()Z" } : Jvm.MethodName)) ∈ lw_G := gd (i := 1003) (by decide +kernel) (by decide +kernel)
theorem q_1004 : (Jvm.Cond.instanceMethod ({ cls := "VectorPipes$Inst\x72", name := "usesMask", desc := "()Z" } : Jvm.MethodName)) ∈ lw_G := gd (i := 1004) (by decide +kernel) (by decide +kernel)
theorem q_1005 : (Jvm.Cond.selects "VectorPipes$Inst\x72" ({ cls := "VectorPipes$Inst\x72", name := "usesMask", desc := "()Z" } : Jvm.MethodName) ({ cls := "VectorPipes$Inst\x72", name := "usesMask", desc := "()Z" } : Jvm.MethodName)) ∈ lw_G := gd (i := 1005) (by decide +kernel) (by decide +kernel)
theorem q_1006 : (Jvm.Cond.code ({ cls := "VectorPipes$Inst\x72", name := "usesMask", desc := "()Z" } : Jvm.MethodName) prog_4_method_2_code (1 : Nat) (Option.some Jvm.ClassFile.FieldType.boolean)) ∈ lw_G := gd (i := 1006) (by decide +kernel) (by decide +kernel)
theorem q_1007 : (Jvm.Cond.methodLink "VectorPipes$Inst\x72" (19 : Nat) ({ cls := "VectorPipes$Op", name := "does", desc := "(I)Z" } : Jvm.MethodName)) ∈ lw_G := gd (i := 1007) (by decide +kernel) (by decide +kernel)
theorem q_1008 : (Jvm.Cond.instanceMethod ({ cls := "VectorPipes$Op", name := "does", desc := "(I)Z" } : Jvm.MethodName)) ∈ lw_G := gd (i := 1008) (by decide +kernel) (by decide +kernel)
theorem q_1009 : (Jvm.Cond.selects "VectorPipes$Op" ({ cls := "VectorPipes$Op", name := "does", desc := "(I)Z" } : Jvm.MethodName) ({ cls := "VectorPipes$Op", name := "does", desc := "(I)Z" } : Jvm.MethodName)) ∈ lw_G := gd (i := 1009) (by decide +kernel) (by decide +kernel)
theorem q_1010 : (Jvm.Cond.code ({ cls := "VectorPipes$Op", name := "does", desc := "(I)Z" } : Jvm.MethodName) prog_7_method_4_code (2 : Nat) (Option.some Jvm.ClassFile.FieldType.boolean)) ∈ lw_G := gd (i := 1010) (by decide +kernel) (by decide +kernel)
theorem q_1011 : (Jvm.Cond.methodLink "VectorPipes$Times" (101 : Nat) ({ cls := "VectorPipes$Op", name := "does", desc := "(I)Z" } : Jvm.MethodName)) ∈ lw_G := gd (i := 1011) (by decide +kernel) (by decide +kernel)
theorem q_1012 : (Jvm.Cond.fieldLink "VectorPipes$Times" (105 : Nat) "VectorPipes$Op" "PACK" "LVectorPipes$Op;") ∈ lw_G := gd (i := 1012) (by decide +kernel) (by decide +kernel)
theorem q_1014 : (Jvm.Cond.fieldLink "VectorPipes$Times" (108 : Nat) "VectorPipes$Op" "FOLD" "LVectorPipes$Op;") ∈ lw_G := gd (i := 1014) (by decide +kernel) (by decide +kernel)
theorem q_1016 : (Jvm.Cond.fieldLink "VectorPipes$Times" (111 : Nat) "VectorPipes$Op" "TOP" "LVectorPipes$Op;") ∈ lw_G := gd (i := 1016) (by decide +kernel) (by decide +kernel)
theorem q_1018 : (Jvm.Cond.methodLink "VectorPipes$Times" (114 : Nat) ({ cls := "VectorPipes$Times", name := "rowReady", desc := "(LVectorPipes$Instr;I)I" } : Jvm.MethodName)) ∈ lw_G := gd (i := 1018) (by decide +kernel) (by decide +kernel)
theorem q_1020 : (Jvm.Cond.instanceMethod ({ cls := "VectorPipes$Times", name := "rowReady", desc := "(LVectorPipes$Instr;I)I" } : Jvm.MethodName)) ∈ lw_G := gd (i := 1020) (by decide +kernel) (by decide +kernel)
theorem q_1021 : (Jvm.Cond.code ({ cls := "VectorPipes$Times", name := "rowReady", desc := "(LVectorPipes$Instr;I)I" } : Jvm.MethodName) prog_12_method_10_code (6 : Nat) (Option.some Jvm.ClassFile.FieldType.int)) ∈ lw_G := gd (i := 1021) (by decide +kernel) (by decide +kernel)
theorem q_1022 : (Jvm.Cond.methodLink "VectorPipes$Times" (73 : Nat) ({ cls := "VectorPipes$Times", name := "cell", desc := "(II)I" } : Jvm.MethodName)) ∈ lw_G := gd (i := 1022) (by decide +kernel) (by decide +kernel)
theorem q_1023 : (Jvm.Cond.static ({ cls := "VectorPipes$Times", name := "cell", desc := "(II)I" } : Jvm.MethodName)) ∈ lw_G := gd (i := 1023) (by decide +kernel) (by decide +kernel)
theorem q_1024 : (Jvm.Cond.code ({ cls := "VectorPipes$Times", name := "cell", desc := "(II)I" } : Jvm.MethodName) prog_12_method_4_code (2 : Nat) (Option.some Jvm.ClassFile.FieldType.int)) ∈ lw_G := gd (i := 1024) (by decide +kernel) (by decide +kernel)
theorem q_1025 : (Jvm.Cond.methodLink "VectorPipes$Runne\x72" (93 : Nat) ({ cls := "VectorPipes$Runne\x72", name := "doAtOnce", desc := "(ILVectorPipes$Instr;)Z" } : Jvm.MethodName)) ∈ lw_G := gd (i := 1025) (by decide +kernel) (by decide +kernel)
theorem q_1027 : (Jvm.Cond.instanceMethod ({ cls := "VectorPipes$Runne\x72", name := "doAtOnce", desc := "(ILVectorPipes$Instr;)Z" } : Jvm.MethodName)) ∈ lw_G := gd (i := 1027) (by decide +kernel) (by decide +kernel)
theorem q_1028 : (Jvm.Cond.code ({ cls := "VectorPipes$Runne\x72", name := "doAtOnce", desc := "(ILVectorPipes$Instr;)Z" } : Jvm.MethodName) prog_11_method_7_code (3 : Nat) (Option.some Jvm.ClassFile.FieldType.boolean)) ∈ lw_G := gd (i := 1028) (by decide +kernel) (by decide +kernel)
theorem q_1029 : (Jvm.Cond.fieldLink "VectorPipes$Runne\x72" (145 : Nat) "VectorPipes$1" "$SwitchMap$VectorPipes$Op" "[I") ∈ lw_G := gd (i := 1029) (by decide +kernel) (by decide +kernel)
theorem q_1031 : (Jvm.Cond.methodLink "VectorPipes$Runne\x72" (151 : Nat) ({ cls := "VectorPipes$Op", name := "ordinal", desc := "()I" } : Jvm.MethodName)) ∈ lw_G := gd (i := 1031) (by decide +kernel) (by decide +kernel)
theorem q_1032 : (Jvm.Cond.sameMethod "VectorPipes$Op" "java/lang/Enum" "ordinal" "()I") ∈ lw_G := gd (i := 1032) (by decide +kernel) (by decide +kernel)
theorem q_1034 : (Jvm.Cond.selects "VectorPipes$Op" ({ cls := "VectorPipes$Op", name := "ordinal", desc := "()I" } : Jvm.MethodName) ({ cls := "java/lang/Enum", name := "ordinal", desc := "()I" } : Jvm.MethodName)) ∈ lw_G := gd (i := 1034) (by decide +kernel) (by decide +kernel)
theorem q_1035 : (Jvm.Cond.instanceMethod ({ cls := "java/lang/Enum", name := "ordinal", desc := "()I" } : Jvm.MethodName)) ∈ lw_G := gd (i := 1035) (by decide +kernel) (by decide +kernel)
theorem q_1036 : (Jvm.Cond.code ({ cls := "java/lang/Enum", name := "ordinal", desc := "()I" } : Jvm.MethodName) prog_17_method_2_code (1 : Nat) (Option.some Jvm.ClassFile.FieldType.int)) ∈ lw_G := gd (i := 1036) (by decide +kernel) (by decide +kernel)
theorem q_1037 : (Jvm.Cond.methodLink "VectorPipes$Runne\x72" (157 : Nat) ({ cls := "VectorPipes$Machine", name := "lowBits", desc := "()I" } : Jvm.MethodName)) ∈ lw_G := gd (i := 1037) (by decide +kernel) (by decide +kernel)
theorem q_1038 : (Jvm.Cond.instanceMethod ({ cls := "VectorPipes$Machine", name := "lowBits", desc := "()I" } : Jvm.MethodName)) ∈ lw_G := gd (i := 1038) (by decide +kernel) (by decide +kernel)
theorem q_1039 : (Jvm.Cond.selects "VectorPipes$Machine" ({ cls := "VectorPipes$Machine", name := "lowBits", desc := "()I" } : Jvm.MethodName) ({ cls := "VectorPipes$Machine", name := "lowBits", desc := "()I" } : Jvm.MethodName)) ∈ lw_G := gd (i := 1039) (by decide +kernel) (by decide +kernel)
theorem q_1040 : (Jvm.Cond.code ({ cls := "VectorPipes$Machine", name := "lowBits", desc := "()I" } : Jvm.MethodName) prog_5_method_11_code (1 : Nat) (Option.some Jvm.ClassFile.FieldType.int)) ∈ lw_G := gd (i := 1040) (by decide +kernel) (by decide +kernel)
theorem q_1041 : (Jvm.Cond.methodLink "VectorPipes$Runne\x72" (160 : Nat) ({ cls := "VectorPipes$Times", name := "flip", desc := "()V" } : Jvm.MethodName)) ∈ lw_G := gd (i := 1041) (by decide +kernel) (by decide +kernel)
theorem q_1042 : (Jvm.Cond.instanceMethod ({ cls := "VectorPipes$Times", name := "flip", desc := "()V" } : Jvm.MethodName)) ∈ lw_G := gd (i := 1042) (by decide +kernel) (by decide +kernel)
theorem q_1043 : (Jvm.Cond.selects "VectorPipes$Times" ({ cls := "VectorPipes$Times", name := "flip", desc := "()V" } : Jvm.MethodName) ({ cls := "VectorPipes$Times", name := "flip", desc := "()V" } : Jvm.MethodName)) ∈ lw_G := gd (i := 1043) (by decide +kernel) (by decide +kernel)
theorem q_1044 : (Jvm.Cond.code ({ cls := "VectorPipes$Times", name := "flip", desc := "()V" } : Jvm.MethodName) prog_12_method_17_code (1 : Nat) (Option.none : Option Jvm.ClassFile.FieldType)) ∈ lw_G := gd (i := 1044) (by decide +kernel) (by decide +kernel)
theorem q_1045 : (Jvm.Cond.methodLink "VectorPipes$Runne\x72" (163 : Nat) ({ cls := "java/lang/Intege\x72", name := "bitCount", desc := "(I)I" } : Jvm.MethodName)) ∈ lw_G := gd (i := 1045) (by decide +kernel) (by decide +kernel)
theorem q_1046 : (Jvm.Cond.static ({ cls := "java/lang/Intege\x72", name := "bitCount", desc := "(I)I" } : Jvm.MethodName)) ∈ lw_G := gd (i := 1046) (by decide +kernel) (by decide +kernel)
theorem q_1047 : (Jvm.Cond.code ({ cls := "java/lang/Intege\x72", name := "bitCount", desc := "(I)I" } : Jvm.MethodName) prog_18_method_49_code (1 : Nat) (Option.some Jvm.ClassFile.FieldType.int)) ∈ lw_G := gd (i := 1047) (by decide +kernel) (by decide +kernel)
theorem q_1051 : (Jvm.Cond.methodLink "VectorPipes$Runne\x72" (169 : Nat) ({ cls := "VectorPipes$Num", name := "set", desc := "(D)V" } : Jvm.MethodName)) ∈ lw_G := gd (i := 1051) (by decide +kernel) (by decide +kernel)
theorem q_1052 : (Jvm.Cond.methodLink "VectorPipes$Runne\x72" (179 : Nat) ({ cls := "VectorPipes$Row", name := "keep", desc := "(ILVectorPipes$Num;)V" } : Jvm.MethodName)) ∈ lw_G := gd (i := 1052) (by decide +kernel) (by decide +kernel)
theorem q_1053 : (Jvm.Cond.methodLink "VectorPipes$Runne\x72" (183 : Nat) ({ cls := "VectorPipes$Times", name := "count", desc := "(I)V" } : Jvm.MethodName)) ∈ lw_G := gd (i := 1053) (by decide +kernel) (by decide +kernel)
theorem q_1054 : (Jvm.Cond.instanceMethod ({ cls := "VectorPipes$Times", name := "count", desc := "(I)V" } : Jvm.MethodName)) ∈ lw_G := gd (i := 1054) (by decide +kernel) (by decide +kernel)
theorem q_1055 : (Jvm.Cond.selects "VectorPipes$Times" ({ cls := "VectorPipes$Times", name := "count", desc := "(I)V" } : Jvm.MethodName) ({ cls := "VectorPipes$Times", name := "count", desc := "(I)V" } : Jvm.MethodName)) ∈ lw_G := gd (i := 1055) (by decide +kernel) (by decide +kernel)
theorem q_1056 : (Jvm.Cond.code ({ cls := "VectorPipes$Times", name := "count", desc := "(I)V" } : Jvm.MethodName) prog_12_method_18_code (2 : Nat) (Option.none : Option Jvm.ClassFile.FieldType)) ∈ lw_G := gd (i := 1056) (by decide +kernel) (by decide +kernel)
theorem q_1057 : (Jvm.Cond.methodLink "VectorPipes$Times" (140 : Nat) ({ cls := "VectorPipes$Times", name := "endAt", desc := "(II)V" } : Jvm.MethodName)) ∈ lw_G := gd (i := 1057) (by decide +kernel) (by decide +kernel)
theorem q_1059 : (Jvm.Cond.instanceMethod ({ cls := "VectorPipes$Times", name := "endAt", desc := "(II)V" } : Jvm.MethodName)) ∈ lw_G := gd (i := 1059) (by decide +kernel) (by decide +kernel)
theorem q_1060 : (Jvm.Cond.code ({ cls := "VectorPipes$Times", name := "endAt", desc := "(II)V" } : Jvm.MethodName) prog_12_method_11_code (3 : Nat) (Option.none : Option Jvm.ClassFile.FieldType)) ∈ lw_G := gd (i := 1060) (by decide +kernel) (by decide +kernel)
theorem q_1061 : (Jvm.Cond.methodLink "VectorPipes$Runne\x72" (186 : Nat) ({ cls := "VectorPipes$Runne\x72", name := "doFold", desc := "(ILVectorPipes$Instr;)Z" } : Jvm.MethodName)) ∈ lw_G := gd (i := 1061) (by decide +kernel) (by decide +kernel)
theorem q_1063 : (Jvm.Cond.instanceMethod ({ cls := "VectorPipes$Runne\x72", name := "doFold", desc := "(ILVectorPipes$Instr;)Z" } : Jvm.MethodName)) ∈ lw_G := gd (i := 1063) (by decide +kernel) (by decide +kernel)
theorem q_1064 : (Jvm.Cond.code ({ cls := "VectorPipes$Runne\x72", name := "doFold", desc := "(ILVectorPipes$Instr;)Z" } : Jvm.MethodName) prog_11_method_8_code (5 : Nat) (Option.some Jvm.ClassFile.FieldType.boolean)) ∈ lw_G := gd (i := 1064) (by decide +kernel) (by decide +kernel)
theorem q_1065 : (Jvm.Cond.methodLink "VectorPipes$Runne\x72" (192 : Nat) ({ cls := "VectorPipes$Machine", name := "isMissing", desc := "(I)Z" } : Jvm.MethodName)) ∈ lw_G := gd (i := 1065) (by decide +kernel) (by decide +kernel)
theorem q_1066 : (Jvm.Cond.instanceMethod ({ cls := "VectorPipes$Machine", name := "isMissing", desc := "(I)Z" } : Jvm.MethodName)) ∈ lw_G := gd (i := 1066) (by decide +kernel) (by decide +kernel)
theorem q_1067 : (Jvm.Cond.selects "VectorPipes$Machine" ({ cls := "VectorPipes$Machine", name := "isMissing", desc := "(I)Z" } : Jvm.MethodName) ({ cls := "VectorPipes$Machine", name := "isMissing", desc := "(I)Z" } : Jvm.MethodName)) ∈ lw_G := gd (i := 1067) (by decide +kernel) (by decide +kernel)
theorem q_1068 : (Jvm.Cond.code ({ cls := "VectorPipes$Machine", name := "isMissing", desc := "(I)Z" } : Jvm.MethodName) prog_5_method_7_code (2 : Nat) (Option.some Jvm.ClassFile.FieldType.boolean)) ∈ lw_G := gd (i := 1068) (by decide +kernel) (by decide +kernel)
theorem q_1069 : (Jvm.Cond.methodLink "VectorPipes$Runne\x72" (196 : Nat) ({ cls := "VectorPipes$Runne\x72", name := "trap", desc := "(III)Z" } : Jvm.MethodName)) ∈ lw_G := gd (i := 1069) (by decide +kernel) (by decide +kernel)
theorem q_1071 : (Jvm.Cond.instanceMethod ({ cls := "VectorPipes$Runne\x72", name := "trap", desc := "(III)Z" } : Jvm.MethodName)) ∈ lw_G := gd (i := 1071) (by decide +kernel) (by decide +kernel)
theorem q_1072 : (Jvm.Cond.code ({ cls := "VectorPipes$Runne\x72", name := "trap", desc := "(III)Z" } : Jvm.MethodName) prog_11_method_6_code (4 : Nat) (Option.some Jvm.ClassFile.FieldType.boolean)) ∈ lw_G := gd (i := 1072) (by decide +kernel) (by decide +kernel)
theorem q_1073 : (Jvm.Cond.methodLink "VectorPipes$Runne\x72" (199 : Nat) ({ cls := "VectorPipes$Machine", name := "rowAt", desc := "(I)LVectorPipes$Row;" } : Jvm.MethodName)) ∈ lw_G := gd (i := 1073) (by decide +kernel) (by decide +kernel)
theorem q_1074 : (Jvm.Cond.instanceMethod ({ cls := "VectorPipes$Machine", name := "rowAt", desc := "(I)LVectorPipes$Row;" } : Jvm.MethodName)) ∈ lw_G := gd (i := 1074) (by decide +kernel) (by decide +kernel)
theorem q_1075 : (Jvm.Cond.selects "VectorPipes$Machine" ({ cls := "VectorPipes$Machine", name := "rowAt", desc := "(I)LVectorPipes$Row;" } : Jvm.MethodName) ({ cls := "VectorPipes$Machine", name := "rowAt", desc := "(I)LVectorPipes$Row;" } : Jvm.MethodName)) ∈ lw_G := gd (i := 1075) (by decide +kernel) (by decide +kernel)
theorem q_1076 : (Jvm.Cond.code ({ cls := "VectorPipes$Machine", name := "rowAt", desc := "(I)LVectorPipes$Row;" } : Jvm.MethodName) prog_5_method_6_code (2 : Nat) (Option.some (Jvm.ClassFile.FieldType.object "VectorPipes$Row"))) ∈ lw_G := gd (i := 1076) (by decide +kernel) (by decide +kernel)
theorem q_1077 : (Jvm.Cond.fieldLink "VectorPipes$Runne\x72" (203 : Nat) "VectorPipes$Op" "TOP" "LVectorPipes$Op;") ∈ lw_G := gd (i := 1077) (by decide +kernel) (by decide +kernel)
theorem q_1078 : (Jvm.Cond.methodLink "VectorPipes$Runne\x72" (206 : Nat) ({ cls := "VectorPipes$Runne\x72", name := "halve", desc := "(LVectorPipes$Row;IZLVectorPipes$Num;)V" } : Jvm.MethodName)) ∈ lw_G := gd (i := 1078) (by decide +kernel) (by decide +kernel)
theorem q_1079 : (Jvm.Cond.instanceMethod ({ cls := "VectorPipes$Runne\x72", name := "halve", desc := "(LVectorPipes$Row;IZLVectorPipes$Num;)V" } : Jvm.MethodName)) ∈ lw_G := gd (i := 1079) (by decide +kernel) (by decide +kernel)
theorem q_1080 : (Jvm.Cond.selects "VectorPipes$Runne\x72" ({ cls := "VectorPipes$Runne\x72", name := "halve", desc := "(LVectorPipes$Row;IZLVectorPipes$Num;)V" } : Jvm.MethodName) ({ cls := "VectorPipes$Runne\x72", name := "halve", desc := "(LVectorPipes$Row;IZLVectorPipes$Num;)V" } : Jvm.MethodName)) ∈ lw_G := gd (i := 1080) (by decide +kernel) (by decide +kernel)
theorem q_1081 : (Jvm.Cond.code ({ cls := "VectorPipes$Runne\x72", name := "halve", desc := "(LVectorPipes$Row;IZLVectorPipes$Num;)V" } : Jvm.MethodName) prog_11_method_9_code (8 : Nat) (Option.none : Option Jvm.ClassFile.FieldType)) ∈ lw_G := gd (i := 1081) (by decide +kernel) (by decide +kernel)
theorem q_1082 : (Jvm.Cond.methodLink "VectorPipes$Runne\x72" (214 : Nat) ({ cls := "VectorPipes$Row", name := "copyFrom", desc := "(LVectorPipes$Row;)V" } : Jvm.MethodName)) ∈ lw_G := gd (i := 1082) (by decide +kernel) (by decide +kernel)
theorem q_1083 : (Jvm.Cond.instanceMethod ({ cls := "VectorPipes$Row", name := "copyFrom", desc := "(LVectorPipes$Row;)V" } : Jvm.MethodName)) ∈ lw_G := gd (i := 1083) (by decide +kernel) (by decide +kernel)
theorem q_1084 : (Jvm.Cond.selects "VectorPipes$Row" ({ cls := "VectorPipes$Row", name := "copyFrom", desc := "(LVectorPipes$Row;)V" } : Jvm.MethodName) ({ cls := "VectorPipes$Row", name := "copyFrom", desc := "(LVectorPipes$Row;)V" } : Jvm.MethodName)) ∈ lw_G := gd (i := 1084) (by decide +kernel) (by decide +kernel)
theorem q_1085 : (Jvm.Cond.code ({ cls := "VectorPipes$Row", name := "copyFrom", desc := "(LVectorPipes$Row;)V" } : Jvm.MethodName) prog_10_method_5_code (3 : Nat) (Option.none : Option Jvm.ClassFile.FieldType)) ∈ lw_G := gd (i := 1085) (by decide +kernel) (by decide +kernel)
theorem q_1086 : (Jvm.Cond.methodLink "VectorPipes$Row" (32 : Nat) ({ cls := "java/lang/Math", name := "min", desc := "(II)I" } : Jvm.MethodName)) ∈ lw_G := gd (i := 1086) (by decide +kernel) (by decide +kernel)
theorem q_1087 : (Jvm.Cond.methodLink "VectorPipes$Row" (35 : Nat) ({ cls := "java/lang/System", name := "arraycopy", desc := "(Ljava/lang/Object;ILjava/lang/Object;II)V" } : Jvm.MethodName)) ∈ lw_G := gd (i := 1087) (by decide +kernel) (by decide +kernel)
theorem q_1088 : (Jvm.Cond.methodLink "VectorPipes$Runne\x72" (218 : Nat) ({ cls := "VectorPipes$Row", name := "fetch", desc := "(ILVectorPipes$Num;)V" } : Jvm.MethodName)) ∈ lw_G := gd (i := 1088) (by decide +kernel) (by decide +kernel)
theorem q_1089 : (Jvm.Cond.methodLink "VectorPipes$Runne\x72" (221 : Nat) ({ cls := "VectorPipes$Num", name := "most", desc := "(LVectorPipes$Num;)V" } : Jvm.MethodName)) ∈ lw_G := gd (i := 1089) (by decide +kernel) (by decide +kernel)
theorem q_1090 : (Jvm.Cond.instanceMethod ({ cls := "VectorPipes$Num", name := "most", desc := "(LVectorPipes$Num;)V" } : Jvm.MethodName)) ∈ lw_G := gd (i := 1090) (by decide +kernel) (by decide +kernel)
theorem q_1091 : (Jvm.Cond.selects "VectorPipes$Num" ({ cls := "VectorPipes$Num", name := "most", desc := "(LVectorPipes$Num;)V" } : Jvm.MethodName) ({ cls := "VectorPipes$Num", name := "most", desc := "(LVectorPipes$Num;)V" } : Jvm.MethodName)) ∈ lw_G := gd (i := 1091) (by decide +kernel) (by decide +kernel)
theorem q_1092 : (Jvm.Cond.code ({ cls := "VectorPipes$Num", name := "most", desc := "(LVectorPipes$Num;)V" } : Jvm.MethodName) prog_6_method_14_code (2 : Nat) (Option.none : Option Jvm.ClassFile.FieldType)) ∈ lw_G := gd (i := 1092) (by decide +kernel) (by decide +kernel)
theorem q_1093 : (Jvm.Cond.methodLink "VectorPipes$Num" (41 : Nat) ({ cls := "VectorPipes$Num", name := "takesOdd", desc := "(LVectorPipes$Num;)Z" } : Jvm.MethodName)) ∈ lw_G := gd (i := 1093) (by decide +kernel) (by decide +kernel)
theorem q_1095 : (Jvm.Cond.instanceMethod ({ cls := "VectorPipes$Num", name := "takesOdd", desc := "(LVectorPipes$Num;)Z" } : Jvm.MethodName)) ∈ lw_G := gd (i := 1095) (by decide +kernel) (by decide +kernel)
theorem q_1096 : (Jvm.Cond.code ({ cls := "VectorPipes$Num", name := "takesOdd", desc := "(LVectorPipes$Num;)Z" } : Jvm.MethodName) prog_6_method_8_code (2 : Nat) (Option.some Jvm.ClassFile.FieldType.boolean)) ∈ lw_G := gd (i := 1096) (by decide +kernel) (by decide +kernel)
theorem q_1097 : (Jvm.Cond.methodLink "VectorPipes$Runne\x72" (225 : Nat) ({ cls := "VectorPipes$Num", name := "plus", desc := "(LVectorPipes$Num;)V" } : Jvm.MethodName)) ∈ lw_G := gd (i := 1097) (by decide +kernel) (by decide +kernel)
theorem q_1098 : (Jvm.Cond.instanceMethod ({ cls := "VectorPipes$Num", name := "plus", desc := "(LVectorPipes$Num;)V" } : Jvm.MethodName)) ∈ lw_G := gd (i := 1098) (by decide +kernel) (by decide +kernel)
theorem q_1099 : (Jvm.Cond.selects "VectorPipes$Num" ({ cls := "VectorPipes$Num", name := "plus", desc := "(LVectorPipes$Num;)V" } : Jvm.MethodName) ({ cls := "VectorPipes$Num", name := "plus", desc := "(LVectorPipes$Num;)V" } : Jvm.MethodName)) ∈ lw_G := gd (i := 1099) (by decide +kernel) (by decide +kernel)
theorem q_1100 : (Jvm.Cond.code ({ cls := "VectorPipes$Num", name := "plus", desc := "(LVectorPipes$Num;)V" } : Jvm.MethodName) prog_6_method_9_code (2 : Nat) (Option.none : Option Jvm.ClassFile.FieldType)) ∈ lw_G := gd (i := 1100) (by decide +kernel) (by decide +kernel)
theorem q_1101 : (Jvm.Cond.methodLink "VectorPipes$Runne\x72" (228 : Nat) ({ cls := "VectorPipes$Num", name := "setKind", desc := "(I)V" } : Jvm.MethodName)) ∈ lw_G := gd (i := 1101) (by decide +kernel) (by decide +kernel)
theorem q_1102 : (Jvm.Cond.methodLink "VectorPipes$Runne\x72" (210 : Nat) ({ cls := "VectorPipes$Times", name := "fold", desc := "(ILVectorPipes$Instr;II)V" } : Jvm.MethodName)) ∈ lw_G := gd (i := 1102) (by decide +kernel) (by decide +kernel)
theorem q_1103 : (Jvm.Cond.instanceMethod ({ cls := "VectorPipes$Times", name := "fold", desc := "(ILVectorPipes$Instr;II)V" } : Jvm.MethodName)) ∈ lw_G := gd (i := 1103) (by decide +kernel) (by decide +kernel)
theorem q_1104 : (Jvm.Cond.selects "VectorPipes$Times" ({ cls := "VectorPipes$Times", name := "fold", desc := "(ILVectorPipes$Instr;II)V" } : Jvm.MethodName) ({ cls := "VectorPipes$Times", name := "fold", desc := "(ILVectorPipes$Instr;II)V" } : Jvm.MethodName)) ∈ lw_G := gd (i := 1104) (by decide +kernel) (by decide +kernel)
theorem q_1105 : (Jvm.Cond.code ({ cls := "VectorPipes$Times", name := "fold", desc := "(ILVectorPipes$Instr;II)V" } : Jvm.MethodName) prog_12_method_19_code (6 : Nat) (Option.none : Option Jvm.ClassFile.FieldType)) ∈ lw_G := gd (i := 1105) (by decide +kernel) (by decide +kernel)
theorem q_1106 : (Jvm.Cond.methodLink "VectorPipes$Times" (153 : Nat) ({ cls := "VectorPipes$Times", name := "readNow", desc := "(III)V" } : Jvm.MethodName)) ∈ lw_G := gd (i := 1106) (by decide +kernel) (by decide +kernel)
theorem q_1108 : (Jvm.Cond.instanceMethod ({ cls := "VectorPipes$Times", name := "readNow", desc := "(III)V" } : Jvm.MethodName)) ∈ lw_G := gd (i := 1108) (by decide +kernel) (by decide +kernel)
theorem q_1109 : (Jvm.Cond.code ({ cls := "VectorPipes$Times", name := "readNow", desc := "(III)V" } : Jvm.MethodName) prog_12_method_6_code (5 : Nat) (Option.none : Option Jvm.ClassFile.FieldType)) ∈ lw_G := gd (i := 1109) (by decide +kernel) (by decide +kernel)
theorem q_1110 : (Jvm.Cond.methodLink "VectorPipes$Runne\x72" (97 : Nat) ({ cls := "VectorPipes$Runne\x72", name := "doElements", desc := "(ILVectorPipes$Instr;)Z" } : Jvm.MethodName)) ∈ lw_G := gd (i := 1110) (by decide +kernel) (by decide +kernel)
theorem q_1112 : (Jvm.Cond.instanceMethod ({ cls := "VectorPipes$Runne\x72", name := "doElements", desc := "(ILVectorPipes$Instr;)Z" } : Jvm.MethodName)) ∈ lw_G := gd (i := 1112) (by decide +kernel) (by decide +kernel)
theorem q_1113 : (Jvm.Cond.code ({ cls := "VectorPipes$Runne\x72", name := "doElements", desc := "(ILVectorPipes$Instr;)Z" } : Jvm.MethodName) prog_11_method_11_code (6 : Nat) (Option.some Jvm.ClassFile.FieldType.boolean)) ∈ lw_G := gd (i := 1113) (by decide +kernel) (by decide +kernel)
theorem q_1114 : (Jvm.Cond.methodLink "VectorPipes$Runne\x72" (231 : Nat) ({ cls := "VectorPipes$Runne\x72", name := "lacksRow", desc := "(LVectorPipes$Instr;)Z" } : Jvm.MethodName)) ∈ lw_G := gd (i := 1114) (by decide +kernel) (by decide +kernel)
theorem q_1116 : (Jvm.Cond.instanceMethod ({ cls := "VectorPipes$Runne\x72", name := "lacksRow", desc := "(LVectorPipes$Instr;)Z" } : Jvm.MethodName)) ∈ lw_G := gd (i := 1116) (by decide +kernel) (by decide +kernel)
theorem q_1117 : (Jvm.Cond.code ({ cls := "VectorPipes$Runne\x72", name := "lacksRow", desc := "(LVectorPipes$Instr;)Z" } : Jvm.MethodName) prog_11_method_12_code (2 : Nat) (Option.some Jvm.ClassFile.FieldType.boolean)) ∈ lw_G := gd (i := 1117) (by decide +kernel) (by decide +kernel)
theorem q_1118 : (Jvm.Cond.methodLink "VectorPipes$Runne\x72" (238 : Nat) ({ cls := "VectorPipes$Op", name := "does", desc := "(I)Z" } : Jvm.MethodName)) ∈ lw_G := gd (i := 1118) (by decide +kernel) (by decide +kernel)
theorem q_1119 : (Jvm.Cond.methodLink "VectorPipes$Runne\x72" (241 : Nat) ({ cls := "VectorPipes$Runne\x72", name := "offsetFits", desc := "(LVectorPipes$Instr;I)Z" } : Jvm.MethodName)) ∈ lw_G := gd (i := 1119) (by decide +kernel) (by decide +kernel)
theorem q_1121 : (Jvm.Cond.instanceMethod ({ cls := "VectorPipes$Runne\x72", name := "offsetFits", desc := "(LVectorPipes$Instr;I)Z" } : Jvm.MethodName)) ∈ lw_G := gd (i := 1121) (by decide +kernel) (by decide +kernel)
theorem q_1122 : (Jvm.Cond.code ({ cls := "VectorPipes$Runne\x72", name := "offsetFits", desc := "(LVectorPipes$Instr;I)Z" } : Jvm.MethodName) prog_11_method_13_code (3 : Nat) (Option.some Jvm.ClassFile.FieldType.boolean)) ∈ lw_G := gd (i := 1122) (by decide +kernel) (by decide +kernel)
theorem q_1123 : (Jvm.Cond.methodLink "VectorPipes$Runne\x72" (273 : Nat) ({ cls := "VectorPipes$Machine", name := "fetch", desc := "(IILVectorPipes$Num;)V" } : Jvm.MethodName)) ∈ lw_G := gd (i := 1123) (by decide +kernel) (by decide +kernel)
theorem q_1124 : (Jvm.Cond.instanceMethod ({ cls := "VectorPipes$Machine", name := "fetch", desc := "(IILVectorPipes$Num;)V" } : Jvm.MethodName)) ∈ lw_G := gd (i := 1124) (by decide +kernel) (by decide +kernel)
theorem q_1125 : (Jvm.Cond.selects "VectorPipes$Machine" ({ cls := "VectorPipes$Machine", name := "fetch", desc := "(IILVectorPipes$Num;)V" } : Jvm.MethodName) ({ cls := "VectorPipes$Machine", name := "fetch", desc := "(IILVectorPipes$Num;)V" } : Jvm.MethodName)) ∈ lw_G := gd (i := 1125) (by decide +kernel) (by decide +kernel)
theorem q_1126 : (Jvm.Cond.code ({ cls := "VectorPipes$Machine", name := "fetch", desc := "(IILVectorPipes$Num;)V" } : Jvm.MethodName) prog_5_method_5_code (4 : Nat) (Option.none : Option Jvm.ClassFile.FieldType)) ∈ lw_G := gd (i := 1126) (by decide +kernel) (by decide +kernel)
theorem q_1127 : (Jvm.Cond.methodLink "VectorPipes$Machine" (62 : Nat) ({ cls := "VectorPipes$Row", name := "fetch", desc := "(ILVectorPipes$Num;)V" } : Jvm.MethodName)) ∈ lw_G := gd (i := 1127) (by decide +kernel) (by decide +kernel)
theorem q_1128 : (Jvm.Cond.methodLink "VectorPipes$Runne\x72" (276 : Nat) ({ cls := "VectorPipes$Num", name := "isOffset", desc := "()Z" } : Jvm.MethodName)) ∈ lw_G := gd (i := 1128) (by decide +kernel) (by decide +kernel)
theorem q_1129 : (Jvm.Cond.instanceMethod ({ cls := "VectorPipes$Num", name := "isOffset", desc := "()Z" } : Jvm.MethodName)) ∈ lw_G := gd (i := 1129) (by decide +kernel) (by decide +kernel)
theorem q_1130 : (Jvm.Cond.selects "VectorPipes$Num" ({ cls := "VectorPipes$Num", name := "isOffset", desc := "()Z" } : Jvm.MethodName) ({ cls := "VectorPipes$Num", name := "isOffset", desc := "()Z" } : Jvm.MethodName)) ∈ lw_G := gd (i := 1130) (by decide +kernel) (by decide +kernel)
theorem q_1131 : (Jvm.Cond.code ({ cls := "VectorPipes$Num", name := "isOffset", desc := "()Z" } : Jvm.MethodName) prog_6_method_21_code (1 : Nat) (Option.some Jvm.ClassFile.FieldType.boolean)) ∈ lw_G := gd (i := 1131) (by decide +kernel) (by decide +kernel)
theorem q_1132 : (Jvm.Cond.constantDouble "VectorPipes$Num" (52 : Nat) (13920209183539462144 : UInt64)) ∈ lw_G := gd (i := 1132) (by decide +kernel) (by decide +kernel)
theorem q_1133 : (Jvm.Cond.constantDouble "VectorPipes$Num" (54 : Nat) (4696837146684686336 : UInt64)) ∈ lw_G := gd (i := 1133) (by decide +kernel) (by decide +kernel)
theorem q_1134 : (Jvm.Cond.methodLink "VectorPipes$Runne\x72" (245 : Nat) ({ cls := "VectorPipes$Runne\x72", name := "placeOf", desc := "(LVectorPipes$Instr;I)I" } : Jvm.MethodName)) ∈ lw_G := gd (i := 1134) (by decide +kernel) (by decide +kernel)
theorem q_1136 : (Jvm.Cond.instanceMethod ({ cls := "VectorPipes$Runne\x72", name := "placeOf", desc := "(LVectorPipes$Instr;I)I" } : Jvm.MethodName)) ∈ lw_G := gd (i := 1136) (by decide +kernel) (by decide +kernel)
theorem q_1137 : (Jvm.Cond.code ({ cls := "VectorPipes$Runne\x72", name := "placeOf", desc := "(LVectorPipes$Instr;I)I" } : Jvm.MethodName) prog_11_method_14_code (3 : Nat) (Option.some Jvm.ClassFile.FieldType.int)) ∈ lw_G := gd (i := 1137) (by decide +kernel) (by decide +kernel)
theorem q_1138 : (Jvm.Cond.methodLink "VectorPipes$Runne\x72" (282 : Nat) ({ cls := "VectorPipes$Num", name := "asLong", desc := "()J" } : Jvm.MethodName)) ∈ lw_G := gd (i := 1138) (by decide +kernel) (by decide +kernel)
theorem q_1139 : (Jvm.Cond.methodLink "VectorPipes$Runne\x72" (249 : Nat) ({ cls := "VectorPipes$Machine", name := "bankOf", desc := "(I)I" } : Jvm.MethodName)) ∈ lw_G := gd (i := 1139) (by decide +kernel) (by decide +kernel)
theorem q_1140 : (Jvm.Cond.instanceMethod ({ cls := "VectorPipes$Machine", name := "bankOf", desc := "(I)I" } : Jvm.MethodName)) ∈ lw_G := gd (i := 1140) (by decide +kernel) (by decide +kernel)
theorem q_1141 : (Jvm.Cond.selects "VectorPipes$Machine" ({ cls := "VectorPipes$Machine", name := "bankOf", desc := "(I)I" } : Jvm.MethodName) ({ cls := "VectorPipes$Machine", name := "bankOf", desc := "(I)I" } : Jvm.MethodName)) ∈ lw_G := gd (i := 1141) (by decide +kernel) (by decide +kernel)
theorem q_1142 : (Jvm.Cond.code ({ cls := "VectorPipes$Machine", name := "bankOf", desc := "(I)I" } : Jvm.MethodName) prog_5_method_10_code (2 : Nat) (Option.some Jvm.ClassFile.FieldType.int)) ∈ lw_G := gd (i := 1142) (by decide +kernel) (by decide +kernel)
theorem q_1143 : (Jvm.Cond.methodLink "VectorPipes$Runne\x72" (255 : Nat) ({ cls := "VectorPipes$Times", name := "take", desc := "(ILVectorPipes$Instr;III)V" } : Jvm.MethodName)) ∈ lw_G := gd (i := 1143) (by decide +kernel) (by decide +kernel)
theorem q_1144 : (Jvm.Cond.instanceMethod ({ cls := "VectorPipes$Times", name := "take", desc := "(ILVectorPipes$Instr;III)V" } : Jvm.MethodName)) ∈ lw_G := gd (i := 1144) (by decide +kernel) (by decide +kernel)
theorem q_1145 : (Jvm.Cond.selects "VectorPipes$Times" ({ cls := "VectorPipes$Times", name := "take", desc := "(ILVectorPipes$Instr;III)V" } : Jvm.MethodName) ({ cls := "VectorPipes$Times", name := "take", desc := "(ILVectorPipes$Instr;III)V" } : Jvm.MethodName)) ∈ lw_G := gd (i := 1145) (by decide +kernel) (by decide +kernel)
theorem q_1146 : (Jvm.Cond.code ({ cls := "VectorPipes$Times", name := "take", desc := "(ILVectorPipes$Instr;III)V" } : Jvm.MethodName) prog_12_method_12_code (10 : Nat) (Option.none : Option Jvm.ClassFile.FieldType)) ∈ lw_G := gd (i := 1146) (by decide +kernel) (by decide +kernel)
theorem q_1147 : (Jvm.Cond.methodLink "VectorPipes$Times" (121 : Nat) ({ cls := "VectorPipes$Op", name := "latency", desc := "()I" } : Jvm.MethodName)) ∈ lw_G := gd (i := 1147) (by decide +kernel) (by decide +kernel)
theorem q_1148 : (Jvm.Cond.instanceMethod ({ cls := "VectorPipes$Op", name := "latency", desc := "()I" } : Jvm.MethodName)) ∈ lw_G := gd (i := 1148) (by decide +kernel) (by decide +kernel)
theorem q_1149 : (Jvm.Cond.selects "VectorPipes$Op" ({ cls := "VectorPipes$Op", name := "latency", desc := "()I" } : Jvm.MethodName) ({ cls := "VectorPipes$Op", name := "latency", desc := "()I" } : Jvm.MethodName)) ∈ lw_G := gd (i := 1149) (by decide +kernel) (by decide +kernel)
theorem q_1150 : (Jvm.Cond.code ({ cls := "VectorPipes$Op", name := "latency", desc := "()I" } : Jvm.MethodName) prog_7_method_5_code (1 : Nat) (Option.some Jvm.ClassFile.FieldType.int)) ∈ lw_G := gd (i := 1150) (by decide +kernel) (by decide +kernel)
theorem q_1152 : (Jvm.Cond.methodLink "VectorPipes$Times" (125 : Nat) ({ cls := "VectorPipes$Times", name := "operandsReady", desc := "(LVectorPipes$Instr;I)I" } : Jvm.MethodName)) ∈ lw_G := gd (i := 1152) (by decide +kernel) (by decide +kernel)
theorem q_1154 : (Jvm.Cond.instanceMethod ({ cls := "VectorPipes$Times", name := "operandsReady", desc := "(LVectorPipes$Instr;I)I" } : Jvm.MethodName)) ∈ lw_G := gd (i := 1154) (by decide +kernel) (by decide +kernel)
theorem q_1155 : (Jvm.Cond.code ({ cls := "VectorPipes$Times", name := "operandsReady", desc := "(LVectorPipes$Instr;I)I" } : Jvm.MethodName) prog_12_method_13_code (4 : Nat) (Option.some Jvm.ClassFile.FieldType.int)) ∈ lw_G := gd (i := 1155) (by decide +kernel) (by decide +kernel)
theorem q_1156 : (Jvm.Cond.methodLink "VectorPipes$Times" (144 : Nat) ({ cls := "VectorPipes$Times", name := "readyAt", desc := "(II)I" } : Jvm.MethodName)) ∈ lw_G := gd (i := 1156) (by decide +kernel) (by decide +kernel)
theorem q_1158 : (Jvm.Cond.instanceMethod ({ cls := "VectorPipes$Times", name := "readyAt", desc := "(II)I" } : Jvm.MethodName)) ∈ lw_G := gd (i := 1158) (by decide +kernel) (by decide +kernel)
theorem q_1159 : (Jvm.Cond.code ({ cls := "VectorPipes$Times", name := "readyAt", desc := "(II)I" } : Jvm.MethodName) prog_12_method_5_code (3 : Nat) (Option.some Jvm.ClassFile.FieldType.int)) ∈ lw_G := gd (i := 1159) (by decide +kernel) (by decide +kernel)
theorem q_1160 : (Jvm.Cond.methodLink "VectorPipes$Times" (128 : Nat) ({ cls := "VectorPipes$Times", name := "throughBank", desc := "(III)I" } : Jvm.MethodName)) ∈ lw_G := gd (i := 1160) (by decide +kernel) (by decide +kernel)
theorem q_1162 : (Jvm.Cond.instanceMethod ({ cls := "VectorPipes$Times", name := "throughBank", desc := "(III)I" } : Jvm.MethodName)) ∈ lw_G := gd (i := 1162) (by decide +kernel) (by decide +kernel)
theorem q_1163 : (Jvm.Cond.code ({ cls := "VectorPipes$Times", name := "throughBank", desc := "(III)I" } : Jvm.MethodName) prog_12_method_15_code (5 : Nat) (Option.some Jvm.ClassFile.FieldType.int)) ∈ lw_G := gd (i := 1163) (by decide +kernel) (by decide +kernel)
theorem q_1164 : (Jvm.Cond.methodLink "VectorPipes$Times" (132 : Nat) ({ cls := "VectorPipes$Times", name := "readOperands", desc := "(LVectorPipes$Instr;I)V" } : Jvm.MethodName)) ∈ lw_G := gd (i := 1164) (by decide +kernel) (by decide +kernel)
theorem q_1166 : (Jvm.Cond.instanceMethod ({ cls := "VectorPipes$Times", name := "readOperands", desc := "(LVectorPipes$Instr;I)V" } : Jvm.MethodName)) ∈ lw_G := gd (i := 1166) (by decide +kernel) (by decide +kernel)
theorem q_1167 : (Jvm.Cond.code ({ cls := "VectorPipes$Times", name := "readOperands", desc := "(LVectorPipes$Instr;I)V" } : Jvm.MethodName) prog_12_method_14_code (3 : Nat) (Option.none : Option Jvm.ClassFile.FieldType)) ∈ lw_G := gd (i := 1167) (by decide +kernel) (by decide +kernel)
theorem q_1168 : (Jvm.Cond.methodLink "VectorPipes$Times" (136 : Nat) ({ cls := "VectorPipes$Times", name := "readyFrom", desc := "(III)V" } : Jvm.MethodName)) ∈ lw_G := gd (i := 1168) (by decide +kernel) (by decide +kernel)
theorem q_1170 : (Jvm.Cond.instanceMethod ({ cls := "VectorPipes$Times", name := "readyFrom", desc := "(III)V" } : Jvm.MethodName)) ∈ lw_G := gd (i := 1170) (by decide +kernel) (by decide +kernel)
theorem q_1171 : (Jvm.Cond.code ({ cls := "VectorPipes$Times", name := "readyFrom", desc := "(III)V" } : Jvm.MethodName) prog_12_method_7_code (4 : Nat) (Option.none : Option Jvm.ClassFile.FieldType)) ∈ lw_G := gd (i := 1171) (by decide +kernel) (by decide +kernel)
theorem q_1172 : (Jvm.Cond.methodLink "VectorPipes$Runne\x72" (259 : Nat) ({ cls := "VectorPipes$Runne\x72", name := "doElement", desc := "(LVectorPipes$Instr;II)V" } : Jvm.MethodName)) ∈ lw_G := gd (i := 1172) (by decide +kernel) (by decide +kernel)
theorem q_1174 : (Jvm.Cond.instanceMethod ({ cls := "VectorPipes$Runne\x72", name := "doElement", desc := "(LVectorPipes$Instr;II)V" } : Jvm.MethodName)) ∈ lw_G := gd (i := 1174) (by decide +kernel) (by decide +kernel)
theorem q_1175 : (Jvm.Cond.code ({ cls := "VectorPipes$Runne\x72", name := "doElement", desc := "(LVectorPipes$Instr;II)V" } : Jvm.MethodName) prog_11_method_15_code (4 : Nat) (Option.none : Option Jvm.ClassFile.FieldType)) ∈ lw_G := gd (i := 1175) (by decide +kernel) (by decide +kernel)
theorem q_1176 : (Jvm.Cond.methodLink "VectorPipes$Runne\x72" (292 : Nat) ({ cls := "VectorPipes$Runne\x72", name := "holds", desc := "(LVectorPipes$Instr;I)Z" } : Jvm.MethodName)) ∈ lw_G := gd (i := 1176) (by decide +kernel) (by decide +kernel)
theorem q_1178 : (Jvm.Cond.instanceMethod ({ cls := "VectorPipes$Runne\x72", name := "holds", desc := "(LVectorPipes$Instr;I)Z" } : Jvm.MethodName)) ∈ lw_G := gd (i := 1178) (by decide +kernel) (by decide +kernel)
theorem q_1179 : (Jvm.Cond.code ({ cls := "VectorPipes$Runne\x72", name := "holds", desc := "(LVectorPipes$Instr;I)Z" } : Jvm.MethodName) prog_11_method_16_code (3 : Nat) (Option.some Jvm.ClassFile.FieldType.boolean)) ∈ lw_G := gd (i := 1179) (by decide +kernel) (by decide +kernel)
theorem q_1180 : (Jvm.Cond.fieldLink "VectorPipes$Runne\x72" (318 : Nat) "VectorPipes$Op" "ODD" "LVectorPipes$Op;") ∈ lw_G := gd (i := 1180) (by decide +kernel) (by decide +kernel)
theorem q_1182 : (Jvm.Cond.fieldLink "VectorPipes$Runne\x72" (324 : Nat) "VectorPipes$Op" "LESS" "LVectorPipes$Op;") ∈ lw_G := gd (i := 1182) (by decide +kernel) (by decide +kernel)
theorem q_1184 : (Jvm.Cond.methodLink "VectorPipes$Runne\x72" (327 : Nat) ({ cls := "VectorPipes$Num", name := "isLess", desc := "(LVectorPipes$Num;)Z" } : Jvm.MethodName)) ∈ lw_G := gd (i := 1184) (by decide +kernel) (by decide +kernel)
theorem q_1185 : (Jvm.Cond.instanceMethod ({ cls := "VectorPipes$Num", name := "isLess", desc := "(LVectorPipes$Num;)Z" } : Jvm.MethodName)) ∈ lw_G := gd (i := 1185) (by decide +kernel) (by decide +kernel)
theorem q_1186 : (Jvm.Cond.selects "VectorPipes$Num" ({ cls := "VectorPipes$Num", name := "isLess", desc := "(LVectorPipes$Num;)Z" } : Jvm.MethodName) ({ cls := "VectorPipes$Num", name := "isLess", desc := "(LVectorPipes$Num;)Z" } : Jvm.MethodName)) ∈ lw_G := gd (i := 1186) (by decide +kernel) (by decide +kernel)
theorem q_1187 : (Jvm.Cond.code ({ cls := "VectorPipes$Num", name := "isLess", desc := "(LVectorPipes$Num;)Z" } : Jvm.MethodName) prog_6_method_18_code (2 : Nat) (Option.some Jvm.ClassFile.FieldType.boolean)) ∈ lw_G := gd (i := 1187) (by decide +kernel) (by decide +kernel)
theorem q_1188 : (Jvm.Cond.methodLink "VectorPipes$Runne\x72" (331 : Nat) ({ cls := "VectorPipes$Num", name := "isSame", desc := "(LVectorPipes$Num;)Z" } : Jvm.MethodName)) ∈ lw_G := gd (i := 1188) (by decide +kernel) (by decide +kernel)
theorem q_1189 : (Jvm.Cond.instanceMethod ({ cls := "VectorPipes$Num", name := "isSame", desc := "(LVectorPipes$Num;)Z" } : Jvm.MethodName)) ∈ lw_G := gd (i := 1189) (by decide +kernel) (by decide +kernel)
theorem q_1190 : (Jvm.Cond.selects "VectorPipes$Num" ({ cls := "VectorPipes$Num", name := "isSame", desc := "(LVectorPipes$Num;)Z" } : Jvm.MethodName) ({ cls := "VectorPipes$Num", name := "isSame", desc := "(LVectorPipes$Num;)Z" } : Jvm.MethodName)) ∈ lw_G := gd (i := 1190) (by decide +kernel) (by decide +kernel)
theorem q_1191 : (Jvm.Cond.code ({ cls := "VectorPipes$Num", name := "isSame", desc := "(LVectorPipes$Num;)Z" } : Jvm.MethodName) prog_6_method_19_code (2 : Nat) (Option.some Jvm.ClassFile.FieldType.boolean)) ∈ lw_G := gd (i := 1191) (by decide +kernel) (by decide +kernel)
theorem q_1192 : (Jvm.Cond.methodLink "VectorPipes$Runne\x72" (295 : Nat) ({ cls := "VectorPipes$Machine", name := "setBit", desc := "(IZ)V" } : Jvm.MethodName)) ∈ lw_G := gd (i := 1192) (by decide +kernel) (by decide +kernel)
theorem q_1193 : (Jvm.Cond.instanceMethod ({ cls := "VectorPipes$Machine", name := "setBit", desc := "(IZ)V" } : Jvm.MethodName)) ∈ lw_G := gd (i := 1193) (by decide +kernel) (by decide +kernel)
theorem q_1194 : (Jvm.Cond.selects "VectorPipes$Machine" ({ cls := "VectorPipes$Machine", name := "setBit", desc := "(IZ)V" } : Jvm.MethodName) ({ cls := "VectorPipes$Machine", name := "setBit", desc := "(IZ)V" } : Jvm.MethodName)) ∈ lw_G := gd (i := 1194) (by decide +kernel) (by decide +kernel)
theorem q_1195 : (Jvm.Cond.code ({ cls := "VectorPipes$Machine", name := "setBit", desc := "(IZ)V" } : Jvm.MethodName) prog_5_method_9_code (3 : Nat) (Option.none : Option Jvm.ClassFile.FieldType)) ∈ lw_G := gd (i := 1195) (by decide +kernel) (by decide +kernel)
theorem q_1196 : (Jvm.Cond.fieldLink "VectorPipes$Runne\x72" (299 : Nat) "VectorPipes$Op" "PACK" "LVectorPipes$Op;") ∈ lw_G := gd (i := 1196) (by decide +kernel) (by decide +kernel)
theorem q_1197 : (Jvm.Cond.methodLink "VectorPipes$Runne\x72" (302 : Nat) ({ cls := "VectorPipes$Runne\x72", name := "packElement", desc := "(LVectorPipes$Instr;I)V" } : Jvm.MethodName)) ∈ lw_G := gd (i := 1197) (by decide +kernel) (by decide +kernel)
theorem q_1199 : (Jvm.Cond.instanceMethod ({ cls := "VectorPipes$Runne\x72", name := "packElement", desc := "(LVectorPipes$Instr;I)V" } : Jvm.MethodName)) ∈ lw_G := gd (i := 1199) (by decide +kernel) (by decide +kernel)
theorem q_1200 : (Jvm.Cond.code ({ cls := "VectorPipes$Runne\x72", name := "packElement", desc := "(LVectorPipes$Instr;I)V" } : Jvm.MethodName) prog_11_method_17_code (3 : Nat) (Option.none : Option Jvm.ClassFile.FieldType)) ∈ lw_G := gd (i := 1200) (by decide +kernel) (by decide +kernel)
theorem q_1201 : (Jvm.Cond.methodLink "VectorPipes$Runne\x72" (312 : Nat) ({ cls := "VectorPipes$Machine", name := "bit", desc := "(I)Z" } : Jvm.MethodName)) ∈ lw_G := gd (i := 1201) (by decide +kernel) (by decide +kernel)
theorem q_1202 : (Jvm.Cond.instanceMethod ({ cls := "VectorPipes$Machine", name := "bit", desc := "(I)Z" } : Jvm.MethodName)) ∈ lw_G := gd (i := 1202) (by decide +kernel) (by decide +kernel)
theorem q_1203 : (Jvm.Cond.selects "VectorPipes$Machine" ({ cls := "VectorPipes$Machine", name := "bit", desc := "(I)Z" } : Jvm.MethodName) ({ cls := "VectorPipes$Machine", name := "bit", desc := "(I)Z" } : Jvm.MethodName)) ∈ lw_G := gd (i := 1203) (by decide +kernel) (by decide +kernel)
theorem q_1204 : (Jvm.Cond.code ({ cls := "VectorPipes$Machine", name := "bit", desc := "(I)Z" } : Jvm.MethodName) prog_5_method_8_code (2 : Nat) (Option.some Jvm.ClassFile.FieldType.boolean)) ∈ lw_G := gd (i := 1204) (by decide +kernel) (by decide +kernel)
theorem q_1205 : (Jvm.Cond.methodLink "VectorPipes$Runne\x72" (315 : Nat) ({ cls := "VectorPipes$Machine", name := "land", desc := "(IILVectorPipes$Num;)V" } : Jvm.MethodName)) ∈ lw_G := gd (i := 1205) (by decide +kernel) (by decide +kernel)
theorem q_1206 : (Jvm.Cond.methodLink "VectorPipes$Runne\x72" (305 : Nat) ({ cls := "VectorPipes$Runne\x72", name := "reckon", desc := "(LVectorPipes$Instr;II)V" } : Jvm.MethodName)) ∈ lw_G := gd (i := 1206) (by decide +kernel) (by decide +kernel)
theorem q_1208 : (Jvm.Cond.instanceMethod ({ cls := "VectorPipes$Runne\x72", name := "reckon", desc := "(LVectorPipes$Instr;II)V" } : Jvm.MethodName)) ∈ lw_G := gd (i := 1208) (by decide +kernel) (by decide +kernel)
theorem q_1209 : (Jvm.Cond.code ({ cls := "VectorPipes$Runne\x72", name := "reckon", desc := "(LVectorPipes$Instr;II)V" } : Jvm.MethodName) prog_11_method_18_code (4 : Nat) (Option.none : Option Jvm.ClassFile.FieldType)) ∈ lw_G := gd (i := 1209) (by decide +kernel) (by decide +kernel)
theorem q_1210 : (Jvm.Cond.methodLink "VectorPipes$Runne\x72" (334 : Nat) ({ cls := "VectorPipes$Num", name := "minus", desc := "(LVectorPipes$Num;)V" } : Jvm.MethodName)) ∈ lw_G := gd (i := 1210) (by decide +kernel) (by decide +kernel)
theorem q_1211 : (Jvm.Cond.instanceMethod ({ cls := "VectorPipes$Num", name := "minus", desc := "(LVectorPipes$Num;)V" } : Jvm.MethodName)) ∈ lw_G := gd (i := 1211) (by decide +kernel) (by decide +kernel)
theorem q_1212 : (Jvm.Cond.selects "VectorPipes$Num" ({ cls := "VectorPipes$Num", name := "minus", desc := "(LVectorPipes$Num;)V" } : Jvm.MethodName) ({ cls := "VectorPipes$Num", name := "minus", desc := "(LVectorPipes$Num;)V" } : Jvm.MethodName)) ∈ lw_G := gd (i := 1212) (by decide +kernel) (by decide +kernel)
theorem q_1213 : (Jvm.Cond.code ({ cls := "VectorPipes$Num", name := "minus", desc := "(LVectorPipes$Num;)V" } : Jvm.MethodName) prog_6_method_10_code (2 : Nat) (Option.none : Option Jvm.ClassFile.FieldType)) ∈ lw_G := gd (i := 1213) (by decide +kernel) (by decide +kernel)
theorem q_1214 : (Jvm.Cond.methodLink "VectorPipes$Runne\x72" (337 : Nat) ({ cls := "VectorPipes$Num", name := "times", desc := "(LVectorPipes$Num;)V" } : Jvm.MethodName)) ∈ lw_G := gd (i := 1214) (by decide +kernel) (by decide +kernel)
theorem q_1215 : (Jvm.Cond.instanceMethod ({ cls := "VectorPipes$Num", name := "times", desc := "(LVectorPipes$Num;)V" } : Jvm.MethodName)) ∈ lw_G := gd (i := 1215) (by decide +kernel) (by decide +kernel)
theorem q_1216 : (Jvm.Cond.selects "VectorPipes$Num" ({ cls := "VectorPipes$Num", name := "times", desc := "(LVectorPipes$Num;)V" } : Jvm.MethodName) ({ cls := "VectorPipes$Num", name := "times", desc := "(LVectorPipes$Num;)V" } : Jvm.MethodName)) ∈ lw_G := gd (i := 1216) (by decide +kernel) (by decide +kernel)
theorem q_1217 : (Jvm.Cond.code ({ cls := "VectorPipes$Num", name := "times", desc := "(LVectorPipes$Num;)V" } : Jvm.MethodName) prog_6_method_11_code (2 : Nat) (Option.none : Option Jvm.ClassFile.FieldType)) ∈ lw_G := gd (i := 1217) (by decide +kernel) (by decide +kernel)
theorem q_1218 : (Jvm.Cond.methodLink "VectorPipes$Runne\x72" (339 : Nat) ({ cls := "VectorPipes$Num", name := "ove\x72", desc := "(LVectorPipes$Num;)V" } : Jvm.MethodName)) ∈ lw_G := gd (i := 1218) (by decide +kernel) (by decide +kernel)
theorem q_1219 : (Jvm.Cond.instanceMethod ({ cls := "VectorPipes$Num", name := "ove\x72", desc := "(LVectorPipes$Num;)V" } : Jvm.MethodName)) ∈ lw_G := gd (i := 1219) (by decide +kernel) (by decide +kernel)
theorem q_1220 : (Jvm.Cond.selects "VectorPipes$Num" ({ cls := "VectorPipes$Num", name := "ove\x72", desc := "(LVectorPipes$Num;)V" } : Jvm.MethodName) ({ cls := "VectorPipes$Num", name := "ove\x72", desc := "(LVectorPipes$Num;)V" } : Jvm.MethodName)) ∈ lw_G := gd (i := 1220) (by decide +kernel) (by decide +kernel)
theorem q_1221 : (Jvm.Cond.code ({ cls := "VectorPipes$Num", name := "ove\x72", desc := "(LVectorPipes$Num;)V" } : Jvm.MethodName) prog_6_method_12_code (2 : Nat) (Option.none : Option Jvm.ClassFile.FieldType)) ∈ lw_G := gd (i := 1221) (by decide +kernel) (by decide +kernel)
theorem q_1222 : (Jvm.Cond.methodLink "VectorPipes$Runne\x72" (342 : Nat) ({ cls := "VectorPipes$Binary", name := "remainde\x72", desc := "(LVectorPipes$Num;LVectorPipes$Num;)V" } : Jvm.MethodName)) ∈ lw_G := gd (i := 1222) (by decide +kernel) (by decide +kernel)
theorem q_1223 : (Jvm.Cond.instanceMethod ({ cls := "VectorPipes$Binary", name := "remainde\x72", desc := "(LVectorPipes$Num;LVectorPipes$Num;)V" } : Jvm.MethodName)) ∈ lw_G := gd (i := 1223) (by decide +kernel) (by decide +kernel)
theorem q_1224 : (Jvm.Cond.selects "VectorPipes$Binary" ({ cls := "VectorPipes$Binary", name := "remainde\x72", desc := "(LVectorPipes$Num;LVectorPipes$Num;)V" } : Jvm.MethodName) ({ cls := "VectorPipes$Binary", name := "remainde\x72", desc := "(LVectorPipes$Num;LVectorPipes$Num;)V" } : Jvm.MethodName)) ∈ lw_G := gd (i := 1224) (by decide +kernel) (by decide +kernel)
theorem q_1225 : (Jvm.Cond.code ({ cls := "VectorPipes$Binary", name := "remainde\x72", desc := "(LVectorPipes$Num;LVectorPipes$Num;)V" } : Jvm.MethodName) prog_3_method_5_code (14 : Nat) (Option.none : Option Jvm.ClassFile.FieldType)) ∈ lw_G := gd (i := 1225) (by decide +kernel) (by decide +kernel)
theorem q_1226 : (Jvm.Cond.methodLink "VectorPipes$Binary" (53 : Nat) ({ cls := "VectorPipes$Num", name := "isInfinite", desc := "(D)Z" } : Jvm.MethodName)) ∈ lw_G := gd (i := 1226) (by decide +kernel) (by decide +kernel)
theorem q_1227 : (Jvm.Cond.methodLink "VectorPipes$Binary" (57 : Nat) ({ cls := "VectorPipes$Num", name := "setOdd", desc := "()V" } : Jvm.MethodName)) ∈ lw_G := gd (i := 1227) (by decide +kernel) (by decide +kernel)
theorem q_1228 : (Jvm.Cond.methodLink "VectorPipes$Binary" (60 : Nat) ({ cls := "java/lang/Math", name := "min", desc := "(II)I" } : Jvm.MethodName)) ∈ lw_G := gd (i := 1228) (by decide +kernel) (by decide +kernel)
theorem q_1229 : (Jvm.Cond.methodLink "VectorPipes$Binary" (66 : Nat) ({ cls := "VectorPipes$Binary", name := "join", desc := "(JI)D" } : Jvm.MethodName)) ∈ lw_G := gd (i := 1229) (by decide +kernel) (by decide +kernel)
theorem q_1230 : (Jvm.Cond.methodLink "VectorPipes$Runne\x72" (348 : Nat) ({ cls := "VectorPipes$Num", name := "least", desc := "(LVectorPipes$Num;)V" } : Jvm.MethodName)) ∈ lw_G := gd (i := 1230) (by decide +kernel) (by decide +kernel)
theorem q_1231 : (Jvm.Cond.instanceMethod ({ cls := "VectorPipes$Num", name := "least", desc := "(LVectorPipes$Num;)V" } : Jvm.MethodName)) ∈ lw_G := gd (i := 1231) (by decide +kernel) (by decide +kernel)
theorem q_1232 : (Jvm.Cond.selects "VectorPipes$Num" ({ cls := "VectorPipes$Num", name := "least", desc := "(LVectorPipes$Num;)V" } : Jvm.MethodName) ({ cls := "VectorPipes$Num", name := "least", desc := "(LVectorPipes$Num;)V" } : Jvm.MethodName)) ∈ lw_G := gd (i := 1232) (by decide +kernel) (by decide +kernel)
theorem q_1233 : (Jvm.Cond.code ({ cls := "VectorPipes$Num", name := "least", desc := "(LVectorPipes$Num;)V" } : Jvm.MethodName) prog_6_method_13_code (2 : Nat) (Option.none : Option Jvm.ClassFile.FieldType)) ∈ lw_G := gd (i := 1233) (by decide +kernel) (by decide +kernel)
theorem q_1234 : (Jvm.Cond.methodLink "VectorPipes$Runne\x72" (351 : Nat) ({ cls := "VectorPipes$Num", name := "toSingle", desc := "()V" } : Jvm.MethodName)) ∈ lw_G := gd (i := 1234) (by decide +kernel) (by decide +kernel)
theorem q_1235 : (Jvm.Cond.instanceMethod ({ cls := "VectorPipes$Num", name := "toSingle", desc := "()V" } : Jvm.MethodName)) ∈ lw_G := gd (i := 1235) (by decide +kernel) (by decide +kernel)
theorem q_1236 : (Jvm.Cond.selects "VectorPipes$Num" ({ cls := "VectorPipes$Num", name := "toSingle", desc := "()V" } : Jvm.MethodName) ({ cls := "VectorPipes$Num", name := "toSingle", desc := "()V" } : Jvm.MethodName)) ∈ lw_G := gd (i := 1236) (by decide +kernel) (by decide +kernel)
theorem q_1237 : (Jvm.Cond.code ({ cls := "VectorPipes$Num", name := "toSingle", desc := "()V" } : Jvm.MethodName) prog_6_method_15_code (1 : Nat) (Option.none : Option Jvm.ClassFile.FieldType)) ∈ lw_G := gd (i := 1237) (by decide +kernel) (by decide +kernel)
theorem q_1238 : (Jvm.Cond.methodLink "VectorPipes$Runne\x72" (354 : Nat) ({ cls := "VectorPipes$Num", name := "toWhole", desc := "()V" } : Jvm.MethodName)) ∈ lw_G := gd (i := 1238) (by decide +kernel) (by decide +kernel)
theorem q_1239 : (Jvm.Cond.instanceMethod ({ cls := "VectorPipes$Num", name := "toWhole", desc := "()V" } : Jvm.MethodName)) ∈ lw_G := gd (i := 1239) (by decide +kernel) (by decide +kernel)
theorem q_1240 : (Jvm.Cond.selects "VectorPipes$Num" ({ cls := "VectorPipes$Num", name := "toWhole", desc := "()V" } : Jvm.MethodName) ({ cls := "VectorPipes$Num", name := "toWhole", desc := "()V" } : Jvm.MethodName)) ∈ lw_G := gd (i := 1240) (by decide +kernel) (by decide +kernel)
theorem q_1241 : (Jvm.Cond.code ({ cls := "VectorPipes$Num", name := "toWhole", desc := "()V" } : Jvm.MethodName) prog_6_method_17_code (1 : Nat) (Option.none : Option Jvm.ClassFile.FieldType)) ∈ lw_G := gd (i := 1241) (by decide +kernel) (by decide +kernel)
theorem q_1242 : (Jvm.Cond.methodLink "VectorPipes$Num" (45 : Nat) ({ cls := "VectorPipes$Num", name := "asLong", desc := "()J" } : Jvm.MethodName)) ∈ lw_G := gd (i := 1242) (by decide +kernel) (by decide +kernel)
theorem q_1243 : (Jvm.Cond.methodLink "VectorPipes$Runne\x72" (263 : Nat) ({ cls := "VectorPipes$Times", name := "finish", desc := "(LVectorPipes$Instr;I)V" } : Jvm.MethodName)) ∈ lw_G := gd (i := 1243) (by decide +kernel) (by decide +kernel)
theorem q_1244 : (Jvm.Cond.instanceMethod ({ cls := "VectorPipes$Times", name := "finish", desc := "(LVectorPipes$Instr;I)V" } : Jvm.MethodName)) ∈ lw_G := gd (i := 1244) (by decide +kernel) (by decide +kernel)
theorem q_1245 : (Jvm.Cond.selects "VectorPipes$Times" ({ cls := "VectorPipes$Times", name := "finish", desc := "(LVectorPipes$Instr;I)V" } : Jvm.MethodName) ({ cls := "VectorPipes$Times", name := "finish", desc := "(LVectorPipes$Instr;I)V" } : Jvm.MethodName)) ∈ lw_G := gd (i := 1245) (by decide +kernel) (by decide +kernel)
theorem q_1246 : (Jvm.Cond.code ({ cls := "VectorPipes$Times", name := "finish", desc := "(LVectorPipes$Instr;I)V" } : Jvm.MethodName) prog_12_method_16_code (6 : Nat) (Option.none : Option Jvm.ClassFile.FieldType)) ∈ lw_G := gd (i := 1246) (by decide +kernel) (by decide +kernel)
theorem q_1247 : (Jvm.Cond.methodLink "VectorPipes$Runne\x72" (103 : Nat) ({ cls := "VectorPipes$Runne\x72", name := "behind", desc := "(ILVectorPipes$Instr;)I" } : Jvm.MethodName)) ∈ lw_G := gd (i := 1247) (by decide +kernel) (by decide +kernel)
theorem q_1249 : (Jvm.Cond.instanceMethod ({ cls := "VectorPipes$Runne\x72", name := "behind", desc := "(ILVectorPipes$Instr;)I" } : Jvm.MethodName)) ∈ lw_G := gd (i := 1249) (by decide +kernel) (by decide +kernel)
theorem q_1250 : (Jvm.Cond.code ({ cls := "VectorPipes$Runne\x72", name := "behind", desc := "(ILVectorPipes$Instr;)I" } : Jvm.MethodName) prog_11_method_3_code (3 : Nat) (Option.some Jvm.ClassFile.FieldType.int)) ∈ lw_G := gd (i := 1250) (by decide +kernel) (by decide +kernel)
theorem q_1251 : (Jvm.Cond.fieldLink "VectorPipes$Runne\x72" (106 : Nat) "VectorPipes$Op" "STRIP" "LVectorPipes$Op;") ∈ lw_G := gd (i := 1251) (by decide +kernel) (by decide +kernel)
theorem q_1252 : (Jvm.Cond.methodLink "VectorPipes$Runne\x72" (109 : Nat) ({ cls := "VectorPipes$Runne\x72", name := "beginStrip", desc := "(ILVectorPipes$Instr;)I" } : Jvm.MethodName)) ∈ lw_G := gd (i := 1252) (by decide +kernel) (by decide +kernel)
theorem q_1254 : (Jvm.Cond.instanceMethod ({ cls := "VectorPipes$Runne\x72", name := "beginStrip", desc := "(ILVectorPipes$Instr;)I" } : Jvm.MethodName)) ∈ lw_G := gd (i := 1254) (by decide +kernel) (by decide +kernel)
theorem q_1255 : (Jvm.Cond.code ({ cls := "VectorPipes$Runne\x72", name := "beginStrip", desc := "(ILVectorPipes$Instr;)I" } : Jvm.MethodName) prog_11_method_4_code (3 : Nat) (Option.some Jvm.ClassFile.FieldType.int)) ∈ lw_G := gd (i := 1255) (by decide +kernel) (by decide +kernel)
theorem q_1256 : (Jvm.Cond.methodLink "VectorPipes$Runne\x72" (118 : Nat) ({ cls := "java/lang/Math", name := "max", desc := "(II)I" } : Jvm.MethodName)) ∈ lw_G := gd (i := 1256) (by decide +kernel) (by decide +kernel)
theorem q_1257 : (Jvm.Cond.fieldLink "VectorPipes$Runne\x72" (112 : Nat) "VectorPipes$Op" "STOP" "LVectorPipes$Op;") ∈ lw_G := gd (i := 1257) (by decide +kernel) (by decide +kernel)
theorem q_1267 : (Jvm.Cond.methodLink "VectorPipes" (311 : Nat) ({ cls := "VectorPipes", name := "isInstruction", desc := "(I)Z" } : Jvm.MethodName)) ∈ lw_G := gd (i := 1267) (by decide +kernel) (by decide +kernel)
theorem q_1269 : (Jvm.Cond.instanceMethod ({ cls := "VectorPipes", name := "isInstruction", desc := "(I)Z" } : Jvm.MethodName)) ∈ lw_G := gd (i := 1269) (by decide +kernel) (by decide +kernel)
theorem q_1270 : (Jvm.Cond.code ({ cls := "VectorPipes", name := "isInstruction", desc := "(I)Z" } : Jvm.MethodName) prog_1_method_40_code (2 : Nat) (Option.some Jvm.ClassFile.FieldType.boolean)) ∈ lw_G := gd (i := 1270) (by decide +kernel) (by decide +kernel)
theorem q_1271 : (Jvm.Cond.methodLink "VectorPipes" (306 : Nat) ({ cls := "java/lang/Math", name := "min", desc := "(II)I" } : Jvm.MethodName)) ∈ lw_G := gd (i := 1271) (by decide +kernel) (by decide +kernel)
theorem q_1276 : (Jvm.Cond.methodLink "VectorPipes" (321 : Nat) ({ cls := "VectorPipes", name := "sumInto", desc := "(LVectorPipes$Num;II)V" } : Jvm.MethodName)) ∈ lw_G := gd (i := 1276) (by decide +kernel) (by decide +kernel)
theorem q_1278 : (Jvm.Cond.instanceMethod ({ cls := "VectorPipes", name := "sumInto", desc := "(LVectorPipes$Num;II)V" } : Jvm.MethodName)) ∈ lw_G := gd (i := 1278) (by decide +kernel) (by decide +kernel)
theorem q_1279 : (Jvm.Cond.code ({ cls := "VectorPipes", name := "sumInto", desc := "(LVectorPipes$Num;II)V" } : Jvm.MethodName) prog_1_method_43_code (4 : Nat) (Option.none : Option Jvm.ClassFile.FieldType)) ∈ lw_G := gd (i := 1279) (by decide +kernel) (by decide +kernel)
theorem q_1280 : (Jvm.Cond.methodLink "VectorPipes" (325 : Nat) ({ cls := "VectorPipes$Runne\x72", name := "halve", desc := "(LVectorPipes$Row;IZLVectorPipes$Num;)V" } : Jvm.MethodName)) ∈ lw_G := gd (i := 1280) (by decide +kernel) (by decide +kernel)
theorem q_1281 : (Jvm.Cond.methodLink "VectorPipes" (329 : Nat) ({ cls := "VectorPipes$Runne\x72", name := "addUp", desc := "(LVectorPipes$Row;IZLVectorPipes$Num;)V" } : Jvm.MethodName)) ∈ lw_G := gd (i := 1281) (by decide +kernel) (by decide +kernel)
theorem q_1282 : (Jvm.Cond.instanceMethod ({ cls := "VectorPipes$Runne\x72", name := "addUp", desc := "(LVectorPipes$Row;IZLVectorPipes$Num;)V" } : Jvm.MethodName)) ∈ lw_G := gd (i := 1282) (by decide +kernel) (by decide +kernel)
theorem q_1283 : (Jvm.Cond.selects "VectorPipes$Runne\x72" ({ cls := "VectorPipes$Runne\x72", name := "addUp", desc := "(LVectorPipes$Row;IZLVectorPipes$Num;)V" } : Jvm.MethodName) ({ cls := "VectorPipes$Runne\x72", name := "addUp", desc := "(LVectorPipes$Row;IZLVectorPipes$Num;)V" } : Jvm.MethodName)) ∈ lw_G := gd (i := 1283) (by decide +kernel) (by decide +kernel)
theorem q_1284 : (Jvm.Cond.code ({ cls := "VectorPipes$Runne\x72", name := "addUp", desc := "(LVectorPipes$Row;IZLVectorPipes$Num;)V" } : Jvm.MethodName) prog_11_method_10_code (6 : Nat) (Option.none : Option Jvm.ClassFile.FieldType)) ∈ lw_G := gd (i := 1284) (by decide +kernel) (by decide +kernel)
theorem q_1289 : (Jvm.Cond.methodLink "VectorPipes" (332 : Nat) ({ cls := "VectorPipes$Num", name := "alike", desc := "(LVectorPipes$Num;)Z" } : Jvm.MethodName)) ∈ lw_G := gd (i := 1289) (by decide +kernel) (by decide +kernel)
theorem q_1290 : (Jvm.Cond.instanceMethod ({ cls := "VectorPipes$Num", name := "alike", desc := "(LVectorPipes$Num;)Z" } : Jvm.MethodName)) ∈ lw_G := gd (i := 1290) (by decide +kernel) (by decide +kernel)
theorem q_1291 : (Jvm.Cond.selects "VectorPipes$Num" ({ cls := "VectorPipes$Num", name := "alike", desc := "(LVectorPipes$Num;)Z" } : Jvm.MethodName) ({ cls := "VectorPipes$Num", name := "alike", desc := "(LVectorPipes$Num;)Z" } : Jvm.MethodName)) ∈ lw_G := gd (i := 1291) (by decide +kernel) (by decide +kernel)
theorem q_1292 : (Jvm.Cond.code ({ cls := "VectorPipes$Num", name := "alike", desc := "(LVectorPipes$Num;)Z" } : Jvm.MethodName) prog_6_method_20_code (2 : Nat) (Option.some Jvm.ClassFile.FieldType.boolean)) ∈ lw_G := gd (i := 1292) (by decide +kernel) (by decide +kernel)
theorem q_1293 : (Jvm.Cond.methodLink "VectorPipes$Num" (49 : Nat) ({ cls := "VectorPipes$Num", name := "isSame", desc := "(LVectorPipes$Num;)Z" } : Jvm.MethodName)) ∈ lw_G := gd (i := 1293) (by decide +kernel) (by decide +kernel)
theorem q_1298 : (Jvm.Cond.methodLink "VectorPipes" (336 : Nat) ({ cls := "VectorPipes", name := "halvingTrouble", desc := "(II)I" } : Jvm.MethodName)) ∈ lw_G := gd (i := 1298) (by decide +kernel) (by decide +kernel)
theorem q_1299 : (Jvm.Cond.static ({ cls := "VectorPipes", name := "halvingTrouble", desc := "(II)I" } : Jvm.MethodName)) ∈ lw_G := gd (i := 1299) (by decide +kernel) (by decide +kernel)
theorem q_1300 : (Jvm.Cond.code ({ cls := "VectorPipes", name := "halvingTrouble", desc := "(II)I" } : Jvm.MethodName) prog_1_method_45_code (2 : Nat) (Option.some Jvm.ClassFile.FieldType.int)) ∈ lw_G := gd (i := 1300) (by decide +kernel) (by decide +kernel)
theorem q_1309 : (Jvm.Cond.methodLink "VectorPipes" (339 : Nat) ({ cls := "VectorPipes", name := "aloneTrouble", desc := "(III)I" } : Jvm.MethodName)) ∈ lw_G := gd (i := 1309) (by decide +kernel) (by decide +kernel)
theorem q_1311 : (Jvm.Cond.instanceMethod ({ cls := "VectorPipes", name := "aloneTrouble", desc := "(III)I" } : Jvm.MethodName)) ∈ lw_G := gd (i := 1311) (by decide +kernel) (by decide +kernel)
theorem q_1312 : (Jvm.Cond.code ({ cls := "VectorPipes", name := "aloneTrouble", desc := "(III)I" } : Jvm.MethodName) prog_1_method_48_code (4 : Nat) (Option.some Jvm.ClassFile.FieldType.int)) ∈ lw_G := gd (i := 1312) (by decide +kernel) (by decide +kernel)
theorem q_1313 : (Jvm.Cond.methodLink "VectorPipes" (342 : Nat) ({ cls := "VectorPipes$Times", name := "stallsAlone", desc := "(IIIII)I" } : Jvm.MethodName)) ∈ lw_G := gd (i := 1313) (by decide +kernel) (by decide +kernel)
theorem q_1314 : (Jvm.Cond.instanceMethod ({ cls := "VectorPipes$Times", name := "stallsAlone", desc := "(IIIII)I" } : Jvm.MethodName)) ∈ lw_G := gd (i := 1314) (by decide +kernel) (by decide +kernel)
theorem q_1315 : (Jvm.Cond.selects "VectorPipes$Times" ({ cls := "VectorPipes$Times", name := "stallsAlone", desc := "(IIIII)I" } : Jvm.MethodName) ({ cls := "VectorPipes$Times", name := "stallsAlone", desc := "(IIIII)I" } : Jvm.MethodName)) ∈ lw_G := gd (i := 1315) (by decide +kernel) (by decide +kernel)
theorem q_1316 : (Jvm.Cond.code ({ cls := "VectorPipes$Times", name := "stallsAlone", desc := "(IIIII)I" } : Jvm.MethodName) prog_12_method_20_code (8 : Nat) (Option.some Jvm.ClassFile.FieldType.int)) ∈ lw_G := gd (i := 1316) (by decide +kernel) (by decide +kernel)
theorem q_1329 : (Jvm.Cond.methodLink "VectorPipes" (346 : Nat) ({ cls := "VectorPipes$Program", name := "ties", desc := "(II)I" } : Jvm.MethodName)) ∈ lw_G := gd (i := 1329) (by decide +kernel) (by decide +kernel)
theorem q_1330 : (Jvm.Cond.instanceMethod ({ cls := "VectorPipes$Program", name := "ties", desc := "(II)I" } : Jvm.MethodName)) ∈ lw_G := gd (i := 1330) (by decide +kernel) (by decide +kernel)
theorem q_1331 : (Jvm.Cond.selects "VectorPipes$Program" ({ cls := "VectorPipes$Program", name := "ties", desc := "(II)I" } : Jvm.MethodName) ({ cls := "VectorPipes$Program", name := "ties", desc := "(II)I" } : Jvm.MethodName)) ∈ lw_G := gd (i := 1331) (by decide +kernel) (by decide +kernel)
theorem q_1332 : (Jvm.Cond.code ({ cls := "VectorPipes$Program", name := "ties", desc := "(II)I" } : Jvm.MethodName) prog_9_method_5_code (5 : Nat) (Option.some Jvm.ClassFile.FieldType.int)) ∈ lw_G := gd (i := 1332) (by decide +kernel) (by decide +kernel)
theorem q_1333 : (Jvm.Cond.methodLink "VectorPipes$Program" (24 : Nat) ({ cls := "VectorPipes$Program", name := "at", desc := "(I)LVectorPipes$Instr;" } : Jvm.MethodName)) ∈ lw_G := gd (i := 1333) (by decide +kernel) (by decide +kernel)
theorem q_1334 : (Jvm.Cond.methodLink "VectorPipes$Program" (32 : Nat) ({ cls := "VectorPipes$Op", name := "steers", desc := "()Z" } : Jvm.MethodName)) ∈ lw_G := gd (i := 1334) (by decide +kernel) (by decide +kernel)
theorem q_1335 : (Jvm.Cond.instanceMethod ({ cls := "VectorPipes$Op", name := "steers", desc := "()Z" } : Jvm.MethodName)) ∈ lw_G := gd (i := 1335) (by decide +kernel) (by decide +kernel)
theorem q_1336 : (Jvm.Cond.selects "VectorPipes$Op" ({ cls := "VectorPipes$Op", name := "steers", desc := "()Z" } : Jvm.MethodName) ({ cls := "VectorPipes$Op", name := "steers", desc := "()Z" } : Jvm.MethodName)) ∈ lw_G := gd (i := 1336) (by decide +kernel) (by decide +kernel)
theorem q_1337 : (Jvm.Cond.code ({ cls := "VectorPipes$Op", name := "steers", desc := "()Z" } : Jvm.MethodName) prog_7_method_6_code (1 : Nat) (Option.some Jvm.ClassFile.FieldType.boolean)) ∈ lw_G := gd (i := 1337) (by decide +kernel) (by decide +kernel)
theorem q_1338 : (Jvm.Cond.fieldLink "VectorPipes$Op" (81 : Nat) "VectorPipes$Op" "STRIP" "LVectorPipes$Op;") ∈ lw_G := gd (i := 1338) (by decide +kernel) (by decide +kernel)
theorem q_1339 : (Jvm.Cond.fieldLink "VectorPipes$Op" (84 : Nat) "VectorPipes$Op" "STOP" "LVectorPipes$Op;") ∈ lw_G := gd (i := 1339) (by decide +kernel) (by decide +kernel)
theorem q_1340 : (Jvm.Cond.fieldLink "VectorPipes$Op" (87 : Nat) "VectorPipes$Op" "END" "LVectorPipes$Op;") ∈ lw_G := gd (i := 1340) (by decide +kernel) (by decide +kernel)
theorem q_1341 : (Jvm.Cond.methodLink "VectorPipes$Program" (38 : Nat) ({ cls := "VectorPipes$Inst\x72", name := "changes", desc := "()I" } : Jvm.MethodName)) ∈ lw_G := gd (i := 1341) (by decide +kernel) (by decide +kernel)
theorem q_1342 : (Jvm.Cond.instanceMethod ({ cls := "VectorPipes$Inst\x72", name := "changes", desc := "()I" } : Jvm.MethodName)) ∈ lw_G := gd (i := 1342) (by decide +kernel) (by decide +kernel)
theorem q_1343 : (Jvm.Cond.selects "VectorPipes$Inst\x72" ({ cls := "VectorPipes$Inst\x72", name := "changes", desc := "()I" } : Jvm.MethodName) ({ cls := "VectorPipes$Inst\x72", name := "changes", desc := "()I" } : Jvm.MethodName)) ∈ lw_G := gd (i := 1343) (by decide +kernel) (by decide +kernel)
theorem q_1344 : (Jvm.Cond.code ({ cls := "VectorPipes$Inst\x72", name := "changes", desc := "()I" } : Jvm.MethodName) prog_4_method_5_code (1 : Nat) (Option.some Jvm.ClassFile.FieldType.int)) ∈ lw_G := gd (i := 1344) (by decide +kernel) (by decide +kernel)
theorem q_1345 : (Jvm.Cond.fieldLink "VectorPipes$Inst\x72" (25 : Nat) "VectorPipes$Op" "SETVL" "LVectorPipes$Op;") ∈ lw_G := gd (i := 1345) (by decide +kernel) (by decide +kernel)
theorem q_1347 : (Jvm.Cond.methodLink "VectorPipes$Inst\x72" (32 : Nat) ({ cls := "VectorPipes$Inst\x72", name := "bit", desc := "(II)I" } : Jvm.MethodName)) ∈ lw_G := gd (i := 1347) (by decide +kernel) (by decide +kernel)
theorem q_1349 : (Jvm.Cond.instanceMethod ({ cls := "VectorPipes$Inst\x72", name := "bit", desc := "(II)I" } : Jvm.MethodName)) ∈ lw_G := gd (i := 1349) (by decide +kernel) (by decide +kernel)
theorem q_1350 : (Jvm.Cond.code ({ cls := "VectorPipes$Inst\x72", name := "bit", desc := "(II)I" } : Jvm.MethodName) prog_4_method_3_code (3 : Nat) (Option.some Jvm.ClassFile.FieldType.int)) ∈ lw_G := gd (i := 1350) (by decide +kernel) (by decide +kernel)
theorem q_1351 : (Jvm.Cond.methodLink "VectorPipes$Program" (42 : Nat) ({ cls := "VectorPipes$Inst\x72", name := "uses", desc := "()I" } : Jvm.MethodName)) ∈ lw_G := gd (i := 1351) (by decide +kernel) (by decide +kernel)
theorem q_1352 : (Jvm.Cond.instanceMethod ({ cls := "VectorPipes$Inst\x72", name := "uses", desc := "()I" } : Jvm.MethodName)) ∈ lw_G := gd (i := 1352) (by decide +kernel) (by decide +kernel)
theorem q_1353 : (Jvm.Cond.selects "VectorPipes$Inst\x72" ({ cls := "VectorPipes$Inst\x72", name := "uses", desc := "()I" } : Jvm.MethodName) ({ cls := "VectorPipes$Inst\x72", name := "uses", desc := "()I" } : Jvm.MethodName)) ∈ lw_G := gd (i := 1353) (by decide +kernel) (by decide +kernel)
theorem q_1354 : (Jvm.Cond.code ({ cls := "VectorPipes$Inst\x72", name := "uses", desc := "()I" } : Jvm.MethodName) prog_4_method_4_code (1 : Nat) (Option.some Jvm.ClassFile.FieldType.int)) ∈ lw_G := gd (i := 1354) (by decide +kernel) (by decide +kernel)
theorem q_1359 : (Jvm.Cond.methodLink "VectorPipes" (349 : Nat) ({ cls := "VectorPipes$Program", name := "canSwap", desc := "(I)Z" } : Jvm.MethodName)) ∈ lw_G := gd (i := 1359) (by decide +kernel) (by decide +kernel)
theorem q_1360 : (Jvm.Cond.instanceMethod ({ cls := "VectorPipes$Program", name := "canSwap", desc := "(I)Z" } : Jvm.MethodName)) ∈ lw_G := gd (i := 1360) (by decide +kernel) (by decide +kernel)
theorem q_1361 : (Jvm.Cond.selects "VectorPipes$Program" ({ cls := "VectorPipes$Program", name := "canSwap", desc := "(I)Z" } : Jvm.MethodName) ({ cls := "VectorPipes$Program", name := "canSwap", desc := "(I)Z" } : Jvm.MethodName)) ∈ lw_G := gd (i := 1361) (by decide +kernel) (by decide +kernel)
theorem q_1362 : (Jvm.Cond.code ({ cls := "VectorPipes$Program", name := "canSwap", desc := "(I)Z" } : Jvm.MethodName) prog_9_method_6_code (2 : Nat) (Option.some Jvm.ClassFile.FieldType.boolean)) ∈ lw_G := gd (i := 1362) (by decide +kernel) (by decide +kernel)
theorem q_1363 : (Jvm.Cond.methodLink "VectorPipes$Program" (45 : Nat) ({ cls := "VectorPipes$Program", name := "ties", desc := "(II)I" } : Jvm.MethodName)) ∈ lw_G := gd (i := 1363) (by decide +kernel) (by decide +kernel)
theorem q_1364 : (Jvm.Cond.methodLink "VectorPipes$Program" (49 : Nat) ({ cls := "VectorPipes$Program", name := "endsAhead", desc := "(I)Z" } : Jvm.MethodName)) ∈ lw_G := gd (i := 1364) (by decide +kernel) (by decide +kernel)
theorem q_1366 : (Jvm.Cond.instanceMethod ({ cls := "VectorPipes$Program", name := "endsAhead", desc := "(I)Z" } : Jvm.MethodName)) ∈ lw_G := gd (i := 1366) (by decide +kernel) (by decide +kernel)
theorem q_1367 : (Jvm.Cond.code ({ cls := "VectorPipes$Program", name := "endsAhead", desc := "(I)Z" } : Jvm.MethodName) prog_9_method_7_code (4 : Nat) (Option.some Jvm.ClassFile.FieldType.boolean)) ∈ lw_G := gd (i := 1367) (by decide +kernel) (by decide +kernel)
theorem q_1368 : (Jvm.Cond.fieldLink "VectorPipes$Program" (53 : Nat) "VectorPipes$Op" "STRIP" "LVectorPipes$Op;") ∈ lw_G := gd (i := 1368) (by decide +kernel) (by decide +kernel)
theorem q_1369 : (Jvm.Cond.methodLink "VectorPipes" (352 : Nat) ({ cls := "VectorPipes", name := "trialCycles", desc := "(I)I" } : Jvm.MethodName)) ∈ lw_G := gd (i := 1369) (by decide +kernel) (by decide +kernel)
theorem q_1371 : (Jvm.Cond.instanceMethod ({ cls := "VectorPipes", name := "trialCycles", desc := "(I)I" } : Jvm.MethodName)) ∈ lw_G := gd (i := 1371) (by decide +kernel) (by decide +kernel)
theorem q_1372 : (Jvm.Cond.code ({ cls := "VectorPipes", name := "trialCycles", desc := "(I)I" } : Jvm.MethodName) prog_1_method_55_code (2 : Nat) (Option.some Jvm.ClassFile.FieldType.int)) ∈ lw_G := gd (i := 1372) (by decide +kernel) (by decide +kernel)
theorem q_1373 : (Jvm.Cond.methodLink "VectorPipes" (355 : Nat) ({ cls := "VectorPipes$Machine", name := "copyFrom", desc := "(LVectorPipes$Machine;)V" } : Jvm.MethodName)) ∈ lw_G := gd (i := 1373) (by decide +kernel) (by decide +kernel)
theorem q_1374 : (Jvm.Cond.instanceMethod ({ cls := "VectorPipes$Machine", name := "copyFrom", desc := "(LVectorPipes$Machine;)V" } : Jvm.MethodName)) ∈ lw_G := gd (i := 1374) (by decide +kernel) (by decide +kernel)
theorem q_1375 : (Jvm.Cond.selects "VectorPipes$Machine" ({ cls := "VectorPipes$Machine", name := "copyFrom", desc := "(LVectorPipes$Machine;)V" } : Jvm.MethodName) ({ cls := "VectorPipes$Machine", name := "copyFrom", desc := "(LVectorPipes$Machine;)V" } : Jvm.MethodName)) ∈ lw_G := gd (i := 1375) (by decide +kernel) (by decide +kernel)
theorem q_1376 : (Jvm.Cond.code ({ cls := "VectorPipes$Machine", name := "copyFrom", desc := "(LVectorPipes$Machine;)V" } : Jvm.MethodName) prog_5_method_2_code (3 : Nat) (Option.none : Option Jvm.ClassFile.FieldType)) ∈ lw_G := gd (i := 1376) (by decide +kernel) (by decide +kernel)
theorem q_1377 : (Jvm.Cond.methodLink "VectorPipes$Machine" (48 : Nat) ({ cls := "VectorPipes$Row", name := "copyFrom", desc := "(LVectorPipes$Row;)V" } : Jvm.MethodName)) ∈ lw_G := gd (i := 1377) (by decide +kernel) (by decide +kernel)
theorem q_1378 : (Jvm.Cond.methodLink "VectorPipes" (359 : Nat) ({ cls := "VectorPipes$Program", name := "copySwapped", desc := "(LVectorPipes$Program;I)V" } : Jvm.MethodName)) ∈ lw_G := gd (i := 1378) (by decide +kernel) (by decide +kernel)
theorem q_1379 : (Jvm.Cond.instanceMethod ({ cls := "VectorPipes$Program", name := "copySwapped", desc := "(LVectorPipes$Program;I)V" } : Jvm.MethodName)) ∈ lw_G := gd (i := 1379) (by decide +kernel) (by decide +kernel)
theorem q_1380 : (Jvm.Cond.selects "VectorPipes$Program" ({ cls := "VectorPipes$Program", name := "copySwapped", desc := "(LVectorPipes$Program;I)V" } : Jvm.MethodName) ({ cls := "VectorPipes$Program", name := "copySwapped", desc := "(LVectorPipes$Program;I)V" } : Jvm.MethodName)) ∈ lw_G := gd (i := 1380) (by decide +kernel) (by decide +kernel)
theorem q_1381 : (Jvm.Cond.code ({ cls := "VectorPipes$Program", name := "copySwapped", desc := "(LVectorPipes$Program;I)V" } : Jvm.MethodName) prog_9_method_4_code (5 : Nat) (Option.none : Option Jvm.ClassFile.FieldType)) ∈ lw_G := gd (i := 1381) (by decide +kernel) (by decide +kernel)
theorem q_2178 : (Jvm.Cond.fieldLink "VectorPipes$Parse\x72" (167 : Nat) "VectorPipes$Op" "called" "Ljava/lang/String;") ∈ lw_G := gd (i := 2178) (by decide +kernel) (by decide +kernel)
theorem q_2179 : (Jvm.Cond.fieldLink "VectorPipes$Parse\x72" (95 : Nat) "VectorPipes$Op" "form" "Ljava/lang/String;") ∈ lw_G := gd (i := 2179) (by decide +kernel) (by decide +kernel)
theorem q_2180 : (Jvm.Cond.fieldLink "VectorPipes$Times" (92 : Nat) "VectorPipes$Op" "unit" "I") ∈ lw_G := gd (i := 2180) (by decide +kernel) (by decide +kernel)
theorem q_2181 : (Jvm.Cond.fieldLink "VectorPipes$Op" (120 : Nat) "VectorPipes$Op" "ways" "I") ∈ lw_G := gd (i := 2181) (by decide +kernel) (by decide +kernel)
theorem q_2182 : (Jvm.Cond.fieldLink "VectorPipes$Runne\x72" (88 : Nat) "VectorPipes$Op" "unit" "I") ∈ lw_G := gd (i := 2182) (by decide +kernel) (by decide +kernel)
theorem q_2184 : (Jvm.Cond.fieldLink "VectorPipes$Op" (116 : Nat) "VectorPipes$Op" "unit" "I") ∈ lw_G := gd (i := 2184) (by decide +kernel) (by decide +kernel)
theorem fl_X10_118 : FL RX10 118 1 1 false := ⟨(RX2, TX2, 10), rfl, by decide, q_769, rfl⟩
theorem fl_X10_147 : FL RX10 147 1 2 false := ⟨(RX2, TX2, 10), rfl, by decide, q_773, rfl⟩
theorem fl_X10_15 : FL RX10 15 8 7 true := ⟨(RX10, TX10, 17), rfl, by decide, q_439, rfl⟩
theorem fl_X10_150 : FL RX10 150 1 3 false := ⟨(RX2, TX2, 10), rfl, by decide, q_777, rfl⟩
theorem fl_X10_156 : FL RX10 156 1 8 false := ⟨(RX2, TX2, 10), rfl, by decide, q_790, rfl⟩
theorem fl_X10_21 : FL RX10 21 8 13 true := ⟨(RX10, TX10, 17), rfl, by decide, q_446, rfl⟩
theorem fl_X10_24 : FL RX10 24 8 14 true := ⟨(RX10, TX10, 17), rfl, by decide, q_447, rfl⟩
theorem fl_X10_27 : FL RX10 27 8 15 true := ⟨(RX10, TX10, 17), rfl, by decide, q_448, rfl⟩
theorem fl_X10_30 : FL RX10 30 8 16 true := ⟨(RX10, TX10, 17), rfl, by decide, q_449, rfl⟩
theorem fl_X10_33 : FL RX10 33 8 0 false := ⟨(RX10, TX10, 17), rfl, by decide, q_421, rfl⟩
theorem fl_X10_37 : FL RX10 37 8 1 false := ⟨(RX10, TX10, 17), rfl, by decide, q_423, rfl⟩
theorem fl_X10_40 : FL RX10 40 8 2 false := ⟨(RX10, TX10, 17), rfl, by decide, q_425, rfl⟩
theorem fl_X10_43 : FL RX10 43 8 3 false := ⟨(RX10, TX10, 17), rfl, by decide, q_428, rfl⟩
theorem fl_X10_46 : FL RX10 46 8 4 false := ⟨(RX10, TX10, 17), rfl, by decide, q_431, rfl⟩
theorem fl_X10_49 : FL RX10 49 8 5 false := ⟨(RX10, TX10, 17), rfl, by decide, q_434, rfl⟩
theorem fl_X10_52 : FL RX10 52 8 8 false := ⟨(RX10, TX10, 17), rfl, by decide, q_441, rfl⟩
theorem fl_X10_55 : FL RX10 55 8 9 false := ⟨(RX10, TX10, 17), rfl, by decide, q_442, rfl⟩
theorem fl_X10_58 : FL RX10 58 8 10 false := ⟨(RX10, TX10, 17), rfl, by decide, q_443, rfl⟩
theorem fl_X10_61 : FL RX10 61 8 11 false := ⟨(RX10, TX10, 17), rfl, by decide, q_444, rfl⟩
theorem fl_X10_64 : FL RX10 64 8 12 false := ⟨(RX10, TX10, 17), rfl, by decide, q_445, rfl⟩
theorem fl_X10_86 : FL RX10 86 1 0 true := ⟨(RX2, TX2, 10), rfl, by decide, q_765, rfl⟩
theorem fl_X10_9 : FL RX10 9 8 6 true := ⟨(RX10, TX10, 17), rfl, by decide, q_437, rfl⟩
theorem fl_X11_15 : FL RX11 15 9 0 false := ⟨(RX11, TX11, 4), rfl, by decide, q_177, rfl⟩
theorem fl_X11_19 : FL RX11 19 9 1 false := ⟨(RX11, TX11, 4), rfl, by decide, q_179, rfl⟩
theorem fl_X11_23 : FL RX11 23 9 2 false := ⟨(RX11, TX11, 4), rfl, by decide, q_181, rfl⟩
theorem fl_X11_9 : FL RX11 9 9 3 true := ⟨(RX11, TX11, 4), rfl, by decide, q_183, rfl⟩
theorem fl_X12_11 : FL RX12 11 10 0 true := ⟨(RX12, TX12, 20), rfl, by decide, q_490, rfl⟩
theorem fl_X12_128 : FL RX12 128 9 0 false := ⟨(RX11, TX11, 4), rfl, by decide, q_178, rfl⟩
theorem fl_X12_150 : FL RX12 150 9 1 false := ⟨(RX11, TX11, 4), rfl, by decide, q_180, rfl⟩
theorem fl_X12_157 : FL RX12 157 9 3 true := ⟨(RX11, TX11, 4), rfl, by decide, q_184, rfl⟩
theorem fl_X12_16 : FL RX12 16 10 1 true := ⟨(RX12, TX12, 20), rfl, by decide, q_491, rfl⟩
theorem fl_X12_167 : FL RX12 167 10 2 false := ⟨(RX12, TX12, 20), rfl, by decide, q_492, rfl⟩
theorem fl_X12_178 : FL RX12 178 2 8 false := ⟨(RX3, TX3, 9), rfl, by decide, q_307, rfl⟩
theorem fl_X12_181 : FL RX12 181 10 10 false := ⟨(RX12, TX12, 20), rfl, by decide, q_500, rfl⟩
theorem fl_X12_184 : FL RX12 184 5 1 false := ⟨(RX7, TX7, 2), rfl, by decide, q_278, rfl⟩
theorem fl_X12_187 : FL RX12 187 4 0 false := ⟨(RX6, TX6, 12), rfl, by decide, q_203, rfl⟩
theorem fl_X12_190 : FL RX12 190 4 1 false := ⟨(RX6, TX6, 12), rfl, by decide, q_205, rfl⟩
theorem fl_X12_193 : FL RX12 193 2 5 false := ⟨(RX3, TX3, 9), rfl, by decide, q_299, rfl⟩
theorem fl_X12_196 : FL RX12 196 2 6 false := ⟨(RX3, TX3, 9), rfl, by decide, q_301, rfl⟩
theorem fl_X12_199 : FL RX12 199 2 7 false := ⟨(RX3, TX3, 9), rfl, by decide, q_304, rfl⟩
theorem fl_X12_202 : FL RX12 202 2 4 false := ⟨(RX3, TX3, 9), rfl, by decide, q_296, rfl⟩
theorem fl_X12_209 : FL RX12 209 2 1 true := ⟨(RX3, TX3, 9), rfl, by decide, q_287, rfl⟩
theorem fl_X12_219 : FL RX12 219 2 0 true := ⟨(RX3, TX3, 9), rfl, by decide, q_285, rfl⟩
theorem fl_X12_23 : FL RX12 23 10 3 true := ⟨(RX12, TX12, 20), rfl, by decide, q_493, rfl⟩
theorem fl_X12_231 : FL RX12 231 2 2 true := ⟨(RX3, TX3, 9), rfl, by decide, q_290, rfl⟩
theorem fl_X12_238 : FL RX12 238 2 3 true := ⟨(RX3, TX3, 9), rfl, by decide, q_293, rfl⟩
theorem fl_X12_269 : FL RX12 269 9 2 false := ⟨(RX11, TX11, 4), rfl, by decide, q_182, rfl⟩
theorem fl_X12_285 : FL RX12 285 10 9 false := ⟨(RX12, TX12, 20), rfl, by decide, q_499, rfl⟩
theorem fl_X12_288 : FL RX12 288 8 3 false := ⟨(RX10, TX10, 17), rfl, by decide, q_430, rfl⟩
theorem fl_X12_291 : FL RX12 291 8 2 false := ⟨(RX10, TX10, 17), rfl, by decide, q_427, rfl⟩
theorem fl_X12_294 : FL RX12 294 8 0 false := ⟨(RX10, TX10, 17), rfl, by decide, q_422, rfl⟩
theorem fl_X12_297 : FL RX12 297 8 1 false := ⟨(RX10, TX10, 17), rfl, by decide, q_424, rfl⟩
theorem fl_X12_30 : FL RX12 30 10 4 true := ⟨(RX12, TX12, 20), rfl, by decide, q_494, rfl⟩
theorem fl_X12_300 : FL RX12 300 8 4 false := ⟨(RX10, TX10, 17), rfl, by decide, q_433, rfl⟩
theorem fl_X12_303 : FL RX12 303 8 5 false := ⟨(RX10, TX10, 17), rfl, by decide, q_436, rfl⟩
theorem fl_X12_314 : FL RX12 314 8 6 true := ⟨(RX10, TX10, 17), rfl, by decide, q_438, rfl⟩
theorem fl_X12_318 : FL RX12 318 8 7 true := ⟨(RX10, TX10, 17), rfl, by decide, q_440, rfl⟩
theorem fl_X12_34 : FL RX12 34 10 5 true := ⟨(RX12, TX12, 20), rfl, by decide, q_495, rfl⟩
theorem fl_X12_363 : FL RX12 363 10 6 false := ⟨(RX12, TX12, 20), rfl, by decide, q_496, rfl⟩
theorem fl_X12_41 : FL RX12 41 10 14 true := ⟨(RX12, TX12, 20), rfl, by decide, q_504, rfl⟩
theorem fl_X12_50 : FL RX12 50 10 7 true := ⟨(RX12, TX12, 20), rfl, by decide, q_497, rfl⟩
theorem fl_X12_57 : FL RX12 57 10 8 true := ⟨(RX12, TX12, 20), rfl, by decide, q_498, rfl⟩
theorem fl_X12_61 : FL RX12 61 10 11 true := ⟨(RX12, TX12, 20), rfl, by decide, q_501, rfl⟩
theorem fl_X12_67 : FL RX12 67 10 12 true := ⟨(RX12, TX12, 20), rfl, by decide, q_502, rfl⟩
theorem fl_X12_71 : FL RX12 71 10 13 true := ⟨(RX12, TX12, 20), rfl, by decide, q_503, rfl⟩
theorem fl_X12_77 : FL RX12 77 10 15 true := ⟨(RX12, TX12, 20), rfl, by decide, q_505, rfl⟩
theorem fl_X12_81 : FL RX12 81 10 16 true := ⟨(RX12, TX12, 20), rfl, by decide, q_506, rfl⟩
theorem fl_X12_84 : FL RX12 84 10 17 true := ⟨(RX12, TX12, 20), rfl, by decide, q_507, rfl⟩
theorem fl_X12_87 : FL RX12 87 10 18 true := ⟨(RX12, TX12, 20), rfl, by decide, q_508, rfl⟩
theorem fl_X12_90 : FL RX12 90 10 19 false := ⟨(RX12, TX12, 20), rfl, by decide, q_509, rfl⟩
theorem fl_X12_94 : FL RX12 94 0 0 false := ⟨(RX1, TX1, 5), rfl, by decide, q_336, rfl⟩
theorem fl_X12_98 : FL RX12 98 0 1 false := ⟨(RX1, TX1, 5), rfl, by decide, q_338, rfl⟩
theorem fl_X1_21 : FL RX1 21 0 0 false := ⟨(RX1, TX1, 5), rfl, by decide, q_335, rfl⟩
theorem fl_X1_25 : FL RX1 25 0 1 false := ⟨(RX1, TX1, 5), rfl, by decide, q_337, rfl⟩
theorem fl_X1_29 : FL RX1 29 3 0 false := ⟨(RX4, TX4, 2), rfl, by decide, q_368, rfl⟩
theorem fl_X1_37 : FL RX1 37 0 3 false := ⟨(RX1, TX1, 5), rfl, by decide, q_340, rfl⟩
theorem fl_X1_42 : FL RX1 42 0 4 false := ⟨(RX1, TX1, 5), rfl, by decide, q_341, rfl⟩
theorem fl_X1_49 : FL RX1 49 3 1 false := ⟨(RX4, TX4, 2), rfl, by decide, q_372, rfl⟩
theorem fl_X1_9 : FL RX1 9 0 2 true := ⟨(RX1, TX1, 5), rfl, by decide, q_339, rfl⟩
theorem fl_X2_11 : FL RX2 11 1 0 true := ⟨(RX2, TX2, 10), rfl, by decide, q_762, rfl⟩
theorem fl_X2_15 : FL RX2 15 1 8 false := ⟨(RX2, TX2, 10), rfl, by decide, q_787, rfl⟩
theorem fl_X2_28 : FL RX2 28 1 1 false := ⟨(RX2, TX2, 10), rfl, by decide, q_766, rfl⟩
theorem fl_X2_36 : FL RX2 36 1 2 false := ⟨(RX2, TX2, 10), rfl, by decide, q_770, rfl⟩
theorem fl_X2_39 : FL RX2 39 1 3 false := ⟨(RX2, TX2, 10), rfl, by decide, q_774, rfl⟩
theorem fl_X2_42 : FL RX2 42 1 4 false := ⟨(RX2, TX2, 10), rfl, by decide, q_778, rfl⟩
theorem fl_X3_11 : FL RX3 11 2 0 true := ⟨(RX3, TX3, 9), rfl, by decide, q_284, rfl⟩
theorem fl_X3_20 : FL RX3 20 2 1 true := ⟨(RX3, TX3, 9), rfl, by decide, q_286, rfl⟩
theorem fl_X3_24 : FL RX3 24 2 2 true := ⟨(RX3, TX3, 9), rfl, by decide, q_288, rfl⟩
theorem fl_X3_28 : FL RX3 28 2 3 true := ⟨(RX3, TX3, 9), rfl, by decide, q_291, rfl⟩
theorem fl_X3_31 : FL RX3 31 2 5 false := ⟨(RX3, TX3, 9), rfl, by decide, q_297, rfl⟩
theorem fl_X3_35 : FL RX3 35 2 6 false := ⟨(RX3, TX3, 9), rfl, by decide, q_300, rfl⟩
theorem fl_X3_38 : FL RX3 38 2 7 false := ⟨(RX3, TX3, 9), rfl, by decide, q_302, rfl⟩
theorem fl_X3_44 : FL RX3 44 2 8 false := ⟨(RX3, TX3, 9), rfl, by decide, q_305, rfl⟩
theorem fl_X3_52 : FL RX3 52 2 4 false := ⟨(RX3, TX3, 9), rfl, by decide, q_294, rfl⟩
theorem fl_X4_13 : FL RX4 13 3 1 false := ⟨(RX4, TX4, 2), rfl, by decide, q_370, rfl⟩
theorem fl_X4_7 : FL RX4 7 3 0 false := ⟨(RX4, TX4, 2), rfl, by decide, q_367, rfl⟩
theorem fl_X6_121 : FL RX6 121 1 8 false := ⟨(RX2, TX2, 10), rfl, by decide, q_788, rfl⟩
theorem fl_X6_141 : FL RX6 141 1 1 false := ⟨(RX2, TX2, 10), rfl, by decide, q_768, rfl⟩
theorem fl_X6_144 : FL RX6 144 1 2 false := ⟨(RX2, TX2, 10), rfl, by decide, q_771, rfl⟩
theorem fl_X6_147 : FL RX6 147 1 3 false := ⟨(RX2, TX2, 10), rfl, by decide, q_775, rfl⟩
theorem fl_X6_15 : FL RX6 15 4 1 false := ⟨(RX6, TX6, 12), rfl, by decide, q_204, rfl⟩
theorem fl_X6_150 : FL RX6 150 1 4 false := ⟨(RX2, TX2, 10), rfl, by decide, q_780, rfl⟩
theorem fl_X6_156 : FL RX6 156 1 5 false := ⟨(RX2, TX2, 10), rfl, by decide, q_781, rfl⟩
theorem fl_X6_158 : FL RX6 158 1 6 false := ⟨(RX2, TX2, 10), rfl, by decide, q_783, rfl⟩
theorem fl_X6_160 : FL RX6 160 1 7 false := ⟨(RX2, TX2, 10), rfl, by decide, q_786, rfl⟩
theorem fl_X6_18 : FL RX6 18 4 2 false := ⟨(RX6, TX6, 12), rfl, by decide, q_206, rfl⟩
theorem fl_X6_24 : FL RX6 24 4 9 false := ⟨(RX6, TX6, 12), rfl, by decide, q_213, rfl⟩
theorem fl_X6_34 : FL RX6 34 4 3 false := ⟨(RX6, TX6, 12), rfl, by decide, q_207, rfl⟩
theorem fl_X6_37 : FL RX6 37 4 5 false := ⟨(RX6, TX6, 12), rfl, by decide, q_209, rfl⟩
theorem fl_X6_43 : FL RX6 43 4 7 false := ⟨(RX6, TX6, 12), rfl, by decide, q_211, rfl⟩
theorem fl_X6_47 : FL RX6 47 4 8 false := ⟨(RX6, TX6, 12), rfl, by decide, q_212, rfl⟩
theorem fl_X6_51 : FL RX6 51 4 10 false := ⟨(RX6, TX6, 12), rfl, by decide, q_214, rfl⟩
theorem fl_X6_54 : FL RX6 54 4 11 false := ⟨(RX6, TX6, 12), rfl, by decide, q_215, rfl⟩
theorem fl_X6_65 : FL RX6 65 4 4 false := ⟨(RX6, TX6, 12), rfl, by decide, q_208, rfl⟩
theorem fl_X6_76 : FL RX6 76 4 6 false := ⟨(RX6, TX6, 12), rfl, by decide, q_210, rfl⟩
theorem fl_X6_9 : FL RX6 9 4 0 false := ⟨(RX6, TX6, 12), rfl, by decide, q_202, rfl⟩
theorem fl_X6_96 : FL RX6 96 5 1 false := ⟨(RX7, TX7, 2), rfl, by decide, q_277, rfl⟩
theorem fl_X6_99 : FL RX6 99 1 9 false := ⟨(RX2, TX2, 10), rfl, by decide, q_792, rfl⟩
theorem fl_X7_11 : FL RX7 11 5 0 true := ⟨(RX7, TX7, 2), rfl, by decide, q_275, rfl⟩
theorem fl_X7_20 : FL RX7 20 5 1 false := ⟨(RX7, TX7, 2), rfl, by decide, q_276, rfl⟩
theorem fl_X7_28 : FL RX7 28 1 0 true := ⟨(RX2, TX2, 10), rfl, by decide, q_764, rfl⟩
theorem fl_X7_56 : FL RX7 56 1 9 false := ⟨(RX2, TX2, 10), rfl, by decide, q_793, rfl⟩
theorem fl_X8_13 : FL RX8 13 6 0 true := ⟨(RX8, TX8, 2), rfl, by decide, q_258, rfl⟩
theorem fl_X8_19 : FL RX8 19 6 1 true := ⟨(RX8, TX8, 2), rfl, by decide, q_259, rfl⟩
theorem fl_X8_23 : FL RX8 23 3 0 false := ⟨(RX4, TX4, 2), rfl, by decide, q_369, rfl⟩
theorem fl_X8_29 : FL RX8 29 3 1 false := ⟨(RX4, TX4, 2), rfl, by decide, q_371, rfl⟩
theorem fl_X9_100 : FL RX9 100 8 2 false := ⟨(RX10, TX10, 17), rfl, by decide, q_426, rfl⟩
theorem fl_X9_115 : FL RX9 115 1 7 false := ⟨(RX2, TX2, 10), rfl, by decide, q_785, rfl⟩
theorem fl_X9_124 : FL RX9 124 7 7 false := ⟨(RX9, TX9, 11), rfl, by decide, q_386, rfl⟩
theorem fl_X9_127 : FL RX9 127 7 8 false := ⟨(RX9, TX9, 11), rfl, by decide, q_387, rfl⟩
theorem fl_X9_136 : FL RX9 136 8 3 false := ⟨(RX10, TX10, 17), rfl, by decide, q_429, rfl⟩
theorem fl_X9_139 : FL RX9 139 8 4 false := ⟨(RX10, TX10, 17), rfl, by decide, q_432, rfl⟩
theorem fl_X9_142 : FL RX9 142 8 5 false := ⟨(RX10, TX10, 17), rfl, by decide, q_435, rfl⟩
theorem fl_X9_154 : FL RX9 154 2 4 false := ⟨(RX3, TX3, 9), rfl, by decide, q_295, rfl⟩
theorem fl_X9_173 : FL RX9 173 2 2 true := ⟨(RX3, TX3, 9), rfl, by decide, q_289, rfl⟩
theorem fl_X9_176 : FL RX9 176 1 4 false := ⟨(RX2, TX2, 10), rfl, by decide, q_779, rfl⟩
theorem fl_X9_189 : FL RX9 189 1 1 false := ⟨(RX2, TX2, 10), rfl, by decide, q_767, rfl⟩
theorem fl_X9_20 : FL RX9 20 7 1 true := ⟨(RX9, TX9, 11), rfl, by decide, q_380, rfl⟩
theorem fl_X9_235 : FL RX9 235 7 10 false := ⟨(RX9, TX9, 11), rfl, by decide, q_389, rfl⟩
theorem fl_X9_252 : FL RX9 252 2 7 false := ⟨(RX3, TX3, 9), rfl, by decide, q_303, rfl⟩
theorem fl_X9_267 : FL RX9 267 1 2 false := ⟨(RX2, TX2, 10), rfl, by decide, q_772, rfl⟩
theorem fl_X9_27 : FL RX9 27 7 2 true := ⟨(RX9, TX9, 11), rfl, by decide, q_381, rfl⟩
theorem fl_X9_270 : FL RX9 270 1 3 false := ⟨(RX2, TX2, 10), rfl, by decide, q_776, rfl⟩
theorem fl_X9_280 : FL RX9 280 1 5 false := ⟨(RX2, TX2, 10), rfl, by decide, q_782, rfl⟩
theorem fl_X9_286 : FL RX9 286 1 6 false := ⟨(RX2, TX2, 10), rfl, by decide, q_784, rfl⟩
theorem fl_X9_289 : FL RX9 289 2 3 true := ⟨(RX3, TX3, 9), rfl, by decide, q_292, rfl⟩
theorem fl_X9_308 : FL RX9 308 1 8 false := ⟨(RX2, TX2, 10), rfl, by decide, q_789, rfl⟩
theorem fl_X9_31 : FL RX9 31 7 3 true := ⟨(RX9, TX9, 11), rfl, by decide, q_382, rfl⟩
theorem fl_X9_321 : FL RX9 321 3 1 false := ⟨(RX4, TX4, 2), rfl, by decide, q_373, rfl⟩
theorem fl_X9_34 : FL RX9 34 7 4 false := ⟨(RX9, TX9, 11), rfl, by decide, q_383, rfl⟩
theorem fl_X9_38 : FL RX9 38 7 5 false := ⟨(RX9, TX9, 11), rfl, by decide, q_384, rfl⟩
theorem fl_X9_47 : FL RX9 47 7 6 false := ⟨(RX9, TX9, 11), rfl, by decide, q_385, rfl⟩
theorem fl_X9_51 : FL RX9 51 7 9 false := ⟨(RX9, TX9, 11), rfl, by decide, q_388, rfl⟩
theorem fl_X9_56 : FL RX9 56 2 8 false := ⟨(RX3, TX3, 9), rfl, by decide, q_306, rfl⟩
theorem fl_X9_68 : FL RX9 68 1 9 false := ⟨(RX2, TX2, 10), rfl, by decide, q_791, rfl⟩
theorem fl_X9_77 : FL RX9 77 2 5 false := ⟨(RX3, TX3, 9), rfl, by decide, q_298, rfl⟩
theorem fl_X9_84 : FL RX9 84 1 0 true := ⟨(RX2, TX2, 10), rfl, by decide, q_763, rfl⟩
theorem fl_X9_9 : FL RX9 9 7 0 true := ⟨(RX9, TX9, 11), rfl, by decide, q_379, rfl⟩
theorem cw_X10_101 : CWV RX10 101 yX5_does cX5_does 2 (some .boolean) 1 := ⟨q_1011, q_156, q_1010, ⟨by decide +kernel, by decide +kernel, by decide +kernel⟩, q_1008, q_1009⟩
theorem cw_X10_114 : CWV RX10 114 yX10_rowReady cX10_rowReady 6 (some .int) 2 := ⟨q_1018, q_147, q_1021, ⟨by decide +kernel, by decide +kernel, by decide +kernel⟩, q_1020, q_23⟩
theorem cw_X10_121 : CWV RX10 121 yX5_latency cX5_latency 1 (some .int) 0 := ⟨q_1147, q_156, q_1150, ⟨by decide +kernel, by decide +kernel, by decide +kernel⟩, q_1148, q_1149⟩
theorem cw_X10_125 : CWV RX10 125 yX10_operandsReady cX10_operandsReady 4 (some .int) 2 := ⟨q_1152, q_147, q_1155, ⟨by decide +kernel, by decide +kernel, by decide +kernel⟩, q_1154, q_34⟩
theorem cw_X10_128 : CWV RX10 128 yX10_throughBank cX10_throughBank 5 (some .int) 3 := ⟨q_1160, q_147, q_1163, ⟨by decide +kernel, by decide +kernel, by decide +kernel⟩, q_1162, q_36⟩
theorem cw_X10_132 : CWV RX10 132 yX10_readOperands cX10_readOperands 3 none 2 := ⟨q_1164, q_147, q_1167, ⟨by decide +kernel, by decide +kernel, by decide +kernel⟩, q_1166, q_37⟩
theorem cw_X10_136 : CWV RX10 136 yX10_readyFrom cX10_readyFrom 4 none 3 := ⟨q_1168, q_147, q_1171, ⟨by decide +kernel, by decide +kernel, by decide +kernel⟩, q_1170, q_38⟩
theorem cw_X10_140 : CWV RX10 140 yX10_endAt cX10_endAt 3 none 2 := ⟨q_1057, q_147, q_1060, ⟨by decide +kernel, by decide +kernel, by decide +kernel⟩, q_1059, q_25⟩
theorem cw_X10_144 : CWV RX10 144 yX10_readyAt cX10_readyAt 3 (some .int) 2 := ⟨q_1156, q_147, q_1159, ⟨by decide +kernel, by decide +kernel, by decide +kernel⟩, q_1158, q_35⟩
theorem cw_X10_153 : CWV RX10 153 yX10_readNow cX10_readNow 5 none 3 := ⟨q_1106, q_147, q_1109, ⟨by decide +kernel, by decide +kernel, by decide +kernel⟩, q_1108, q_29⟩
theorem cw_X10_67 : CWS RX10 67 yJ7_fill_53178 cJ7_fill_53178 4 none 2 := ⟨q_977, q_149, q_979, ⟨by decide +kernel, by decide +kernel, by decide +kernel⟩, q_978⟩
theorem cw_X10_73 : CWS RX10 73 yX10_cell cX10_cell 2 (some .int) 2 := ⟨q_1022, q_147, q_1024, ⟨by decide +kernel, by decide +kernel, by decide +kernel⟩, q_1023⟩
theorem cw_X10_77 : CWS RX10 77 yJ9_max_7cf53 cJ9_max_7cf53 2 (some .int) 2 := ⟨q_993, q_142, q_257, ⟨by decide +kernel, by decide +kernel, by decide +kernel⟩, q_256⟩
theorem cw_X10_82 : CWV RX10 82 yX10_note cX10_note 2 none 1 := ⟨q_994, q_147, q_997, ⟨by decide +kernel, by decide +kernel, by decide +kernel⟩, q_996, q_22⟩
theorem cw_X10_97 : CWV RX10 97 yX2_usesMask cX2_usesMask 1 (some .boolean) 0 := ⟨q_1003, q_157, q_1006, ⟨by decide +kernel, by decide +kernel, by decide +kernel⟩, q_1004, q_1005⟩
theorem cw_X11_26 : CWS RX11 26 yJ7_fill_d0a16 cJ7_fill_d0a16 5 none 2 := ⟨q_581, q_149, q_583, ⟨by decide +kernel, by decide +kernel, by decide +kernel⟩, q_582⟩
theorem cw_X11_32 : CWV RX11 32 yX11_has cX11_has 2 (some .boolean) 1 := ⟨q_604, q_138, q_599, ⟨by decide +kernel, by decide +kernel, by decide +kernel⟩, q_597, q_598⟩
theorem cw_X11_36 : CWV RX11 36 yX11_cut cX11_cut 3 (some .long) 1 := ⟨q_605, q_138, q_608, ⟨by decide +kernel, by decide +kernel, by decide +kernel⟩, q_607, q_3⟩
theorem cw_X12_101 : CWV RX12 101 yX1_tellKind cX1_tellKind 4 (some .int) 1 := ⟨q_847, q_144, q_850, ⟨by decide +kernel, by decide +kernel, by decide +kernel⟩, q_848, q_849⟩
theorem cw_X12_105 : CWV RX12 105 yX12_answer cX12_answer 2 (some .int) 1 := ⟨q_815, q_137, q_818, ⟨by decide +kernel, by decide +kernel, by decide +kernel⟩, q_817, q_15⟩
theorem cw_X12_109 : CWS RX12 109 yX12_within cX12_within 3 (some .boolean) 3 := ⟨q_570, q_137, q_572, ⟨by decide +kernel, by decide +kernel, by decide +kernel⟩, q_571⟩
theorem cw_X12_113 : CWS RX12 113 yX12_isTray cX12_isTray 1 (some .boolean) 1 := ⟨q_567, q_137, q_569, ⟨by decide +kernel, by decide +kernel, by decide +kernel⟩, q_568⟩
theorem cw_X12_117 : CWV RX12 117 yX12_deny cX12_deny 2 (some .boolean) 1 := ⟨q_573, q_137, q_576, ⟨by decide +kernel, by decide +kernel, by decide +kernel⟩, q_575, q_0⟩
theorem cw_X12_120 : CWV RX12 120 yX11_begin cX11_begin 3 none 2 := ⟨q_577, q_138, q_580, ⟨by decide +kernel, by decide +kernel, by decide +kernel⟩, q_578, q_579⟩
theorem cw_X12_124 : CWV RX12 124 yX12_agree cX12_agree 1 (some .boolean) 0 := ⟨q_584, q_137, q_587, ⟨by decide +kernel, by decide +kernel, by decide +kernel⟩, q_586, q_1⟩
theorem cw_X12_132 : CWV RX12 132 yX11_has cX11_has 2 (some .boolean) 1 := ⟨q_596, q_138, q_599, ⟨by decide +kernel, by decide +kernel, by decide +kernel⟩, q_597, q_598⟩
theorem cw_X12_135 : CWV RX12 135 yX12_trayTrouble cX12_trayTrouble 3 (some .int) 2 := ⟨q_592, q_137, q_595, ⟨by decide +kernel, by decide +kernel, by decide +kernel⟩, q_594, q_2⟩
theorem cw_X12_139 : CWV RX12 139 yX11_keep cX11_keep 4 none 2 := ⟨q_600, q_138, q_603, ⟨by decide +kernel, by decide +kernel, by decide +kernel⟩, q_601, q_602⟩
theorem cw_X12_143 : CWV RX12 143 yX12_refuse cX12_refuse 2 (some .int) 1 := ⟨q_613, q_137, q_616, ⟨by decide +kernel, by decide +kernel, by decide +kernel⟩, q_615, q_4⟩
theorem cw_X12_146 : CWV RX12 146 yX11_fetch cX11_fetch 2 (some .long) 1 := ⟨q_617, q_138, q_620, ⟨by decide +kernel, by decide +kernel, by decide +kernel⟩, q_618, q_619⟩
theorem cw_X12_15 : CWI RX12 15 yX11_init cX11_init 1 0 := ⟨q_173, q_138, q_175, ⟨by decide +kernel, by decide +kernel, by decide +kernel⟩, q_174, by decide⟩
theorem cw_X12_153 : CWV RX12 153 yX11_holds cX11_holds 3 (some .boolean) 2 := ⟨q_625, q_138, q_628, ⟨by decide +kernel, by decide +kernel, by decide +kernel⟩, q_626, q_627⟩
theorem cw_X12_170 : CWV RX12 170 yX12_tapeInt cX12_tapeInt 3 none 1 := ⟨q_636, q_137, q_639, ⟨by decide +kernel, by decide +kernel, by decide +kernel⟩, q_638, q_5⟩
theorem cw_X12_174 : CWV RX12 174 yX6_parse cX6_parse 4 (some (.object "VectorPipes$Program")) 2 := ⟨q_644, q_139, q_647, ⟨by decide +kernel, by decide +kernel, by decide +kernel⟩, q_645, q_646⟩
theorem cw_X12_205 : CWV RX12 205 yX3_rowsThere cX3_rowsThere 3 (some .int) 0 := ⟨q_827, q_140, q_830, ⟨by decide +kernel, by decide +kernel, by decide +kernel⟩, q_828, q_829⟩
theorem cw_X12_216 : CWV RX12 216 yX12_rowTrouble cX12_rowTrouble 2 (some .int) 1 := ⟨q_835, q_137, q_838, ⟨by decide +kernel, by decide +kernel, by decide +kernel⟩, q_837, q_16⟩
theorem cw_X12_22 : CWI RX12 22 yX6_init cX6_init 1 0 := ⟨q_197, q_139, q_199, ⟨by decide +kernel, by decide +kernel, by decide +kernel⟩, q_198, by decide⟩
theorem cw_X12_223 : CWV RX12 223 yX8_fetch cX8_fetch 3 none 2 := ⟨q_839, q_141, q_842, ⟨by decide +kernel, by decide +kernel, by decide +kernel⟩, q_840, q_841⟩
theorem cw_X12_228 : CWV RX12 228 yX12_tellOf cX12_tellOf 2 (some .int) 1 := ⟨q_843, q_137, q_846, ⟨by decide +kernel, by decide +kernel, by decide +kernel⟩, q_845, q_17⟩
theorem cw_X12_235 : CWS RX12 235 yX12_isWord cX12_isWord 1 (some .boolean) 1 := ⟨q_878, q_137, q_880, ⟨by decide +kernel, by decide +kernel, by decide +kernel⟩, q_879⟩
theorem cw_X12_241 : CWS RX12 241 yX12_isNumber cX12_isNumber 3 (some .boolean) 2 := ⟨q_885, q_137, q_887, ⟨by decide +kernel, by decide +kernel, by decide +kernel⟩, q_886⟩
theorem cw_X12_245 : CWV RX12 245 yX1_join cX1_join 9 (some .double) 2 := ⟨q_890, q_144, q_893, ⟨by decide +kernel, by decide +kernel, by decide +kernel⟩, q_891, q_892⟩
theorem cw_X12_249 : CWV RX12 249 yX4_set cX4_set 3 none 1 := ⟨q_894, q_146, q_897, ⟨by decide +kernel, by decide +kernel, by decide +kernel⟩, q_895, q_896⟩
theorem cw_X12_253 : CWV RX12 253 yX3_land cX3_land 4 none 3 := ⟨q_898, q_140, q_901, ⟨by decide +kernel, by decide +kernel, by decide +kernel⟩, q_899, q_900⟩
theorem cw_X12_257 : CWV RX12 257 yX12_placeNumber cX12_placeNumber 6 (some .int) 4 := ⟨q_914, q_137, q_917, ⟨by decide +kernel, by decide +kernel, by decide +kernel⟩, q_916, q_19⟩
theorem cw_X12_261 : CWV RX12 261 yX8_keep cX8_keep 3 none 2 := ⟨q_918, q_141, q_909, ⟨by decide +kernel, by decide +kernel, by decide +kernel⟩, q_907, q_908⟩
theorem cw_X12_263 : CWV RX12 263 yX4_kind cX4_kind 1 (some .int) 0 := ⟨q_927, q_146, q_854, ⟨by decide +kernel, by decide +kernel, by decide +kernel⟩, q_852, q_853⟩
theorem cw_X12_266 : CWV RX12 266 yX4_setKind cX4_setKind 2 none 1 := ⟨q_928, q_146, q_931, ⟨by decide +kernel, by decide +kernel, by decide +kernel⟩, q_929, q_930⟩
theorem cw_X12_272 : CWV RX12 272 yX12_wholesaleTrouble cX12_wholesaleTrouble 4 (some .int) 3 := ⟨q_944, q_137, q_947, ⟨by decide +kernel, by decide +kernel, by decide +kernel⟩, q_946, q_20⟩
theorem cw_X12_276 : CWV RX12 276 yX4_asLong cX4_asLong 1 (some .long) 0 := ⟨q_952, q_146, q_955, ⟨by decide +kernel, by decide +kernel, by decide +kernel⟩, q_953, q_954⟩
theorem cw_X12_281 : CWV RX12 281 yX9_perform cX9_perform 7 none 2 := ⟨q_969, q_145, q_972, ⟨by decide +kernel, by decide +kernel, by decide +kernel⟩, q_970, q_971⟩
theorem cw_X12_29 : CWI RX12 29 yX3_init cX3_init 2 0 := ⟨q_244, q_140, q_246, ⟨by decide +kernel, by decide +kernel, by decide +kernel⟩, q_245, by decide⟩
theorem cw_X12_306 : CWS RX12 306 yJ9_min_7cf53 cJ9_min_7cf53 2 (some .int) 2 := ⟨q_1271, q_142, q_650, ⟨by decide +kernel, by decide +kernel, by decide +kernel⟩, q_649⟩
theorem cw_X12_311 : CWV RX12 311 yX12_isInstruction cX12_isInstruction 2 (some .boolean) 1 := ⟨q_1267, q_137, q_1270, ⟨by decide +kernel, by decide +kernel, by decide +kernel⟩, q_1269, q_45⟩
theorem cw_X12_321 : CWV RX12 321 yX12_sumInto cX12_sumInto 4 none 3 := ⟨q_1276, q_137, q_1279, ⟨by decide +kernel, by decide +kernel, by decide +kernel⟩, q_1278, q_46⟩
theorem cw_X12_325 : CWV RX12 325 yX9_halve cX9_halve 8 none 4 := ⟨q_1280, q_145, q_1081, ⟨by decide +kernel, by decide +kernel, by decide +kernel⟩, q_1079, q_1080⟩
theorem cw_X12_329 : CWV RX12 329 yX9_addUp cX9_addUp 6 none 4 := ⟨q_1281, q_145, q_1284, ⟨by decide +kernel, by decide +kernel, by decide +kernel⟩, q_1282, q_1283⟩
theorem cw_X12_332 : CWV RX12 332 yX4_alike cX4_alike 2 (some .boolean) 1 := ⟨q_1289, q_146, q_1292, ⟨by decide +kernel, by decide +kernel, by decide +kernel⟩, q_1290, q_1291⟩
theorem cw_X12_336 : CWS RX12 336 yX12_halvingTrouble cX12_halvingTrouble 2 (some .int) 2 := ⟨q_1298, q_137, q_1300, ⟨by decide +kernel, by decide +kernel, by decide +kernel⟩, q_1299⟩
theorem cw_X12_339 : CWV RX12 339 yX12_aloneTrouble cX12_aloneTrouble 4 (some .int) 3 := ⟨q_1309, q_137, q_1312, ⟨by decide +kernel, by decide +kernel, by decide +kernel⟩, q_1311, q_47⟩
theorem cw_X12_342 : CWV RX12 342 yX10_stallsAlone cX10_stallsAlone 8 (some .int) 5 := ⟨q_1313, q_147, q_1316, ⟨by decide +kernel, by decide +kernel, by decide +kernel⟩, q_1314, q_1315⟩
theorem cw_X12_346 : CWV RX12 346 yX7_ties cX7_ties 5 (some .int) 2 := ⟨q_1329, q_143, q_1332, ⟨by decide +kernel, by decide +kernel, by decide +kernel⟩, q_1330, q_1331⟩
theorem cw_X12_349 : CWV RX12 349 yX7_canSwap cX7_canSwap 2 (some .boolean) 1 := ⟨q_1359, q_143, q_1362, ⟨by decide +kernel, by decide +kernel, by decide +kernel⟩, q_1360, q_1361⟩
theorem cw_X12_352 : CWV RX12 352 yX12_trialCycles cX12_trialCycles 2 (some .int) 1 := ⟨q_1369, q_137, q_1372, ⟨by decide +kernel, by decide +kernel, by decide +kernel⟩, q_1371, q_50⟩
theorem cw_X12_355 : CWV RX12 355 yX3_copyFrom cX3_copyFrom 3 none 1 := ⟨q_1373, q_140, q_1376, ⟨by decide +kernel, by decide +kernel, by decide +kernel⟩, q_1374, q_1375⟩
theorem cw_X12_359 : CWV RX12 359 yX7_copySwapped cX7_copySwapped 5 none 2 := ⟨q_1378, q_143, q_1381, ⟨by decide +kernel, by decide +kernel, by decide +kernel⟩, q_1379, q_1380⟩
theorem cw_X12_40 : CWI RX12 40 yX1_init cX1_init 4 0 := ⟨q_330, q_144, q_332, ⟨by decide +kernel, by decide +kernel, by decide +kernel⟩, q_331, by decide⟩
theorem cw_X12_47 : CWI RX12 47 yX9_init cX9_init 2 1 := ⟨q_355, q_145, q_357, ⟨by decide +kernel, by decide +kernel, by decide +kernel⟩, q_356, by decide⟩
theorem cw_X12_56 : CWI RX12 56 yX10_init cX10_init 1 0 := ⟨q_415, q_147, q_417, ⟨by decide +kernel, by decide +kernel, by decide +kernel⟩, q_416, by decide⟩
theorem cw_X12_66 : CWI RX12 66 yX7_init cX7_init 1 0 := ⟨q_487, q_143, q_271, ⟨by decide +kernel, by decide +kernel, by decide +kernel⟩, q_270, by decide⟩
theorem cw_X1_15 : CWV RX1 15 yX4_kind cX4_kind 1 (some .int) 0 := ⟨q_851, q_146, q_854, ⟨by decide +kernel, by decide +kernel, by decide +kernel⟩, q_852, q_853⟩
theorem cw_X1_33 : CWV RX1 33 yX1_split cX1_split 7 none 1 := ⟨q_863, q_144, q_866, ⟨by decide +kernel, by decide +kernel, by decide +kernel⟩, q_865, q_18⟩
theorem cw_X1_53 : CWS RX1 53 yX4_isInfinite cX4_isInfinite 2 (some .boolean) 1 := ⟨q_1226, q_146, q_860, ⟨by decide +kernel, by decide +kernel, by decide +kernel⟩, q_859⟩
theorem cw_X1_57 : CWV RX1 57 yX4_setOdd cX4_setOdd 1 none 0 := ⟨q_1227, q_146, q_939, ⟨by decide +kernel, by decide +kernel, by decide +kernel⟩, q_937, q_938⟩
theorem cw_X1_60 : CWS RX1 60 yJ9_min_7cf53 cJ9_min_7cf53 2 (some .int) 2 := ⟨q_1228, q_142, q_650, ⟨by decide +kernel, by decide +kernel, by decide +kernel⟩, q_649⟩
theorem cw_X1_66 : CWV RX1 66 yX1_join cX1_join 9 (some .double) 2 := ⟨q_1229, q_144, q_893, ⟨by decide +kernel, by decide +kernel, by decide +kernel⟩, q_891, q_892⟩
theorem cw_X2_19 : CWV RX2 19 yX5_does cX5_does 2 (some .boolean) 1 := ⟨q_1007, q_156, q_1010, ⟨by decide +kernel, by decide +kernel, by decide +kernel⟩, q_1008, q_1009⟩
theorem cw_X2_32 : CWV RX2 32 yX2_bit cX2_bit 3 (some .int) 2 := ⟨q_1347, q_157, q_1350, ⟨by decide +kernel, by decide +kernel, by decide +kernel⟩, q_1349, q_48⟩
theorem cw_X3_17 : CWI RX3 17 yX8_init cX8_init 3 1 := ⟨q_251, q_141, q_253, ⟨by decide +kernel, by decide +kernel, by decide +kernel⟩, q_252, by decide⟩
theorem cw_X3_43 : CWI RX3 43 yX7_init cX7_init 1 0 := ⟨q_269, q_143, q_271, ⟨by decide +kernel, by decide +kernel, by decide +kernel⟩, q_270, by decide⟩
theorem cw_X3_48 : CWV RX3 48 yX8_copyFrom cX8_copyFrom 3 none 1 := ⟨q_1377, q_141, q_1085, ⟨by decide +kernel, by decide +kernel, by decide +kernel⟩, q_1083, q_1084⟩
theorem cw_X3_55 : CWV RX3 55 yX8_clear cX8_clear 2 none 0 := ⟨q_902, q_141, q_905, ⟨by decide +kernel, by decide +kernel, by decide +kernel⟩, q_903, q_904⟩
theorem cw_X3_58 : CWV RX3 58 yX8_keep cX8_keep 3 none 2 := ⟨q_906, q_141, q_909, ⟨by decide +kernel, by decide +kernel, by decide +kernel⟩, q_907, q_908⟩
theorem cw_X3_62 : CWV RX3 62 yX8_fetch cX8_fetch 3 none 2 := ⟨q_1127, q_141, q_842, ⟨by decide +kernel, by decide +kernel, by decide +kernel⟩, q_840, q_841⟩
theorem cw_X4_19 : CWV RX4 19 yX4_set cX4_set 3 none 1 := ⟨q_933, q_146, q_897, ⟨by decide +kernel, by decide +kernel, by decide +kernel⟩, q_895, q_896⟩
theorem cw_X4_27 : CWV RX4 27 yX4_setOdd cX4_setOdd 1 none 0 := ⟨q_936, q_146, q_939, ⟨by decide +kernel, by decide +kernel, by decide +kernel⟩, q_937, q_938⟩
theorem cw_X4_30 : CWS RX4 30 yX4_isMinusZero cX4_isMinusZero 2 (some .boolean) 1 := ⟨q_855, q_146, q_857, ⟨by decide +kernel, by decide +kernel, by decide +kernel⟩, q_856⟩
theorem cw_X4_34 : CWS RX4 34 yX4_isInfinite cX4_isInfinite 2 (some .boolean) 1 := ⟨q_858, q_146, q_860, ⟨by decide +kernel, by decide +kernel, by decide +kernel⟩, q_859⟩
theorem cw_X4_41 : CWV RX4 41 yX4_takesOdd cX4_takesOdd 2 (some .boolean) 1 := ⟨q_1093, q_146, q_1096, ⟨by decide +kernel, by decide +kernel, by decide +kernel⟩, q_1095, q_28⟩
theorem cw_X4_45 : CWV RX4 45 yX4_asLong cX4_asLong 1 (some .long) 0 := ⟨q_1242, q_146, q_955, ⟨by decide +kernel, by decide +kernel, by decide +kernel⟩, q_953, q_954⟩
theorem cw_X4_49 : CWV RX4 49 yX4_isSame cX4_isSame 2 (some .boolean) 1 := ⟨q_1293, q_146, q_1191, ⟨by decide +kernel, by decide +kernel, by decide +kernel⟩, q_1189, q_1190⟩
theorem cw_X6_107 : CWV RX6 107 yX7_append cX7_append 3 (some (.object "VectorPipes$Inst\x72")) 1 := ⟨q_753, q_143, q_756, ⟨by decide +kernel, by decide +kernel, by decide +kernel⟩, q_754, q_755⟩
theorem cw_X6_111 : CWV RX6 111 yJ0_charAt_5068e cJ0_charAt_5068e 2 (some .char) 1 := ⟨q_678, q_151, q_681, ⟨by decide +kernel, by decide +kernel, by decide +kernel⟩, q_679, q_680⟩
theorem cw_X6_117 : CWV RX6 117 yX6_isText cX6_isText 3 (some .boolean) 1 := ⟨q_717, q_139, q_720, ⟨by decide +kernel, by decide +kernel, by decide +kernel⟩, q_719, q_9⟩
theorem cw_X6_130 : CWV RX6 130 yX6_followName cX6_followName 3 (some .int) 1 := ⟨q_724, q_139, q_727, ⟨by decide +kernel, by decide +kernel, by decide +kernel⟩, q_726, q_10⟩
theorem cw_X6_134 : CWV RX6 134 yX6_followNumber cX6_followNumber 4 (some .int) 1 := ⟨q_732, q_139, q_735, ⟨by decide +kernel, by decide +kernel, by decide +kernel⟩, q_734, q_12⟩
theorem cw_X6_137 : CWV RX6 137 yX6_letterBehind cX6_letterBehind 4 (some .int) 2 := ⟨q_728, q_139, q_731, ⟨by decide +kernel, by decide +kernel, by decide +kernel⟩, q_730, q_11⟩
theorem cw_X6_153 : CWS RX6 153 yX6_mostFor cX6_mostFor 1 (some .int) 1 := ⟨q_736, q_139, q_738, ⟨by decide +kernel, by decide +kernel, by decide +kernel⟩, q_737⟩
theorem cw_X6_28 : CWS RX6 28 yJ9_min_7cf53 cJ9_min_7cf53 2 (some .int) 2 := ⟨q_648, q_142, q_650, ⟨by decide +kernel, by decide +kernel, by decide +kernel⟩, q_649⟩
theorem cw_X6_42 : CWI RX6 42 yX7_init cX7_init 1 0 := ⟨q_652, q_143, q_271, ⟨by decide +kernel, by decide +kernel, by decide +kernel⟩, q_270, by decide⟩
theorem cw_X6_57 : CWV RX6 57 yX6_nextToken cX6_nextToken 1 (some .boolean) 0 := ⟨q_653, q_139, q_656, ⟨by decide +kernel, by decide +kernel, by decide +kernel⟩, q_655, q_6⟩
theorem cw_X6_61 : CWV RX6 61 yX6_tokenFault cX6_tokenFault 1 (some .int) 0 := ⟨q_660, q_139, q_663, ⟨by decide +kernel, by decide +kernel, by decide +kernel⟩, q_662, q_7⟩
theorem cw_X6_68 : CWV RX6 68 yJ0_length_8abf5 cJ0_length_8abf5 1 (some .int) 0 := ⟨q_664, q_151, q_667, ⟨by decide +kernel, by decide +kernel, by decide +kernel⟩, q_665, q_666⟩
theorem cw_X6_72 : CWS RX6 72 yX6_sortOf cX6_sortOf 1 (some .int) 1 := ⟨q_657, q_139, q_659, ⟨by decide +kernel, by decide +kernel, by decide +kernel⟩, q_658⟩
theorem cw_X6_79 : CWV RX6 79 yX6_follow cX6_follow 2 (some .int) 0 := ⟨q_674, q_139, q_677, ⟨by decide +kernel, by decide +kernel, by decide +kernel⟩, q_676, q_8⟩
theorem cw_X6_82 : CWV RX6 82 yX6_beginInstruction cX6_beginInstruction 2 (some .int) 0 := ⟨q_739, q_139, q_742, ⟨by decide +kernel, by decide +kernel, by decide +kernel⟩, q_741, q_13⟩
theorem cw_X6_85 : CWV RX6 85 yX6_opNamed cX6_opNamed 5 (some (.object "VectorPipes$Op")) 0 := ⟨q_743, q_139, q_746, ⟨by decide +kernel, by decide +kernel, by decide +kernel⟩, q_745, q_14⟩
theorem cw_X7_17 : CWI RX7 17 yX2_init cX2_init 2 1 := ⟨q_758, q_157, q_760, ⟨by decide +kernel, by decide +kernel, by decide +kernel⟩, q_759, by decide⟩
theorem cw_X7_24 : CWV RX7 24 yX7_at cX7_at 2 (some (.object "VectorPipes$Inst\x72")) 1 := ⟨q_1333, q_143, q_984, ⟨by decide +kernel, by decide +kernel, by decide +kernel⟩, q_982, q_983⟩
theorem cw_X7_32 : CWV RX7 32 yX5_steers cX5_steers 1 (some .boolean) 0 := ⟨q_1334, q_156, q_1337, ⟨by decide +kernel, by decide +kernel, by decide +kernel⟩, q_1335, q_1336⟩
theorem cw_X7_38 : CWV RX7 38 yX2_changes cX2_changes 1 (some .int) 0 := ⟨q_1341, q_157, q_1344, ⟨by decide +kernel, by decide +kernel, by decide +kernel⟩, q_1342, q_1343⟩
theorem cw_X7_42 : CWV RX7 42 yX2_uses cX2_uses 1 (some .int) 0 := ⟨q_1351, q_157, q_1354, ⟨by decide +kernel, by decide +kernel, by decide +kernel⟩, q_1352, q_1353⟩
theorem cw_X7_45 : CWV RX7 45 yX7_ties cX7_ties 5 (some .int) 2 := ⟨q_1363, q_143, q_1332, ⟨by decide +kernel, by decide +kernel, by decide +kernel⟩, q_1330, q_1331⟩
theorem cw_X7_49 : CWV RX7 49 yX7_endsAhead cX7_endsAhead 4 (some .boolean) 1 := ⟨q_1364, q_143, q_1367, ⟨by decide +kernel, by decide +kernel, by decide +kernel⟩, q_1366, q_49⟩
theorem cw_X8_32 : CWS RX8 32 yJ9_min_7cf53 cJ9_min_7cf53 2 (some .int) 2 := ⟨q_1086, q_142, q_650, ⟨by decide +kernel, by decide +kernel, by decide +kernel⟩, q_649⟩
theorem cw_X8_7 : CWS RX8 7 yJ9_max_7cf53 cJ9_max_7cf53 2 (some .int) 2 := ⟨q_255, q_142, q_257, ⟨by decide +kernel, by decide +kernel, by decide +kernel⟩, q_256⟩
theorem cw_X9_103 : CWV RX9 103 yX9_behind cX9_behind 3 (some .int) 2 := ⟨q_1247, q_145, q_1250, ⟨by decide +kernel, by decide +kernel, by decide +kernel⟩, q_1249, q_43⟩
theorem cw_X9_109 : CWV RX9 109 yX9_beginStrip cX9_beginStrip 3 (some .int) 2 := ⟨q_1252, q_145, q_1255, ⟨by decide +kernel, by decide +kernel, by decide +kernel⟩, q_1254, q_44⟩
theorem cw_X9_118 : CWS RX9 118 yJ9_max_7cf53 cJ9_max_7cf53 2 (some .int) 2 := ⟨q_1256, q_142, q_257, ⟨by decide +kernel, by decide +kernel, by decide +kernel⟩, q_256⟩
theorem cw_X9_130 : CWS RX9 130 yJ9_min_7cf53 cJ9_min_7cf53 2 (some .int) 2 := ⟨q_998, q_142, q_650, ⟨by decide +kernel, by decide +kernel, by decide +kernel⟩, q_649⟩
theorem cw_X9_133 : CWV RX9 133 yX10_beginEnd cX10_beginEnd 1 none 0 := ⟨q_989, q_147, q_992, ⟨by decide +kernel, by decide +kernel, by decide +kernel⟩, q_990, q_991⟩
theorem cw_X9_157 : CWV RX9 157 yX3_lowBits cX3_lowBits 1 (some .int) 0 := ⟨q_1037, q_140, q_1040, ⟨by decide +kernel, by decide +kernel, by decide +kernel⟩, q_1038, q_1039⟩
theorem cw_X9_160 : CWV RX9 160 yX10_flip cX10_flip 1 none 0 := ⟨q_1041, q_147, q_1044, ⟨by decide +kernel, by decide +kernel, by decide +kernel⟩, q_1042, q_1043⟩
theorem cw_X9_163 : CWS RX9 163 yJ6_bitCount_0f7a4 cJ6_bitCount_0f7a4 1 (some .int) 1 := ⟨q_1045, q_160, q_1047, ⟨by decide +kernel, by decide +kernel, by decide +kernel⟩, q_1046⟩
theorem cw_X9_169 : CWV RX9 169 yX4_set cX4_set 3 none 1 := ⟨q_1051, q_146, q_897, ⟨by decide +kernel, by decide +kernel, by decide +kernel⟩, q_895, q_896⟩
theorem cw_X9_17 : CWI RX9 17 yX8_init cX8_init 3 1 := ⟨q_360, q_141, q_253, ⟨by decide +kernel, by decide +kernel, by decide +kernel⟩, q_252, by decide⟩
theorem cw_X9_179 : CWV RX9 179 yX8_keep cX8_keep 3 none 2 := ⟨q_1052, q_141, q_909, ⟨by decide +kernel, by decide +kernel, by decide +kernel⟩, q_907, q_908⟩
theorem cw_X9_183 : CWV RX9 183 yX10_count cX10_count 2 none 1 := ⟨q_1053, q_147, q_1056, ⟨by decide +kernel, by decide +kernel, by decide +kernel⟩, q_1054, q_1055⟩
theorem cw_X9_186 : CWV RX9 186 yX9_doFold cX9_doFold 5 (some .boolean) 2 := ⟨q_1061, q_145, q_1064, ⟨by decide +kernel, by decide +kernel, by decide +kernel⟩, q_1063, q_26⟩
theorem cw_X9_192 : CWV RX9 192 yX3_isMissing cX3_isMissing 2 (some .boolean) 1 := ⟨q_1065, q_140, q_1068, ⟨by decide +kernel, by decide +kernel, by decide +kernel⟩, q_1066, q_1067⟩
theorem cw_X9_196 : CWV RX9 196 yX9_trap cX9_trap 4 (some .boolean) 3 := ⟨q_1069, q_145, q_1072, ⟨by decide +kernel, by decide +kernel, by decide +kernel⟩, q_1071, q_27⟩
theorem cw_X9_199 : CWV RX9 199 yX3_rowAt cX3_rowAt 2 (some (.object "VectorPipes$Row")) 1 := ⟨q_1073, q_140, q_1076, ⟨by decide +kernel, by decide +kernel, by decide +kernel⟩, q_1074, q_1075⟩
theorem cw_X9_206 : CWV RX9 206 yX9_halve cX9_halve 8 none 4 := ⟨q_1078, q_145, q_1081, ⟨by decide +kernel, by decide +kernel, by decide +kernel⟩, q_1079, q_1080⟩
theorem cw_X9_210 : CWV RX9 210 yX10_fold cX10_fold 6 none 4 := ⟨q_1102, q_147, q_1105, ⟨by decide +kernel, by decide +kernel, by decide +kernel⟩, q_1103, q_1104⟩
theorem cw_X9_214 : CWV RX9 214 yX8_copyFrom cX8_copyFrom 3 none 1 := ⟨q_1082, q_141, q_1085, ⟨by decide +kernel, by decide +kernel, by decide +kernel⟩, q_1083, q_1084⟩
theorem cw_X9_218 : CWV RX9 218 yX8_fetch cX8_fetch 3 none 2 := ⟨q_1088, q_141, q_842, ⟨by decide +kernel, by decide +kernel, by decide +kernel⟩, q_840, q_841⟩
theorem cw_X9_221 : CWV RX9 221 yX4_most cX4_most 2 none 1 := ⟨q_1089, q_146, q_1092, ⟨by decide +kernel, by decide +kernel, by decide +kernel⟩, q_1090, q_1091⟩
theorem cw_X9_225 : CWV RX9 225 yX4_plus cX4_plus 2 none 1 := ⟨q_1097, q_146, q_1100, ⟨by decide +kernel, by decide +kernel, by decide +kernel⟩, q_1098, q_1099⟩
theorem cw_X9_228 : CWV RX9 228 yX4_setKind cX4_setKind 2 none 1 := ⟨q_1101, q_146, q_931, ⟨by decide +kernel, by decide +kernel, by decide +kernel⟩, q_929, q_930⟩
theorem cw_X9_231 : CWV RX9 231 yX9_lacksRow cX9_lacksRow 2 (some .boolean) 1 := ⟨q_1114, q_145, q_1117, ⟨by decide +kernel, by decide +kernel, by decide +kernel⟩, q_1116, q_31⟩
theorem cw_X9_238 : CWV RX9 238 yX5_does cX5_does 2 (some .boolean) 1 := ⟨q_1118, q_156, q_1010, ⟨by decide +kernel, by decide +kernel, by decide +kernel⟩, q_1008, q_1009⟩
theorem cw_X9_241 : CWV RX9 241 yX9_offsetFits cX9_offsetFits 3 (some .boolean) 2 := ⟨q_1119, q_145, q_1122, ⟨by decide +kernel, by decide +kernel, by decide +kernel⟩, q_1121, q_32⟩
theorem cw_X9_245 : CWV RX9 245 yX9_placeOf cX9_placeOf 3 (some .int) 2 := ⟨q_1134, q_145, q_1137, ⟨by decide +kernel, by decide +kernel, by decide +kernel⟩, q_1136, q_33⟩
theorem cw_X9_249 : CWV RX9 249 yX3_bankOf cX3_bankOf 2 (some .int) 1 := ⟨q_1139, q_140, q_1142, ⟨by decide +kernel, by decide +kernel, by decide +kernel⟩, q_1140, q_1141⟩
theorem cw_X9_255 : CWV RX9 255 yX10_take cX10_take 10 none 5 := ⟨q_1143, q_147, q_1146, ⟨by decide +kernel, by decide +kernel, by decide +kernel⟩, q_1144, q_1145⟩
theorem cw_X9_259 : CWV RX9 259 yX9_doElement cX9_doElement 4 none 3 := ⟨q_1172, q_145, q_1175, ⟨by decide +kernel, by decide +kernel, by decide +kernel⟩, q_1174, q_39⟩
theorem cw_X9_263 : CWV RX9 263 yX10_finish cX10_finish 6 none 2 := ⟨q_1243, q_147, q_1246, ⟨by decide +kernel, by decide +kernel, by decide +kernel⟩, q_1244, q_1245⟩
theorem cw_X9_273 : CWV RX9 273 yX3_fetch cX3_fetch 4 none 3 := ⟨q_1123, q_140, q_1126, ⟨by decide +kernel, by decide +kernel, by decide +kernel⟩, q_1124, q_1125⟩
theorem cw_X9_276 : CWV RX9 276 yX4_isOffset cX4_isOffset 1 (some .boolean) 0 := ⟨q_1128, q_146, q_1131, ⟨by decide +kernel, by decide +kernel, by decide +kernel⟩, q_1129, q_1130⟩
theorem cw_X9_282 : CWV RX9 282 yX4_asLong cX4_asLong 1 (some .long) 0 := ⟨q_1138, q_146, q_955, ⟨by decide +kernel, by decide +kernel, by decide +kernel⟩, q_953, q_954⟩
theorem cw_X9_292 : CWV RX9 292 yX9_holds cX9_holds 3 (some .boolean) 2 := ⟨q_1176, q_145, q_1179, ⟨by decide +kernel, by decide +kernel, by decide +kernel⟩, q_1178, q_40⟩
theorem cw_X9_295 : CWV RX9 295 yX3_setBit cX3_setBit 3 none 2 := ⟨q_1192, q_140, q_1195, ⟨by decide +kernel, by decide +kernel, by decide +kernel⟩, q_1193, q_1194⟩
theorem cw_X9_302 : CWV RX9 302 yX9_packElement cX9_packElement 3 none 2 := ⟨q_1197, q_145, q_1200, ⟨by decide +kernel, by decide +kernel, by decide +kernel⟩, q_1199, q_41⟩
theorem cw_X9_305 : CWV RX9 305 yX9_reckon cX9_reckon 4 none 3 := ⟨q_1206, q_145, q_1209, ⟨by decide +kernel, by decide +kernel, by decide +kernel⟩, q_1208, q_42⟩
theorem cw_X9_312 : CWV RX9 312 yX3_bit cX3_bit 2 (some .boolean) 1 := ⟨q_1201, q_140, q_1204, ⟨by decide +kernel, by decide +kernel, by decide +kernel⟩, q_1202, q_1203⟩
theorem cw_X9_315 : CWV RX9 315 yX3_land cX3_land 4 none 3 := ⟨q_1205, q_140, q_901, ⟨by decide +kernel, by decide +kernel, by decide +kernel⟩, q_899, q_900⟩
theorem cw_X9_327 : CWV RX9 327 yX4_isLess cX4_isLess 2 (some .boolean) 1 := ⟨q_1184, q_146, q_1187, ⟨by decide +kernel, by decide +kernel, by decide +kernel⟩, q_1185, q_1186⟩
theorem cw_X9_331 : CWV RX9 331 yX4_isSame cX4_isSame 2 (some .boolean) 1 := ⟨q_1188, q_146, q_1191, ⟨by decide +kernel, by decide +kernel, by decide +kernel⟩, q_1189, q_1190⟩
theorem cw_X9_334 : CWV RX9 334 yX4_minus cX4_minus 2 none 1 := ⟨q_1210, q_146, q_1213, ⟨by decide +kernel, by decide +kernel, by decide +kernel⟩, q_1211, q_1212⟩
theorem cw_X9_337 : CWV RX9 337 yX4_times cX4_times 2 none 1 := ⟨q_1214, q_146, q_1217, ⟨by decide +kernel, by decide +kernel, by decide +kernel⟩, q_1215, q_1216⟩
theorem cw_X9_339 : CWV RX9 339 yX4_over cX4_over 2 none 1 := ⟨q_1218, q_146, q_1221, ⟨by decide +kernel, by decide +kernel, by decide +kernel⟩, q_1219, q_1220⟩
theorem cw_X9_342 : CWV RX9 342 yX1_remainder cX1_remainder 14 none 2 := ⟨q_1222, q_144, q_1225, ⟨by decide +kernel, by decide +kernel, by decide +kernel⟩, q_1223, q_1224⟩
theorem cw_X9_348 : CWV RX9 348 yX4_least cX4_least 2 none 1 := ⟨q_1230, q_146, q_1233, ⟨by decide +kernel, by decide +kernel, by decide +kernel⟩, q_1231, q_1232⟩
theorem cw_X9_351 : CWV RX9 351 yX4_toSingle cX4_toSingle 1 none 0 := ⟨q_1234, q_146, q_1237, ⟨by decide +kernel, by decide +kernel, by decide +kernel⟩, q_1235, q_1236⟩
theorem cw_X9_354 : CWV RX9 354 yX4_toWhole cX4_toWhole 1 none 0 := ⟨q_1238, q_146, q_1241, ⟨by decide +kernel, by decide +kernel, by decide +kernel⟩, q_1239, q_1240⟩
theorem cw_X9_42 : CWV RX9 42 yX10_clear cX10_clear 1 none 0 := ⟨q_973, q_147, q_976, ⟨by decide +kernel, by decide +kernel, by decide +kernel⟩, q_974, q_975⟩
theorem cw_X9_62 : CWV RX9 62 yX7_at cX7_at 2 (some (.object "VectorPipes$Inst\x72")) 1 := ⟨q_981, q_143, q_984, ⟨by decide +kernel, by decide +kernel, by decide +kernel⟩, q_982, q_983⟩
theorem cw_X9_73 : CWV RX9 73 yX9_endRound cX9_endRound 2 (some .int) 0 := ⟨q_985, q_145, q_988, ⟨by decide +kernel, by decide +kernel, by decide +kernel⟩, q_987, q_21⟩
theorem cw_X9_80 : CWV RX9 80 yX10_beginInstr cX10_beginInstr 6 none 3 := ⟨q_999, q_147, q_1002, ⟨by decide +kernel, by decide +kernel, by decide +kernel⟩, q_1000, q_1001⟩
theorem cw_X9_93 : CWV RX9 93 yX9_doAtOnce cX9_doAtOnce 3 (some .boolean) 2 := ⟨q_1025, q_145, q_1028, ⟨by decide +kernel, by decide +kernel, by decide +kernel⟩, q_1027, q_24⟩
theorem cw_X9_97 : CWV RX9 97 yX9_doElements cX9_doElements 6 (some .boolean) 2 := ⟨q_1110, q_145, q_1113, ⟨by decide +kernel, by decide +kernel, by decide +kernel⟩, q_1112, q_30⟩
theorem uw_X9_151 : ∀ w ∈ va_wsU RX9 151 RX5 "java/lang/Enum" ⟨RX5, "ordinal", "()I"⟩ yJx29ce0_ordinal_8abf5 (wsJ yJx29ce0_ordinal_8abf5 cJx29ce0_ordinal_8abf5 1 (some .int)), w ∈ lw_G := by
  intro w hw
  rcases List.mem_append.mp hw with hw | hw
  · simp only [List.mem_cons, List.not_mem_nil, or_false] at hw
    rcases hw with rfl | rfl | rfl | rfl | rfl <;> first | exact q_1031 | exact q_1032 | exact q_1034 | exact q_1035 | exact q_155 | exact q_156
  · rcases List.mem_cons.mp hw with rfl | hw
    · exact q_1036
    · exact hw
