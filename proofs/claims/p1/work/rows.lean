section
/-- a private method of a class that the tables say can be made, by its rows of tables_1 -/
def lw_okq (q : MethodName × Nat) : Prop := (q.1.cls ≠ "java/lang/invoke/MethodHandle" ∧ q.1.cls ≠ "java/lang/invoke/VarHandle") ∧ Cond.instantiable q.1.cls q.2 ∈ tables_1 ∧ Cond.privateMethod q.1 ∈ tables_1 ∧ Cond.instanceMethod q.1 ∈ tables_1
theorem lw_p0 : lw_okq (⟨"WheelSkips$LawReader", "lines", "()Z"⟩, 4) := ⟨⟨by decide +kernel, by decide +kernel⟩, List.mem_of_getElem? (i := 69) (by decide +kernel), List.mem_of_getElem? (i := 363) (by decide +kernel), List.mem_of_getElem? (i := 364) (by decide +kernel)⟩
theorem lw_p1 : lw_okq (⟨"WheelSkips$LawReader", "line", "()Z"⟩, 4) := ⟨⟨by decide +kernel, by decide +kernel⟩, List.mem_of_getElem? (i := 69) (by decide +kernel), List.mem_of_getElem? (i := 367) (by decide +kernel), List.mem_of_getElem? (i := 368) (by decide +kernel)⟩
theorem lw_p2 : lw_okq (⟨"WheelSkips$LawReader", "either", "(I)Z"⟩, 4) := ⟨⟨by decide +kernel, by decide +kernel⟩, List.mem_of_getElem? (i := 69) (by decide +kernel), List.mem_of_getElem? (i := 371) (by decide +kernel), List.mem_of_getElem? (i := 372) (by decide +kernel)⟩
theorem lw_p3 : lw_okq (⟨"WheelSkips$LawReader", "both", "(I)Z"⟩, 4) := ⟨⟨by decide +kernel, by decide +kernel⟩, List.mem_of_getElem? (i := 69) (by decide +kernel), List.mem_of_getElem? (i := 375) (by decide +kernel), List.mem_of_getElem? (i := 376) (by decide +kernel)⟩
theorem lw_p4 : lw_okq (⟨"WheelSkips$LawReader", "compared", "(I)Z"⟩, 4) := ⟨⟨by decide +kernel, by decide +kernel⟩, List.mem_of_getElem? (i := 69) (by decide +kernel), List.mem_of_getElem? (i := 379) (by decide +kernel), List.mem_of_getElem? (i := 380) (by decide +kernel)⟩
theorem lw_p5 : lw_okq (⟨"WheelSkips$LawReader", "summed", "(I)Z"⟩, 4) := ⟨⟨by decide +kernel, by decide +kernel⟩, List.mem_of_getElem? (i := 69) (by decide +kernel), List.mem_of_getElem? (i := 383) (by decide +kernel), List.mem_of_getElem? (i := 384) (by decide +kernel)⟩
theorem lw_p6 : lw_okq (⟨"WheelSkips$LawReader", "multiplied", "(I)Z"⟩, 4) := ⟨⟨by decide +kernel, by decide +kernel⟩, List.mem_of_getElem? (i := 69) (by decide +kernel), List.mem_of_getElem? (i := 387) (by decide +kernel), List.mem_of_getElem? (i := 388) (by decide +kernel)⟩
theorem lw_p7 : lw_okq (⟨"WheelSkips$LawReader", "single", "(I)Z"⟩, 4) := ⟨⟨by decide +kernel, by decide +kernel⟩, List.mem_of_getElem? (i := 69) (by decide +kernel), List.mem_of_getElem? (i := 391) (by decide +kernel), List.mem_of_getElem? (i := 392) (by decide +kernel)⟩
theorem lw_p8 : lw_okq (⟨"WheelSkips$LawReader", "number", "()V"⟩, 4) := ⟨⟨by decide +kernel, by decide +kernel⟩, List.mem_of_getElem? (i := 69) (by decide +kernel), List.mem_of_getElem? (i := 399) (by decide +kernel), List.mem_of_getElem? (i := 400) (by decide +kernel)⟩
theorem lw_p9 : lw_okq (⟨"WheelSkips$LawReader", "add", "(I)V"⟩, 4) := ⟨⟨by decide +kernel, by decide +kernel⟩, List.mem_of_getElem? (i := 69) (by decide +kernel), List.mem_of_getElem? (i := 403) (by decide +kernel), List.mem_of_getElem? (i := 404) (by decide +kernel)⟩
theorem lw_p10 : lw_okq (⟨"WheelSkips$LawReader", "passes", "(I)Z"⟩, 4) := ⟨⟨by decide +kernel, by decide +kernel⟩, List.mem_of_getElem? (i := 69) (by decide +kernel), List.mem_of_getElem? (i := 407) (by decide +kernel), List.mem_of_getElem? (i := 408) (by decide +kernel)⟩
theorem lw_p11 : lw_okq (⟨"WheelSkips$Changes", "dropOldest", "()V"⟩, 6) := ⟨⟨by decide +kernel, by decide +kernel⟩, List.mem_of_getElem? (i := 218) (by decide +kernel), List.mem_of_getElem? (i := 440) (by decide +kernel), List.mem_of_getElem? (i := 441) (by decide +kernel)⟩
theorem lw_p12 : lw_okq (⟨"WheelSkips$Changes", "write", "(IIIII)V"⟩, 6) := ⟨⟨by decide +kernel, by decide +kernel⟩, List.mem_of_getElem? (i := 218) (by decide +kernel), List.mem_of_getElem? (i := 460) (by decide +kernel), List.mem_of_getElem? (i := 461) (by decide +kernel)⟩
theorem lw_p13 : lw_okq (⟨"WheelSkips$Nights", "pushed", "(LWheelSkips$Moment;I)Z"⟩, 7) := ⟨⟨by decide +kernel, by decide +kernel⟩, List.mem_of_getElem? (i := 109) (by decide +kernel), List.mem_of_getElem? (i := 504) (by decide +kernel), List.mem_of_getElem? (i := 505) (by decide +kernel)⟩
theorem lw_p14 : lw_okq (⟨"WheelSkips$Law", "pop", "()I"⟩, 6) := ⟨⟨by decide +kernel, by decide +kernel⟩, List.mem_of_getElem? (i := 63) (by decide +kernel), List.mem_of_getElem? (i := 515) (by decide +kernel), List.mem_of_getElem? (i := 516) (by decide +kernel)⟩
theorem lw_p15 : lw_okq (⟨"WheelSkips$Law", "push", "(I)V"⟩, 6) := ⟨⟨by decide +kernel, by decide +kernel⟩, List.mem_of_getElem? (i := 63) (by decide +kernel), List.mem_of_getElem? (i := 522) (by decide +kernel), List.mem_of_getElem? (i := 523) (by decide +kernel)⟩
def lw_privs_1 : List (MethodName × Nat) := [(⟨"WheelSkips$LawReader", "lines", "()Z"⟩, 4), (⟨"WheelSkips$LawReader", "line", "()Z"⟩, 4), (⟨"WheelSkips$LawReader", "either", "(I)Z"⟩, 4), (⟨"WheelSkips$LawReader", "both", "(I)Z"⟩, 4), (⟨"WheelSkips$LawReader", "compared", "(I)Z"⟩, 4), (⟨"WheelSkips$LawReader", "summed", "(I)Z"⟩, 4), (⟨"WheelSkips$LawReader", "multiplied", "(I)Z"⟩, 4), (⟨"WheelSkips$LawReader", "single", "(I)Z"⟩, 4), (⟨"WheelSkips$LawReader", "number", "()V"⟩, 4), (⟨"WheelSkips$LawReader", "add", "(I)V"⟩, 4), (⟨"WheelSkips$LawReader", "passes", "(I)Z"⟩, 4), (⟨"WheelSkips$Changes", "dropOldest", "()V"⟩, 6), (⟨"WheelSkips$Changes", "write", "(IIIII)V"⟩, 6), (⟨"WheelSkips$Nights", "pushed", "(LWheelSkips$Moment;I)Z"⟩, 7), (⟨"WheelSkips$Law", "pop", "()I"⟩, 6), (⟨"WheelSkips$Law", "push", "(I)V"⟩, 6)]
theorem lw_r1 : ∀ q ∈ lw_privs_1, lw_okq q := List.forall_mem_cons.mpr ⟨lw_p0, List.forall_mem_cons.mpr ⟨lw_p1, List.forall_mem_cons.mpr ⟨lw_p2, List.forall_mem_cons.mpr ⟨lw_p3, List.forall_mem_cons.mpr ⟨lw_p4, List.forall_mem_cons.mpr ⟨lw_p5, List.forall_mem_cons.mpr ⟨lw_p6, List.forall_mem_cons.mpr ⟨lw_p7, List.forall_mem_cons.mpr ⟨lw_p8, List.forall_mem_cons.mpr ⟨lw_p9, List.forall_mem_cons.mpr ⟨lw_p10, List.forall_mem_cons.mpr ⟨lw_p11, List.forall_mem_cons.mpr ⟨lw_p12, List.forall_mem_cons.mpr ⟨lw_p13, List.forall_mem_cons.mpr ⟨lw_p14, List.forall_mem_cons.mpr ⟨lw_p15, fun _ h => absurd h List.not_mem_nil⟩⟩⟩⟩⟩⟩⟩⟩⟩⟩⟩⟩⟩⟩⟩⟩
theorem lw_p16 : lw_okq (⟨"WheelSkips$Law", "resultOf", "(IIII)I"⟩, 6) := ⟨⟨by decide +kernel, by decide +kernel⟩, List.mem_of_getElem? (i := 63) (by decide +kernel), List.mem_of_getElem? (i := 526) (by decide +kernel), List.mem_of_getElem? (i := 527) (by decide +kernel)⟩
theorem lw_p17 : lw_okq (⟨"WheelSkips$Nights", "markShown", "()V"⟩, 7) := ⟨⟨by decide +kernel, by decide +kernel⟩, List.mem_of_getElem? (i := 109) (by decide +kernel), List.mem_of_getElem? (i := 588) (by decide +kernel), List.mem_of_getElem? (i := 589) (by decide +kernel)⟩
theorem lw_p18 : lw_okq (⟨"WheelSkips", "isSpot", "(I)Z"⟩, 11) := ⟨⟨by decide +kernel, by decide +kernel⟩, List.mem_of_getElem? (i := 17) (by decide +kernel), List.mem_of_getElem? (i := 596) (by decide +kernel), List.mem_of_getElem? (i := 597) (by decide +kernel)⟩
theorem lw_p19 : lw_okq (⟨"WheelSkips$Judging", "watchLetters", "(I)V"⟩, 8) := ⟨⟨by decide +kernel, by decide +kernel⟩, List.mem_of_getElem? (i := 182) (by decide +kernel), List.mem_of_getElem? (i := 756) (by decide +kernel), List.mem_of_getElem? (i := 757) (by decide +kernel)⟩
theorem lw_p20 : lw_okq (⟨"WheelSkips$Judging", "compareLetters", "()V"⟩, 8) := ⟨⟨by decide +kernel, by decide +kernel⟩, List.mem_of_getElem? (i := 182) (by decide +kernel), List.mem_of_getElem? (i := 760) (by decide +kernel), List.mem_of_getElem? (i := 761) (by decide +kernel)⟩
theorem lw_p21 : lw_okq (⟨"WheelSkips$Judging", "tellApart", "(II)Z"⟩, 8) := ⟨⟨by decide +kernel, by decide +kernel⟩, List.mem_of_getElem? (i := 182) (by decide +kernel), List.mem_of_getElem? (i := 764) (by decide +kernel), List.mem_of_getElem? (i := 765) (by decide +kernel)⟩
theorem lw_p22 : lw_okq (⟨"WheelSkips", "apply", "(II)V"⟩, 11) := ⟨⟨by decide +kernel, by decide +kernel⟩, List.mem_of_getElem? (i := 17) (by decide +kernel), List.mem_of_getElem? (i := 782) (by decide +kernel), List.mem_of_getElem? (i := 783) (by decide +kernel)⟩
theorem lw_p23 : lw_okq (⟨"WheelSkips$Bodies", "call", "(III)I"⟩, 5) := ⟨⟨by decide +kernel, by decide +kernel⟩, List.mem_of_getElem? (i := 245) (by decide +kernel), List.mem_of_getElem? (i := 817) (by decide +kernel), List.mem_of_getElem? (i := 818) (by decide +kernel)⟩
theorem lw_p24 : lw_okq (⟨"WheelSkips$Bodies", "run", "(III)I"⟩, 5) := ⟨⟨by decide +kernel, by decide +kernel⟩, List.mem_of_getElem? (i := 245) (by decide +kernel), List.mem_of_getElem? (i := 832) (by decide +kernel), List.mem_of_getElem? (i := 833) (by decide +kernel)⟩
theorem lw_p25 : lw_okq (⟨"WheelSkips$Bodies", "above", "(IIII)I"⟩, 5) := ⟨⟨by decide +kernel, by decide +kernel⟩, List.mem_of_getElem? (i := 245) (by decide +kernel), List.mem_of_getElem? (i := 836) (by decide +kernel), List.mem_of_getElem? (i := 837) (by decide +kernel)⟩
theorem lw_p26 : lw_okq (⟨"WheelSkipsModel", "readText", "(I)I"⟩, 53) := ⟨⟨by decide +kernel, by decide +kernel⟩, List.mem_of_getElem? (i := 908) (by decide +kernel), List.mem_of_getElem? (i := 1094) (by decide +kernel), List.mem_of_getElem? (i := 1095) (by decide +kernel)⟩
theorem lw_p27 : lw_okq (⟨"WheelSkipsModel", "line", "()V"⟩, 53) := ⟨⟨by decide +kernel, by decide +kernel⟩, List.mem_of_getElem? (i := 908) (by decide +kernel), List.mem_of_getElem? (i := 1098) (by decide +kernel), List.mem_of_getElem? (i := 1099) (by decide +kernel)⟩
theorem lw_p28 : lw_okq (⟨"WheelSkipsModel", "either", "()V"⟩, 53) := ⟨⟨by decide +kernel, by decide +kernel⟩, List.mem_of_getElem? (i := 908) (by decide +kernel), List.mem_of_getElem? (i := 1102) (by decide +kernel), List.mem_of_getElem? (i := 1103) (by decide +kernel)⟩
theorem lw_p29 : lw_okq (⟨"WheelSkipsModel", "both", "()V"⟩, 53) := ⟨⟨by decide +kernel, by decide +kernel⟩, List.mem_of_getElem? (i := 908) (by decide +kernel), List.mem_of_getElem? (i := 1106) (by decide +kernel), List.mem_of_getElem? (i := 1107) (by decide +kernel)⟩
theorem lw_p30 : lw_okq (⟨"WheelSkipsModel", "compared", "()V"⟩, 53) := ⟨⟨by decide +kernel, by decide +kernel⟩, List.mem_of_getElem? (i := 908) (by decide +kernel), List.mem_of_getElem? (i := 1110) (by decide +kernel), List.mem_of_getElem? (i := 1111) (by decide +kernel)⟩
theorem lw_p31 : lw_okq (⟨"WheelSkipsModel", "sum", "()V"⟩, 53) := ⟨⟨by decide +kernel, by decide +kernel⟩, List.mem_of_getElem? (i := 908) (by decide +kernel), List.mem_of_getElem? (i := 1114) (by decide +kernel), List.mem_of_getElem? (i := 1115) (by decide +kernel)⟩
def lw_privs_2 : List (MethodName × Nat) := [(⟨"WheelSkips$Law", "resultOf", "(IIII)I"⟩, 6), (⟨"WheelSkips$Nights", "markShown", "()V"⟩, 7), (⟨"WheelSkips", "isSpot", "(I)Z"⟩, 11), (⟨"WheelSkips$Judging", "watchLetters", "(I)V"⟩, 8), (⟨"WheelSkips$Judging", "compareLetters", "()V"⟩, 8), (⟨"WheelSkips$Judging", "tellApart", "(II)Z"⟩, 8), (⟨"WheelSkips", "apply", "(II)V"⟩, 11), (⟨"WheelSkips$Bodies", "call", "(III)I"⟩, 5), (⟨"WheelSkips$Bodies", "run", "(III)I"⟩, 5), (⟨"WheelSkips$Bodies", "above", "(IIII)I"⟩, 5), (⟨"WheelSkipsModel", "readText", "(I)I"⟩, 53), (⟨"WheelSkipsModel", "line", "()V"⟩, 53), (⟨"WheelSkipsModel", "either", "()V"⟩, 53), (⟨"WheelSkipsModel", "both", "()V"⟩, 53), (⟨"WheelSkipsModel", "compared", "()V"⟩, 53), (⟨"WheelSkipsModel", "sum", "()V"⟩, 53)]
theorem lw_r2 : ∀ q ∈ lw_privs_2, lw_okq q := List.forall_mem_cons.mpr ⟨lw_p16, List.forall_mem_cons.mpr ⟨lw_p17, List.forall_mem_cons.mpr ⟨lw_p18, List.forall_mem_cons.mpr ⟨lw_p19, List.forall_mem_cons.mpr ⟨lw_p20, List.forall_mem_cons.mpr ⟨lw_p21, List.forall_mem_cons.mpr ⟨lw_p22, List.forall_mem_cons.mpr ⟨lw_p23, List.forall_mem_cons.mpr ⟨lw_p24, List.forall_mem_cons.mpr ⟨lw_p25, List.forall_mem_cons.mpr ⟨lw_p26, List.forall_mem_cons.mpr ⟨lw_p27, List.forall_mem_cons.mpr ⟨lw_p28, List.forall_mem_cons.mpr ⟨lw_p29, List.forall_mem_cons.mpr ⟨lw_p30, List.forall_mem_cons.mpr ⟨lw_p31, fun _ h => absurd h List.not_mem_nil⟩⟩⟩⟩⟩⟩⟩⟩⟩⟩⟩⟩⟩⟩⟩⟩
theorem lw_p32 : lw_okq (⟨"WheelSkipsModel", "product", "()V"⟩, 53) := ⟨⟨by decide +kernel, by decide +kernel⟩, List.mem_of_getElem? (i := 908) (by decide +kernel), List.mem_of_getElem? (i := 1118) (by decide +kernel), List.mem_of_getElem? (i := 1119) (by decide +kernel)⟩
theorem lw_p33 : lw_okq (⟨"WheelSkipsModel", "operand", "()V"⟩, 53) := ⟨⟨by decide +kernel, by decide +kernel⟩, List.mem_of_getElem? (i := 908) (by decide +kernel), List.mem_of_getElem? (i := 1122) (by decide +kernel), List.mem_of_getElem? (i := 1123) (by decide +kernel)⟩
theorem lw_p34 : lw_okq (⟨"WheelSkipsModel", "look", "()I"⟩, 53) := ⟨⟨by decide +kernel, by decide +kernel⟩, List.mem_of_getElem? (i := 908) (by decide +kernel), List.mem_of_getElem? (i := 1126) (by decide +kernel), List.mem_of_getElem? (i := 1127) (by decide +kernel)⟩
theorem lw_p35 : lw_okq (⟨"WheelSkipsModel", "addStep", "(II)V"⟩, 53) := ⟨⟨by decide +kernel, by decide +kernel⟩, List.mem_of_getElem? (i := 908) (by decide +kernel), List.mem_of_getElem? (i := 1133) (by decide +kernel), List.mem_of_getElem? (i := 1134) (by decide +kernel)⟩
theorem lw_p36 : lw_okq (⟨"WheelSkipsModel", "opens", "()Z"⟩, 53) := ⟨⟨by decide +kernel, by decide +kernel⟩, List.mem_of_getElem? (i := 908) (by decide +kernel), List.mem_of_getElem? (i := 1137) (by decide +kernel), List.mem_of_getElem? (i := 1138) (by decide +kernel)⟩
theorem lw_p37 : lw_okq (⟨"WheelSkipsModel", "wrong", "()V"⟩, 53) := ⟨⟨by decide +kernel, by decide +kernel⟩, List.mem_of_getElem? (i := 908) (by decide +kernel), List.mem_of_getElem? (i := 1141) (by decide +kernel), List.mem_of_getElem? (i := 1142) (by decide +kernel)⟩
theorem lw_p38 : lw_okq (⟨"WheelSkipsModel", "figure", "()V"⟩, 53) := ⟨⟨by decide +kernel, by decide +kernel⟩, List.mem_of_getElem? (i := 908) (by decide +kernel), List.mem_of_getElem? (i := 1145) (by decide +kernel), List.mem_of_getElem? (i := 1146) (by decide +kernel)⟩
theorem lw_p39 : lw_okq (⟨"WheelSkipsModel", "lays", "(III)V"⟩, 53) := ⟨⟨by decide +kernel, by decide +kernel⟩, List.mem_of_getElem? (i := 908) (by decide +kernel), List.mem_of_getElem? (i := 1158) (by decide +kernel), List.mem_of_getElem? (i := 1159) (by decide +kernel)⟩
theorem lw_p40 : lw_okq (⟨"WheelSkipsModel", "isWheel", "(I)Z"⟩, 53) := ⟨⟨by decide +kernel, by decide +kernel⟩, List.mem_of_getElem? (i := 908) (by decide +kernel), List.mem_of_getElem? (i := 1170) (by decide +kernel), List.mem_of_getElem? (i := 1171) (by decide +kernel)⟩
theorem lw_p41 : lw_okq (⟨"WheelSkipsModel", "changes", "(III)I"⟩, 53) := ⟨⟨by decide +kernel, by decide +kernel⟩, List.mem_of_getElem? (i := 908) (by decide +kernel), List.mem_of_getElem? (i := 1174) (by decide +kernel), List.mem_of_getElem? (i := 1175) (by decide +kernel)⟩
theorem lw_p42 : lw_okq (⟨"WheelSkipsModel", "valueAt", "(II)I"⟩, 53) := ⟨⟨by decide +kernel, by decide +kernel⟩, List.mem_of_getElem? (i := 908) (by decide +kernel), List.mem_of_getElem? (i := 1178) (by decide +kernel), List.mem_of_getElem? (i := 1179) (by decide +kernel)⟩
theorem lw_p43 : lw_okq (⟨"WheelSkipsModel", "goOn", "()V"⟩, 53) := ⟨⟨by decide +kernel, by decide +kernel⟩, List.mem_of_getElem? (i := 908) (by decide +kernel), List.mem_of_getElem? (i := 1195) (by decide +kernel), List.mem_of_getElem? (i := 1196) (by decide +kernel)⟩
theorem lw_p44 : lw_okq (⟨"WheelSkipsModel", "step", "(I)I"⟩, 53) := ⟨⟨by decide +kernel, by decide +kernel⟩, List.mem_of_getElem? (i := 908) (by decide +kernel), List.mem_of_getElem? (i := 1199) (by decide +kernel), List.mem_of_getElem? (i := 1200) (by decide +kernel)⟩
theorem lw_p45 : lw_okq (⟨"WheelSkipsModel", "isCold", "(I)Z"⟩, 53) := ⟨⟨by decide +kernel, by decide +kernel⟩, List.mem_of_getElem? (i := 908) (by decide +kernel), List.mem_of_getElem? (i := 1203) (by decide +kernel), List.mem_of_getElem? (i := 1204) (by decide +kernel)⟩
theorem lw_p46 : lw_okq (⟨"WheelSkipsModel", "gives", "(I)I"⟩, 53) := ⟨⟨by decide +kernel, by decide +kernel⟩, List.mem_of_getElem? (i := 908) (by decide +kernel), List.mem_of_getElem? (i := 1208) (by decide +kernel), List.mem_of_getElem? (i := 1209) (by decide +kernel)⟩
theorem lw_p47 : lw_okq (⟨"WheelSkipsModel", "worked", "(III)I"⟩, 53) := ⟨⟨by decide +kernel, by decide +kernel⟩, List.mem_of_getElem? (i := 908) (by decide +kernel), List.mem_of_getElem? (i := 1212) (by decide +kernel), List.mem_of_getElem? (i := 1213) (by decide +kernel)⟩
def lw_privs_3 : List (MethodName × Nat) := [(⟨"WheelSkipsModel", "product", "()V"⟩, 53), (⟨"WheelSkipsModel", "operand", "()V"⟩, 53), (⟨"WheelSkipsModel", "look", "()I"⟩, 53), (⟨"WheelSkipsModel", "addStep", "(II)V"⟩, 53), (⟨"WheelSkipsModel", "opens", "()Z"⟩, 53), (⟨"WheelSkipsModel", "wrong", "()V"⟩, 53), (⟨"WheelSkipsModel", "figure", "()V"⟩, 53), (⟨"WheelSkipsModel", "lays", "(III)V"⟩, 53), (⟨"WheelSkipsModel", "isWheel", "(I)Z"⟩, 53), (⟨"WheelSkipsModel", "changes", "(III)I"⟩, 53), (⟨"WheelSkipsModel", "valueAt", "(II)I"⟩, 53), (⟨"WheelSkipsModel", "goOn", "()V"⟩, 53), (⟨"WheelSkipsModel", "step", "(I)I"⟩, 53), (⟨"WheelSkipsModel", "isCold", "(I)Z"⟩, 53), (⟨"WheelSkipsModel", "gives", "(I)I"⟩, 53), (⟨"WheelSkipsModel", "worked", "(III)I"⟩, 53)]
theorem lw_r3 : ∀ q ∈ lw_privs_3, lw_okq q := List.forall_mem_cons.mpr ⟨lw_p32, List.forall_mem_cons.mpr ⟨lw_p33, List.forall_mem_cons.mpr ⟨lw_p34, List.forall_mem_cons.mpr ⟨lw_p35, List.forall_mem_cons.mpr ⟨lw_p36, List.forall_mem_cons.mpr ⟨lw_p37, List.forall_mem_cons.mpr ⟨lw_p38, List.forall_mem_cons.mpr ⟨lw_p39, List.forall_mem_cons.mpr ⟨lw_p40, List.forall_mem_cons.mpr ⟨lw_p41, List.forall_mem_cons.mpr ⟨lw_p42, List.forall_mem_cons.mpr ⟨lw_p43, List.forall_mem_cons.mpr ⟨lw_p44, List.forall_mem_cons.mpr ⟨lw_p45, List.forall_mem_cons.mpr ⟨lw_p46, List.forall_mem_cons.mpr ⟨lw_p47, fun _ h => absurd h List.not_mem_nil⟩⟩⟩⟩⟩⟩⟩⟩⟩⟩⟩⟩⟩⟩⟩⟩
theorem lw_p48 : lw_okq (⟨"WheelSkipsModel", "keepNow", "()V"⟩, 53) := ⟨⟨by decide +kernel, by decide +kernel⟩, List.mem_of_getElem? (i := 908) (by decide +kernel), List.mem_of_getElem? (i := 1227) (by decide +kernel), List.mem_of_getElem? (i := 1228) (by decide +kernel)⟩
theorem lw_p49 : lw_okq (⟨"WheelSkipsModel", "layBack", "()V"⟩, 53) := ⟨⟨by decide +kernel, by decide +kernel⟩, List.mem_of_getElem? (i := 908) (by decide +kernel), List.mem_of_getElem? (i := 1231) (by decide +kernel), List.mem_of_getElem? (i := 1232) (by decide +kernel)⟩
theorem lw_p50 : lw_okq (⟨"WheelSkipsModel", "isSpot", "(I)Z"⟩, 53) := ⟨⟨by decide +kernel, by decide +kernel⟩, List.mem_of_getElem? (i := 908) (by decide +kernel), List.mem_of_getElem? (i := 1251) (by decide +kernel), List.mem_of_getElem? (i := 1252) (by decide +kernel)⟩
theorem lw_p51 : lw_okq (⟨"WheelSkipsModel", "isAsWas", "()Z"⟩, 53) := ⟨⟨by decide +kernel, by decide +kernel⟩, List.mem_of_getElem? (i := 908) (by decide +kernel), List.mem_of_getElem? (i := 1263) (by decide +kernel), List.mem_of_getElem? (i := 1264) (by decide +kernel)⟩
theorem lw_p52 : lw_okq (⟨"WheelSkipsModel", "wrongIn", "(I)I"⟩, 53) := ⟨⟨by decide +kernel, by decide +kernel⟩, List.mem_of_getElem? (i := 908) (by decide +kernel), List.mem_of_getElem? (i := 1275) (by decide +kernel), List.mem_of_getElem? (i := 1276) (by decide +kernel)⟩
theorem lw_p53 : lw_okq (⟨"WheelSkipsModel", "addRecord", "(II)V"⟩, 53) := ⟨⟨by decide +kernel, by decide +kernel⟩, List.mem_of_getElem? (i := 908) (by decide +kernel), List.mem_of_getElem? (i := 1286) (by decide +kernel), List.mem_of_getElem? (i := 1287) (by decide +kernel)⟩
theorem lw_p54 : lw_okq (⟨"WheelSkipsModel", "firstWrong", "()I"⟩, 53) := ⟨⟨by decide +kernel, by decide +kernel⟩, List.mem_of_getElem? (i := 908) (by decide +kernel), List.mem_of_getElem? (i := 1305) (by decide +kernel), List.mem_of_getElem? (i := 1306) (by decide +kernel)⟩
theorem lw_p55 : lw_okq (⟨"WheelSkipsModel", "fitting", "(I)I"⟩, 53) := ⟨⟨by decide +kernel, by decide +kernel⟩, List.mem_of_getElem? (i := 908) (by decide +kernel), List.mem_of_getElem? (i := 1313) (by decide +kernel), List.mem_of_getElem? (i := 1314) (by decide +kernel)⟩
theorem lw_p56 : lw_okq (⟨"WheelSkipsModel", "doesPart", "(II)Z"⟩, 53) := ⟨⟨by decide +kernel, by decide +kernel⟩, List.mem_of_getElem? (i := 908) (by decide +kernel), List.mem_of_getElem? (i := 1332) (by decide +kernel), List.mem_of_getElem? (i := 1333) (by decide +kernel)⟩
theorem lw_p57 : lw_okq (⟨"WheelSkipsModel", "isBody", "(I)Z"⟩, 53) := ⟨⟨by decide +kernel, by decide +kernel⟩, List.mem_of_getElem? (i := 908) (by decide +kernel), List.mem_of_getElem? (i := 1356) (by decide +kernel), List.mem_of_getElem? (i := 1357) (by decide +kernel)⟩
theorem lw_p58 : lw_okq (⟨"WheelSkipsModel", "turning", "(II)I"⟩, 53) := ⟨⟨by decide +kernel, by decide +kernel⟩, List.mem_of_getElem? (i := 908) (by decide +kernel), List.mem_of_getElem? (i := 1360) (by decide +kernel), List.mem_of_getElem? (i := 1361) (by decide +kernel)⟩
theorem lw_p59 : lw_okq (⟨"WheelSkipsModel", "ran", "(I)V"⟩, 53) := ⟨⟨by decide +kernel, by decide +kernel⟩, List.mem_of_getElem? (i := 908) (by decide +kernel), List.mem_of_getElem? (i := 1367) (by decide +kernel), List.mem_of_getElem? (i := 1368) (by decide +kernel)⟩
theorem lw_p60 : lw_okq (⟨"WheelSkipsModel", "plainTurns", "(II)I"⟩, 53) := ⟨⟨by decide +kernel, by decide +kernel⟩, List.mem_of_getElem? (i := 908) (by decide +kernel), List.mem_of_getElem? (i := 1371) (by decide +kernel), List.mem_of_getElem? (i := 1372) (by decide +kernel)⟩
theorem lw_p61 : lw_okq (⟨"WheelSkipsModel", "toldTurns", "(II)I"⟩, 53) := ⟨⟨by decide +kernel, by decide +kernel⟩, List.mem_of_getElem? (i := 908) (by decide +kernel), List.mem_of_getElem? (i := 1375) (by decide +kernel), List.mem_of_getElem? (i := 1376) (by decide +kernel)⟩
theorem lw_p62 : lw_okq (⟨"WheelSkipsModel", "showing", "(II)I"⟩, 53) := ⟨⟨by decide +kernel, by decide +kernel⟩, List.mem_of_getElem? (i := 908) (by decide +kernel), List.mem_of_getElem? (i := 1379) (by decide +kernel), List.mem_of_getElem? (i := 1380) (by decide +kernel)⟩
theorem lw_p63 : lw_okq (⟨"WheelSkipsModel", "skipShows", "(II)I"⟩, 53) := ⟨⟨by decide +kernel, by decide +kernel⟩, List.mem_of_getElem? (i := 908) (by decide +kernel), List.mem_of_getElem? (i := 1383) (by decide +kernel), List.mem_of_getElem? (i := 1384) (by decide +kernel)⟩
def lw_privs_4 : List (MethodName × Nat) := [(⟨"WheelSkipsModel", "keepNow", "()V"⟩, 53), (⟨"WheelSkipsModel", "layBack", "()V"⟩, 53), (⟨"WheelSkipsModel", "isSpot", "(I)Z"⟩, 53), (⟨"WheelSkipsModel", "isAsWas", "()Z"⟩, 53), (⟨"WheelSkipsModel", "wrongIn", "(I)I"⟩, 53), (⟨"WheelSkipsModel", "addRecord", "(II)V"⟩, 53), (⟨"WheelSkipsModel", "firstWrong", "()I"⟩, 53), (⟨"WheelSkipsModel", "fitting", "(I)I"⟩, 53), (⟨"WheelSkipsModel", "doesPart", "(II)Z"⟩, 53), (⟨"WheelSkipsModel", "isBody", "(I)Z"⟩, 53), (⟨"WheelSkipsModel", "turning", "(II)I"⟩, 53), (⟨"WheelSkipsModel", "ran", "(I)V"⟩, 53), (⟨"WheelSkipsModel", "plainTurns", "(II)I"⟩, 53), (⟨"WheelSkipsModel", "toldTurns", "(II)I"⟩, 53), (⟨"WheelSkipsModel", "showing", "(II)I"⟩, 53), (⟨"WheelSkipsModel", "skipShows", "(II)I"⟩, 53)]
theorem lw_r4 : ∀ q ∈ lw_privs_4, lw_okq q := List.forall_mem_cons.mpr ⟨lw_p48, List.forall_mem_cons.mpr ⟨lw_p49, List.forall_mem_cons.mpr ⟨lw_p50, List.forall_mem_cons.mpr ⟨lw_p51, List.forall_mem_cons.mpr ⟨lw_p52, List.forall_mem_cons.mpr ⟨lw_p53, List.forall_mem_cons.mpr ⟨lw_p54, List.forall_mem_cons.mpr ⟨lw_p55, List.forall_mem_cons.mpr ⟨lw_p56, List.forall_mem_cons.mpr ⟨lw_p57, List.forall_mem_cons.mpr ⟨lw_p58, List.forall_mem_cons.mpr ⟨lw_p59, List.forall_mem_cons.mpr ⟨lw_p60, List.forall_mem_cons.mpr ⟨lw_p61, List.forall_mem_cons.mpr ⟨lw_p62, List.forall_mem_cons.mpr ⟨lw_p63, fun _ h => absurd h List.not_mem_nil⟩⟩⟩⟩⟩⟩⟩⟩⟩⟩⟩⟩⟩⟩⟩⟩
theorem lw_p64 : lw_okq (⟨"WheelSkipsModel", "plainShows", "(II)I"⟩, 53) := ⟨⟨by decide +kernel, by decide +kernel⟩, List.mem_of_getElem? (i := 908) (by decide +kernel), List.mem_of_getElem? (i := 1387) (by decide +kernel), List.mem_of_getElem? (i := 1388) (by decide +kernel)⟩
theorem lw_p65 : lw_okq (⟨"WheelSkipsModel", "waiting", "(II)I"⟩, 53) := ⟨⟨by decide +kernel, by decide +kernel⟩, List.mem_of_getElem? (i := 908) (by decide +kernel), List.mem_of_getElem? (i := 1391) (by decide +kernel), List.mem_of_getElem? (i := 1392) (by decide +kernel)⟩
theorem lw_p66 : lw_okq (⟨"WheelSkipsModel", "plainWaits", "(II)I"⟩, 53) := ⟨⟨by decide +kernel, by decide +kernel⟩, List.mem_of_getElem? (i := 908) (by decide +kernel), List.mem_of_getElem? (i := 1395) (by decide +kernel), List.mem_of_getElem? (i := 1396) (by decide +kernel)⟩
theorem lw_p67 : lw_okq (⟨"WheelSkipsModel", "telling", "(II)I"⟩, 53) := ⟨⟨by decide +kernel, by decide +kernel⟩, List.mem_of_getElem? (i := 908) (by decide +kernel), List.mem_of_getElem? (i := 1399) (by decide +kernel), List.mem_of_getElem? (i := 1400) (by decide +kernel)⟩
theorem lw_p68 : lw_okq (⟨"WheelSkipsModel", "frostTells", "(II)I"⟩, 53) := ⟨⟨by decide +kernel, by decide +kernel⟩, List.mem_of_getElem? (i := 908) (by decide +kernel), List.mem_of_getElem? (i := 1403) (by decide +kernel), List.mem_of_getElem? (i := 1404) (by decide +kernel)⟩
theorem lw_p69 : lw_okq (⟨"WheelSkipsModel", "plainTells", "(II)I"⟩, 53) := ⟨⟨by decide +kernel, by decide +kernel⟩, List.mem_of_getElem? (i := 908) (by decide +kernel), List.mem_of_getElem? (i := 1407) (by decide +kernel), List.mem_of_getElem? (i := 1408) (by decide +kernel)⟩
theorem lw_p70 : lw_okq (⟨"WheelSkipsModel", "whyNoPlace", "(II)I"⟩, 53) := ⟨⟨by decide +kernel, by decide +kernel⟩, List.mem_of_getElem? (i := 908) (by decide +kernel), List.mem_of_getElem? (i := 1427) (by decide +kernel), List.mem_of_getElem? (i := 1428) (by decide +kernel)⟩
def lw_privs_5 : List (MethodName × Nat) := [(⟨"WheelSkipsModel", "plainShows", "(II)I"⟩, 53), (⟨"WheelSkipsModel", "waiting", "(II)I"⟩, 53), (⟨"WheelSkipsModel", "plainWaits", "(II)I"⟩, 53), (⟨"WheelSkipsModel", "telling", "(II)I"⟩, 53), (⟨"WheelSkipsModel", "frostTells", "(II)I"⟩, 53), (⟨"WheelSkipsModel", "plainTells", "(II)I"⟩, 53), (⟨"WheelSkipsModel", "whyNoPlace", "(II)I"⟩, 53)]
theorem lw_r5 : ∀ q ∈ lw_privs_5, lw_okq q := List.forall_mem_cons.mpr ⟨lw_p64, List.forall_mem_cons.mpr ⟨lw_p65, List.forall_mem_cons.mpr ⟨lw_p66, List.forall_mem_cons.mpr ⟨lw_p67, List.forall_mem_cons.mpr ⟨lw_p68, List.forall_mem_cons.mpr ⟨lw_p69, List.forall_mem_cons.mpr ⟨lw_p70, fun _ h => absurd h List.not_mem_nil⟩⟩⟩⟩⟩⟩⟩
def lw_privs : List (MethodName × Nat) := lw_privs_1 ++ (lw_privs_2 ++ (lw_privs_3 ++ (lw_privs_4 ++ (lw_privs_5))))
def lw_tbl : List Cond := k2_sels lw_privs ++ tables_1
theorem lw_privs_ok : ∀ q ∈ lw_privs, lw_okq q := by
  show ∀ q ∈ lw_privs_1 ++ (lw_privs_2 ++ (lw_privs_3 ++ (lw_privs_4 ++ (lw_privs_5)))), lw_okq q
  exact List.forall_mem_append.mpr ⟨lw_r1, List.forall_mem_append.mpr ⟨lw_r2, List.forall_mem_append.mpr ⟨lw_r3, List.forall_mem_append.mpr ⟨lw_r4, lw_r5⟩⟩⟩⟩
end
section
def RX0 : String := "WheelSkips$Bodies"
def TX0 : u_T := fun k => match k with
  | 0 => ("WheelSkips$Bodies", "kinds", "[I", true)
  | 1 => ("WheelSkips$Bodies", "traced", "[I", true)
  | 2 => ("WheelSkips$Bodies", "number", "I", false)
  | 3 => ("WheelSkips$Bodies", "ran", "I", false)
  | _ => ("WheelSkips$Bodies", "self", "I", false)
def tyX0 : Nat → FieldType := fun k => match k with
  | 0 => .array .int
  | 1 => .array .int
  | 2 => .int
  | 3 => .int
  | _ => .int
theorem nmX0 : ∀ a, a < 5 → ∀ b, b < 5 → a ≠ b → (TX0 a).2.1 ≠ (TX0 b).2.1 := by decide +kernel
theorem tyX0_ok : ∀ k, k < 5 → parseFieldDescriptor (TX0 k).2.2.1 = some (tyX0 k) := by decide +kernel
abbrev cX0_init : ByteArray := prog_2_method_1_code
def yX0_init : MethodName := ⟨RX0, "<init>", "()V"⟩
abbrev cX0_has : ByteArray := prog_2_method_2_code
def yX0_has : MethodName := ⟨RX0, "has", "(I)Z"⟩
abbrev cX0_add : ByteArray := prog_2_method_3_code
def yX0_add : MethodName := ⟨RX0, "add", "(I)I"⟩
abbrev cX0_kindOf : ByteArray := prog_2_method_4_code
def yX0_kindOf : MethodName := ⟨RX0, "kindOf", "(I)I"⟩
abbrev cX0_isUnder : ByteArray := prog_2_method_5_code
def yX0_isUnder : MethodName := ⟨RX0, "isUnder", "(II)Z"⟩
abbrev cX0_forgetTrace : ByteArray := prog_2_method_6_code
def yX0_forgetTrace : MethodName := ⟨RX0, "forgetTrace", "()V"⟩
abbrev cX0_tracedAt : ByteArray := prog_2_method_7_code
def yX0_tracedAt : MethodName := ⟨RX0, "tracedAt", "(I)I"⟩
abbrev cX0_perform : ByteArray := prog_2_method_8_code
def yX0_perform : MethodName := ⟨RX0, "perform", "(III)I"⟩
abbrev cX0_call : ByteArray := prog_2_method_9_code
def yX0_call : MethodName := ⟨RX0, "call", "(III)I"⟩
abbrev cX0_above : ByteArray := prog_2_method_10_code
def yX0_above : MethodName := ⟨RX0, "above", "(IIII)I"⟩
abbrev cX0_bodyFor : ByteArray := prog_2_method_11_code
def yX0_bodyFor : MethodName := ⟨RX0, "bodyFor", "(II)I"⟩
abbrev cX0_run : ByteArray := prog_2_method_12_code
def yX0_run : MethodName := ⟨RX0, "run", "(III)I"⟩
def RX1 : String := "WheelSkips$Changes"
def TX1 : u_T := fun k => match k with
  | 0 => ("WheelSkips$Changes", "wheels", "[I", true)
  | 1 => ("WheelSkips$Changes", "places", "[I", true)
  | 2 => ("WheelSkips$Changes", "befores", "[I", true)
  | 3 => ("WheelSkips$Changes", "afters", "[I", true)
  | 4 => ("WheelSkips$Changes", "done", "I", false)
  | _ => ("WheelSkips$Changes", "kept", "I", false)
def tyX1 : Nat → FieldType := fun k => match k with
  | 0 => .array .int
  | 1 => .array .int
  | 2 => .array .int
  | 3 => .array .int
  | 4 => .int
  | _ => .int
theorem nmX1 : ∀ a, a < 6 → ∀ b, b < 6 → a ≠ b → (TX1 a).2.1 ≠ (TX1 b).2.1 := by decide +kernel
theorem tyX1_ok : ∀ k, k < 6 → parseFieldDescriptor (TX1 k).2.2.1 = some (tyX1 k) := by decide +kernel
abbrev cX1_init : ByteArray := prog_3_method_1_code
def yX1_init : MethodName := ⟨RX1, "<init>", "()V"⟩
abbrev cX1_wheelAt : ByteArray := prog_3_method_2_code
def yX1_wheelAt : MethodName := ⟨RX1, "wheelAt", "(I)I"⟩
abbrev cX1_placeAt : ByteArray := prog_3_method_3_code
def yX1_placeAt : MethodName := ⟨RX1, "placeAt", "(I)I"⟩
abbrev cX1_beforeAt : ByteArray := prog_3_method_4_code
def yX1_beforeAt : MethodName := ⟨RX1, "beforeAt", "(I)I"⟩
abbrev cX1_afterAt : ByteArray := prog_3_method_5_code
def yX1_afterAt : MethodName := ⟨RX1, "afterAt", "(I)I"⟩
abbrev cX1_add : ByteArray := prog_3_method_6_code
def yX1_add : MethodName := ⟨RX1, "add", "(IIII)V"⟩
abbrev cX1_dropOldest : ByteArray := prog_3_method_7_code
def yX1_dropOldest : MethodName := ⟨RX1, "dropOldest", "()V"⟩
abbrev cX1_write : ByteArray := prog_3_method_8_code
def yX1_write : MethodName := ⟨RX1, "write", "(IIIII)V"⟩
def RX2 : String := "WheelSkips$Judging"
def TX2 : u_T := fun k => match k with
  | 0 => ("WheelSkips$Judging", "wheels", "LWheelSkips$Wheels;", true)
  | 1 => ("WheelSkips$Judging", "nights", "LWheelSkips$Nights;", true)
  | 2 => ("WheelSkips$Judging", "recorded", "LWheelSkips$Records;", true)
  | 3 => ("WheelSkips$Judging", "watched", "[I", true)
  | 4 => ("WheelSkips$Judging", "unlike", "[I", true)
  | 5 => ("WheelSkips$Judging", "leastBreak", "I", false)
  | 6 => ("WheelSkips$Judging", "greatestBreak", "I", false)
  | _ => ("WheelSkips$Judging", "manyBreaks", "I", false)
def tyX2 : Nat → FieldType := fun k => match k with
  | 0 => .object "WheelSkips$Wheels"
  | 1 => .object "WheelSkips$Nights"
  | 2 => .object "WheelSkips$Records"
  | 3 => .array .int
  | 4 => .array .int
  | 5 => .int
  | 6 => .int
  | _ => .int
theorem nmX2 : ∀ a, a < 8 → ∀ b, b < 8 → a ≠ b → (TX2 a).2.1 ≠ (TX2 b).2.1 := by decide +kernel
theorem tyX2_ok : ∀ k, k < 8 → parseFieldDescriptor (TX2 k).2.2.1 = some (tyX2 k) := by decide +kernel
abbrev cX2_init : ByteArray := prog_4_method_1_code
def yX2_init : MethodName := ⟨RX2, "<init>", "(LWheelSkips$Wheels;LWheelSkips$Nights;LWheelSkips$Records;)V"⟩
abbrev cX2_firstWrong : ByteArray := prog_4_method_2_code
def yX2_firstWrong : MethodName := ⟨RX2, "firstWrong", "(Z)I"⟩
abbrev cX2_fitting : ByteArray := prog_4_method_3_code
def yX2_fitting : MethodName := ⟨RX2, "fitting", "(I)I"⟩
abbrev cX2_tryBreaks : ByteArray := prog_4_method_4_code
def yX2_tryBreaks : MethodName := ⟨RX2, "tryBreaks", "()V"⟩
abbrev cX2_fewestNights : ByteArray := prog_4_method_5_code
def yX2_fewestNights : MethodName := ⟨RX2, "fewestNights", "(II)I"⟩
abbrev cX2_watchLetters : ByteArray := prog_4_method_6_code
def yX2_watchLetters : MethodName := ⟨RX2, "watchLetters", "(I)V"⟩
abbrev cX2_compareLetters : ByteArray := prog_4_method_7_code
def yX2_compareLetters : MethodName := ⟨RX2, "compareLetters", "()V"⟩
abbrev cX2_tellApart : ByteArray := prog_4_method_8_code
def yX2_tellApart : MethodName := ⟨RX2, "tellApart", "(II)Z"⟩
def RX3 : String := "WheelSkips$Law"
def TX3 : u_T := fun k => match k with
  | 0 => ("WheelSkips$Law", "reader", "LWheelSkips$LawReader;", true)
  | 1 => ("WheelSkips$Law", "code", "[I", true)
  | 2 => ("WheelSkips$Law", "stack", "[I", true)
  | 3 => ("WheelSkips$Law", "length", "I", false)
  | 4 => ("WheelSkips$Law", "top", "I", false)
  | _ => ("WheelSkips$Law", "seed", "I", false)
def tyX3 : Nat → FieldType := fun k => match k with
  | 0 => .object "WheelSkips$LawReader"
  | 1 => .array .int
  | 2 => .array .int
  | 3 => .int
  | 4 => .int
  | _ => .int
theorem nmX3 : ∀ a, a < 6 → ∀ b, b < 6 → a ≠ b → (TX3 a).2.1 ≠ (TX3 b).2.1 := by decide +kernel
theorem tyX3_ok : ∀ k, k < 6 → parseFieldDescriptor (TX3 k).2.2.1 = some (tyX3 k) := by decide +kernel
abbrev cX3_init : ByteArray := prog_5_method_1_code
def yX3_init : MethodName := ⟨RX3, "<init>", "(LWheelSkips$Tape;)V"⟩
abbrev cX3_takeFromTape : ByteArray := prog_5_method_2_code
def yX3_takeFromTape : MethodName := ⟨RX3, "takeFromTape", "()I"⟩
abbrev cX3_valueAt : ByteArray := prog_5_method_3_code
def yX3_valueAt : MethodName := ⟨RX3, "valueAt", "(III)I"⟩
abbrev cX3_resultOf : ByteArray := prog_5_method_4_code
def yX3_resultOf : MethodName := ⟨RX3, "resultOf", "(IIII)I"⟩
abbrev cX3_push : ByteArray := prog_5_method_5_code
def yX3_push : MethodName := ⟨RX3, "push", "(I)V"⟩
abbrev cX3_pop : ByteArray := prog_5_method_6_code
def yX3_pop : MethodName := ⟨RX3, "pop", "()I"⟩
def RX4 : String := "WheelSkips$LawReader"
def TX4 : u_T := fun k => match k with
  | 0 => ("WheelSkips$LawReader", "tape", "LWheelSkips$Tape;", true)
  | 1 => ("WheelSkips$LawReader", "steps", "[I", true)
  | 2 => ("WheelSkips$LawReader", "length", "I", false)
  | _ => ("WheelSkips$LawReader", "at", "I", false)
def tyX4 : Nat → FieldType := fun k => match k with
  | 0 => .object "WheelSkips$Tape"
  | 1 => .array .int
  | 2 => .int
  | _ => .int
theorem nmX4 : ∀ a, a < 4 → ∀ b, b < 4 → a ≠ b → (TX4 a).2.1 ≠ (TX4 b).2.1 := by decide +kernel
theorem tyX4_ok : ∀ k, k < 4 → parseFieldDescriptor (TX4 k).2.2.1 = some (tyX4 k) := by decide +kernel
abbrev cX4_init : ByteArray := prog_6_method_1_code
def yX4_init : MethodName := ⟨RX4, "<init>", "(LWheelSkips$Tape;)V"⟩
abbrev cX4_stepAt : ByteArray := prog_6_method_2_code
def yX4_stepAt : MethodName := ⟨RX4, "stepAt", "(I)I"⟩
abbrev cX4_readTape : ByteArray := prog_6_method_3_code
def yX4_readTape : MethodName := ⟨RX4, "readTape", "()I"⟩
abbrev cX4_lines : ByteArray := prog_6_method_4_code
def yX4_lines : MethodName := ⟨RX4, "lines", "()Z"⟩
abbrev cX4_line : ByteArray := prog_6_method_5_code
def yX4_line : MethodName := ⟨RX4, "line", "()Z"⟩
abbrev cX4_either : ByteArray := prog_6_method_6_code
def yX4_either : MethodName := ⟨RX4, "either", "(I)Z"⟩
abbrev cX4_both : ByteArray := prog_6_method_7_code
def yX4_both : MethodName := ⟨RX4, "both", "(I)Z"⟩
abbrev cX4_compared : ByteArray := prog_6_method_8_code
def yX4_compared : MethodName := ⟨RX4, "compared", "(I)Z"⟩
abbrev cX4_summed : ByteArray := prog_6_method_9_code
def yX4_summed : MethodName := ⟨RX4, "summed", "(I)Z"⟩
abbrev cX4_multiplied : ByteArray := prog_6_method_10_code
def yX4_multiplied : MethodName := ⟨RX4, "multiplied", "(I)Z"⟩
abbrev cX4_single : ByteArray := prog_6_method_11_code
def yX4_single : MethodName := ⟨RX4, "single", "(I)Z"⟩
abbrev cX4_number : ByteArray := prog_6_method_12_code
def yX4_number : MethodName := ⟨RX4, "number", "()V"⟩
abbrev cX4_passes : ByteArray := prog_6_method_13_code
def yX4_passes : MethodName := ⟨RX4, "passes", "(I)Z"⟩
abbrev cX4_add : ByteArray := prog_6_method_14_code
def yX4_add : MethodName := ⟨RX4, "add", "(I)V"⟩
abbrev cX4_isDigit : ByteArray := prog_6_method_15_code
def yX4_isDigit : MethodName := ⟨RX4, "isDigit", "(I)Z"⟩
def RX5 : String := "WheelSkips$Moment"
def TX5 : u_T := fun k => match k with
  | 0 => ("WheelSkips$Moment", "places", "[I", true)
  | 1 => ("WheelSkips$Moment", "waits", "[I", true)
  | _ => ("WheelSkips$Moment", "night", "I", false)
def tyX5 : Nat → FieldType := fun k => match k with
  | 0 => .array .int
  | 1 => .array .int
  | _ => .int
theorem nmX5 : ∀ a, a < 3 → ∀ b, b < 3 → a ≠ b → (TX5 a).2.1 ≠ (TX5 b).2.1 := by decide +kernel
theorem tyX5_ok : ∀ k, k < 3 → parseFieldDescriptor (TX5 k).2.2.1 = some (tyX5 k) := by decide +kernel
abbrev cX5_init : ByteArray := prog_7_method_1_code
def yX5_init : MethodName := ⟨RX5, "<init>", "()V"⟩
abbrev cX5_placeOf : ByteArray := prog_7_method_2_code
def yX5_placeOf : MethodName := ⟨RX5, "placeOf", "(I)I"⟩
abbrev cX5_waitsOf : ByteArray := prog_7_method_3_code
def yX5_waitsOf : MethodName := ⟨RX5, "waitsOf", "(I)I"⟩
abbrev cX5_stand : ByteArray := prog_7_method_4_code
def yX5_stand : MethodName := ⟨RX5, "stand", "(III)V"⟩
abbrev cX5_become : ByteArray := prog_7_method_5_code
def yX5_become : MethodName := ⟨RX5, "become", "(LWheelSkips$Moment;I)V"⟩
abbrev cX5_standsAs : ByteArray := prog_7_method_6_code
def yX5_standsAs : MethodName := ⟨RX5, "standsAs", "(LWheelSkips$Moment;I)Z"⟩
def RX6 : String := "WheelSkips$Nights"
def TX6 : u_T := fun k => match k with
  | 0 => ("WheelSkips$Nights", "wheels", "LWheelSkips$Wheels;", true)
  | 1 => ("WheelSkips$Nights", "frost", "LWheelSkips$Law;", true)
  | 2 => ("WheelSkips$Nights", "now", "LWheelSkips$Moment;", true)
  | 3 => ("WheelSkips$Nights", "thought", "LWheelSkips$Moment;", true)
  | 4 => ("WheelSkips$Nights", "shown", "[I", true)
  | 5 => ("WheelSkips$Nights", "week", "I", false)
  | _ => ("WheelSkips$Nights", "skipNight", "I", false)
def tyX6 : Nat → FieldType := fun k => match k with
  | 0 => .object "WheelSkips$Wheels"
  | 1 => .object "WheelSkips$Law"
  | 2 => .object "WheelSkips$Moment"
  | 3 => .object "WheelSkips$Moment"
  | 4 => .array .int
  | 5 => .int
  | _ => .int
theorem nmX6 : ∀ a, a < 7 → ∀ b, b < 7 → a ≠ b → (TX6 a).2.1 ≠ (TX6 b).2.1 := by decide +kernel
theorem tyX6_ok : ∀ k, k < 7 → parseFieldDescriptor (TX6 k).2.2.1 = some (tyX6 k) := by decide +kernel
abbrev cX6_init : ByteArray := prog_8_method_1_code
def yX6_init : MethodName := ⟨RX6, "<init>", "(LWheelSkips$Wheels;LWheelSkips$Law;)V"⟩
abbrev cX6_think : ByteArray := prog_8_method_2_code
def yX6_think : MethodName := ⟨RX6, "think", "()V"⟩
abbrev cX6_pass : ByteArray := prog_8_method_3_code
def yX6_pass : MethodName := ⟨RX6, "pass", "(LWheelSkips$Moment;II)V"⟩
abbrev cX6_pushed : ByteArray := prog_8_method_4_code
def yX6_pushed : MethodName := ⟨RX6, "pushed", "(LWheelSkips$Moment;I)Z"⟩
abbrev cX6_dayOf : ByteArray := prog_8_method_5_code
def yX6_dayOf : MethodName := ⟨RX6, "dayOf", "(I)I"⟩
abbrev cX6_timesOfDay : ByteArray := prog_8_method_6_code
def yX6_timesOfDay : MethodName := ⟨RX6, "timesOfDay", "(II)I"⟩
abbrev cX6_unshown : ByteArray := prog_8_method_7_code
def yX6_unshown : MethodName := ⟨RX6, "unshown", "(IZ)I"⟩
abbrev cX6_markShown : ByteArray := prog_8_method_8_code
def yX6_markShown : MethodName := ⟨RX6, "markShown", "()V"⟩
abbrev cX6_timesAt : ByteArray := prog_8_method_9_code
def yX6_timesAt : MethodName := ⟨RX6, "timesAt", "(IIIZ)I"⟩
abbrev cX6_firstOfBoth : ByteArray := prog_8_method_10_code
def yX6_firstOfBoth : MethodName := ⟨RX6, "firstOfBoth", "(III)I"⟩
abbrev cX6_firstAsNow : ByteArray := prog_8_method_11_code
def yX6_firstAsNow : MethodName := ⟨RX6, "firstAsNow", "(I)I"⟩
abbrev cX6_nightsTo : ByteArray := prog_8_method_12_code
def yX6_nightsTo : MethodName := ⟨RX6, "nightsTo", "(III)I"⟩
abbrev cX6_wrongDays : ByteArray := prog_8_method_13_code
def yX6_wrongDays : MethodName := ⟨RX6, "wrongDays", "(I)I"⟩
abbrev cX6_nearest : ByteArray := prog_8_method_14_code
def yX6_nearest : MethodName := ⟨RX6, "nearest", "(IZ)I"⟩
def RX7 : String := "WheelSkips$Records"
def TX7 : u_T := fun k => match k with
  | 0 => ("WheelSkips$Records", "nights", "[I", true)
  | 1 => ("WheelSkips$Records", "places", "[I", true)
  | 2 => ("WheelSkips$Records", "byNight", "[I", true)
  | _ => ("WheelSkips$Records", "number", "I", false)
def tyX7 : Nat → FieldType := fun k => match k with
  | 0 => .array .int
  | 1 => .array .int
  | 2 => .array .int
  | _ => .int
theorem nmX7 : ∀ a, a < 4 → ∀ b, b < 4 → a ≠ b → (TX7 a).2.1 ≠ (TX7 b).2.1 := by decide +kernel
theorem tyX7_ok : ∀ k, k < 4 → parseFieldDescriptor (TX7 k).2.2.1 = some (tyX7 k) := by decide +kernel
abbrev cX7_init : ByteArray := prog_9_method_1_code
def yX7_init : MethodName := ⟨RX7, "<init>", "()V"⟩
abbrev cX7_nightOf : ByteArray := prog_9_method_2_code
def yX7_nightOf : MethodName := ⟨RX7, "nightOf", "(I)I"⟩
abbrev cX7_placeOf : ByteArray := prog_9_method_3_code
def yX7_placeOf : MethodName := ⟨RX7, "placeOf", "(I)I"⟩
abbrev cX7_inOrder : ByteArray := prog_9_method_4_code
def yX7_inOrder : MethodName := ⟨RX7, "inOrder", "(I)I"⟩
abbrev cX7_add : ByteArray := prog_9_method_5_code
def yX7_add : MethodName := ⟨RX7, "add", "(II)I"⟩
def RX8 : String := "WheelSkips$Shelves"
def TX8 : u_T := fun k => match k with
  | 0 => ("WheelSkips$Shelves", "held", "[I", true)
  | 1 => ("WheelSkips$Shelves", "sizes", "[I", true)
  | _ => ("WheelSkips$Shelves", "values", "[J", true)
def tyX8 : Nat → FieldType := fun k => match k with
  | 0 => .array .int
  | 1 => .array .int
  | _ => .array .long
theorem nmX8 : ∀ a, a < 3 → ∀ b, b < 3 → a ≠ b → (TX8 a).2.1 ≠ (TX8 b).2.1 := by decide +kernel
theorem tyX8_ok : ∀ k, k < 3 → parseFieldDescriptor (TX8 k).2.2.1 = some (tyX8 k) := by decide +kernel
abbrev cX8_init : ByteArray := prog_10_method_1_code
def yX8_init : MethodName := ⟨RX8, "<init>", "()V"⟩
abbrev cX8_has : ByteArray := prog_10_method_2_code
def yX8_has : MethodName := ⟨RX8, "has", "(I)Z"⟩
abbrev cX8_heldBy : ByteArray := prog_10_method_3_code
def yX8_heldBy : MethodName := ⟨RX8, "heldBy", "(I)I"⟩
abbrev cX8_sizeOf : ByteArray := prog_10_method_4_code
def yX8_sizeOf : MethodName := ⟨RX8, "sizeOf", "(I)I"⟩
abbrev cX8_hold : ByteArray := prog_10_method_5_code
def yX8_hold : MethodName := ⟨RX8, "hold", "(III)V"⟩
abbrev cX8_hasElement : ByteArray := prog_10_method_6_code
def yX8_hasElement : MethodName := ⟨RX8, "hasElement", "(II)Z"⟩
abbrev cX8_refusalAt : ByteArray := prog_10_method_7_code
def yX8_refusalAt : MethodName := ⟨RX8, "refusalAt", "(II)I"⟩
abbrev cX8_hasPart : ByteArray := prog_10_method_8_code
def yX8_hasPart : MethodName := ⟨RX8, "hasPart", "(III)Z"⟩
abbrev cX8_valueAt : ByteArray := prog_10_method_9_code
def yX8_valueAt : MethodName := ⟨RX8, "valueAt", "(II)J"⟩
abbrev cX8_write : ByteArray := prog_10_method_10_code
def yX8_write : MethodName := ⟨RX8, "write", "(IIJ)V"⟩
abbrev cX8_lowest : ByteArray := prog_10_method_11_code
def yX8_lowest : MethodName := ⟨RX8, "lowest", "(IJ)J"⟩
abbrev cX8_move : ByteArray := prog_10_method_12_code
def yX8_move : MethodName := ⟨RX8, "move", "(IIIII)V"⟩
def RX9 : String := "WheelSkips$Tape"
def TX9 : u_T := fun k => match k with
  | 0 => ("WheelSkips$Tape", "bytes", "[I", true)
  | _ => ("WheelSkips$Tape", "length", "I", false)
def tyX9 : Nat → FieldType := fun k => match k with
  | 0 => .array .int
  | _ => .int
theorem nmX9 : ∀ a, a < 2 → ∀ b, b < 2 → a ≠ b → (TX9 a).2.1 ≠ (TX9 b).2.1 := by decide +kernel
theorem tyX9_ok : ∀ k, k < 2 → parseFieldDescriptor (TX9 k).2.2.1 = some (tyX9 k) := by decide +kernel
abbrev cX9_init : ByteArray := prog_11_method_1_code
def yX9_init : MethodName := ⟨RX9, "<init>", "()V"⟩
abbrev cX9_append : ByteArray := prog_11_method_2_code
def yX9_append : MethodName := ⟨RX9, "append", "(I)V"⟩
abbrev cX9_at : ByteArray := prog_11_method_3_code
def yX9_at : MethodName := ⟨RX9, "at", "(I)I"⟩
def RX10 : String := "WheelSkips$Wheels"
def TX10 : u_T := fun k => match k with
  | 0 => ("WheelSkips$Wheels", "letters", "[I", true)
  | 1 => ("WheelSkips$Wheels", "sizes", "[I", true)
  | 2 => ("WheelSkips$Wheels", "breaks", "[I", true)
  | _ => ("WheelSkips$Wheels", "number", "I", false)
def tyX10 : Nat → FieldType := fun k => match k with
  | 0 => .array .int
  | 1 => .array .int
  | 2 => .array .int
  | _ => .int
theorem nmX10 : ∀ a, a < 4 → ∀ b, b < 4 → a ≠ b → (TX10 a).2.1 ≠ (TX10 b).2.1 := by decide +kernel
theorem tyX10_ok : ∀ k, k < 4 → parseFieldDescriptor (TX10 k).2.2.1 = some (tyX10 k) := by decide +kernel
abbrev cX10_init : ByteArray := prog_12_method_1_code
def yX10_init : MethodName := ⟨RX10, "<init>", "()V"⟩
abbrev cX10_has : ByteArray := prog_12_method_2_code
def yX10_has : MethodName := ⟨RX10, "has", "(I)Z"⟩
abbrev cX10_hasPlace : ByteArray := prog_12_method_3_code
def yX10_hasPlace : MethodName := ⟨RX10, "hasPlace", "(II)Z"⟩
abbrev cX10_sizeOf : ByteArray := prog_12_method_4_code
def yX10_sizeOf : MethodName := ⟨RX10, "sizeOf", "(I)I"⟩
abbrev cX10_breakOf : ByteArray := prog_12_method_5_code
def yX10_breakOf : MethodName := ⟨RX10, "breakOf", "(I)I"⟩
abbrev cX10_setBreak : ByteArray := prog_12_method_6_code
def yX10_setBreak : MethodName := ⟨RX10, "setBreak", "(II)V"⟩
abbrev cX10_letterAt : ByteArray := prog_12_method_7_code
def yX10_letterAt : MethodName := ⟨RX10, "letterAt", "(II)I"⟩
abbrev cX10_setLetter : ByteArray := prog_12_method_8_code
def yX10_setLetter : MethodName := ⟨RX10, "setLetter", "(III)V"⟩
abbrev cX10_faultOf : ByteArray := prog_12_method_9_code
def yX10_faultOf : MethodName := ⟨RX10, "faultOf", "(LWheelSkips$Tape;)I"⟩
abbrev cX10_cutFrom : ByteArray := prog_12_method_10_code
def yX10_cutFrom : MethodName := ⟨RX10, "cutFrom", "(LWheelSkips$Tape;)I"⟩
def RX11 : String := "WheelSkips"
def TX11 : u_T := fun k => match k with
  | 0 => ("WheelSkips", "tape", "LWheelSkips$Tape;", true)
  | 1 => ("WheelSkips", "wheels", "LWheelSkips$Wheels;", true)
  | 2 => ("WheelSkips", "frost", "LWheelSkips$Law;", true)
  | 3 => ("WheelSkips", "nights", "LWheelSkips$Nights;", true)
  | 4 => ("WheelSkips", "recorded", "LWheelSkips$Records;", true)
  | 5 => ("WheelSkips", "judging", "LWheelSkips$Judging;", true)
  | 6 => ("WheelSkips", "picture", "LWheelSkips$Moment;", true)
  | 7 => ("WheelSkips", "changes", "LWheelSkips$Changes;", true)
  | 8 => ("WheelSkips", "bodies", "LWheelSkips$Bodies;", true)
  | 9 => ("WheelSkips", "shelves", "LWheelSkips$Shelves;", true)
  | _ => ("WheelSkips", "picturedWheels", "I", false)
def tyX11 : Nat → FieldType := fun k => match k with
  | 0 => .object "WheelSkips$Tape"
  | 1 => .object "WheelSkips$Wheels"
  | 2 => .object "WheelSkips$Law"
  | 3 => .object "WheelSkips$Nights"
  | 4 => .object "WheelSkips$Records"
  | 5 => .object "WheelSkips$Judging"
  | 6 => .object "WheelSkips$Moment"
  | 7 => .object "WheelSkips$Changes"
  | 8 => .object "WheelSkips$Bodies"
  | 9 => .object "WheelSkips$Shelves"
  | _ => .int
theorem nmX11 : ∀ a, a < 11 → ∀ b, b < 11 → a ≠ b → (TX11 a).2.1 ≠ (TX11 b).2.1 := by decide +kernel
theorem tyX11_ok : ∀ k, k < 11 → parseFieldDescriptor (TX11 k).2.2.1 = some (tyX11 k) := by decide +kernel
abbrev cX11_init : ByteArray := prog_1_method_1_code
def yX11_init : MethodName := ⟨RX11, "<init>", "()V"⟩
abbrev cX11_feed : ByteArray := prog_1_method_2_code
def yX11_feed : MethodName := ⟨RX11, "feed", "(I)I"⟩
abbrev cX11_wheel : ByteArray := prog_1_method_3_code
def yX11_wheel : MethodName := ⟨RX11, "wheel", "()I"⟩
abbrev cX11_law : ByteArray := prog_1_method_4_code
def yX11_law : MethodName := ⟨RX11, "law", "()I"⟩
abbrev cX11_set : ByteArray := prog_1_method_5_code
def yX11_set : MethodName := ⟨RX11, "set", "(II)I"⟩
abbrev cX11_broke : ByteArray := prog_1_method_6_code
def yX11_broke : MethodName := ⟨RX11, "broke", "(II)I"⟩
abbrev cX11_tooth : ByteArray := prog_1_method_7_code
def yX11_tooth : MethodName := ⟨RX11, "tooth", "(III)I"⟩
abbrev cX11_of : ByteArray := prog_1_method_8_code
def yX11_of : MethodName := ⟨RX11, "of", "(II)I"⟩
abbrev cX11_on : ByteArray := prog_1_method_9_code
def yX11_on : MethodName := ⟨RX11, "on", "(I)I"⟩
abbrev cX11_lay : ByteArray := prog_1_method_10_code
def yX11_lay : MethodName := ⟨RX11, "lay", "(II)I"⟩
abbrev cX11_shows : ByteArray := prog_1_method_11_code
def yX11_shows : MethodName := ⟨RX11, "shows", "(II)I"⟩
abbrev cX11_day : ByteArray := prog_1_method_12_code
def yX11_day : MethodName := ⟨RX11, "day", "()I"⟩
abbrev cX11_often : ByteArray := prog_1_method_13_code
def yX11_often : MethodName := ⟨RX11, "often", "(II)I"⟩
abbrev cX11_never : ByteArray := prog_1_method_14_code
def yX11_never : MethodName := ⟨RX11, "never", "(II)I"⟩
abbrev cX11_meets : ByteArray := prog_1_method_15_code
def yX11_meets : MethodName := ⟨RX11, "meets", "(III)I"⟩
abbrev cX11_two : ByteArray := prog_1_method_16_code
def yX11_two : MethodName := ⟨RX11, "two", "(III)I"⟩
abbrev cX11_round : ByteArray := prog_1_method_17_code
def yX11_round : MethodName := ⟨RX11, "round", "(I)I"⟩
abbrev cX11_truth : ByteArray := prog_1_method_18_code
def yX11_truth : MethodName := ⟨RX11, "truth", "(I)I"⟩
abbrev cX11_near : ByteArray := prog_1_method_19_code
def yX11_near : MethodName := ⟨RX11, "near", "(II)I"⟩
abbrev cX11_record : ByteArray := prog_1_method_20_code
def yX11_record : MethodName := ⟨RX11, "record", "(II)I"⟩
abbrev cX11_records : ByteArray := prog_1_method_21_code
def yX11_records : MethodName := ⟨RX11, "records", "(III)I"⟩
abbrev cX11_clear : ByteArray := prog_1_method_22_code
def yX11_clear : MethodName := ⟨RX11, "clear", "()I"⟩
abbrev cX11_judge : ByteArray := prog_1_method_23_code
def yX11_judge : MethodName := ⟨RX11, "judge", "()I"⟩
abbrev cX11_fits : ByteArray := prog_1_method_24_code
def yX11_fits : MethodName := ⟨RX11, "fits", "(I)I"⟩
abbrev cX11_sure : ByteArray := prog_1_method_25_code
def yX11_sure : MethodName := ⟨RX11, "sure", "(I)I"⟩
abbrev cX11_when : ByteArray := prog_1_method_26_code
def yX11_when : MethodName := ⟨RX11, "when", "(I)I"⟩
abbrev cX11_watch : ByteArray := prog_1_method_27_code
def yX11_watch : MethodName := ⟨RX11, "watch", "(I)I"⟩
abbrev cX11_image : ByteArray := prog_1_method_28_code
def yX11_image : MethodName := ⟨RX11, "image", "()I"⟩
abbrev cX11_back : ByteArray := prog_1_method_29_code
def yX11_back : MethodName := ⟨RX11, "back", "()I"⟩
abbrev cX11_undo : ByteArray := prog_1_method_30_code
def yX11_undo : MethodName := ⟨RX11, "undo", "()I"⟩
abbrev cX11_redo : ByteArray := prog_1_method_31_code
def yX11_redo : MethodName := ⟨RX11, "redo", "()I"⟩
abbrev cX11_body : ByteArray := prog_1_method_32_code
def yX11_body : MethodName := ⟨RX11, "body", "(I)I"⟩
abbrev cX11_act : ByteArray := prog_1_method_33_code
def yX11_act : MethodName := ⟨RX11, "act", "(III)I"⟩
abbrev cX11_trace : ByteArray := prog_1_method_34_code
def yX11_trace : MethodName := ⟨RX11, "trace", "(I)I"⟩
abbrev cX11_keep : ByteArray := prog_1_method_35_code
def yX11_keep : MethodName := ⟨RX11, "keep", "(II)I"⟩
abbrev cX11_row : ByteArray := prog_1_method_36_code
def yX11_row : MethodName := ⟨RX11, "row", "(III)I"⟩
abbrev cX11_put : ByteArray := prog_1_method_37_code
def yX11_put : MethodName := ⟨RX11, "put", "(IIJ)I"⟩
abbrev cX11_element : ByteArray := prog_1_method_38_code
def yX11_element : MethodName := ⟨RX11, "element", "(II)J"⟩
abbrev cX11_shift : ByteArray := prog_1_method_39_code
def yX11_shift : MethodName := ⟨RX11, "shift", "(IIIII)I"⟩
abbrev cX11_taken : ByteArray := prog_1_method_40_code
def yX11_taken : MethodName := ⟨RX11, "taken", "(II)I"⟩
abbrev cX11_count : ByteArray := prog_1_method_41_code
def yX11_count : MethodName := ⟨RX11, "count", "(I)I"⟩
abbrev cX11_isSpot : ByteArray := prog_1_method_42_code
def yX11_isSpot : MethodName := ⟨RX11, "isSpot", "(I)Z"⟩
abbrev cX11_apply : ByteArray := prog_1_method_43_code
def yX11_apply : MethodName := ⟨RX11, "apply", "(II)V"⟩
abbrev cX11_isRecord : ByteArray := prog_1_method_44_code
def yX11_isRecord : MethodName := ⟨RX11, "isRecord", "(II)Z"⟩
abbrev cX11_isTooth : ByteArray := prog_1_method_45_code
def yX11_isTooth : MethodName := ⟨RX11, "isTooth", "(I)Z"⟩
abbrev cX11_left : ByteArray := prog_1_method_46_code
def yX11_left : MethodName := ⟨RX11, "left", "(II)I"⟩
def RX12 : String := "WheelSkipsModel"
def TX12 : u_T := fun k => match k with
  | 0 => ("WheelSkipsModel", "code", "I", false)
  | 1 => ("WheelSkipsModel", "tape", "[B", true)
  | 2 => ("WheelSkipsModel", "taped", "I", false)
  | 3 => ("WheelSkipsModel", "wheels", "I", false)
  | 4 => ("WheelSkipsModel", "teeth", "[I", true)
  | 5 => ("WheelSkipsModel", "many", "[I", true)
  | 6 => ("WheelSkipsModel", "place", "[I", true)
  | 7 => ("WheelSkipsModel", "waits", "[I", true)
  | 8 => ("WheelSkipsModel", "broke", "[I", true)
  | 9 => ("WheelSkipsModel", "night", "I", false)
  | 10 => ("WheelSkipsModel", "week", "I", false)
  | 11 => ("WheelSkipsModel", "seed", "I", false)
  | 12 => ("WheelSkipsModel", "here", "I", false)
  | 13 => ("WheelSkipsModel", "fault", "I", false)
  | 14 => ("WheelSkipsModel", "open", "I", false)
  | 15 => ("WheelSkipsModel", "laid", "I", false)
  | 16 => ("WheelSkipsModel", "act", "[B", true)
  | 17 => ("WheelSkipsModel", "with", "[I", true)
  | 18 => ("WheelSkipsModel", "lineMany", "[I", true)
  | 19 => ("WheelSkipsModel", "testEnd", "[S", true)
  | 20 => ("WheelSkipsModel", "lineEnd", "[S", true)
  | 21 => ("WheelSkipsModel", "facts", "[I", true)
  | 22 => ("WheelSkipsModel", "pile", "[I", true)
  | 23 => ("WheelSkipsModel", "hasLaw", "Z", false)
  | 24 => ("WheelSkipsModel", "doneMany", "I", false)
  | 25 => ("WheelSkipsModel", "undoneMany", "I", false)
  | 26 => ("WheelSkipsModel", "changeOf", "[I", true)
  | 27 => ("WheelSkipsModel", "changeAt", "[I", true)
  | 28 => ("WheelSkipsModel", "before", "[I", true)
  | 29 => ("WheelSkipsModel", "behind", "[I", true)
  | 30 => ("WheelSkipsModel", "wasNight", "I", false)
  | 31 => ("WheelSkipsModel", "wasPlace", "[I", true)
  | 32 => ("WheelSkipsModel", "wasWaits", "[I", true)
  | 33 => ("WheelSkipsModel", "isShown", "[Z", true)
  | 34 => ("WheelSkipsModel", "mends", "[I", true)
  | 35 => ("WheelSkipsModel", "records", "I", false)
  | 36 => ("WheelSkipsModel", "recordNight", "[I", true)
  | 37 => ("WheelSkipsModel", "recordPlace", "[I", true)
  | 38 => ("WheelSkipsModel", "tried", "[I", true)
  | 39 => ("WheelSkipsModel", "placesBy", "[I", true)
  | 40 => ("WheelSkipsModel", "hasImage", "Z", false)
  | 41 => ("WheelSkipsModel", "keptWheels", "I", false)
  | 42 => ("WheelSkipsModel", "keptNight", "I", false)
  | 43 => ("WheelSkipsModel", "keptPlace", "[I", true)
  | 44 => ("WheelSkipsModel", "keptWaits", "[I", true)
  | 45 => ("WheelSkipsModel", "bodies", "I", false)
  | 46 => ("WheelSkipsModel", "kind", "[I", true)
  | 47 => ("WheelSkipsModel", "traces", "I", false)
  | 48 => ("WheelSkipsModel", "traced", "[I", true)
  | 49 => ("WheelSkipsModel", "holds", "[I", true)
  | 50 => ("WheelSkipsModel", "size", "[I", true)
  | 51 => ("WheelSkipsModel", "elements", "[J", true)
  | _ => ("WheelSkipsModel", "shifted", "[J", true)
def tyX12 : Nat → FieldType := fun k => match k with
  | 0 => .int
  | 1 => .array .byte
  | 2 => .int
  | 3 => .int
  | 4 => .array .int
  | 5 => .array .int
  | 6 => .array .int
  | 7 => .array .int
  | 8 => .array .int
  | 9 => .int
  | 10 => .int
  | 11 => .int
  | 12 => .int
  | 13 => .int
  | 14 => .int
  | 15 => .int
  | 16 => .array .byte
  | 17 => .array .int
  | 18 => .array .int
  | 19 => .array .short
  | 20 => .array .short
  | 21 => .array .int
  | 22 => .array .int
  | 23 => .boolean
  | 24 => .int
  | 25 => .int
  | 26 => .array .int
  | 27 => .array .int
  | 28 => .array .int
  | 29 => .array .int
  | 30 => .int
  | 31 => .array .int
  | 32 => .array .int
  | 33 => .array .boolean
  | 34 => .array .int
  | 35 => .int
  | 36 => .array .int
  | 37 => .array .int
  | 38 => .array .int
  | 39 => .array .int
  | 40 => .boolean
  | 41 => .int
  | 42 => .int
  | 43 => .array .int
  | 44 => .array .int
  | 45 => .int
  | 46 => .array .int
  | 47 => .int
  | 48 => .array .int
  | 49 => .array .int
  | 50 => .array .int
  | 51 => .array .long
  | _ => .array .long
theorem nmX12 : ∀ a, a < 53 → ∀ b, b < 53 → a ≠ b → (TX12 a).2.1 ≠ (TX12 b).2.1 := by decide +kernel
theorem tyX12_ok : ∀ k, k < 53 → parseFieldDescriptor (TX12 k).2.2.1 = some (tyX12 k) := by decide +kernel
abbrev cX12_init : ByteArray := prog_14_method_1_code
def yX12_init : MethodName := ⟨RX12, "<init>", "()V"⟩
abbrev cX12_in : ByteArray := prog_14_method_3_code
def yX12_in : MethodName := ⟨RX12, "in", "(III)Z"⟩
abbrev cX12_feed : ByteArray := prog_14_method_4_code
def yX12_feed : MethodName := ⟨RX12, "feed", "(I)I"⟩
abbrev cX12_isWheel : ByteArray := prog_14_method_5_code
def yX12_isWheel : MethodName := ⟨RX12, "isWheel", "(I)Z"⟩
abbrev cX12_isTooth : ByteArray := prog_14_method_6_code
def yX12_isTooth : MethodName := ⟨RX12, "isTooth", "(I)Z"⟩
abbrev cX12_wheel : ByteArray := prog_14_method_7_code
def yX12_wheel : MethodName := ⟨RX12, "wheel", "()I"⟩
abbrev cX12_look : ByteArray := prog_14_method_8_code
def yX12_look : MethodName := ⟨RX12, "look", "()I"⟩
abbrev cX12_wrong : ByteArray := prog_14_method_9_code
def yX12_wrong : MethodName := ⟨RX12, "wrong", "()V"⟩
abbrev cX12_addStep : ByteArray := prog_14_method_10_code
def yX12_addStep : MethodName := ⟨RX12, "addStep", "(II)V"⟩
abbrev cX12_nameOf : ByteArray := prog_14_method_11_code
def yX12_nameOf : MethodName := ⟨RX12, "nameOf", "(I)I"⟩
abbrev cX12_opens : ByteArray := prog_14_method_12_code
def yX12_opens : MethodName := ⟨RX12, "opens", "()Z"⟩
abbrev cX12_figure : ByteArray := prog_14_method_13_code
def yX12_figure : MethodName := ⟨RX12, "figure", "()V"⟩
abbrev cX12_operand : ByteArray := prog_14_method_14_code
def yX12_operand : MethodName := ⟨RX12, "operand", "()V"⟩
abbrev cX12_product : ByteArray := prog_14_method_15_code
def yX12_product : MethodName := ⟨RX12, "product", "()V"⟩
abbrev cX12_sum : ByteArray := prog_14_method_16_code
def yX12_sum : MethodName := ⟨RX12, "sum", "()V"⟩
abbrev cX12_compared : ByteArray := prog_14_method_17_code
def yX12_compared : MethodName := ⟨RX12, "compared", "()V"⟩
abbrev cX12_both : ByteArray := prog_14_method_18_code
def yX12_both : MethodName := ⟨RX12, "both", "()V"⟩
abbrev cX12_either : ByteArray := prog_14_method_19_code
def yX12_either : MethodName := ⟨RX12, "either", "()V"⟩
abbrev cX12_line : ByteArray := prog_14_method_20_code
def yX12_line : MethodName := ⟨RX12, "line", "()V"⟩
abbrev cX12_readText : ByteArray := prog_14_method_21_code
def yX12_readText : MethodName := ⟨RX12, "readText", "(I)I"⟩
abbrev cX12_twoOf : ByteArray := prog_14_method_22_code
def yX12_twoOf : MethodName := ⟨RX12, "twoOf", "(III)I"⟩
abbrev cX12_worked : ByteArray := prog_14_method_23_code
def yX12_worked : MethodName := ⟨RX12, "worked", "(III)I"⟩
abbrev cX12_gives : ByteArray := prog_14_method_24_code
def yX12_gives : MethodName := ⟨RX12, "gives", "(I)I"⟩
abbrev cX12_law : ByteArray := prog_14_method_25_code
def yX12_law : MethodName := ⟨RX12, "law", "()I"⟩
abbrev cX12_isCold : ByteArray := prog_14_method_26_code
def yX12_isCold : MethodName := ⟨RX12, "isCold", "(I)Z"⟩
abbrev cX12_set : ByteArray := prog_14_method_27_code
def yX12_set : MethodName := ⟨RX12, "set", "(II)I"⟩
abbrev cX12_valueAt : ByteArray := prog_14_method_28_code
def yX12_valueAt : MethodName := ⟨RX12, "valueAt", "(II)I"⟩
abbrev cX12_lays : ByteArray := prog_14_method_29_code
def yX12_lays : MethodName := ⟨RX12, "lays", "(III)V"⟩
abbrev cX12_changes : ByteArray := prog_14_method_30_code
def yX12_changes : MethodName := ⟨RX12, "changes", "(III)I"⟩
abbrev cX12_undo : ByteArray := prog_14_method_31_code
def yX12_undo : MethodName := ⟨RX12, "undo", "()I"⟩
abbrev cX12_redo : ByteArray := prog_14_method_32_code
def yX12_redo : MethodName := ⟨RX12, "redo", "()I"⟩
abbrev cX12_broke : ByteArray := prog_14_method_33_code
def yX12_broke : MethodName := ⟨RX12, "broke", "(II)I"⟩
abbrev cX12_tooth : ByteArray := prog_14_method_34_code
def yX12_tooth : MethodName := ⟨RX12, "tooth", "(III)I"⟩
abbrev cX12_of : ByteArray := prog_14_method_35_code
def yX12_of : MethodName := ⟨RX12, "of", "(II)I"⟩
abbrev cX12_step : ByteArray := prog_14_method_36_code
def yX12_step : MethodName := ⟨RX12, "step", "(I)I"⟩
abbrev cX12_goOn : ByteArray := prog_14_method_37_code
def yX12_goOn : MethodName := ⟨RX12, "goOn", "()V"⟩
abbrev cX12_keepNow : ByteArray := prog_14_method_38_code
def yX12_keepNow : MethodName := ⟨RX12, "keepNow", "()V"⟩
abbrev cX12_layBack : ByteArray := prog_14_method_39_code
def yX12_layBack : MethodName := ⟨RX12, "layBack", "()V"⟩
abbrev cX12_on : ByteArray := prog_14_method_40_code
def yX12_on : MethodName := ⟨RX12, "on", "(I)I"⟩
abbrev cX12_lay : ByteArray := prog_14_method_41_code
def yX12_lay : MethodName := ⟨RX12, "lay", "(II)I"⟩
abbrev cX12_shows : ByteArray := prog_14_method_42_code
def yX12_shows : MethodName := ⟨RX12, "shows", "(II)I"⟩
abbrev cX12_day : ByteArray := prog_14_method_43_code
def yX12_day : MethodName := ⟨RX12, "day", "()I"⟩
abbrev cX12_often : ByteArray := prog_14_method_44_code
def yX12_often : MethodName := ⟨RX12, "often", "(II)I"⟩
abbrev cX12_never : ByteArray := prog_14_method_45_code
def yX12_never : MethodName := ⟨RX12, "never", "(II)I"⟩
abbrev cX12_isSpot : ByteArray := prog_14_method_46_code
def yX12_isSpot : MethodName := ⟨RX12, "isSpot", "(I)Z"⟩
abbrev cX12_meets : ByteArray := prog_14_method_47_code
def yX12_meets : MethodName := ⟨RX12, "meets", "(III)I"⟩
abbrev cX12_two : ByteArray := prog_14_method_48_code
def yX12_two : MethodName := ⟨RX12, "two", "(III)I"⟩
abbrev cX12_isAsWas : ByteArray := prog_14_method_49_code
def yX12_isAsWas : MethodName := ⟨RX12, "isAsWas", "()Z"⟩
abbrev cX12_round : ByteArray := prog_14_method_50_code
def yX12_round : MethodName := ⟨RX12, "round", "(I)I"⟩
abbrev cX12_truth : ByteArray := prog_14_method_51_code
def yX12_truth : MethodName := ⟨RX12, "truth", "(I)I"⟩
abbrev cX12_wrongIn : ByteArray := prog_14_method_52_code
def yX12_wrongIn : MethodName := ⟨RX12, "wrongIn", "(I)I"⟩
abbrev cX12_near : ByteArray := prog_14_method_53_code
def yX12_near : MethodName := ⟨RX12, "near", "(II)I"⟩
abbrev cX12_isRecord : ByteArray := prog_14_method_54_code
def yX12_isRecord : MethodName := ⟨RX12, "isRecord", "(II)Z"⟩
abbrev cX12_addRecord : ByteArray := prog_14_method_55_code
def yX12_addRecord : MethodName := ⟨RX12, "addRecord", "(II)V"⟩
abbrev cX12_record : ByteArray := prog_14_method_56_code
def yX12_record : MethodName := ⟨RX12, "record", "(II)I"⟩
abbrev cX12_records : ByteArray := prog_14_method_57_code
def yX12_records : MethodName := ⟨RX12, "records", "(III)I"⟩
abbrev cX12_clear : ByteArray := prog_14_method_58_code
def yX12_clear : MethodName := ⟨RX12, "clear", "()I"⟩
abbrev cX12_firstWrong : ByteArray := prog_14_method_59_code
def yX12_firstWrong : MethodName := ⟨RX12, "firstWrong", "()I"⟩
abbrev cX12_judge : ByteArray := prog_14_method_60_code
def yX12_judge : MethodName := ⟨RX12, "judge", "()I"⟩
abbrev cX12_fitting : ByteArray := prog_14_method_61_code
def yX12_fitting : MethodName := ⟨RX12, "fitting", "(I)I"⟩
abbrev cX12_fits : ByteArray := prog_14_method_62_code
def yX12_fits : MethodName := ⟨RX12, "fits", "(I)I"⟩
abbrev cX12_bitsOf : ByteArray := prog_14_method_63_code
def yX12_bitsOf : MethodName := ⟨RX12, "bitsOf", "(I)I"⟩
abbrev cX12_sure : ByteArray := prog_14_method_64_code
def yX12_sure : MethodName := ⟨RX12, "sure", "(I)I"⟩
abbrev cX12_when : ByteArray := prog_14_method_65_code
def yX12_when : MethodName := ⟨RX12, "when", "(I)I"⟩
abbrev cX12_doesPart : ByteArray := prog_14_method_66_code
def yX12_doesPart : MethodName := ⟨RX12, "doesPart", "(II)Z"⟩
abbrev cX12_watch : ByteArray := prog_14_method_67_code
def yX12_watch : MethodName := ⟨RX12, "watch", "(I)I"⟩
abbrev cX12_image : ByteArray := prog_14_method_68_code
def yX12_image : MethodName := ⟨RX12, "image", "()I"⟩
abbrev cX12_back : ByteArray := prog_14_method_69_code
def yX12_back : MethodName := ⟨RX12, "back", "()I"⟩
abbrev cX12_isBody : ByteArray := prog_14_method_70_code
def yX12_isBody : MethodName := ⟨RX12, "isBody", "(I)Z"⟩
abbrev cX12_ran : ByteArray := prog_14_method_71_code
def yX12_ran : MethodName := ⟨RX12, "ran", "(I)V"⟩
abbrev cX12_trace : ByteArray := prog_14_method_72_code
def yX12_trace : MethodName := ⟨RX12, "trace", "(I)I"⟩
abbrev cX12_body : ByteArray := prog_14_method_73_code
def yX12_body : MethodName := ⟨RX12, "body", "(I)I"⟩
abbrev cX12_isUnder : ByteArray := prog_14_method_74_code
def yX12_isUnder : MethodName := ⟨RX12, "isUnder", "(II)Z"⟩
abbrev cX12_plainTurns : ByteArray := prog_14_method_75_code
def yX12_plainTurns : MethodName := ⟨RX12, "plainTurns", "(II)I"⟩
abbrev cX12_toldTurns : ByteArray := prog_14_method_76_code
def yX12_toldTurns : MethodName := ⟨RX12, "toldTurns", "(II)I"⟩
abbrev cX12_turning : ByteArray := prog_14_method_77_code
def yX12_turning : MethodName := ⟨RX12, "turning", "(II)I"⟩
abbrev cX12_plainShows : ByteArray := prog_14_method_78_code
def yX12_plainShows : MethodName := ⟨RX12, "plainShows", "(II)I"⟩
abbrev cX12_skipShows : ByteArray := prog_14_method_79_code
def yX12_skipShows : MethodName := ⟨RX12, "skipShows", "(II)I"⟩
abbrev cX12_showing : ByteArray := prog_14_method_80_code
def yX12_showing : MethodName := ⟨RX12, "showing", "(II)I"⟩
abbrev cX12_plainWaits : ByteArray := prog_14_method_81_code
def yX12_plainWaits : MethodName := ⟨RX12, "plainWaits", "(II)I"⟩
abbrev cX12_waiting : ByteArray := prog_14_method_82_code
def yX12_waiting : MethodName := ⟨RX12, "waiting", "(II)I"⟩
abbrev cX12_plainTells : ByteArray := prog_14_method_83_code
def yX12_plainTells : MethodName := ⟨RX12, "plainTells", "(II)I"⟩
abbrev cX12_frostTells : ByteArray := prog_14_method_84_code
def yX12_frostTells : MethodName := ⟨RX12, "frostTells", "(II)I"⟩
abbrev cX12_telling : ByteArray := prog_14_method_85_code
def yX12_telling : MethodName := ⟨RX12, "telling", "(II)I"⟩
abbrev cX12_act : ByteArray := prog_14_method_86_code
def yX12_act : MethodName := ⟨RX12, "act", "(III)I"⟩
abbrev cX12_count : ByteArray := prog_14_method_87_code
def yX12_count : MethodName := ⟨RX12, "count", "(I)I"⟩
abbrev cX12_isShelf : ByteArray := prog_14_method_88_code
def yX12_isShelf : MethodName := ⟨RX12, "isShelf", "(I)Z"⟩
abbrev cX12_keep : ByteArray := prog_14_method_89_code
def yX12_keep : MethodName := ⟨RX12, "keep", "(II)I"⟩
abbrev cX12_row : ByteArray := prog_14_method_90_code
def yX12_row : MethodName := ⟨RX12, "row", "(III)I"⟩
abbrev cX12_whyNoPlace : ByteArray := prog_14_method_91_code
def yX12_whyNoPlace : MethodName := ⟨RX12, "whyNoPlace", "(II)I"⟩
abbrev cX12_put : ByteArray := prog_14_method_92_code
def yX12_put : MethodName := ⟨RX12, "put", "(IIJ)I"⟩
abbrev cX12_element : ByteArray := prog_14_method_93_code
def yX12_element : MethodName := ⟨RX12, "element", "(II)J"⟩
abbrev cX12_shift : ByteArray := prog_14_method_94_code
def yX12_shift : MethodName := ⟨RX12, "shift", "(IIIII)I"⟩
abbrev cX12_taken : ByteArray := prog_14_method_95_code
def yX12_taken : MethodName := ⟨RX12, "taken", "(II)I"⟩
def RJ6 : String := "java/lang/Integer"
def TJ6 : u_T := fun k => match k with
  | _ => ("", "", "", false)
def tyJ6 : Nat → FieldType := fun k => match k with
  | _ => .int
theorem nmJ6 : ∀ a, a < 0 → ∀ b, b < 0 → a ≠ b → (TJ6 a).2.1 ≠ (TJ6 b).2.1 := by decide +kernel
theorem tyJ6_ok : ∀ k, k < 0 → parseFieldDescriptor (TJ6 k).2.2.1 = some (tyJ6 k) := by decide +kernel
abbrev cJ6_bitCount_0f7a4 : ByteArray := prog_15_method_49_code
def yJ6_bitCount_0f7a4 : MethodName := ⟨RJ6, "bitCount", "(I)I"⟩
def RJ9 : String := "java/lang/Math"
def TJ9 : u_T := fun k => match k with
  | _ => ("", "", "", false)
def tyJ9 : Nat → FieldType := fun k => match k with
  | _ => .int
theorem nmJ9 : ∀ a, a < 0 → ∀ b, b < 0 → a ≠ b → (TJ9 a).2.1 ≠ (TJ9 b).2.1 := by decide +kernel
theorem tyJ9_ok : ∀ k, k < 0 → parseFieldDescriptor (TJ9 k).2.2.1 = some (tyJ9 k) := by decide +kernel
abbrev cJ9_max_7cf53 : ByteArray := prog_16_method_65_code
def yJ9_max_7cf53 : MethodName := ⟨RJ9, "max", "(II)I"⟩
def RL : String := "WheelSkipsLaw"
abbrev cL_law : ByteArray := code
abbrev vwCl : List vw_C := [(RX0, TX0, 5), (RX1, TX1, 6), (RX2, TX2, 8), (RX3, TX3, 6), (RX4, TX4, 4), (RX5, TX5, 3), (RX6, TX6, 7), (RX7, TX7, 4), (RX8, TX8, 3), (RX9, TX9, 2), (RX10, TX10, 4), (RX11, TX11, 11), (RX12, TX12, 53)]
end
section
theorem lw_T0 {w : Cond} (h : w ∈ tables_1_1) : w ∈ lw_tbl := List.mem_append_right _ (List.mem_append_left _ h)
theorem lw_T1 {w : Cond} (h : w ∈ tables_1_2) : w ∈ lw_tbl := List.mem_append_right _ (List.mem_append_right _ (List.mem_append_left _ h))
theorem lw_T2 {w : Cond} (h : w ∈ tables_1_3) : w ∈ lw_tbl := List.mem_append_right _ (List.mem_append_right _ (List.mem_append_right _ (List.mem_append_left _ h)))
theorem lw_T3 {w : Cond} (h : w ∈ tables_1_4) : w ∈ lw_tbl := List.mem_append_right _ (List.mem_append_right _ (List.mem_append_right _ (List.mem_append_right _ (List.mem_append_left _ h))))
theorem lw_T4 {w : Cond} (h : w ∈ tables_1_5) : w ∈ lw_tbl := List.mem_append_right _ (List.mem_append_right _ (List.mem_append_right _ (List.mem_append_right _ (List.mem_append_right _ (List.mem_append_left _ h)))))
theorem lw_T5 {w : Cond} (h : w ∈ tables_1_6) : w ∈ lw_tbl := List.mem_append_right _ (List.mem_append_right _ (List.mem_append_right _ (List.mem_append_right _ (List.mem_append_right _ (List.mem_append_right _ (List.mem_append_left _ h))))))
theorem lw_T6 {w : Cond} (h : w ∈ tables_1_7) : w ∈ lw_tbl := List.mem_append_right _ (List.mem_append_right _ (List.mem_append_right _ (List.mem_append_right _ (List.mem_append_right _ (List.mem_append_right _ (List.mem_append_right _ (h)))))))
/-- those words that a call carries over -/
def k_tbl : List Cond := lw_tbl.filter goodWord
theorem k_in {w : Cond} (h : w ∈ lw_tbl) (hg : goodWord w = true) : w ∈ k_tbl := List.mem_filter.mpr ⟨h, hg⟩
def k_isN : Cond → Bool
  | .fieldLinkNest .. => true
  | .methodLinkNest .. => true
  | _ => false
/-- links to a nest mate's members -/
def k_nest : List Cond := lw_tbl.filter k_isN
theorem k_inN {w : Cond} (h : w ∈ lw_tbl) (hg : k_isN w = true) : w ∈ k_nest := List.mem_filter.mpr ⟨h, hg⟩
def k_sel : Bool → List Cond
  | true => k_nest
  | false => k_tbl
def k_T : Nat → List Cond
  | 0 => tables_1_1
  | 1 => tables_1_2
  | 2 => tables_1_3
  | 3 => tables_1_4
  | 4 => tables_1_5
  | 5 => tables_1_6
  | 6 => tables_1_7
  | _ => []
theorem k_T_in : ∀ (n : Nat) {w : Cond}, w ∈ k_T n → w ∈ lw_tbl
  | 0, _, h => lw_T0 h
  | 1, _, h => lw_T1 h
  | 2, _, h => lw_T2 h
  | 3, _, h => lw_T3 h
  | 4, _, h => lw_T4 h
  | 5, _, h => lw_T5 h
  | 6, _, h => lw_T6 h
  | n + 7, _, h => absurd h List.not_mem_nil
theorem k_pick {ws : List Cond} (ps : List (Nat × Nat)) (h : ws = ps.filterMap (fun q => (k_T q.1)[q.2]?)) (hg : ws.all goodWord = true) : ∀ w ∈ ws, w ∈ k_tbl := by
  intro w hw
  have h2 := List.all_eq_true.mp hg w hw
  rw [h] at hw
  obtain ⟨q, _, hq⟩ := List.mem_filterMap.mp hw
  exact k_in (k_T_in q.1 (List.mem_of_getElem? hq)) h2
/-! the cells: an object (its class's place, what its fields hold: a cell, or an int) or an array (type, length, longs or not) -/
abbrev k_C : Type := (Nat × List (Option Nat)) ⊕ (FieldType × Nat × Bool)
def k_lay : List k_C := [.inl (11, [some 1, some 3, some 7, some 12, some 20, some 24, some 27, some 30, some 35, some 38, none]), .inl (9, [some 2, none]), .inr (.int, 120, false), .inl (10, [some 4, some 5, some 6, none]), .inr (.int, 160, false), .inr (.int, 4, false), .inr (.int, 4, false), .inl (3, [some 10, some 8, some 9, none, none, none]), .inr (.int, 128, false), .inr (.int, 128, false), .inl (4, [some 1, some 11, none, none]), .inr (.int, 128, false), .inl (6, [some 3, some 7, some 14, some 17, some 13, none, none]), .inr (.int, 40, false), .inl (5, [some 15, some 16, none]), .inr (.int, 4, false), .inr (.int, 4, false), .inl (5, [some 18, some 19, none]), .inr (.int, 4, false), .inr (.int, 4, false), .inl (7, [some 21, some 22, some 23, none]), .inr (.int, 40, false), .inr (.int, 40, false), .inr (.int, 40, false), .inl (2, [some 3, some 12, some 20, some 25, some 26, none, none, none]), .inr (.int, 40, false), .inr (.int, 16, false), .inl (5, [some 28, some 29, none]), .inr (.int, 4, false), .inr (.int, 4, false), .inl (1, [some 31, some 32, some 33, some 34, none, none]), .inr (.int, 40, false), .inr (.int, 40, false), .inr (.int, 40, false), .inr (.int, 40, false), .inl (0, [some 36, some 37, none, none, none]), .inr (.int, 50, false), .inr (.int, 24, false), .inl (8, [some 39, some 40, some 41]), .inr (.int, 6, false), .inr (.int, 6, false), .inr (.long, 360, true), .inl (12, [none, some 43, none, none, some 44, some 45, some 46, some 47, some 48, none, none, none, none, none, none, none, some 49, some 50, some 51, some 52, some 53, some 54, some 55, none, none, none, some 56, some 57, some 58, some 59, none, some 60, some 61, some 62, some 63, none, some 64, some 65, some 66, some 67, none, none, none, some 68, some 69, none, some 70, none, some 71, some 72, some 73, some 74, some 75]), .inr (.byte, 120, false), .inr (.int, 160, false), .inr (.int, 4, false), .inr (.int, 4, false), .inr (.int, 4, false), .inr (.int, 4, false), .inr (.byte, 260, false), .inr (.int, 260, false), .inr (.int, 2, false), .inr (.short, 122, false), .inr (.short, 122, false), .inr (.int, 4, false), .inr (.int, 130, false), .inr (.int, 40, false), .inr (.int, 40, false), .inr (.int, 40, false), .inr (.int, 40, false), .inr (.int, 4, false), .inr (.int, 4, false), .inr (.boolean, 40, false), .inr (.int, 3, false), .inr (.int, 40, false), .inr (.int, 40, false), .inr (.int, 4, false), .inr (.int, 44, false), .inr (.int, 4, false), .inr (.int, 4, false), .inr (.int, 50, false), .inr (.int, 24, false), .inr (.int, 6, false), .inr (.int, 6, false), .inr (.long, 360, true), .inr (.long, 60, true)]
def k_flw (e : String × Nat × Nat × Nat × Bool) : Cond := match vwCl[e.2.2.1]? with
  | some q => if e.2.2.2.2 = true then .fieldLinkNest e.1 e.2.1 (q.2.1 e.2.2.2.1).1 (q.2.1 e.2.2.2.1).2.1 (q.2.1 e.2.2.2.1).2.2.1 "WheelSkips" else .fieldLink e.1 e.2.1 (q.2.1 e.2.2.2.1).1 (q.2.1 e.2.2.2.1).2.1 (q.2.1 e.2.2.2.1).2.2.1
  | none => .initialized ""
theorem k_fl0 : k_flw (RX11, 10, 11, 0, false) ∈ k_sel false := k_in (lw_T1 (List.mem_of_getElem? (i := 45) (by decide +kernel))) rfl
theorem k_fl1 : k_flw (RX11, 19, 11, 1, false) ∈ k_sel false := k_in (lw_T1 (List.mem_of_getElem? (i := 46) (by decide +kernel))) rfl
theorem k_fl2 : k_flw (RX11, 28, 11, 2, false) ∈ k_sel false := k_in (lw_T1 (List.mem_of_getElem? (i := 47) (by decide +kernel))) rfl
theorem k_fl3 : k_flw (RX11, 37, 11, 3, false) ∈ k_sel false := k_in (lw_T1 (List.mem_of_getElem? (i := 48) (by decide +kernel))) rfl
theorem k_fl4 : k_flw (RX11, 44, 11, 4, false) ∈ k_sel false := k_in (lw_T1 (List.mem_of_getElem? (i := 49) (by decide +kernel))) rfl
theorem k_fl5 : k_flw (RX11, 53, 11, 5, false) ∈ k_sel false := k_in (lw_T1 (List.mem_of_getElem? (i := 50) (by decide +kernel))) rfl
theorem k_fl6 : k_flw (RX11, 60, 11, 6, false) ∈ k_sel false := k_in (lw_T1 (List.mem_of_getElem? (i := 51) (by decide +kernel))) rfl
theorem k_fl7 : k_flw (RX11, 67, 11, 7, false) ∈ k_sel false := k_in (lw_T1 (List.mem_of_getElem? (i := 52) (by decide +kernel))) rfl
theorem k_fl8 : k_flw (RX11, 74, 11, 8, false) ∈ k_sel false := k_in (lw_T1 (List.mem_of_getElem? (i := 53) (by decide +kernel))) rfl
theorem k_fl9 : k_flw (RX11, 81, 11, 9, false) ∈ k_sel false := k_in (lw_T1 (List.mem_of_getElem? (i := 54) (by decide +kernel))) rfl
theorem k_fl10 : k_flw (RX11, 85, 11, 10, false) ∈ k_sel false := k_in (lw_T1 (List.mem_of_getElem? (i := 55) (by decide +kernel))) rfl
theorem k_fl11 : k_flw (RX11, 89, 9, 1, true) ∈ k_sel true := k_inN (lw_T0 (List.mem_of_getElem? (i := 32) (by decide +kernel))) rfl
theorem k_fl12 : k_flw (RX11, 96, 10, 3, true) ∈ k_sel true := k_inN (lw_T0 (List.mem_of_getElem? (i := 52) (by decide +kernel))) rfl
theorem k_fl13 : k_flw (RX11, 110, 6, 5, true) ∈ k_sel true := k_inN (lw_T0 (List.mem_of_getElem? (i := 142) (by decide +kernel))) rfl
theorem k_fl14 : k_flw (RX11, 113, 3, 5, true) ∈ k_sel true := k_inN (lw_T0 (List.mem_of_getElem? (i := 94) (by decide +kernel))) rfl
theorem k_fl15 : k_flw (RX11, 151, 6, 2, true) ∈ k_sel true := k_inN (lw_T0 (List.mem_of_getElem? (i := 136) (by decide +kernel))) rfl
theorem k_fl16 : k_flw (RX11, 160, 5, 2, true) ∈ k_sel true := k_inN (lw_T0 (List.mem_of_getElem? (i := 125) (by decide +kernel))) rfl
theorem k_fl17 : k_flw (RX11, 174, 6, 3, true) ∈ k_sel true := k_inN (lw_T0 (List.mem_of_getElem? (i := 139) (by decide +kernel))) rfl
theorem k_fl18 : k_flw (RX11, 213, 7, 3, true) ∈ k_sel true := k_inN (lw_T0 (List.mem_of_getElem? (i := 171) (by decide +kernel))) rfl
theorem k_fl19 : k_flw (RX11, 242, 2, 7, true) ∈ k_sel true := k_inN (lw_T0 (List.mem_of_getElem? (i := 197) (by decide +kernel))) rfl
theorem k_fl20 : k_flw (RX11, 245, 2, 5, true) ∈ k_sel true := k_inN (lw_T0 (List.mem_of_getElem? (i := 193) (by decide +kernel))) rfl
theorem k_fl21 : k_flw (RX11, 248, 2, 6, true) ∈ k_sel true := k_inN (lw_T0 (List.mem_of_getElem? (i := 195) (by decide +kernel))) rfl
theorem k_fl22 : k_flw (RX11, 258, 1, 4, true) ∈ k_sel true := k_inN (lw_T0 (List.mem_of_getElem? (i := 228) (by decide +kernel))) rfl
theorem k_fl23 : k_flw (RX11, 267, 1, 5, true) ∈ k_sel true := k_inN (lw_T0 (List.mem_of_getElem? (i := 230) (by decide +kernel))) rfl
theorem k_fl24 : k_flw (RX11, 273, 0, 2, true) ∈ k_sel true := k_inN (lw_T1 (List.mem_of_getElem? (i := 13) (by decide +kernel))) rfl
theorem k_fl25 : k_flw (RX11, 283, 0, 3, true) ∈ k_sel true := k_inN (lw_T1 (List.mem_of_getElem? (i := 15) (by decide +kernel))) rfl
theorem k_fl26 : k_flw (RX0, 9, 0, 0, false) ∈ k_sel false := k_in (lw_T1 (List.mem_of_getElem? (i := 10) (by decide +kernel))) rfl
theorem k_fl27 : k_flw (RX0, 15, 0, 1, false) ∈ k_sel false := k_in (lw_T1 (List.mem_of_getElem? (i := 11) (by decide +kernel))) rfl
theorem k_fl28 : k_flw (RX0, 18, 0, 2, false) ∈ k_sel false := k_in (lw_T1 (List.mem_of_getElem? (i := 12) (by decide +kernel))) rfl
theorem k_fl29 : k_flw (RX0, 25, 0, 3, false) ∈ k_sel false := k_in (lw_T1 (List.mem_of_getElem? (i := 14) (by decide +kernel))) rfl
theorem k_fl30 : k_flw (RX0, 28, 0, 4, false) ∈ k_sel false := k_in (lw_T1 (List.mem_of_getElem? (i := 16) (by decide +kernel))) rfl
theorem k_fl31 : k_flw (RX1, 9, 1, 0, false) ∈ k_sel false := k_in (lw_T0 (List.mem_of_getElem? (i := 223) (by decide +kernel))) rfl
theorem k_fl32 : k_flw (RX1, 15, 1, 1, false) ∈ k_sel false := k_in (lw_T0 (List.mem_of_getElem? (i := 224) (by decide +kernel))) rfl
theorem k_fl33 : k_flw (RX1, 18, 1, 2, false) ∈ k_sel false := k_in (lw_T0 (List.mem_of_getElem? (i := 225) (by decide +kernel))) rfl
theorem k_fl34 : k_flw (RX1, 21, 1, 3, false) ∈ k_sel false := k_in (lw_T0 (List.mem_of_getElem? (i := 226) (by decide +kernel))) rfl
theorem k_fl35 : k_flw (RX1, 24, 1, 4, false) ∈ k_sel false := k_in (lw_T0 (List.mem_of_getElem? (i := 227) (by decide +kernel))) rfl
theorem k_fl36 : k_flw (RX1, 35, 1, 5, false) ∈ k_sel false := k_in (lw_T0 (List.mem_of_getElem? (i := 229) (by decide +kernel))) rfl
theorem k_fl37 : k_flw (RX2, 11, 2, 3, false) ∈ k_sel false := k_in (lw_T0 (List.mem_of_getElem? (i := 190) (by decide +kernel))) rfl
theorem k_fl38 : k_flw (RX2, 15, 2, 4, false) ∈ k_sel false := k_in (lw_T0 (List.mem_of_getElem? (i := 191) (by decide +kernel))) rfl
theorem k_fl39 : k_flw (RX2, 18, 2, 0, false) ∈ k_sel false := k_in (lw_T0 (List.mem_of_getElem? (i := 187) (by decide +kernel))) rfl
theorem k_fl40 : k_flw (RX2, 22, 2, 1, false) ∈ k_sel false := k_in (lw_T0 (List.mem_of_getElem? (i := 188) (by decide +kernel))) rfl
theorem k_fl41 : k_flw (RX2, 26, 2, 2, false) ∈ k_sel false := k_in (lw_T0 (List.mem_of_getElem? (i := 189) (by decide +kernel))) rfl
theorem k_fl42 : k_flw (RX2, 30, 6, 3, true) ∈ k_sel true := k_inN (lw_T0 (List.mem_of_getElem? (i := 138) (by decide +kernel))) rfl
theorem k_fl43 : k_flw (RX2, 39, 7, 3, true) ∈ k_sel true := k_inN (lw_T0 (List.mem_of_getElem? (i := 169) (by decide +kernel))) rfl
theorem k_fl44 : k_flw (RX2, 52, 5, 2, true) ∈ k_sel true := k_inN (lw_T0 (List.mem_of_getElem? (i := 122) (by decide +kernel))) rfl
theorem k_fl45 : k_flw (RX2, 85, 2, 5, false) ∈ k_sel false := k_in (lw_T0 (List.mem_of_getElem? (i := 192) (by decide +kernel))) rfl
theorem k_fl46 : k_flw (RX2, 88, 2, 6, false) ∈ k_sel false := k_in (lw_T0 (List.mem_of_getElem? (i := 194) (by decide +kernel))) rfl
theorem k_fl47 : k_flw (RX2, 91, 2, 7, false) ∈ k_sel false := k_in (lw_T0 (List.mem_of_getElem? (i := 196) (by decide +kernel))) rfl
theorem k_fl48 : k_flw (RX2, 98, 6, 6, true) ∈ k_sel true := k_inN (lw_T0 (List.mem_of_getElem? (i := 144) (by decide +kernel))) rfl
theorem k_fl49 : k_flw (RX3, 11, 3, 1, false) ∈ k_sel false := k_in (lw_T0 (List.mem_of_getElem? (i := 89) (by decide +kernel))) rfl
theorem k_fl50 : k_flw (RX3, 15, 3, 2, false) ∈ k_sel false := k_in (lw_T0 (List.mem_of_getElem? (i := 90) (by decide +kernel))) rfl
theorem k_fl51 : k_flw (RX3, 23, 3, 0, false) ∈ k_sel false := k_in (lw_T0 (List.mem_of_getElem? (i := 88) (by decide +kernel))) rfl
theorem k_fl52 : k_flw (RX3, 31, 4, 2, true) ∈ k_sel true := k_inN (lw_T0 (List.mem_of_getElem? (i := 76) (by decide +kernel))) rfl
theorem k_fl53 : k_flw (RX3, 35, 3, 3, false) ∈ k_sel false := k_in (lw_T0 (List.mem_of_getElem? (i := 91) (by decide +kernel))) rfl
theorem k_fl54 : k_flw (RX3, 40, 3, 4, false) ∈ k_sel false := k_in (lw_T0 (List.mem_of_getElem? (i := 92) (by decide +kernel))) rfl
theorem k_fl55 : k_flw (RX3, 61, 3, 5, false) ∈ k_sel false := k_in (lw_T0 (List.mem_of_getElem? (i := 93) (by decide +kernel))) rfl
theorem k_fl56 : k_flw (RX4, 11, 4, 1, false) ∈ k_sel false := k_in (lw_T0 (List.mem_of_getElem? (i := 75) (by decide +kernel))) rfl
theorem k_fl57 : k_flw (RX4, 17, 4, 0, false) ∈ k_sel false := k_in (lw_T0 (List.mem_of_getElem? (i := 74) (by decide +kernel))) rfl
theorem k_fl58 : k_flw (RX4, 21, 4, 3, false) ∈ k_sel false := k_in (lw_T0 (List.mem_of_getElem? (i := 78) (by decide +kernel))) rfl
theorem k_fl59 : k_flw (RX4, 25, 4, 2, false) ∈ k_sel false := k_in (lw_T0 (List.mem_of_getElem? (i := 77) (by decide +kernel))) rfl
theorem k_fl60 : k_flw (RX4, 32, 9, 1, true) ∈ k_sel true := k_inN (lw_T0 (List.mem_of_getElem? (i := 33) (by decide +kernel))) rfl
theorem k_fl61 : k_flw (RX5, 9, 5, 0, false) ∈ k_sel false := k_in (lw_T0 (List.mem_of_getElem? (i := 120) (by decide +kernel))) rfl
theorem k_fl62 : k_flw (RX5, 15, 5, 1, false) ∈ k_sel false := k_in (lw_T0 (List.mem_of_getElem? (i := 121) (by decide +kernel))) rfl
theorem k_fl63 : k_flw (RX5, 18, 5, 2, false) ∈ k_sel false := k_in (lw_T0 (List.mem_of_getElem? (i := 124) (by decide +kernel))) rfl
theorem k_fl64 : k_flw (RX6, 12, 6, 2, false) ∈ k_sel false := k_in (lw_T0 (List.mem_of_getElem? (i := 135) (by decide +kernel))) rfl
theorem k_fl65 : k_flw (RX6, 18, 6, 3, false) ∈ k_sel false := k_in (lw_T0 (List.mem_of_getElem? (i := 137) (by decide +kernel))) rfl
theorem k_fl66 : k_flw (RX6, 21, 6, 4, false) ∈ k_sel false := k_in (lw_T0 (List.mem_of_getElem? (i := 140) (by decide +kernel))) rfl
theorem k_fl67 : k_flw (RX6, 25, 6, 5, false) ∈ k_sel false := k_in (lw_T0 (List.mem_of_getElem? (i := 141) (by decide +kernel))) rfl
theorem k_fl68 : k_flw (RX6, 29, 6, 6, false) ∈ k_sel false := k_in (lw_T0 (List.mem_of_getElem? (i := 143) (by decide +kernel))) rfl
theorem k_fl69 : k_flw (RX6, 32, 6, 0, false) ∈ k_sel false := k_in (lw_T0 (List.mem_of_getElem? (i := 133) (by decide +kernel))) rfl
theorem k_fl70 : k_flw (RX6, 36, 6, 1, false) ∈ k_sel false := k_in (lw_T0 (List.mem_of_getElem? (i := 134) (by decide +kernel))) rfl
theorem k_fl71 : k_flw (RX6, 40, 10, 3, true) ∈ k_sel true := k_inN (lw_T0 (List.mem_of_getElem? (i := 51) (by decide +kernel))) rfl
theorem k_fl72 : k_flw (RX6, 49, 5, 2, true) ∈ k_sel true := k_inN (lw_T0 (List.mem_of_getElem? (i := 123) (by decide +kernel))) rfl
theorem k_fl73 : k_flw (RX7, 9, 7, 0, false) ∈ k_sel false := k_in (lw_T0 (List.mem_of_getElem? (i := 166) (by decide +kernel))) rfl
theorem k_fl74 : k_flw (RX7, 15, 7, 1, false) ∈ k_sel false := k_in (lw_T0 (List.mem_of_getElem? (i := 167) (by decide +kernel))) rfl
theorem k_fl75 : k_flw (RX7, 18, 7, 2, false) ∈ k_sel false := k_in (lw_T0 (List.mem_of_getElem? (i := 168) (by decide +kernel))) rfl
theorem k_fl76 : k_flw (RX7, 21, 7, 3, false) ∈ k_sel false := k_in (lw_T0 (List.mem_of_getElem? (i := 170) (by decide +kernel))) rfl
theorem k_fl77 : k_flw (RX8, 9, 8, 0, false) ∈ k_sel false := k_in (lw_T1 (List.mem_of_getElem? (i := 34) (by decide +kernel))) rfl
theorem k_fl78 : k_flw (RX8, 15, 8, 1, false) ∈ k_sel false := k_in (lw_T1 (List.mem_of_getElem? (i := 35) (by decide +kernel))) rfl
theorem k_fl79 : k_flw (RX8, 18, 8, 2, false) ∈ k_sel false := k_in (lw_T1 (List.mem_of_getElem? (i := 36) (by decide +kernel))) rfl
theorem k_fl80 : k_flw (RX9, 9, 9, 0, false) ∈ k_sel false := k_in (lw_T0 (List.mem_of_getElem? (i := 30) (by decide +kernel))) rfl
theorem k_fl81 : k_flw (RX9, 15, 9, 1, false) ∈ k_sel false := k_in (lw_T0 (List.mem_of_getElem? (i := 31) (by decide +kernel))) rfl
theorem k_fl82 : k_flw (RX10, 9, 10, 0, false) ∈ k_sel false := k_in (lw_T0 (List.mem_of_getElem? (i := 47) (by decide +kernel))) rfl
theorem k_fl83 : k_flw (RX10, 15, 10, 1, false) ∈ k_sel false := k_in (lw_T0 (List.mem_of_getElem? (i := 48) (by decide +kernel))) rfl
theorem k_fl84 : k_flw (RX10, 18, 10, 2, false) ∈ k_sel false := k_in (lw_T0 (List.mem_of_getElem? (i := 49) (by decide +kernel))) rfl
theorem k_fl85 : k_flw (RX10, 21, 10, 3, false) ∈ k_sel false := k_in (lw_T0 (List.mem_of_getElem? (i := 50) (by decide +kernel))) rfl
theorem k_fl86 : k_flw (RX10, 29, 9, 1, true) ∈ k_sel true := k_inN (lw_T0 (List.mem_of_getElem? (i := 34) (by decide +kernel))) rfl
theorem k_fl87 : k_flw (RX12, 7, 12, 1, false) ∈ k_sel false := k_in (lw_T3 (List.mem_of_getElem? (i := 193) (by decide +kernel))) rfl
theorem k_fl88 : k_flw (RX12, 13, 12, 4, false) ∈ k_sel false := k_in (lw_T3 (List.mem_of_getElem? (i := 196) (by decide +kernel))) rfl
theorem k_fl89 : k_flw (RX12, 17, 12, 5, false) ∈ k_sel false := k_in (lw_T3 (List.mem_of_getElem? (i := 197) (by decide +kernel))) rfl
theorem k_fl90 : k_flw (RX12, 20, 12, 6, false) ∈ k_sel false := k_in (lw_T3 (List.mem_of_getElem? (i := 198) (by decide +kernel))) rfl
theorem k_fl91 : k_flw (RX12, 23, 12, 7, false) ∈ k_sel false := k_in (lw_T3 (List.mem_of_getElem? (i := 199) (by decide +kernel))) rfl
theorem k_fl92 : k_flw (RX12, 26, 12, 8, false) ∈ k_sel false := k_in (lw_T3 (List.mem_of_getElem? (i := 200) (by decide +kernel))) rfl
theorem k_fl93 : k_flw (RX12, 29, 12, 10, false) ∈ k_sel false := k_in (lw_T3 (List.mem_of_getElem? (i := 202) (by decide +kernel))) rfl
theorem k_fl94 : k_flw (RX12, 33, 12, 16, false) ∈ k_sel false := k_in (lw_T3 (List.mem_of_getElem? (i := 208) (by decide +kernel))) rfl
theorem k_fl95 : k_flw (RX12, 36, 12, 17, false) ∈ k_sel false := k_in (lw_T3 (List.mem_of_getElem? (i := 209) (by decide +kernel))) rfl
theorem k_fl96 : k_flw (RX12, 39, 12, 18, false) ∈ k_sel false := k_in (lw_T3 (List.mem_of_getElem? (i := 210) (by decide +kernel))) rfl
theorem k_fl97 : k_flw (RX12, 42, 12, 19, false) ∈ k_sel false := k_in (lw_T3 (List.mem_of_getElem? (i := 211) (by decide +kernel))) rfl
theorem k_fl98 : k_flw (RX12, 46, 12, 20, false) ∈ k_sel false := k_in (lw_T3 (List.mem_of_getElem? (i := 212) (by decide +kernel))) rfl
theorem k_fl99 : k_flw (RX12, 49, 12, 21, false) ∈ k_sel false := k_in (lw_T3 (List.mem_of_getElem? (i := 213) (by decide +kernel))) rfl
theorem k_fl100 : k_flw (RX12, 52, 12, 22, false) ∈ k_sel false := k_in (lw_T3 (List.mem_of_getElem? (i := 214) (by decide +kernel))) rfl
theorem k_fl101 : k_flw (RX12, 55, 12, 26, false) ∈ k_sel false := k_in (lw_T3 (List.mem_of_getElem? (i := 218) (by decide +kernel))) rfl
theorem k_fl102 : k_flw (RX12, 58, 12, 27, false) ∈ k_sel false := k_in (lw_T3 (List.mem_of_getElem? (i := 219) (by decide +kernel))) rfl
theorem k_fl103 : k_flw (RX12, 61, 12, 28, false) ∈ k_sel false := k_in (lw_T3 (List.mem_of_getElem? (i := 220) (by decide +kernel))) rfl
theorem k_fl104 : k_flw (RX12, 64, 12, 29, false) ∈ k_sel false := k_in (lw_T3 (List.mem_of_getElem? (i := 221) (by decide +kernel))) rfl
theorem k_fl105 : k_flw (RX12, 67, 12, 31, false) ∈ k_sel false := k_in (lw_T3 (List.mem_of_getElem? (i := 223) (by decide +kernel))) rfl
theorem k_fl106 : k_flw (RX12, 70, 12, 32, false) ∈ k_sel false := k_in (lw_T3 (List.mem_of_getElem? (i := 224) (by decide +kernel))) rfl
theorem k_fl107 : k_flw (RX12, 73, 12, 33, false) ∈ k_sel false := k_in (lw_T3 (List.mem_of_getElem? (i := 225) (by decide +kernel))) rfl
theorem k_fl108 : k_flw (RX12, 77, 12, 34, false) ∈ k_sel false := k_in (lw_T3 (List.mem_of_getElem? (i := 226) (by decide +kernel))) rfl
theorem k_fl109 : k_flw (RX12, 80, 12, 36, false) ∈ k_sel false := k_in (lw_T3 (List.mem_of_getElem? (i := 228) (by decide +kernel))) rfl
theorem k_fl110 : k_flw (RX12, 83, 12, 37, false) ∈ k_sel false := k_in (lw_T3 (List.mem_of_getElem? (i := 229) (by decide +kernel))) rfl
theorem k_fl111 : k_flw (RX12, 86, 12, 38, false) ∈ k_sel false := k_in (lw_T3 (List.mem_of_getElem? (i := 230) (by decide +kernel))) rfl
theorem k_fl112 : k_flw (RX12, 89, 12, 39, false) ∈ k_sel false := k_in (lw_T3 (List.mem_of_getElem? (i := 231) (by decide +kernel))) rfl
theorem k_fl113 : k_flw (RX12, 92, 12, 43, false) ∈ k_sel false := k_in (lw_T3 (List.mem_of_getElem? (i := 235) (by decide +kernel))) rfl
theorem k_fl114 : k_flw (RX12, 95, 12, 44, false) ∈ k_sel false := k_in (lw_T3 (List.mem_of_getElem? (i := 236) (by decide +kernel))) rfl
theorem k_fl115 : k_flw (RX12, 98, 12, 46, false) ∈ k_sel false := k_in (lw_T3 (List.mem_of_getElem? (i := 238) (by decide +kernel))) rfl
theorem k_fl116 : k_flw (RX12, 101, 12, 48, false) ∈ k_sel false := k_in (lw_T4 (List.mem_of_getElem? (i := 0) (by decide +kernel))) rfl
theorem k_fl117 : k_flw (RX12, 104, 12, 49, false) ∈ k_sel false := k_in (lw_T4 (List.mem_of_getElem? (i := 1) (by decide +kernel))) rfl
theorem k_fl118 : k_flw (RX12, 107, 12, 50, false) ∈ k_sel false := k_in (lw_T4 (List.mem_of_getElem? (i := 2) (by decide +kernel))) rfl
theorem k_fl119 : k_flw (RX12, 110, 12, 51, false) ∈ k_sel false := k_in (lw_T4 (List.mem_of_getElem? (i := 3) (by decide +kernel))) rfl
theorem k_fl120 : k_flw (RX12, 114, 12, 52, false) ∈ k_sel false := k_in (lw_T4 (List.mem_of_getElem? (i := 4) (by decide +kernel))) rfl
theorem k_fl121 : k_flw (RX12, 124, 12, 2, false) ∈ k_sel false := k_in (lw_T3 (List.mem_of_getElem? (i := 194) (by decide +kernel))) rfl
theorem k_fl122 : k_flw (RX12, 127, 12, 3, false) ∈ k_sel false := k_in (lw_T3 (List.mem_of_getElem? (i := 195) (by decide +kernel))) rfl
theorem k_fl123 : k_flw (RX12, 134, 12, 12, false) ∈ k_sel false := k_in (lw_T3 (List.mem_of_getElem? (i := 204) (by decide +kernel))) rfl
theorem k_fl124 : k_flw (RX12, 137, 12, 13, false) ∈ k_sel false := k_in (lw_T3 (List.mem_of_getElem? (i := 205) (by decide +kernel))) rfl
theorem k_fl125 : k_flw (RX12, 140, 12, 15, false) ∈ k_sel false := k_in (lw_T3 (List.mem_of_getElem? (i := 207) (by decide +kernel))) rfl
theorem k_fl126 : k_flw (RX12, 143, 12, 14, false) ∈ k_sel false := k_in (lw_T3 (List.mem_of_getElem? (i := 206) (by decide +kernel))) rfl
theorem k_fl127 : k_flw (RX12, 199, 12, 23, false) ∈ k_sel false := k_in (lw_T3 (List.mem_of_getElem? (i := 215) (by decide +kernel))) rfl
theorem k_fl128 : k_flw (RX12, 203, 12, 9, false) ∈ k_sel false := k_in (lw_T3 (List.mem_of_getElem? (i := 201) (by decide +kernel))) rfl
theorem k_fl129 : k_flw (RX12, 207, 12, 11, false) ∈ k_sel false := k_in (lw_T3 (List.mem_of_getElem? (i := 203) (by decide +kernel))) rfl
theorem k_fl130 : k_flw (RX12, 218, 12, 25, false) ∈ k_sel false := k_in (lw_T3 (List.mem_of_getElem? (i := 217) (by decide +kernel))) rfl
theorem k_fl131 : k_flw (RX12, 221, 12, 24, false) ∈ k_sel false := k_in (lw_T3 (List.mem_of_getElem? (i := 216) (by decide +kernel))) rfl
theorem k_fl132 : k_flw (RX12, 240, 12, 30, false) ∈ k_sel false := k_in (lw_T3 (List.mem_of_getElem? (i := 222) (by decide +kernel))) rfl
theorem k_fl133 : k_flw (RX12, 262, 12, 35, false) ∈ k_sel false := k_in (lw_T3 (List.mem_of_getElem? (i := 227) (by decide +kernel))) rfl
theorem k_fl134 : k_flw (RX12, 287, 12, 40, false) ∈ k_sel false := k_in (lw_T3 (List.mem_of_getElem? (i := 232) (by decide +kernel))) rfl
theorem k_fl135 : k_flw (RX12, 290, 12, 41, false) ∈ k_sel false := k_in (lw_T3 (List.mem_of_getElem? (i := 233) (by decide +kernel))) rfl
theorem k_fl136 : k_flw (RX12, 293, 12, 42, false) ∈ k_sel false := k_in (lw_T3 (List.mem_of_getElem? (i := 234) (by decide +kernel))) rfl
theorem k_fl137 : k_flw (RX12, 296, 12, 45, false) ∈ k_sel false := k_in (lw_T3 (List.mem_of_getElem? (i := 237) (by decide +kernel))) rfl
theorem k_fl138 : k_flw (RX12, 299, 12, 47, false) ∈ k_sel false := k_in (lw_T3 (List.mem_of_getElem? (i := 239) (by decide +kernel))) rfl
theorem k_u0 : ∀ w ∈ u_ws RX0 TX0 5, w ∈ k_tbl := k_pick [(1, 17), (1, 19), (1, 21), (1, 23), (1, 25)] (by decide +kernel) (by decide +kernel)
theorem k_u1 : ∀ w ∈ u_ws RX1 TX1 6, w ∈ k_tbl := k_pick [(0, 231), (0, 233), (0, 235), (0, 237), (0, 239), (1, 1)] (by decide +kernel) (by decide +kernel)
theorem k_u2 : ∀ w ∈ u_ws RX2 TX2 8, w ∈ k_tbl := k_pick [(0, 198), (0, 200), (0, 202), (0, 204), (0, 206), (0, 208), (0, 210), (0, 212)] (by decide +kernel) (by decide +kernel)
theorem k_u3 : ∀ w ∈ u_ws RX3 TX3 6, w ∈ k_tbl := k_pick [(0, 95), (0, 97), (0, 99), (0, 101), (0, 103), (0, 105)] (by decide +kernel) (by decide +kernel)
theorem k_u4 : ∀ w ∈ u_ws RX4 TX4 4, w ∈ k_tbl := k_pick [(0, 79), (0, 81), (0, 83), (0, 85)] (by decide +kernel) (by decide +kernel)
theorem k_u5 : ∀ w ∈ u_ws RX5 TX5 3, w ∈ k_tbl := k_pick [(0, 126), (0, 128), (0, 130)] (by decide +kernel) (by decide +kernel)
theorem k_u6 : ∀ w ∈ u_ws RX6 TX6 7, w ∈ k_tbl := k_pick [(0, 145), (0, 147), (0, 149), (0, 151), (0, 153), (0, 155), (0, 157)] (by decide +kernel) (by decide +kernel)
theorem k_u7 : ∀ w ∈ u_ws RX7 TX7 4, w ∈ k_tbl := k_pick [(0, 172), (0, 174), (0, 176), (0, 178)] (by decide +kernel) (by decide +kernel)
theorem k_u8 : ∀ w ∈ u_ws RX8 TX8 3, w ∈ k_tbl := k_pick [(1, 37), (1, 39), (1, 41)] (by decide +kernel) (by decide +kernel)
theorem k_u9 : ∀ w ∈ u_ws RX9 TX9 2, w ∈ k_tbl := k_pick [(0, 35), (0, 37)] (by decide +kernel) (by decide +kernel)
theorem k_u10 : ∀ w ∈ u_ws RX10 TX10 4, w ∈ k_tbl := k_pick [(0, 53), (0, 55), (0, 57), (0, 59)] (by decide +kernel) (by decide +kernel)
theorem k_u11 : ∀ w ∈ u_ws RX11 TX11 11, w ∈ k_tbl := k_pick [(1, 56), (1, 58), (1, 60), (1, 62), (1, 64), (1, 66), (1, 68), (1, 70), (1, 72), (1, 74), (1, 76)] (by decide +kernel) (by decide +kernel)
theorem k_u12 : ∀ w ∈ u_ws RX12 TX12 53, w ∈ k_tbl := k_pick [(4, 5), (4, 7), (4, 9), (4, 11), (4, 13), (4, 15), (4, 17), (4, 19), (4, 21), (4, 23), (4, 25), (4, 27), (4, 29), (4, 31), (4, 33), (4, 35), (4, 37), (4, 39), (4, 41), (4, 43), (4, 45), (4, 47), (4, 49), (4, 51), (4, 53), (4, 55), (4, 57), (4, 59), (4, 61), (4, 63), (4, 65), (4, 67), (4, 69), (4, 71), (4, 73), (4, 75), (4, 77), (4, 79), (4, 81), (4, 83), (4, 85), (4, 87), (4, 89), (4, 91), (4, 93), (4, 95), (4, 97), (4, 99), (4, 101), (4, 103), (4, 105), (4, 107), (4, 109)] (by decide +kernel) (by decide +kernel)
theorem k_cls_in : ∀ q ∈ vwCl, ∀ w ∈ u_ws q.1 q.2.1 q.2.2, w ∈ k_tbl := by
  intro q hq
  simp only [vwCl, List.mem_cons, List.not_mem_nil, or_false] at hq
  rcases hq with rfl | rfl | rfl | rfl | rfl | rfl | rfl | rfl | rfl | rfl | rfl | rfl | rfl
  · exact k_u0
  · exact k_u1
  · exact k_u2
  · exact k_u3
  · exact k_u4
  · exact k_u5
  · exact k_u6
  · exact k_u7
  · exact k_u8
  · exact k_u9
  · exact k_u10
  · exact k_u11
  · exact k_u12
def k_dec (b : ByteArray) (t : List (List (Nat × Instr × Nat))) : Bool := t.all (fun r => r.all (fun e => decide (decode b e.1 = .ok (e.2.1, e.2.2))))
theorem k_dec_app {b : ByteArray} {s t : List (List (Nat × Instr × Nat))} (h1 : k_dec b s = true) (h2 : k_dec b t = true) : k_dec b (s ++ t) = true := by
  unfold k_dec at *
  rw [List.all_append, h1, h2]; rfl
theorem k_ml0 : Cond.methodLinkNest RX11 9 yX9_init "WheelSkips" ∈ k_nest := k_inN (lw_T0 (List.mem_of_getElem? (i := 26) (by decide +kernel))) rfl
theorem k_ml1 : Cond.methodLinkNest RX11 18 yX10_init "WheelSkips" ∈ k_nest := k_inN (lw_T0 (List.mem_of_getElem? (i := 43) (by decide +kernel))) rfl
theorem k_ml2 : Cond.methodLink RX11 25 yX3_init ∈ k_tbl := k_in (lw_T0 (List.mem_of_getElem? (i := 64) (by decide +kernel))) rfl
theorem k_ml3 : Cond.methodLink RX11 34 yX6_init ∈ k_tbl := k_in (lw_T0 (List.mem_of_getElem? (i := 110) (by decide +kernel))) rfl
theorem k_ml4 : Cond.methodLinkNest RX11 43 yX7_init "WheelSkips" ∈ k_nest := k_inN (lw_T0 (List.mem_of_getElem? (i := 162) (by decide +kernel))) rfl
theorem k_ml5 : Cond.methodLink RX11 50 yX2_init ∈ k_tbl := k_in (lw_T0 (List.mem_of_getElem? (i := 183) (by decide +kernel))) rfl
theorem k_ml6 : Cond.methodLinkNest RX11 59 yX5_init "WheelSkips" ∈ k_nest := k_inN (lw_T0 (List.mem_of_getElem? (i := 216) (by decide +kernel))) rfl
theorem k_ml7 : Cond.methodLinkNest RX11 66 yX1_init "WheelSkips" ∈ k_nest := k_inN (lw_T0 (List.mem_of_getElem? (i := 219) (by decide +kernel))) rfl
theorem k_ml8 : Cond.methodLinkNest RX11 73 yX0_init "WheelSkips" ∈ k_nest := k_inN (lw_T1 (List.mem_of_getElem? (i := 6) (by decide +kernel))) rfl
theorem k_ml9 : Cond.methodLink RX11 80 yX8_init ∈ k_tbl := k_in (lw_T1 (List.mem_of_getElem? (i := 30) (by decide +kernel))) rfl
theorem k_ml10 : Cond.methodLink RX11 92 yX9_append ∈ k_tbl := k_in (lw_T1 (List.mem_of_getElem? (i := 83) (by decide +kernel))) rfl
theorem k_ml11 : Cond.methodLink RX11 99 yX10_faultOf ∈ k_tbl := k_in (lw_T1 (List.mem_of_getElem? (i := 91) (by decide +kernel))) rfl
theorem k_ml12 : Cond.methodLink RX11 103 yX10_cutFrom ∈ k_tbl := k_in (lw_T1 (List.mem_of_getElem? (i := 102) (by decide +kernel))) rfl
theorem k_ml13 : Cond.methodLink RX11 106 yX3_takeFromTape ∈ k_tbl := k_in (lw_T1 (List.mem_of_getElem? (i := 114) (by decide +kernel))) rfl
theorem k_ml14 : Cond.methodLink RX11 117 yX10_has ∈ k_tbl := k_in (lw_T1 (List.mem_of_getElem? (i := 183) (by decide +kernel))) rfl
theorem k_ml15 : Cond.methodLink RX11 121 yX10_breakOf ∈ k_tbl := k_in (lw_T1 (List.mem_of_getElem? (i := 187) (by decide +kernel))) rfl
theorem k_ml16 : Cond.methodLink RX11 125 yX10_setBreak ∈ k_tbl := k_in (lw_T1 (List.mem_of_getElem? (i := 191) (by decide +kernel))) rfl
theorem k_ml17 : Cond.methodLink RX11 129 yX1_add ∈ k_tbl := k_in (lw_T1 (List.mem_of_getElem? (i := 195) (by decide +kernel))) rfl
theorem k_ml18 : Cond.methodLink RX11 133 yX10_hasPlace ∈ k_tbl := k_in (lw_T1 (List.mem_of_getElem? (i := 227) (by decide +kernel))) rfl
theorem k_ml19 : Cond.methodLink RX11 137 yX11_isTooth ∈ k_tbl := k_in (lw_T1 (List.mem_of_getElem? (i := 232) (by decide +kernel))) rfl
theorem k_ml20 : Cond.methodLink RX11 140 yX10_letterAt ∈ k_tbl := k_in (lw_T1 (List.mem_of_getElem? (i := 233) (by decide +kernel))) rfl
theorem k_ml21 : Cond.methodLink RX11 144 yX10_setLetter ∈ k_tbl := k_in (lw_T1 (List.mem_of_getElem? (i := 237) (by decide +kernel))) rfl
theorem k_ml22 : Cond.methodLink RX11 148 yX10_sizeOf ∈ k_tbl := k_in (lw_T2 (List.mem_of_getElem? (i := 2) (by decide +kernel))) rfl
theorem k_ml23 : Cond.methodLink RX11 154 yX5_placeOf ∈ k_tbl := k_in (lw_T2 (List.mem_of_getElem? (i := 6) (by decide +kernel))) rfl
theorem k_ml24 : Cond.methodLink RX11 157 yX5_waitsOf ∈ k_tbl := k_in (lw_T2 (List.mem_of_getElem? (i := 10) (by decide +kernel))) rfl
theorem k_ml25 : Cond.methodLink RX11 164 yX6_pass ∈ k_tbl := k_in (lw_T2 (List.mem_of_getElem? (i := 19) (by decide +kernel))) rfl
theorem k_ml26 : Cond.methodLink RX11 168 yX5_stand ∈ k_tbl := k_in (lw_T2 (List.mem_of_getElem? (i := 64) (by decide +kernel))) rfl
theorem k_ml27 : Cond.methodLink RX11 171 yX6_think ∈ k_tbl := k_in (lw_T2 (List.mem_of_getElem? (i := 69) (by decide +kernel))) rfl
theorem k_ml28 : Cond.methodLink RX11 177 yX6_dayOf ∈ k_tbl := k_in (lw_T2 (List.mem_of_getElem? (i := 84) (by decide +kernel))) rfl
theorem k_ml29 : Cond.methodLink RX11 180 yX6_timesOfDay ∈ k_tbl := k_in (lw_T2 (List.mem_of_getElem? (i := 92) (by decide +kernel))) rfl
theorem k_ml30 : Cond.methodLink RX11 183 yX6_unshown ∈ k_tbl := k_in (lw_T2 (List.mem_of_getElem? (i := 103) (by decide +kernel))) rfl
theorem k_ml31 : Cond.methodLink RX11 187 yX11_isSpot ∈ k_tbl := k_in (lw_T2 (List.mem_of_getElem? (i := 115) (by decide +kernel))) rfl
theorem k_ml32 : Cond.methodLink RX11 190 yX6_timesAt ∈ k_tbl := k_in (lw_T2 (List.mem_of_getElem? (i := 119) (by decide +kernel))) rfl
theorem k_ml33 : Cond.methodLink RX11 194 yX6_firstOfBoth ∈ k_tbl := k_in (lw_T2 (List.mem_of_getElem? (i := 127) (by decide +kernel))) rfl
theorem k_ml34 : Cond.methodLink RX11 198 yX6_firstAsNow ∈ k_tbl := k_in (lw_T2 (List.mem_of_getElem? (i := 136) (by decide +kernel))) rfl
theorem k_ml35 : Cond.methodLink RX11 201 yX6_nightsTo ∈ k_tbl := k_in (lw_T2 (List.mem_of_getElem? (i := 148) (by decide +kernel))) rfl
theorem k_ml36 : Cond.methodLink RX11 204 yX6_wrongDays ∈ k_tbl := k_in (lw_T2 (List.mem_of_getElem? (i := 156) (by decide +kernel))) rfl
theorem k_ml37 : Cond.methodLink RX11 207 yX6_nearest ∈ k_tbl := k_in (lw_T2 (List.mem_of_getElem? (i := 160) (by decide +kernel))) rfl
theorem k_ml38 : Cond.methodLink RX11 210 yX11_isRecord ∈ k_tbl := k_in (lw_T2 (List.mem_of_getElem? (i := 172) (by decide +kernel))) rfl
theorem k_ml39 : Cond.methodLink RX11 214 yX7_add ∈ k_tbl := k_in (lw_T2 (List.mem_of_getElem? (i := 175) (by decide +kernel))) rfl
theorem k_ml40 : Cond.methodLink RX11 216 yX8_has ∈ k_tbl := k_in (lw_T2 (List.mem_of_getElem? (i := 187) (by decide +kernel))) rfl
theorem k_ml41 : Cond.methodLink RX11 217 yX8_heldBy ∈ k_tbl := k_in (lw_T2 (List.mem_of_getElem? (i := 191) (by decide +kernel))) rfl
theorem k_ml42 : Cond.methodLink RX11 220 yX8_hasElement ∈ k_tbl := k_in (lw_T2 (List.mem_of_getElem? (i := 196) (by decide +kernel))) rfl
theorem k_ml43 : Cond.methodLink RX11 223 yX8_valueAt ∈ k_tbl := k_in (lw_T2 (List.mem_of_getElem? (i := 205) (by decide +kernel))) rfl
theorem k_ml44 : Cond.methodLink RX11 227 yX2_firstWrong ∈ k_tbl := k_in (lw_T2 (List.mem_of_getElem? (i := 217) (by decide +kernel))) rfl
theorem k_ml45 : Cond.methodLink RX11 231 yX2_fitting ∈ k_tbl := k_in (lw_T2 (List.mem_of_getElem? (i := 237) (by decide +kernel))) rfl
theorem k_ml46 : Cond.methodLink RX11 234 yJ6_bitCount_0f7a4 ∈ k_tbl := k_in (lw_T3 (List.mem_of_getElem? (i := 10) (by decide +kernel))) rfl
theorem k_ml47 : Cond.methodLink RX11 239 yX2_tryBreaks ∈ k_tbl := k_in (lw_T3 (List.mem_of_getElem? (i := 20) (by decide +kernel))) rfl
theorem k_ml48 : Cond.methodLink RX11 251 yX2_fewestNights ∈ k_tbl := k_in (lw_T3 (List.mem_of_getElem? (i := 30) (by decide +kernel))) rfl
theorem k_ml49 : Cond.methodLink RX11 254 yX5_become ∈ k_tbl := k_in (lw_T3 (List.mem_of_getElem? (i := 51) (by decide +kernel))) rfl
theorem k_ml50 : Cond.methodLink RX11 261 yX1_beforeAt ∈ k_tbl := k_in (lw_T3 (List.mem_of_getElem? (i := 60) (by decide +kernel))) rfl
theorem k_ml51 : Cond.methodLink RX11 264 yX11_apply ∈ k_tbl := k_in (lw_T3 (List.mem_of_getElem? (i := 61) (by decide +kernel))) rfl
theorem k_ml52 : Cond.methodLink RX11 270 yX1_afterAt ∈ k_tbl := k_in (lw_T3 (List.mem_of_getElem? (i := 71) (by decide +kernel))) rfl
theorem k_ml53 : Cond.methodLink RX11 274 yX0_add ∈ k_tbl := k_in (lw_T3 (List.mem_of_getElem? (i := 76) (by decide +kernel))) rfl
theorem k_ml54 : Cond.methodLink RX11 276 yX0_forgetTrace ∈ k_tbl := k_in (lw_T3 (List.mem_of_getElem? (i := 84) (by decide +kernel))) rfl
theorem k_ml55 : Cond.methodLink RX11 279 yX0_has ∈ k_tbl := k_in (lw_T3 (List.mem_of_getElem? (i := 88) (by decide +kernel))) rfl
theorem k_ml56 : Cond.methodLink RX11 280 yX0_perform ∈ k_tbl := k_in (lw_T3 (List.mem_of_getElem? (i := 92) (by decide +kernel))) rfl
theorem k_ml57 : Cond.methodLink RX11 286 yX0_tracedAt ∈ k_tbl := k_in (lw_T3 (List.mem_of_getElem? (i := 123) (by decide +kernel))) rfl
theorem k_ml58 : Cond.methodLink RX11 289 yX8_hold ∈ k_tbl := k_in (lw_T3 (List.mem_of_getElem? (i := 131) (by decide +kernel))) rfl
theorem k_ml59 : Cond.methodLink RX11 292 yX8_refusalAt ∈ k_tbl := k_in (lw_T3 (List.mem_of_getElem? (i := 143) (by decide +kernel))) rfl
theorem k_ml60 : Cond.methodLink RX11 295 yX8_write ∈ k_tbl := k_in (lw_T3 (List.mem_of_getElem? (i := 147) (by decide +kernel))) rfl
theorem k_ml61 : Cond.methodLink RX11 303 yX8_hasPart ∈ k_tbl := k_in (lw_T3 (List.mem_of_getElem? (i := 163) (by decide +kernel))) rfl
theorem k_ml62 : Cond.methodLink RX11 307 yX8_move ∈ k_tbl := k_in (lw_T3 (List.mem_of_getElem? (i := 167) (by decide +kernel))) rfl
theorem k_ml63 : Cond.methodLink RX11 311 yX8_sizeOf ∈ k_tbl := k_in (lw_T3 (List.mem_of_getElem? (i := 177) (by decide +kernel))) rfl
theorem k_ml64 : Cond.methodLink RX11 312 yX0_kindOf ∈ k_tbl := k_in (lw_T3 (List.mem_of_getElem? (i := 178) (by decide +kernel))) rfl
theorem k_ml65 : Cond.methodLink RX11 315 yX0_isUnder ∈ k_tbl := k_in (lw_T3 (List.mem_of_getElem? (i := 179) (by decide +kernel))) rfl
theorem k_ml66 : Cond.methodLink RX11 318 yX1_wheelAt ∈ k_tbl := k_in (lw_T3 (List.mem_of_getElem? (i := 65) (by decide +kernel))) rfl
theorem k_ml67 : Cond.methodLink RX11 321 yX1_placeAt ∈ k_tbl := k_in (lw_T3 (List.mem_of_getElem? (i := 66) (by decide +kernel))) rfl
theorem k_ml68 : Cond.methodLink RX0 31 yX0_call ∈ k_tbl := k_in (lw_T3 (List.mem_of_getElem? (i := 96) (by decide +kernel))) rfl
theorem k_ml69 : Cond.methodLink RX0 35 yX0_kindOf ∈ k_tbl := k_in (lw_T3 (List.mem_of_getElem? (i := 100) (by decide +kernel))) rfl
theorem k_ml70 : Cond.methodLink RX0 39 yX0_bodyFor ∈ k_tbl := k_in (lw_T3 (List.mem_of_getElem? (i := 104) (by decide +kernel))) rfl
theorem k_ml71 : Cond.methodLink RX0 43 yX0_run ∈ k_tbl := k_in (lw_T3 (List.mem_of_getElem? (i := 111) (by decide +kernel))) rfl
theorem k_ml72 : Cond.methodLink RX0 49 yX0_above ∈ k_tbl := k_in (lw_T3 (List.mem_of_getElem? (i := 115) (by decide +kernel))) rfl
theorem k_ml73 : Cond.methodLink RX1 28 yX1_dropOldest ∈ k_tbl := k_in (lw_T1 (List.mem_of_getElem? (i := 199) (by decide +kernel))) rfl
theorem k_ml74 : Cond.methodLink RX1 31 yX1_write ∈ k_tbl := k_in (lw_T1 (List.mem_of_getElem? (i := 219) (by decide +kernel))) rfl
theorem k_ml75 : Cond.methodLink RX1 38 yX1_wheelAt ∈ k_tbl := k_in (lw_T1 (List.mem_of_getElem? (i := 203) (by decide +kernel))) rfl
theorem k_ml76 : Cond.methodLink RX1 42 yX1_placeAt ∈ k_tbl := k_in (lw_T1 (List.mem_of_getElem? (i := 207) (by decide +kernel))) rfl
theorem k_ml77 : Cond.methodLink RX1 45 yX1_beforeAt ∈ k_tbl := k_in (lw_T1 (List.mem_of_getElem? (i := 211) (by decide +kernel))) rfl
theorem k_ml78 : Cond.methodLink RX1 48 yX1_afterAt ∈ k_tbl := k_in (lw_T1 (List.mem_of_getElem? (i := 215) (by decide +kernel))) rfl
theorem k_ml79 : Cond.methodLink RX2 36 yX6_think ∈ k_tbl := k_in (lw_T2 (List.mem_of_getElem? (i := 221) (by decide +kernel))) rfl
theorem k_ml80 : Cond.methodLink RX2 45 yX7_inOrder ∈ k_tbl := k_in (lw_T2 (List.mem_of_getElem? (i := 222) (by decide +kernel))) rfl
theorem k_ml81 : Cond.methodLink RX2 49 yX7_nightOf ∈ k_tbl := k_in (lw_T2 (List.mem_of_getElem? (i := 226) (by decide +kernel))) rfl
theorem k_ml82 : Cond.methodLink RX2 57 yX6_pass ∈ k_tbl := k_in (lw_T2 (List.mem_of_getElem? (i := 227) (by decide +kernel))) rfl
theorem k_ml83 : Cond.methodLink RX2 61 yX5_placeOf ∈ k_tbl := k_in (lw_T2 (List.mem_of_getElem? (i := 228) (by decide +kernel))) rfl
theorem k_ml84 : Cond.methodLink RX2 64 yX7_placeOf ∈ k_tbl := k_in (lw_T2 (List.mem_of_getElem? (i := 229) (by decide +kernel))) rfl
theorem k_ml85 : Cond.methodLink RX2 65 yX10_letterAt ∈ k_tbl := k_in (lw_T3 (List.mem_of_getElem? (i := 1) (by decide +kernel))) rfl
theorem k_ml86 : Cond.methodLink RX2 74 yX10_setLetter ∈ k_tbl := k_in (lw_T3 (List.mem_of_getElem? (i := 4) (by decide +kernel))) rfl
theorem k_ml87 : Cond.methodLink RX2 78 yX2_firstWrong ∈ k_tbl := k_in (lw_T3 (List.mem_of_getElem? (i := 5) (by decide +kernel))) rfl
theorem k_ml88 : Cond.methodLink RX2 82 yX10_breakOf ∈ k_tbl := k_in (lw_T3 (List.mem_of_getElem? (i := 24) (by decide +kernel))) rfl
theorem k_ml89 : Cond.methodLink RX2 94 yX10_setBreak ∈ k_tbl := k_in (lw_T3 (List.mem_of_getElem? (i := 25) (by decide +kernel))) rfl
theorem k_ml90 : Cond.methodLink RX2 101 yJ6_bitCount_0f7a4 ∈ k_tbl := k_in (lw_T3 (List.mem_of_getElem? (i := 34) (by decide +kernel))) rfl
theorem k_ml91 : Cond.methodLink RX2 106 yX2_watchLetters ∈ k_tbl := k_in (lw_T3 (List.mem_of_getElem? (i := 35) (by decide +kernel))) rfl
theorem k_ml92 : Cond.methodLink RX2 110 yX2_compareLetters ∈ k_tbl := k_in (lw_T3 (List.mem_of_getElem? (i := 39) (by decide +kernel))) rfl
theorem k_ml93 : Cond.methodLink RX2 113 yX2_tellApart ∈ k_tbl := k_in (lw_T3 (List.mem_of_getElem? (i := 43) (by decide +kernel))) rfl
theorem k_ml94 : Cond.methodLink RX3 20 yX4_init ∈ k_tbl := k_in (lw_T0 (List.mem_of_getElem? (i := 70) (by decide +kernel))) rfl
theorem k_ml95 : Cond.methodLink RX3 27 yX4_readTape ∈ k_tbl := k_in (lw_T1 (List.mem_of_getElem? (i := 118) (by decide +kernel))) rfl
theorem k_ml96 : Cond.methodLink RX3 36 yX4_stepAt ∈ k_tbl := k_in (lw_T1 (List.mem_of_getElem? (i := 170) (by decide +kernel))) rfl
theorem k_ml97 : Cond.methodLink RX3 43 yX3_pop ∈ k_tbl := k_in (lw_T2 (List.mem_of_getElem? (i := 34) (by decide +kernel))) rfl
theorem k_ml98 : Cond.methodLink RX3 46 yJ9_max_7cf53 ∈ k_tbl := k_in (lw_T2 (List.mem_of_getElem? (i := 38) (by decide +kernel))) rfl
theorem k_ml99 : Cond.methodLink RX3 52 yX3_push ∈ k_tbl := k_in (lw_T2 (List.mem_of_getElem? (i := 41) (by decide +kernel))) rfl
theorem k_ml100 : Cond.methodLink RX3 56 yX3_resultOf ∈ k_tbl := k_in (lw_T2 (List.mem_of_getElem? (i := 45) (by decide +kernel))) rfl
theorem k_ml101 : Cond.methodLinkNest RX3 64 yX11_left "WheelSkips" ∈ k_nest := k_inN (lw_T2 (List.mem_of_getElem? (i := 50) (by decide +kernel))) rfl
theorem k_ml102 : Cond.methodLink RX4 28 yX4_lines ∈ k_tbl := k_in (lw_T1 (List.mem_of_getElem? (i := 122) (by decide +kernel))) rfl
theorem k_ml103 : Cond.methodLink RX4 35 yX4_line ∈ k_tbl := k_in (lw_T1 (List.mem_of_getElem? (i := 126) (by decide +kernel))) rfl
theorem k_ml104 : Cond.methodLink RX4 38 yX4_passes ∈ k_tbl := k_in (lw_T1 (List.mem_of_getElem? (i := 166) (by decide +kernel))) rfl
theorem k_ml105 : Cond.methodLink RX4 42 yX4_either ∈ k_tbl := k_in (lw_T1 (List.mem_of_getElem? (i := 130) (by decide +kernel))) rfl
theorem k_ml106 : Cond.methodLink RX4 45 yX4_add ∈ k_tbl := k_in (lw_T1 (List.mem_of_getElem? (i := 162) (by decide +kernel))) rfl
theorem k_ml107 : Cond.methodLink RX4 49 yX4_both ∈ k_tbl := k_in (lw_T1 (List.mem_of_getElem? (i := 134) (by decide +kernel))) rfl
theorem k_ml108 : Cond.methodLink RX4 52 yX4_compared ∈ k_tbl := k_in (lw_T1 (List.mem_of_getElem? (i := 138) (by decide +kernel))) rfl
theorem k_ml109 : Cond.methodLink RX4 55 yX4_summed ∈ k_tbl := k_in (lw_T1 (List.mem_of_getElem? (i := 142) (by decide +kernel))) rfl
theorem k_ml110 : Cond.methodLink RX4 58 yX9_at ∈ k_tbl := k_in (lw_T1 (List.mem_of_getElem? (i := 154) (by decide +kernel))) rfl
theorem k_ml111 : Cond.methodLink RX4 61 yX4_multiplied ∈ k_tbl := k_in (lw_T1 (List.mem_of_getElem? (i := 146) (by decide +kernel))) rfl
theorem k_ml112 : Cond.methodLink RX4 64 yX4_single ∈ k_tbl := k_in (lw_T1 (List.mem_of_getElem? (i := 150) (by decide +kernel))) rfl
theorem k_ml113 : Cond.methodLink RX4 67 yX4_isDigit ∈ k_tbl := k_in (lw_T1 (List.mem_of_getElem? (i := 155) (by decide +kernel))) rfl
theorem k_ml114 : Cond.methodLink RX4 70 yX4_number ∈ k_tbl := k_in (lw_T1 (List.mem_of_getElem? (i := 158) (by decide +kernel))) rfl
theorem k_ml115 : Cond.methodLink RX5 22 yX5_placeOf ∈ k_tbl := k_in (lw_T2 (List.mem_of_getElem? (i := 77) (by decide +kernel))) rfl
theorem k_ml116 : Cond.methodLink RX5 26 yX5_waitsOf ∈ k_tbl := k_in (lw_T2 (List.mem_of_getElem? (i := 78) (by decide +kernel))) rfl
theorem k_ml117 : Cond.methodLink RX5 29 yX5_stand ∈ k_tbl := k_in (lw_T2 (List.mem_of_getElem? (i := 79) (by decide +kernel))) rfl
theorem k_ml118 : Cond.methodLinkNest RX6 11 yX5_init "WheelSkips" ∈ k_nest := k_inN (lw_T0 (List.mem_of_getElem? (i := 116) (by decide +kernel))) rfl
theorem k_ml119 : Cond.methodLink RX6 45 yX5_become ∈ k_tbl := k_in (lw_T2 (List.mem_of_getElem? (i := 73) (by decide +kernel))) rfl
theorem k_ml120 : Cond.methodLink RX6 52 yX6_pushed ∈ k_tbl := k_in (lw_T2 (List.mem_of_getElem? (i := 23) (by decide +kernel))) rfl
theorem k_ml121 : Cond.methodLink RX6 56 yX5_placeOf ∈ k_tbl := k_in (lw_T2 (List.mem_of_getElem? (i := 27) (by decide +kernel))) rfl
theorem k_ml122 : Cond.methodLink RX6 60 yX5_waitsOf ∈ k_tbl := k_in (lw_T2 (List.mem_of_getElem? (i := 28) (by decide +kernel))) rfl
theorem k_ml123 : Cond.methodLink RX6 63 yX10_letterAt ∈ k_tbl := k_in (lw_T2 (List.mem_of_getElem? (i := 29) (by decide +kernel))) rfl
theorem k_ml124 : Cond.methodLink RX6 67 yX3_valueAt ∈ k_tbl := k_in (lw_T2 (List.mem_of_getElem? (i := 30) (by decide +kernel))) rfl
theorem k_ml125 : Cond.methodLink RX6 73 yX10_breakOf ∈ k_tbl := k_in (lw_T2 (List.mem_of_getElem? (i := 53) (by decide +kernel))) rfl
theorem k_ml126 : Cond.methodLink RX6 76 yX10_sizeOf ∈ k_tbl := k_in (lw_T2 (List.mem_of_getElem? (i := 54) (by decide +kernel))) rfl
theorem k_ml127 : Cond.methodLinkNest RX6 79 yX11_left "WheelSkips" ∈ k_nest := k_inN (lw_T2 (List.mem_of_getElem? (i := 55) (by decide +kernel))) rfl
theorem k_ml128 : Cond.methodLink RX6 82 yX5_stand ∈ k_tbl := k_in (lw_T2 (List.mem_of_getElem? (i := 56) (by decide +kernel))) rfl
theorem k_ml129 : Cond.methodLink RX6 86 yX6_think ∈ k_tbl := k_in (lw_T2 (List.mem_of_getElem? (i := 96) (by decide +kernel))) rfl
theorem k_ml130 : Cond.methodLink RX6 89 yX6_pass ∈ k_tbl := k_in (lw_T2 (List.mem_of_getElem? (i := 97) (by decide +kernel))) rfl
theorem k_ml131 : Cond.methodLink RX6 93 yX6_dayOf ∈ k_tbl := k_in (lw_T2 (List.mem_of_getElem? (i := 98) (by decide +kernel))) rfl
theorem k_ml132 : Cond.methodLink RX6 96 yX6_markShown ∈ k_tbl := k_in (lw_T2 (List.mem_of_getElem? (i := 107) (by decide +kernel))) rfl
theorem k_ml133 : Cond.methodLink RX6 99 yJ9_max_7cf53 ∈ k_tbl := k_in (lw_T2 (List.mem_of_getElem? (i := 131) (by decide +kernel))) rfl
theorem k_ml134 : Cond.methodLink RX6 104 yX5_standsAs ∈ k_tbl := k_in (lw_T2 (List.mem_of_getElem? (i := 140) (by decide +kernel))) rfl
theorem k_ml135 : Cond.methodLink RX6 110 yX10_setLetter ∈ k_tbl := k_in (lw_T2 (List.mem_of_getElem? (i := 166) (by decide +kernel))) rfl
theorem k_ml136 : Cond.methodLink RX6 113 yX6_wrongDays ∈ k_tbl := k_in (lw_T2 (List.mem_of_getElem? (i := 167) (by decide +kernel))) rfl
theorem k_ml137 : Cond.methodLink RX7 25 yX7_nightOf ∈ k_tbl := k_in (lw_T2 (List.mem_of_getElem? (i := 179) (by decide +kernel))) rfl
theorem k_ml138 : Cond.methodLink RX8 22 yX8_has ∈ k_tbl := k_in (lw_T2 (List.mem_of_getElem? (i := 195) (by decide +kernel))) rfl
theorem k_ml139 : Cond.methodLink RX8 26 yX8_heldBy ∈ k_tbl := k_in (lw_T2 (List.mem_of_getElem? (i := 200) (by decide +kernel))) rfl
theorem k_ml140 : Cond.methodLink RX8 30 yX8_sizeOf ∈ k_tbl := k_in (lw_T2 (List.mem_of_getElem? (i := 201) (by decide +kernel))) rfl
theorem k_ml141 : Cond.methodLink RX8 33 yX8_lowest ∈ k_tbl := k_in (lw_T3 (List.mem_of_getElem? (i := 151) (by decide +kernel))) rfl
theorem k_ml142 : Cond.methodLink RX8 37 yX8_valueAt ∈ k_tbl := k_in (lw_T3 (List.mem_of_getElem? (i := 171) (by decide +kernel))) rfl
theorem k_ml143 : Cond.methodLink RX8 41 yX8_write ∈ k_tbl := k_in (lw_T3 (List.mem_of_getElem? (i := 172) (by decide +kernel))) rfl
theorem k_ml144 : Cond.methodLink RX10 25 yX10_has ∈ k_tbl := k_in (lw_T1 (List.mem_of_getElem? (i := 231) (by decide +kernel))) rfl
theorem k_ml145 : Cond.methodLink RX10 34 yX9_at ∈ k_tbl := k_in (lw_T1 (List.mem_of_getElem? (i := 95) (by decide +kernel))) rfl
theorem k_ml146 : Cond.methodLinkNest RX10 38 yX11_isTooth "WheelSkips" ∈ k_nest := k_inN (lw_T1 (List.mem_of_getElem? (i := 99) (by decide +kernel))) rfl
theorem k_ml147 : Cond.methodLink RX10 41 yX10_setLetter ∈ k_tbl := k_in (lw_T1 (List.mem_of_getElem? (i := 106) (by decide +kernel))) rfl
theorem k_ml148 : Cond.methodLink RL 9 yX11_init ∈ k_tbl := k_in (lw_T0 (List.mem_of_getElem? (i := 18) (by decide +kernel))) rfl
theorem k_ml149 : Cond.methodLink RL 12 yX12_init ∈ k_tbl := k_in (lw_T3 (List.mem_of_getElem? (i := 189) (by decide +kernel))) rfl
theorem k_ml150 : Cond.methodLink RL 13 yX11_feed ∈ k_tbl := k_in (lw_T1 (List.mem_of_getElem? (i := 79) (by decide +kernel))) rfl
theorem k_ml151 : Cond.methodLink RL 17 yX12_feed ∈ k_tbl := k_in (lw_T4 (List.mem_of_getElem? (i := 115) (by decide +kernel))) rfl
theorem k_ml152 : Cond.methodLink RL 18 yX11_wheel ∈ k_tbl := k_in (lw_T1 (List.mem_of_getElem? (i := 87) (by decide +kernel))) rfl
theorem k_ml153 : Cond.methodLink RL 22 yX12_wheel ∈ k_tbl := k_in (lw_T4 (List.mem_of_getElem? (i := 122) (by decide +kernel))) rfl
theorem k_ml154 : Cond.methodLink RL 23 yX11_law ∈ k_tbl := k_in (lw_T1 (List.mem_of_getElem? (i := 110) (by decide +kernel))) rfl
theorem k_ml155 : Cond.methodLink RL 26 yX12_law ∈ k_tbl := k_in (lw_T4 (List.mem_of_getElem? (i := 129) (by decide +kernel))) rfl
theorem k_ml156 : Cond.methodLink RL 27 yX11_set ∈ k_tbl := k_in (lw_T1 (List.mem_of_getElem? (i := 174) (by decide +kernel))) rfl
theorem k_ml157 : Cond.methodLink RL 31 yX12_set ∈ k_tbl := k_in (lw_T4 (List.mem_of_getElem? (i := 188) (by decide +kernel))) rfl
theorem k_ml158 : Cond.methodLink RL 32 yX11_broke ∈ k_tbl := k_in (lw_T1 (List.mem_of_getElem? (i := 179) (by decide +kernel))) rfl
theorem k_ml159 : Cond.methodLink RL 35 yX12_broke ∈ k_tbl := k_in (lw_T4 (List.mem_of_getElem? (i := 205) (by decide +kernel))) rfl
theorem k_ml160 : Cond.methodLink RL 36 yX11_tooth ∈ k_tbl := k_in (lw_T1 (List.mem_of_getElem? (i := 223) (by decide +kernel))) rfl
theorem k_ml161 : Cond.methodLink RL 40 yX12_tooth ∈ k_tbl := k_in (lw_T4 (List.mem_of_getElem? (i := 221) (by decide +kernel))) rfl
theorem k_ml162 : Cond.methodLink RL 41 yX11_of ∈ k_tbl := k_in (lw_T1 (List.mem_of_getElem? (i := 238) (by decide +kernel))) rfl
theorem k_ml163 : Cond.methodLink RL 44 yX12_of ∈ k_tbl := k_in (lw_T4 (List.mem_of_getElem? (i := 225) (by decide +kernel))) rfl
theorem k_ml164 : Cond.methodLink RL 45 yX11_on ∈ k_tbl := k_in (lw_T2 (List.mem_of_getElem? (i := 14) (by decide +kernel))) rfl
theorem k_ml165 : Cond.methodLink RL 48 yX12_on ∈ k_tbl := k_in (lw_T4 (List.mem_of_getElem? (i := 229) (by decide +kernel))) rfl
theorem k_ml166 : Cond.methodLink RL 49 yX11_lay ∈ k_tbl := k_in (lw_T2 (List.mem_of_getElem? (i := 60) (by decide +kernel))) rfl
theorem k_ml167 : Cond.methodLink RL 52 yX12_lay ∈ k_tbl := k_in (lw_T5 (List.mem_of_getElem? (i := 18) (by decide +kernel))) rfl
theorem k_ml168 : Cond.methodLink RL 53 yX11_shows ∈ k_tbl := k_in (lw_T2 (List.mem_of_getElem? (i := 65) (by decide +kernel))) rfl
theorem k_ml169 : Cond.methodLink RL 56 yX12_shows ∈ k_tbl := k_in (lw_T5 (List.mem_of_getElem? (i := 22) (by decide +kernel))) rfl
theorem k_ml170 : Cond.methodLink RL 57 yX11_day ∈ k_tbl := k_in (lw_T2 (List.mem_of_getElem? (i := 80) (by decide +kernel))) rfl
theorem k_ml171 : Cond.methodLink RL 60 yX12_day ∈ k_tbl := k_in (lw_T5 (List.mem_of_getElem? (i := 34) (by decide +kernel))) rfl
theorem k_ml172 : Cond.methodLink RL 61 yX11_often ∈ k_tbl := k_in (lw_T2 (List.mem_of_getElem? (i := 88) (by decide +kernel))) rfl
theorem k_ml173 : Cond.methodLink RL 64 yX12_often ∈ k_tbl := k_in (lw_T5 (List.mem_of_getElem? (i := 38) (by decide +kernel))) rfl
theorem k_ml174 : Cond.methodLink RL 65 yX11_never ∈ k_tbl := k_in (lw_T2 (List.mem_of_getElem? (i := 99) (by decide +kernel))) rfl
theorem k_ml175 : Cond.methodLink RL 68 yX12_never ∈ k_tbl := k_in (lw_T5 (List.mem_of_getElem? (i := 42) (by decide +kernel))) rfl
theorem k_ml176 : Cond.methodLink RL 69 yX11_meets ∈ k_tbl := k_in (lw_T2 (List.mem_of_getElem? (i := 111) (by decide +kernel))) rfl
theorem k_ml177 : Cond.methodLink RL 72 yX12_meets ∈ k_tbl := k_in (lw_T5 (List.mem_of_getElem? (i := 46) (by decide +kernel))) rfl
theorem k_ml178 : Cond.methodLink RL 73 yX11_two ∈ k_tbl := k_in (lw_T2 (List.mem_of_getElem? (i := 123) (by decide +kernel))) rfl
theorem k_ml179 : Cond.methodLink RL 76 yX12_two ∈ k_tbl := k_in (lw_T5 (List.mem_of_getElem? (i := 54) (by decide +kernel))) rfl
theorem k_ml180 : Cond.methodLink RL 77 yX11_round ∈ k_tbl := k_in (lw_T2 (List.mem_of_getElem? (i := 132) (by decide +kernel))) rfl
theorem k_ml181 : Cond.methodLink RL 80 yX12_round ∈ k_tbl := k_in (lw_T5 (List.mem_of_getElem? (i := 58) (by decide +kernel))) rfl
theorem k_ml182 : Cond.methodLink RL 81 yX11_truth ∈ k_tbl := k_in (lw_T2 (List.mem_of_getElem? (i := 144) (by decide +kernel))) rfl
theorem k_ml183 : Cond.methodLink RL 84 yX12_truth ∈ k_tbl := k_in (lw_T5 (List.mem_of_getElem? (i := 66) (by decide +kernel))) rfl
theorem k_ml184 : Cond.methodLink RL 85 yX11_near ∈ k_tbl := k_in (lw_T2 (List.mem_of_getElem? (i := 152) (by decide +kernel))) rfl
theorem k_ml185 : Cond.methodLink RL 88 yX12_near ∈ k_tbl := k_in (lw_T5 (List.mem_of_getElem? (i := 70) (by decide +kernel))) rfl
theorem k_ml186 : Cond.methodLink RL 89 yX11_record ∈ k_tbl := k_in (lw_T2 (List.mem_of_getElem? (i := 168) (by decide +kernel))) rfl
theorem k_ml187 : Cond.methodLink RL 92 yX12_record ∈ k_tbl := k_in (lw_T5 (List.mem_of_getElem? (i := 78) (by decide +kernel))) rfl
theorem k_ml188 : Cond.methodLink RL 93 yX11_records ∈ k_tbl := k_in (lw_T2 (List.mem_of_getElem? (i := 183) (by decide +kernel))) rfl
theorem k_ml189 : Cond.methodLink RL 96 yX12_records ∈ k_tbl := k_in (lw_T5 (List.mem_of_getElem? (i := 89) (by decide +kernel))) rfl
theorem k_ml190 : Cond.methodLink RL 97 yX11_clear ∈ k_tbl := k_in (lw_T2 (List.mem_of_getElem? (i := 209) (by decide +kernel))) rfl
theorem k_ml191 : Cond.methodLink RL 100 yX12_clear ∈ k_tbl := k_in (lw_T5 (List.mem_of_getElem? (i := 96) (by decide +kernel))) rfl
theorem k_ml192 : Cond.methodLink RL 101 yX11_judge ∈ k_tbl := k_in (lw_T2 (List.mem_of_getElem? (i := 213) (by decide +kernel))) rfl
theorem k_ml193 : Cond.methodLink RL 104 yX12_judge ∈ k_tbl := k_in (lw_T5 (List.mem_of_getElem? (i := 100) (by decide +kernel))) rfl
theorem k_ml194 : Cond.methodLink RL 105 yX11_fits ∈ k_tbl := k_in (lw_T2 (List.mem_of_getElem? (i := 233) (by decide +kernel))) rfl
theorem k_ml195 : Cond.methodLink RL 108 yX12_fits ∈ k_tbl := k_in (lw_T5 (List.mem_of_getElem? (i := 108) (by decide +kernel))) rfl
theorem k_ml196 : Cond.methodLink RL 109 yX11_sure ∈ k_tbl := k_in (lw_T3 (List.mem_of_getElem? (i := 6) (by decide +kernel))) rfl
theorem k_ml197 : Cond.methodLink RL 112 yX12_sure ∈ k_tbl := k_in (lw_T5 (List.mem_of_getElem? (i := 116) (by decide +kernel))) rfl
theorem k_ml198 : Cond.methodLink RL 113 yX11_when ∈ k_tbl := k_in (lw_T3 (List.mem_of_getElem? (i := 16) (by decide +kernel))) rfl
theorem k_ml199 : Cond.methodLink RL 116 yX12_when ∈ k_tbl := k_in (lw_T5 (List.mem_of_getElem? (i := 123) (by decide +kernel))) rfl
theorem k_ml200 : Cond.methodLink RL 117 yX11_watch ∈ k_tbl := k_in (lw_T3 (List.mem_of_getElem? (i := 26) (by decide +kernel))) rfl
theorem k_ml201 : Cond.methodLink RL 120 yX12_watch ∈ k_tbl := k_in (lw_T5 (List.mem_of_getElem? (i := 127) (by decide +kernel))) rfl
theorem k_ml202 : Cond.methodLink RL 121 yX11_image ∈ k_tbl := k_in (lw_T3 (List.mem_of_getElem? (i := 47) (by decide +kernel))) rfl
theorem k_ml203 : Cond.methodLink RL 124 yX12_image ∈ k_tbl := k_in (lw_T5 (List.mem_of_getElem? (i := 135) (by decide +kernel))) rfl
theorem k_ml204 : Cond.methodLink RL 125 yX11_back ∈ k_tbl := k_in (lw_T3 (List.mem_of_getElem? (i := 52) (by decide +kernel))) rfl
theorem k_ml205 : Cond.methodLink RL 128 yX12_back ∈ k_tbl := k_in (lw_T5 (List.mem_of_getElem? (i := 139) (by decide +kernel))) rfl
theorem k_ml206 : Cond.methodLink RL 129 yX11_undo ∈ k_tbl := k_in (lw_T3 (List.mem_of_getElem? (i := 56) (by decide +kernel))) rfl
theorem k_ml207 : Cond.methodLink RL 132 yX12_undo ∈ k_tbl := k_in (lw_T4 (List.mem_of_getElem? (i := 193) (by decide +kernel))) rfl
theorem k_ml208 : Cond.methodLink RL 133 yX11_redo ∈ k_tbl := k_in (lw_T3 (List.mem_of_getElem? (i := 67) (by decide +kernel))) rfl
theorem k_ml209 : Cond.methodLink RL 136 yX12_redo ∈ k_tbl := k_in (lw_T4 (List.mem_of_getElem? (i := 201) (by decide +kernel))) rfl
theorem k_ml210 : Cond.methodLink RL 137 yX11_body ∈ k_tbl := k_in (lw_T3 (List.mem_of_getElem? (i := 72) (by decide +kernel))) rfl
theorem k_ml211 : Cond.methodLink RL 140 yX12_body ∈ k_tbl := k_in (lw_T5 (List.mem_of_getElem? (i := 147) (by decide +kernel))) rfl
theorem k_ml212 : Cond.methodLink RL 141 yX11_act ∈ k_tbl := k_in (lw_T3 (List.mem_of_getElem? (i := 80) (by decide +kernel))) rfl
theorem k_ml213 : Cond.methodLink RL 144 yX12_act ∈ k_tbl := k_in (lw_T5 (List.mem_of_getElem? (i := 151) (by decide +kernel))) rfl
theorem k_ml214 : Cond.methodLink RL 145 yX11_trace ∈ k_tbl := k_in (lw_T3 (List.mem_of_getElem? (i := 119) (by decide +kernel))) rfl
theorem k_ml215 : Cond.methodLink RL 148 yX12_trace ∈ k_tbl := k_in (lw_T5 (List.mem_of_getElem? (i := 143) (by decide +kernel))) rfl
theorem k_ml216 : Cond.methodLink RL 149 yX11_keep ∈ k_tbl := k_in (lw_T3 (List.mem_of_getElem? (i := 127) (by decide +kernel))) rfl
theorem k_ml217 : Cond.methodLink RL 152 yX12_keep ∈ k_tbl := k_in (lw_T5 (List.mem_of_getElem? (i := 214) (by decide +kernel))) rfl
theorem k_ml218 : Cond.methodLink RL 153 yX11_row ∈ k_tbl := k_in (lw_T3 (List.mem_of_getElem? (i := 135) (by decide +kernel))) rfl
theorem k_ml219 : Cond.methodLink RL 156 yX12_row ∈ k_tbl := k_in (lw_T5 (List.mem_of_getElem? (i := 218) (by decide +kernel))) rfl
theorem k_ml220 : Cond.methodLink RL 159 yX11_put ∈ k_tbl := k_in (lw_T3 (List.mem_of_getElem? (i := 139) (by decide +kernel))) rfl
theorem k_ml221 : Cond.methodLink RL 163 yX12_put ∈ k_tbl := k_in (lw_T5 (List.mem_of_getElem? (i := 222) (by decide +kernel))) rfl
theorem k_ml222 : Cond.methodLink RL 164 yX11_element ∈ k_tbl := k_in (lw_T3 (List.mem_of_getElem? (i := 154) (by decide +kernel))) rfl
theorem k_ml223 : Cond.methodLink RL 168 yX12_element ∈ k_tbl := k_in (lw_T5 (List.mem_of_getElem? (i := 230) (by decide +kernel))) rfl
theorem k_ml224 : Cond.methodLink RL 169 yX11_shift ∈ k_tbl := k_in (lw_T3 (List.mem_of_getElem? (i := 159) (by decide +kernel))) rfl
theorem k_ml225 : Cond.methodLink RL 173 yX12_shift ∈ k_tbl := k_in (lw_T5 (List.mem_of_getElem? (i := 235) (by decide +kernel))) rfl
theorem k_ml226 : Cond.methodLink RL 174 yX11_taken ∈ k_tbl := k_in (lw_T3 (List.mem_of_getElem? (i := 173) (by decide +kernel))) rfl
theorem k_ml227 : Cond.methodLink RL 177 yX12_taken ∈ k_tbl := k_in (lw_T5 (List.mem_of_getElem? (i := 239) (by decide +kernel))) rfl
theorem k_ml228 : Cond.methodLink RL 178 yX11_count ∈ k_tbl := k_in (lw_T3 (List.mem_of_getElem? (i := 183) (by decide +kernel))) rfl
theorem k_ml229 : Cond.methodLink RL 181 yX12_count ∈ k_tbl := k_in (lw_T5 (List.mem_of_getElem? (i := 210) (by decide +kernel))) rfl
theorem k_ml230 : Cond.methodLink RX12 120 yX12_in ∈ k_tbl := k_in (lw_T4 (List.mem_of_getElem? (i := 119) (by decide +kernel))) rfl
theorem k_ml231 : Cond.methodLink RX12 130 yX12_isTooth ∈ k_tbl := k_in (lw_T4 (List.mem_of_getElem? (i := 126) (by decide +kernel))) rfl
theorem k_ml232 : Cond.methodLink RX12 146 yX12_wrong ∈ k_tbl := k_in (lw_T4 (List.mem_of_getElem? (i := 180) (by decide +kernel))) rfl
theorem k_ml233 : Cond.methodLink RX12 149 yX12_look ∈ k_tbl := k_in (lw_T4 (List.mem_of_getElem? (i := 165) (by decide +kernel))) rfl
theorem k_ml234 : Cond.methodLink RX12 153 yX12_addStep ∈ k_tbl := k_in (lw_T4 (List.mem_of_getElem? (i := 172) (by decide +kernel))) rfl
theorem k_ml235 : Cond.methodLink RX12 157 yX12_nameOf ∈ k_tbl := k_in (lw_T4 (List.mem_of_getElem? (i := 169) (by decide +kernel))) rfl
theorem k_ml236 : Cond.methodLink RX12 161 yX12_opens ∈ k_tbl := k_in (lw_T4 (List.mem_of_getElem? (i := 176) (by decide +kernel))) rfl
theorem k_ml237 : Cond.methodLink RX12 165 yX12_operand ∈ k_tbl := k_in (lw_T4 (List.mem_of_getElem? (i := 161) (by decide +kernel))) rfl
theorem k_ml238 : Cond.methodLink RX12 168 yX12_either ∈ k_tbl := k_in (lw_T4 (List.mem_of_getElem? (i := 141) (by decide +kernel))) rfl
theorem k_ml239 : Cond.methodLink RX12 171 yX12_figure ∈ k_tbl := k_in (lw_T4 (List.mem_of_getElem? (i := 184) (by decide +kernel))) rfl
theorem k_ml240 : Cond.methodLink RX12 174 yX12_product ∈ k_tbl := k_in (lw_T4 (List.mem_of_getElem? (i := 157) (by decide +kernel))) rfl
theorem k_ml241 : Cond.methodLink RX12 177 yX12_sum ∈ k_tbl := k_in (lw_T4 (List.mem_of_getElem? (i := 153) (by decide +kernel))) rfl
theorem k_ml242 : Cond.methodLink RX12 180 yX12_compared ∈ k_tbl := k_in (lw_T4 (List.mem_of_getElem? (i := 149) (by decide +kernel))) rfl
theorem k_ml243 : Cond.methodLink RX12 183 yX12_both ∈ k_tbl := k_in (lw_T4 (List.mem_of_getElem? (i := 145) (by decide +kernel))) rfl
theorem k_ml244 : Cond.methodLink RX12 186 yX12_line ∈ k_tbl := k_in (lw_T4 (List.mem_of_getElem? (i := 137) (by decide +kernel))) rfl
theorem k_ml245 : Cond.methodLink RX12 189 yX12_twoOf ∈ k_tbl := k_in (lw_T5 (List.mem_of_getElem? (i := 15) (by decide +kernel))) rfl
theorem k_ml246 : Cond.methodLink RX12 193 yX12_worked ∈ k_tbl := k_in (lw_T5 (List.mem_of_getElem? (i := 11) (by decide +kernel))) rfl
theorem k_ml247 : Cond.methodLink RX12 196 yX12_readText ∈ k_tbl := k_in (lw_T4 (List.mem_of_getElem? (i := 133) (by decide +kernel))) rfl
theorem k_ml248 : Cond.methodLink RX12 210 yX12_gives ∈ k_tbl := k_in (lw_T5 (List.mem_of_getElem? (i := 7) (by decide +kernel))) rfl
theorem k_ml249 : Cond.methodLink RX12 214 yX12_valueAt ∈ k_tbl := k_in (lw_T4 (List.mem_of_getElem? (i := 217) (by decide +kernel))) rfl
theorem k_ml250 : Cond.methodLink RX12 224 yX12_lays ∈ k_tbl := k_in (lw_T4 (List.mem_of_getElem? (i := 197) (by decide +kernel))) rfl
theorem k_ml251 : Cond.methodLink RX12 228 yX12_isWheel ∈ k_tbl := k_in (lw_T4 (List.mem_of_getElem? (i := 209) (by decide +kernel))) rfl
theorem k_ml252 : Cond.methodLink RX12 231 yX12_changes ∈ k_tbl := k_in (lw_T4 (List.mem_of_getElem? (i := 213) (by decide +kernel))) rfl
theorem k_ml253 : Cond.methodLink RX12 234 yX12_isCold ∈ k_tbl := k_in (lw_T5 (List.mem_of_getElem? (i := 2) (by decide +kernel))) rfl
theorem k_ml254 : Cond.methodLink RX12 237 yX12_step ∈ k_tbl := k_in (lw_T4 (List.mem_of_getElem? (i := 238) (by decide +kernel))) rfl
theorem k_ml255 : Cond.methodLink RX12 244 yX12_goOn ∈ k_tbl := k_in (lw_T4 (List.mem_of_getElem? (i := 234) (by decide +kernel))) rfl
theorem k_ml256 : Cond.methodLink RX12 247 yX12_keepNow ∈ k_tbl := k_in (lw_T5 (List.mem_of_getElem? (i := 26) (by decide +kernel))) rfl
theorem k_ml257 : Cond.methodLink RX12 250 yX12_layBack ∈ k_tbl := k_in (lw_T5 (List.mem_of_getElem? (i := 30) (by decide +kernel))) rfl
theorem k_ml258 : Cond.methodLink RX12 253 yX12_isSpot ∈ k_tbl := k_in (lw_T5 (List.mem_of_getElem? (i := 50) (by decide +kernel))) rfl
theorem k_ml259 : Cond.methodLink RX12 256 yX12_isAsWas ∈ k_tbl := k_in (lw_T5 (List.mem_of_getElem? (i := 62) (by decide +kernel))) rfl
theorem k_ml260 : Cond.methodLink RX12 259 yX12_wrongIn ∈ k_tbl := k_in (lw_T5 (List.mem_of_getElem? (i := 74) (by decide +kernel))) rfl
theorem k_ml261 : Cond.methodLink RX12 265 yX12_isRecord ∈ k_tbl := k_in (lw_T5 (List.mem_of_getElem? (i := 82) (by decide +kernel))) rfl
theorem k_ml262 : Cond.methodLink RX12 269 yX12_addRecord ∈ k_tbl := k_in (lw_T5 (List.mem_of_getElem? (i := 85) (by decide +kernel))) rfl
theorem k_ml263 : Cond.methodLink RX12 272 yX12_isShelf ∈ k_tbl := k_in (lw_T5 (List.mem_of_getElem? (i := 93) (by decide +kernel))) rfl
theorem k_ml264 : Cond.methodLink RX12 275 yX12_firstWrong ∈ k_tbl := k_in (lw_T5 (List.mem_of_getElem? (i := 104) (by decide +kernel))) rfl
theorem k_ml265 : Cond.methodLink RX12 278 yX12_fitting ∈ k_tbl := k_in (lw_T5 (List.mem_of_getElem? (i := 112) (by decide +kernel))) rfl
theorem k_ml266 : Cond.methodLink RX12 281 yX12_bitsOf ∈ k_tbl := k_in (lw_T5 (List.mem_of_getElem? (i := 120) (by decide +kernel))) rfl
theorem k_ml267 : Cond.methodLink RX12 284 yX12_doesPart ∈ k_tbl := k_in (lw_T5 (List.mem_of_getElem? (i := 131) (by decide +kernel))) rfl
theorem k_ml268 : Cond.methodLink RX12 302 yX12_ran ∈ k_tbl := k_in (lw_T5 (List.mem_of_getElem? (i := 166) (by decide +kernel))) rfl
theorem k_ml269 : Cond.methodLink RX12 306 yX12_plainTurns ∈ k_tbl := k_in (lw_T5 (List.mem_of_getElem? (i := 170) (by decide +kernel))) rfl
theorem k_ml270 : Cond.methodLink RX12 309 yX12_isUnder ∈ k_tbl := k_in (lw_T5 (List.mem_of_getElem? (i := 163) (by decide +kernel))) rfl
theorem k_ml271 : Cond.methodLink RX12 312 yX12_toldTurns ∈ k_tbl := k_in (lw_T5 (List.mem_of_getElem? (i := 174) (by decide +kernel))) rfl
theorem k_ml272 : Cond.methodLink RX12 315 yX12_turning ∈ k_tbl := k_in (lw_T5 (List.mem_of_getElem? (i := 159) (by decide +kernel))) rfl
theorem k_ml273 : Cond.methodLink RX12 318 yX12_plainShows ∈ k_tbl := k_in (lw_T5 (List.mem_of_getElem? (i := 186) (by decide +kernel))) rfl
theorem k_ml274 : Cond.methodLink RX12 321 yX12_skipShows ∈ k_tbl := k_in (lw_T5 (List.mem_of_getElem? (i := 182) (by decide +kernel))) rfl
theorem k_ml275 : Cond.methodLink RX12 324 yX12_waiting ∈ k_tbl := k_in (lw_T5 (List.mem_of_getElem? (i := 190) (by decide +kernel))) rfl
theorem k_ml276 : Cond.methodLink RX12 327 yX12_plainWaits ∈ k_tbl := k_in (lw_T5 (List.mem_of_getElem? (i := 194) (by decide +kernel))) rfl
theorem k_ml277 : Cond.methodLink RX12 330 yX12_showing ∈ k_tbl := k_in (lw_T5 (List.mem_of_getElem? (i := 178) (by decide +kernel))) rfl
theorem k_ml278 : Cond.methodLink RX12 333 yX12_plainTells ∈ k_tbl := k_in (lw_T5 (List.mem_of_getElem? (i := 206) (by decide +kernel))) rfl
theorem k_ml279 : Cond.methodLink RX12 336 yX12_frostTells ∈ k_tbl := k_in (lw_T5 (List.mem_of_getElem? (i := 202) (by decide +kernel))) rfl
theorem k_ml280 : Cond.methodLink RX12 339 yX12_isBody ∈ k_tbl := k_in (lw_T5 (List.mem_of_getElem? (i := 155) (by decide +kernel))) rfl
theorem k_ml281 : Cond.methodLink RX12 342 yX12_telling ∈ k_tbl := k_in (lw_T5 (List.mem_of_getElem? (i := 198) (by decide +kernel))) rfl
theorem k_ml282 : Cond.methodLink RX12 345 yX12_whyNoPlace ∈ k_tbl := k_in (lw_T5 (List.mem_of_getElem? (i := 226) (by decide +kernel))) rfl
abbrev k_M : Type := MethodName × ByteArray × Nat × Option FieldType × List (List (Nat × Instr × Nat))
def MX0_has : k_M := (yX0_has, cX0_has, 2, (some .boolean), [[(0, .iload_n 1, 1), (1, .ifCond .lt 24, 3), (4, .iload_n 1, 1), (5, .aload_n 0, 1), (6, .getfield 18, 3), (9, .if_icmp .ge 16, 3), (12, .iload_n 1, 1), (13, .aload_n 0, 1), (14, .getfield 9, 3), (17, .arraylength, 1), (18, .if_icmp .ge 7, 3), (21, .iconst 1, 1), (22, .goto 4, 3), (25, .iconst 0, 1), (26, .ireturn, 1)]])
set_option maxRecDepth 100000 in
theorem MX0_has_dec : k_dec MX0_has.2.1 MX0_has.2.2.2.2 = true := by decide +kernel
def MX0_add : k_M := (yX0_add, cX0_add, 2, (some .int), [[(0, .aload_n 0, 1), (1, .getfield 18, 3), (4, .ifCond .lt 15, 3), (7, .aload_n 0, 1), (8, .getfield 18, 3), (11, .aload_n 0, 1), (12, .getfield 9, 3), (15, .arraylength, 1), (16, .if_icmp .lt 6, 3), (19, .bipush (-3), 2), (21, .ireturn, 1), (22, .aload_n 0, 1), (23, .getfield 9, 3), (26, .aload_n 0, 1), (27, .getfield 18, 3), (30, .iload_n 1, 1)], [(31, .iastore, 1), (32, .aload_n 0, 1), (33, .dup, 1), (34, .getfield 18, 3), (37, .iconst 1, 1), (38, .iadd, 1), (39, .putfield 18, 3), (42, .aload_n 0, 1), (43, .getfield 18, 3), (46, .iconst 1, 1), (47, .isub, 1), (48, .ireturn, 1)]])
set_option maxRecDepth 100000 in
theorem MX0_add_dec : k_dec MX0_add.2.1 MX0_add.2.2.2.2 = true := by decide +kernel
def MX0_kindOf : k_M := (yX0_kindOf, cX0_kindOf, 2, (some .int), [[(0, .iload_n 1, 1), (1, .ifCond .lt 21, 3), (4, .iload_n 1, 1), (5, .aload_n 0, 1), (6, .getfield 9, 3), (9, .arraylength, 1), (10, .if_icmp .ge 12, 3), (13, .aload_n 0, 1), (14, .getfield 9, 3), (17, .iload_n 1, 1), (18, .iaload, 1), (19, .goto 4, 3), (22, .iconst (-1), 1), (23, .ireturn, 1)]])
set_option maxRecDepth 100000 in
theorem MX0_kindOf_dec : k_dec MX0_kindOf.2.1 MX0_kindOf.2.2.2.2 = true := by decide +kernel
def MX0_isUnder : k_M := (yX0_isUnder, cX0_isUnder, 5, (some .boolean), [[(0, .iload_n 1, 1), (1, .istore_n 3, 1), (2, .iconst 0, 1), (3, .istore 4, 2), (5, .iload 4, 2), (7, .bipush 8, 2), (9, .if_icmp .ge 34, 3), (12, .iload_n 3, 1), (13, .ifCond .lt 30, 3), (16, .iload_n 3, 1), (17, .getstatic 22, 3), (20, .arraylength, 1), (21, .if_icmp .ge 22, 3), (24, .iload_n 3, 1), (25, .iload_n 2, 1), (26, .if_icmp .ne 5, 3)], [(29, .iconst 1, 1), (30, .ireturn, 1), (31, .getstatic 22, 3), (34, .iload_n 3, 1), (35, .iaload, 1), (36, .istore_n 3, 1), (37, .iinc 4 1, 3), (40, .goto (-35), 3), (43, .iconst 0, 1), (44, .ireturn, 1)]])
set_option maxRecDepth 100000 in
theorem MX0_isUnder_dec : k_dec MX0_isUnder.2.1 MX0_isUnder.2.2.2.2 = true := by decide +kernel
def MX0_forgetTrace : k_M := (yX0_forgetTrace, cX0_forgetTrace, 1, none, [[(0, .aload_n 0, 1), (1, .iconst 0, 1), (2, .putfield 25, 3), (5, .return_, 1)]])
set_option maxRecDepth 100000 in
theorem MX0_forgetTrace_dec : k_dec MX0_forgetTrace.2.1 MX0_forgetTrace.2.2.2.2 = true := by decide +kernel
def MX0_tracedAt : k_M := (yX0_tracedAt, cX0_tracedAt, 2, (some .int), [[(0, .iload_n 1, 1), (1, .ifCond .lt 21, 3), (4, .iload_n 1, 1), (5, .aload_n 0, 1), (6, .getfield 15, 3), (9, .arraylength, 1), (10, .if_icmp .ge 12, 3), (13, .aload_n 0, 1), (14, .getfield 15, 3), (17, .iload_n 1, 1), (18, .iaload, 1), (19, .goto 4, 3), (22, .iconst (-1), 1), (23, .ireturn, 1)]])
set_option maxRecDepth 100000 in
theorem MX0_tracedAt_dec : k_dec MX0_tracedAt.2.1 MX0_tracedAt.2.2.2.2 = true := by decide +kernel
def MX0_perform : k_M := (yX0_perform, cX0_perform, 4, (some .int), [[(0, .aload_n 0, 1), (1, .iload_n 1, 1), (2, .putfield 28, 3), (5, .aload_n 0, 1), (6, .iload_n 2, 1), (7, .iload_n 3, 1), (8, .iconst 0, 1), (9, .invokevirtual 31, 3), (12, .ireturn, 1)]])
set_option maxRecDepth 100000 in
theorem MX0_perform_dec : k_dec MX0_perform.2.1 MX0_perform.2.2.2.2 = true := by decide +kernel
def MX0_call : k_M := (yX0_call, cX0_call, 4, (some .int), [[(0, .aload_n 0, 1), (1, .aload_n 0, 1), (2, .aload_n 0, 1), (3, .getfield 28, 3), (6, .invokevirtual 35, 3), (9, .iload_n 1, 1), (10, .invokestatic 39, 3), (13, .iload_n 2, 1), (14, .iload_n 3, 1), (15, .iconst 1, 1), (16, .iadd, 1), (17, .invokevirtual 43, 3), (20, .ireturn, 1)]])
set_option maxRecDepth 100000 in
theorem MX0_call_dec : k_dec MX0_call.2.1 MX0_call.2.2.2.2 = true := by decide +kernel
def MX0_above : k_M := (yX0_above, cX0_above, 6, (some .int), [[(0, .iload_n 1, 1), (1, .ifCond .lt 19, 3), (4, .iload_n 1, 1), (5, .getstatic 22, 3), (8, .arraylength, 1), (9, .if_icmp .ge 11, 3), (12, .getstatic 22, 3), (15, .iload_n 1, 1), (16, .iaload, 1), (17, .goto 4, 3), (20, .iconst (-1), 1), (21, .istore 5, 2), (23, .aload_n 0, 1), (24, .iload 5, 2), (26, .iload_n 2, 1), (27, .invokestatic 39, 3)], [(30, .iload_n 3, 1), (31, .iload 4, 2), (33, .iconst 1, 1), (34, .iadd, 1), (35, .invokevirtual 43, 3), (38, .ireturn, 1)]])
set_option maxRecDepth 100000 in
theorem MX0_above_dec : k_dec MX0_above.2.1 MX0_above.2.2.2.2 = true := by decide +kernel
def MX0_bodyFor : k_M := (yX0_bodyFor, cX0_bodyFor, 5, (some .int), [[(0, .iload_n 0, 1), (1, .istore_n 2, 1), (2, .iconst 0, 1), (3, .istore_n 3, 1), (4, .iload_n 3, 1), (5, .bipush 8, 2), (7, .if_icmp .ge 64, 3), (10, .iload_n 2, 1), (11, .ifCond .lt 60, 3), (14, .iload_n 2, 1), (15, .getstatic 22, 3), (18, .arraylength, 1), (19, .if_icmp .ge 52, 3), (22, .iconst 4, 1), (23, .iload_n 2, 1), (24, .imul, 1)], [(25, .iload_n 1, 1), (26, .iadd, 1), (27, .istore 4, 2), (29, .iload 4, 2), (31, .ifCond .lt 28, 3), (34, .iload 4, 2), (36, .getstatic 46, 3), (39, .arraylength, 1), (40, .if_icmp .ge 19, 3), (43, .getstatic 46, 3), (46, .iload 4, 2), (48, .iaload, 1), (49, .ifCond .eq 10, 3), (52, .getstatic 46, 3), (55, .iload 4, 2), (57, .iaload, 1)], [(58, .ireturn, 1), (59, .getstatic 22, 3), (62, .iload_n 2, 1), (63, .iaload, 1), (64, .istore_n 2, 1), (65, .iinc 3 1, 3), (68, .goto (-64), 3), (71, .iconst 0, 1), (72, .ireturn, 1)]])
set_option maxRecDepth 100000 in
theorem MX0_bodyFor_dec : k_dec MX0_bodyFor.2.1 MX0_bodyFor.2.2.2.2 = true := by decide +kernel
def MX0_run_t0 : List (List (Nat × Instr × Nat)) := [[(0, .iload_n 3, 1), (1, .bipush 40, 2), (3, .if_icmp .le 5, 3), (6, .iconst 0, 1), (7, .ireturn, 1), (8, .aload_n 0, 1), (9, .getfield 25, 3), (12, .ifCond .lt 25, 3), (15, .aload_n 0, 1), (16, .getfield 25, 3), (19, .aload_n 0, 1), (20, .getfield 15, 3), (23, .arraylength, 1), (24, .if_icmp .ge 13, 3), (27, .aload_n 0, 1), (28, .getfield 15, 3)], [(31, .aload_n 0, 1), (32, .getfield 25, 3), (35, .iload_n 1, 1), (36, .iastore, 1), (37, .aload_n 0, 1), (38, .dup, 1), (39, .getfield 25, 3), (42, .iconst 1, 1), (43, .iadd, 1), (44, .putfield 25, 3), (47, .iload_n 1, 1), (48, .lookupswitch 288 #[(1, 124), (2, 131), (10, 147), (11, 157), (20, 164), (30, 175), (40, 185), (41, 196), (50, 207), (60, 218), (61, 235), (70, 246), (80, 258), (81, 276)], 124), (172, .iload_n 2, 1), (173, .aload_n 0, 1), (174, .getfield 28, 3), (177, .iadd, 1)], [(178, .ireturn, 1), (179, .aload_n 0, 1), (180, .iconst 1, 1), (181, .iload_n 2, 1), (182, .iload_n 3, 1), (183, .invokevirtual 31, 3), (186, .aload_n 0, 1), (187, .iconst 2, 1), (188, .iconst 1, 1), (189, .iload_n 3, 1), (190, .invokevirtual 31, 3), (193, .isub, 1), (194, .ireturn, 1), (195, .aload_n 0, 1), (196, .iconst 0, 1), (197, .iload_n 2, 1)]]
set_option maxRecDepth 100000 in
theorem MX0_run_d0 : k_dec cX0_run MX0_run_t0 = true := by decide +kernel
def MX0_run_t1 : List (List (Nat × Instr × Nat)) := [[(198, .iload_n 3, 1), (199, .invokevirtual 31, 3), (202, .iconst 2, 1), (203, .imul, 1), (204, .ireturn, 1), (205, .iload_n 2, 1), (206, .aload_n 0, 1), (207, .getfield 28, 3), (210, .ixor, 1), (211, .ireturn, 1), (212, .aload_n 0, 1), (213, .iconst 1, 1), (214, .iconst 0, 1), (215, .iload_n 2, 1), (216, .iload_n 3, 1), (217, .invokevirtual 49, 3)], [(220, .iconst 3, 1), (221, .iadd, 1), (222, .ireturn, 1), (223, .aload_n 0, 1), (224, .iconst 2, 1), (225, .iconst 1, 1), (226, .iload_n 2, 1), (227, .iload_n 3, 1), (228, .invokevirtual 49, 3), (231, .ineg, 1), (232, .ireturn, 1), (233, .aload_n 0, 1), (234, .iconst 3, 1), (235, .iconst 2, 1), (236, .iload_n 2, 1), (237, .iload_n 3, 1)], [(238, .invokevirtual 49, 3), (241, .iconst 3, 1), (242, .imul, 1), (243, .ireturn, 1), (244, .aload_n 0, 1), (245, .iconst 3, 1), (246, .iconst 1, 1), (247, .iload_n 2, 1), (248, .iconst 1, 1), (249, .iadd, 1), (250, .iload_n 3, 1), (251, .invokevirtual 49, 3), (254, .ireturn, 1), (255, .aload_n 0, 1), (256, .iconst 4, 1), (257, .iconst 3, 1)]]
set_option maxRecDepth 100000 in
theorem MX0_run_d1 : k_dec cX0_run MX0_run_t1 = true := by decide +kernel
def MX0_run_t2 : List (List (Nat × Instr × Nat)) := [[(258, .iload_n 2, 1), (259, .iload_n 3, 1), (260, .invokevirtual 49, 3), (263, .iconst 5, 1), (264, .ixor, 1), (265, .ireturn, 1), (266, .aload_n 0, 1), (267, .iconst 5, 1), (268, .iconst 2, 1), (269, .iload_n 2, 1), (270, .iload_n 3, 1), (271, .invokevirtual 49, 3), (274, .aload_n 0, 1), (275, .iconst 0, 1), (276, .iconst 2, 1), (277, .iload_n 3, 1)], [(278, .invokevirtual 31, 3), (281, .isub, 1), (282, .ireturn, 1), (283, .aload_n 0, 1), (284, .iconst 5, 1), (285, .iconst 3, 1), (286, .iload_n 2, 1), (287, .iload_n 3, 1), (288, .invokevirtual 49, 3), (291, .iconst 1, 1), (292, .iadd, 1), (293, .ireturn, 1), (294, .aload_n 0, 1), (295, .bipush 6, 2), (297, .iconst 0, 1), (298, .iload_n 2, 1)], [(299, .iload_n 3, 1), (300, .invokevirtual 49, 3), (303, .iconst 2, 1), (304, .imul, 1), (305, .ireturn, 1), (306, .aload_n 0, 1), (307, .bipush 7, 2), (309, .iconst 1, 1), (310, .iload_n 2, 1), (311, .iload_n 3, 1), (312, .invokevirtual 49, 3), (315, .aload_n 0, 1), (316, .iconst 2, 1), (317, .iconst 2, 1), (318, .iload_n 3, 1), (319, .invokevirtual 31, 3)]]
set_option maxRecDepth 100000 in
theorem MX0_run_d2 : k_dec cX0_run MX0_run_t2 = true := by decide +kernel
def MX0_run_t3 : List (List (Nat × Instr × Nat)) := [[(322, .iadd, 1), (323, .ireturn, 1), (324, .aload_n 0, 1), (325, .bipush 7, 2), (327, .iconst 0, 1), (328, .iload_n 2, 1), (329, .iload_n 3, 1), (330, .invokevirtual 49, 3), (333, .iconst 1, 1), (334, .isub, 1), (335, .ireturn, 1), (336, .iconst 0, 1), (337, .ireturn, 1)]]
set_option maxRecDepth 100000 in
theorem MX0_run_d3 : k_dec cX0_run MX0_run_t3 = true := by decide +kernel
def MX0_run : k_M := (yX0_run, cX0_run, 4, (some .int), MX0_run_t0 ++ (MX0_run_t1 ++ (MX0_run_t2 ++ (MX0_run_t3))))
theorem MX0_run_dec : k_dec MX0_run.2.1 MX0_run.2.2.2.2 = true := k_dec_app MX0_run_d0 (k_dec_app MX0_run_d1 (k_dec_app MX0_run_d2 (MX0_run_d3)))
def MX1_wheelAt : k_M := (yX1_wheelAt, cX1_wheelAt, 2, (some .int), [[(0, .iload_n 1, 1), (1, .ifCond .lt 21, 3), (4, .iload_n 1, 1), (5, .aload_n 0, 1), (6, .getfield 9, 3), (9, .arraylength, 1), (10, .if_icmp .ge 12, 3), (13, .aload_n 0, 1), (14, .getfield 9, 3), (17, .iload_n 1, 1), (18, .iaload, 1), (19, .goto 4, 3), (22, .iconst (-1), 1), (23, .ireturn, 1)]])
set_option maxRecDepth 100000 in
theorem MX1_wheelAt_dec : k_dec MX1_wheelAt.2.1 MX1_wheelAt.2.2.2.2 = true := by decide +kernel
def MX1_placeAt : k_M := (yX1_placeAt, cX1_placeAt, 2, (some .int), [[(0, .iload_n 1, 1), (1, .ifCond .lt 21, 3), (4, .iload_n 1, 1), (5, .aload_n 0, 1), (6, .getfield 15, 3), (9, .arraylength, 1), (10, .if_icmp .ge 12, 3), (13, .aload_n 0, 1), (14, .getfield 15, 3), (17, .iload_n 1, 1), (18, .iaload, 1), (19, .goto 4, 3), (22, .iconst (-1), 1), (23, .ireturn, 1)]])
set_option maxRecDepth 100000 in
theorem MX1_placeAt_dec : k_dec MX1_placeAt.2.1 MX1_placeAt.2.2.2.2 = true := by decide +kernel
def MX1_beforeAt : k_M := (yX1_beforeAt, cX1_beforeAt, 2, (some .int), [[(0, .iload_n 1, 1), (1, .ifCond .lt 21, 3), (4, .iload_n 1, 1), (5, .aload_n 0, 1), (6, .getfield 18, 3), (9, .arraylength, 1), (10, .if_icmp .ge 12, 3), (13, .aload_n 0, 1), (14, .getfield 18, 3), (17, .iload_n 1, 1), (18, .iaload, 1), (19, .goto 4, 3), (22, .iconst 0, 1), (23, .ireturn, 1)]])
set_option maxRecDepth 100000 in
theorem MX1_beforeAt_dec : k_dec MX1_beforeAt.2.1 MX1_beforeAt.2.2.2.2 = true := by decide +kernel
def MX1_afterAt : k_M := (yX1_afterAt, cX1_afterAt, 2, (some .int), [[(0, .iload_n 1, 1), (1, .ifCond .lt 21, 3), (4, .iload_n 1, 1), (5, .aload_n 0, 1), (6, .getfield 21, 3), (9, .arraylength, 1), (10, .if_icmp .ge 12, 3), (13, .aload_n 0, 1), (14, .getfield 21, 3), (17, .iload_n 1, 1), (18, .iaload, 1), (19, .goto 4, 3), (22, .iconst 0, 1), (23, .ireturn, 1)]])
set_option maxRecDepth 100000 in
theorem MX1_afterAt_dec : k_dec MX1_afterAt.2.1 MX1_afterAt.2.2.2.2 = true := by decide +kernel
def MX1_add : k_M := (yX1_add, cX1_add, 5, none, [[(0, .iload_n 3, 1), (1, .iload 4, 2), (3, .if_icmp .ne 4, 3), (6, .return_, 1), (7, .aload_n 0, 1), (8, .getfield 24, 3), (11, .bipush 40, 2), (13, .if_icmp .lt 7, 3), (16, .aload_n 0, 1), (17, .invokevirtual 28, 3), (20, .aload_n 0, 1), (21, .aload_n 0, 1), (22, .getfield 24, 3), (25, .iload_n 1, 1), (26, .iload_n 2, 1), (27, .iload_n 3, 1)], [(28, .iload 4, 2), (30, .invokevirtual 31, 3), (33, .aload_n 0, 1), (34, .dup, 1), (35, .getfield 24, 3), (38, .iconst 1, 1), (39, .iadd, 1), (40, .putfield 24, 3), (43, .aload_n 0, 1), (44, .aload_n 0, 1), (45, .getfield 24, 3), (48, .putfield 35, 3), (51, .return_, 1)]])
set_option maxRecDepth 100000 in
theorem MX1_add_dec : k_dec MX1_add.2.1 MX1_add.2.2.2.2 = true := by decide +kernel
def MX1_dropOldest : k_M := (yX1_dropOldest, cX1_dropOldest, 2, none, [[(0, .iconst 1, 1), (1, .istore_n 1, 1), (2, .iload_n 1, 1), (3, .bipush 40, 2), (5, .if_icmp .ge 36, 3), (8, .aload_n 0, 1), (9, .iload_n 1, 1), (10, .iconst 1, 1), (11, .isub, 1), (12, .aload_n 0, 1), (13, .iload_n 1, 1), (14, .invokevirtual 38, 3), (17, .aload_n 0, 1), (18, .iload_n 1, 1), (19, .invokevirtual 42, 3), (22, .aload_n 0, 1)], [(23, .iload_n 1, 1), (24, .invokevirtual 45, 3), (27, .aload_n 0, 1), (28, .iload_n 1, 1), (29, .invokevirtual 48, 3), (32, .invokevirtual 31, 3), (35, .iinc 1 1, 3), (38, .goto (-36), 3), (41, .aload_n 0, 1), (42, .bipush 39, 2), (44, .putfield 24, 3), (47, .return_, 1)]])
set_option maxRecDepth 100000 in
theorem MX1_dropOldest_dec : k_dec MX1_dropOldest.2.1 MX1_dropOldest.2.2.2.2 = true := by decide +kernel
def MX1_write : k_M := (yX1_write, cX1_write, 6, none, [[(0, .iload_n 1, 1), (1, .ifCond .lt 21, 3), (4, .iload_n 1, 1), (5, .aload_n 0, 1), (6, .getfield 9, 3), (9, .arraylength, 1), (10, .if_icmp .ge 12, 3), (13, .iload_n 1, 1), (14, .aload_n 0, 1), (15, .getfield 15, 3), (18, .arraylength, 1), (19, .if_icmp .lt 4, 3), (22, .return_, 1), (23, .iload_n 1, 1), (24, .aload_n 0, 1), (25, .getfield 18, 3)], [(28, .arraylength, 1), (29, .if_icmp .ge 12, 3), (32, .iload_n 1, 1), (33, .aload_n 0, 1), (34, .getfield 21, 3), (37, .arraylength, 1), (38, .if_icmp .lt 4, 3), (41, .return_, 1), (42, .aload_n 0, 1), (43, .getfield 9, 3), (46, .iload_n 1, 1), (47, .iload_n 2, 1), (48, .iastore, 1), (49, .aload_n 0, 1), (50, .getfield 15, 3), (53, .iload_n 1, 1)], [(54, .iload_n 3, 1), (55, .iastore, 1), (56, .aload_n 0, 1), (57, .getfield 18, 3), (60, .iload_n 1, 1), (61, .iload 4, 2), (63, .iastore, 1), (64, .aload_n 0, 1), (65, .getfield 21, 3), (68, .iload_n 1, 1), (69, .iload 5, 2), (71, .iastore, 1), (72, .return_, 1)]])
set_option maxRecDepth 100000 in
theorem MX1_write_dec : k_dec MX1_write.2.1 MX1_write.2.2.2.2 = true := by decide +kernel
def MX2_firstWrong_t0 : List (List (Nat × Instr × Nat)) := [[(0, .bipush (-2), 2), (2, .istore_n 2, 1), (3, .aload_n 0, 1), (4, .getfield 22, 3), (7, .getfield 30, 3), (10, .astore_n 3, 1), (11, .aload_n 0, 1), (12, .getfield 22, 3), (15, .invokevirtual 36, 3), (18, .iconst 0, 1), (19, .istore 4, 2), (21, .iload 4, 2), (23, .aload_n 0, 1), (24, .getfield 26, 3), (27, .getfield 39, 3), (30, .if_icmp .ge 101, 3)], [(33, .aload_n 0, 1), (34, .getfield 26, 3), (37, .iload 4, 2), (39, .invokevirtual 45, 3), (42, .istore 5, 2), (44, .aload_n 0, 1), (45, .getfield 26, 3), (48, .iload 5, 2), (50, .invokevirtual 49, 3), (53, .istore 6, 2), (55, .iload 6, 2), (57, .aload_n 3, 1), (58, .getfield 52, 3), (61, .if_icmp .ge 6, 3), (64, .goto 61, 3), (67, .aload_n 0, 1)], [(68, .getfield 22, 3), (71, .aload_n 3, 1), (72, .iload 6, 2), (74, .aload_n 3, 1), (75, .getfield 52, 3), (78, .isub, 1), (79, .iconst 1, 1), (80, .invokevirtual 57, 3), (83, .aload_n 3, 1), (84, .iconst 0, 1), (85, .invokevirtual 61, 3), (88, .aload_n 0, 1), (89, .getfield 26, 3), (92, .iload 5, 2), (94, .invokevirtual 64, 3), (97, .if_icmp .ne 6, 3)]]
set_option maxRecDepth 100000 in
theorem MX2_firstWrong_d0 : k_dec cX2_firstWrong MX2_firstWrong_t0 = true := by decide +kernel
def MX2_firstWrong_t1 : List (List (Nat × Instr × Nat)) := [[(100, .goto 25, 3), (103, .iload_n 1, 1), (104, .ifCond .eq 6, 3), (107, .iload 5, 2), (109, .ireturn, 1), (110, .iload_n 2, 1), (111, .bipush (-2), 2), (113, .if_icmp .eq 9, 3), (116, .iload 5, 2), (118, .iload_n 2, 1), (119, .if_icmp .ge 6, 3), (122, .iload 5, 2), (124, .istore_n 2, 1), (125, .iinc 4 1, 3), (128, .goto (-107), 3), (131, .iload_n 2, 1)], [(132, .ireturn, 1)]]
set_option maxRecDepth 100000 in
theorem MX2_firstWrong_d1 : k_dec cX2_firstWrong MX2_firstWrong_t1 = true := by decide +kernel
def MX2_firstWrong : k_M := (yX2_firstWrong, cX2_firstWrong, 7, (some .int), MX2_firstWrong_t0 ++ (MX2_firstWrong_t1))
theorem MX2_firstWrong_dec : k_dec MX2_firstWrong.2.1 MX2_firstWrong.2.2.2.2 = true := k_dec_app MX2_firstWrong_d0 (MX2_firstWrong_d1)
def MX2_fitting : k_M := (yX2_fitting, cX2_fitting, 5, (some .int), [[(0, .iconst 0, 1), (1, .istore_n 2, 1), (2, .aload_n 0, 1), (3, .getfield 18, 3), (6, .iconst 0, 1), (7, .iload_n 1, 1), (8, .invokevirtual 65, 3), (11, .istore_n 3, 1), (12, .iconst 0, 1), (13, .istore 4, 2), (15, .iload 4, 2), (17, .getstatic 71, 3), (20, .arraylength, 1), (21, .if_icmp .ge 41, 3), (24, .aload_n 0, 1), (25, .getfield 18, 3)], [(28, .iconst 0, 1), (29, .iload_n 1, 1), (30, .getstatic 71, 3), (33, .iload 4, 2), (35, .iaload, 1), (36, .invokevirtual 74, 3), (39, .aload_n 0, 1), (40, .iconst 1, 1), (41, .invokevirtual 78, 3), (44, .bipush (-2), 2), (46, .if_icmp .ne 10, 3), (49, .iload_n 2, 1), (50, .iconst 1, 1), (51, .iload 4, 2), (53, .ishl, 1), (54, .ior, 1)], [(55, .istore_n 2, 1), (56, .iinc 4 1, 3), (59, .goto (-44), 3), (62, .aload_n 0, 1), (63, .getfield 18, 3), (66, .iconst 0, 1), (67, .iload_n 1, 1), (68, .iload_n 3, 1), (69, .invokevirtual 74, 3), (72, .iload_n 2, 1), (73, .ireturn, 1)]])
set_option maxRecDepth 100000 in
theorem MX2_fitting_dec : k_dec MX2_fitting.2.1 MX2_fitting.2.2.2.2 = true := by decide +kernel
def MX2_tryBreaks_t0 : List (List (Nat × Instr × Nat)) := [[(0, .aload_n 0, 1), (1, .getfield 18, 3), (4, .iconst 0, 1), (5, .invokevirtual 82, 3), (8, .istore_n 1, 1), (9, .aload_n 0, 1), (10, .bipush (-2), 2), (12, .putfield 85, 3), (15, .aload_n 0, 1), (16, .bipush (-2), 2), (18, .putfield 88, 3), (21, .aload_n 0, 1), (22, .iconst 0, 1), (23, .putfield 91, 3), (26, .iconst 0, 1), (27, .istore_n 2, 1)], [(28, .iconst (-1), 1), (29, .istore_n 3, 1), (30, .iconst 0, 1), (31, .istore 4, 2), (33, .iload 4, 2), (35, .sipush 400, 3), (38, .if_icmp .gt 112, 3), (41, .iload 4, 2), (43, .iload_n 3, 1), (44, .if_icmp .le 62, 3), (47, .aload_n 0, 1), (48, .getfield 18, 3), (51, .iconst 0, 1), (52, .iload 4, 2), (54, .invokevirtual 94, 3), (57, .aload_n 0, 1)], [(58, .getfield 22, 3), (61, .iconst (-1), 1), (62, .putfield 98, 3), (65, .aload_n 0, 1), (66, .iconst 1, 1), (67, .invokevirtual 78, 3), (70, .bipush (-2), 2), (72, .if_icmp .ne 7, 3), (75, .iconst 1, 1), (76, .goto 4, 3), (79, .iconst 0, 1), (80, .istore_n 2, 1), (81, .aload_n 0, 1), (82, .getfield 22, 3), (85, .getfield 98, 3), (88, .iconst (-1), 1)]]
set_option maxRecDepth 100000 in
theorem MX2_tryBreaks_d0 : k_dec cX2_tryBreaks MX2_tryBreaks_t0 = true := by decide +kernel
def MX2_tryBreaks_t1 : List (List (Nat × Instr × Nat)) := [[(89, .if_icmp .ne 9, 3), (92, .sipush 400, 3), (95, .goto 10, 3), (98, .aload_n 0, 1), (99, .getfield 22, 3), (102, .getfield 98, 3), (105, .istore_n 3, 1), (106, .iload_n 2, 1), (107, .ifCond .ne 6, 3), (110, .goto 34, 3), (113, .aload_n 0, 1), (114, .getfield 85, 3), (117, .bipush (-2), 2), (119, .if_icmp .ne 9, 3), (122, .aload_n 0, 1), (123, .iload 4, 2)], [(125, .putfield 85, 3), (128, .aload_n 0, 1), (129, .iload 4, 2), (131, .putfield 88, 3), (134, .aload_n 0, 1), (135, .dup, 1), (136, .getfield 91, 3), (139, .iconst 1, 1), (140, .iadd, 1), (141, .putfield 91, 3), (144, .iinc 4 1, 3), (147, .goto (-114), 3), (150, .aload_n 0, 1), (151, .getfield 18, 3), (154, .iconst 0, 1), (155, .iload_n 1, 1)], [(156, .invokevirtual 94, 3), (159, .return_, 1)]]
set_option maxRecDepth 100000 in
theorem MX2_tryBreaks_d1 : k_dec cX2_tryBreaks MX2_tryBreaks_t1 = true := by decide +kernel
def MX2_tryBreaks : k_M := (yX2_tryBreaks, cX2_tryBreaks, 5, none, MX2_tryBreaks_t0 ++ (MX2_tryBreaks_t1))
theorem MX2_tryBreaks_dec : k_dec MX2_tryBreaks.2.1 MX2_tryBreaks.2.2.2.2 = true := k_dec_app MX2_tryBreaks_d0 (MX2_tryBreaks_d1)
def MX2_fewestNights : k_M := (yX2_fewestNights, cX2_fewestNights, 7, (some .int), [[(0, .iload_n 2, 1), (1, .invokestatic 101, 3), (4, .iconst 2, 1), (5, .if_icmp .ge 5, 3), (8, .iconst 0, 1), (9, .ireturn, 1), (10, .aload_n 0, 1), (11, .iload_n 1, 1), (12, .invokevirtual 106, 3), (15, .aload_n 0, 1), (16, .invokevirtual 110, 3), (19, .bipush (-2), 2), (21, .istore_n 3, 1), (22, .bipush 11, 2), (24, .istore 4, 2), (26, .iconst 1, 1)], [(27, .istore 5, 2), (29, .iload 5, 2), (31, .sipush 1024, 3), (34, .if_icmp .ge 40, 3), (37, .iload 5, 2), (39, .invokestatic 101, 3), (42, .istore 6, 2), (44, .iload 6, 2), (46, .iload 4, 2), (48, .if_icmp .ge 20, 3), (51, .aload_n 0, 1), (52, .iload 5, 2), (54, .iload_n 2, 1), (55, .invokevirtual 113, 3), (58, .ifCond .eq 10, 3), (61, .iload 5, 2)], [(63, .istore_n 3, 1), (64, .iload 6, 2), (66, .istore 4, 2), (68, .iinc 5 1, 3), (71, .goto (-42), 3), (74, .iload_n 3, 1), (75, .ireturn, 1)]])
set_option maxRecDepth 100000 in
theorem MX2_fewestNights_dec : k_dec MX2_fewestNights.2.1 MX2_fewestNights.2.2.2.2 = true := by decide +kernel
def MX2_watchLetters_t0 : List (List (Nat × Instr × Nat)) := [[(0, .aload_n 0, 1), (1, .getfield 18, 3), (4, .iconst 0, 1), (5, .iload_n 1, 1), (6, .invokevirtual 65, 3), (9, .istore_n 2, 1), (10, .iconst 0, 1), (11, .istore_n 3, 1), (12, .iload_n 3, 1), (13, .getstatic 71, 3), (16, .arraylength, 1), (17, .if_icmp .ge 99, 3), (20, .aload_n 0, 1), (21, .getfield 18, 3), (24, .iconst 0, 1), (25, .iload_n 1, 1)], [(26, .getstatic 71, 3), (29, .iload_n 3, 1), (30, .iaload, 1), (31, .invokevirtual 74, 3), (34, .aload_n 0, 1), (35, .getfield 22, 3), (38, .invokevirtual 36, 3), (41, .iconst 0, 1), (42, .istore 4, 2), (44, .iload 4, 2), (46, .bipush 10, 2), (48, .if_icmp .ge 62, 3), (51, .aload_n 0, 1), (52, .getfield 22, 3), (55, .aload_n 0, 1), (56, .getfield 22, 3)], [(59, .getfield 30, 3), (62, .iconst 1, 1), (63, .iconst 1, 1), (64, .invokevirtual 57, 3), (67, .bipush 10, 2), (69, .iload_n 3, 1), (70, .imul, 1), (71, .iload 4, 2), (73, .iadd, 1), (74, .istore 5, 2), (76, .iload 5, 2), (78, .aload_n 0, 1), (79, .getfield 11, 3), (82, .arraylength, 1), (83, .if_icmp .ge 21, 3), (86, .aload_n 0, 1)]]
set_option maxRecDepth 100000 in
theorem MX2_watchLetters_d0 : k_dec cX2_watchLetters MX2_watchLetters_t0 = true := by decide +kernel
def MX2_watchLetters_t1 : List (List (Nat × Instr × Nat)) := [[(87, .getfield 11, 3), (90, .iload 5, 2), (92, .aload_n 0, 1), (93, .getfield 22, 3), (96, .getfield 30, 3), (99, .iconst 0, 1), (100, .invokevirtual 61, 3), (103, .iastore, 1), (104, .iinc 4 1, 3), (107, .goto (-63), 3), (110, .iinc 3 1, 3), (113, .goto (-101), 3), (116, .aload_n 0, 1), (117, .getfield 18, 3), (120, .iconst 0, 1), (121, .iload_n 1, 1)], [(122, .iload_n 2, 1), (123, .invokevirtual 74, 3), (126, .return_, 1)]]
set_option maxRecDepth 100000 in
theorem MX2_watchLetters_d1 : k_dec cX2_watchLetters MX2_watchLetters_t1 = true := by decide +kernel
def MX2_watchLetters : k_M := (yX2_watchLetters, cX2_watchLetters, 6, none, MX2_watchLetters_t0 ++ (MX2_watchLetters_t1))
theorem MX2_watchLetters_dec : k_dec MX2_watchLetters.2.1 MX2_watchLetters.2.2.2.2 = true := k_dec_app MX2_watchLetters_d0 (MX2_watchLetters_d1)
def MX2_compareLetters_t0 : List (List (Nat × Instr × Nat)) := [[(0, .iconst 0, 1), (1, .istore_n 1, 1), (2, .iload_n 1, 1), (3, .aload_n 0, 1), (4, .getfield 15, 3), (7, .arraylength, 1), (8, .if_icmp .ge 98, 3), (11, .iconst 0, 1), (12, .istore_n 2, 1), (13, .iconst 0, 1), (14, .istore_n 3, 1), (15, .iload_n 3, 1), (16, .bipush 10, 2), (18, .if_icmp .ge 75, 3), (21, .bipush 10, 2), (23, .iload_n 1, 1)], [(24, .iconst 4, 1), (25, .idiv, 1), (26, .imul, 1), (27, .iload_n 3, 1), (28, .iadd, 1), (29, .istore 4, 2), (31, .bipush 10, 2), (33, .iload_n 1, 1), (34, .iconst 4, 1), (35, .irem, 1), (36, .imul, 1), (37, .iload_n 3, 1), (38, .iadd, 1), (39, .istore 5, 2), (41, .iload 4, 2), (43, .aload_n 0, 1)], [(44, .getfield 11, 3), (47, .arraylength, 1), (48, .if_icmp .ge 39, 3), (51, .iload 5, 2), (53, .aload_n 0, 1), (54, .getfield 11, 3), (57, .arraylength, 1), (58, .if_icmp .lt 6, 3), (61, .goto 26, 3), (64, .aload_n 0, 1), (65, .getfield 11, 3), (68, .iload 4, 2), (70, .iaload, 1), (71, .aload_n 0, 1), (72, .getfield 11, 3), (75, .iload 5, 2)]]
set_option maxRecDepth 100000 in
theorem MX2_compareLetters_d0 : k_dec cX2_compareLetters MX2_compareLetters_t0 = true := by decide +kernel
def MX2_compareLetters_t1 : List (List (Nat × Instr × Nat)) := [[(77, .iaload, 1), (78, .if_icmp .eq 9, 3), (81, .iload_n 2, 1), (82, .iconst 1, 1), (83, .iload_n 3, 1), (84, .ishl, 1), (85, .ior, 1), (86, .istore_n 2, 1), (87, .iinc 3 1, 3), (90, .goto (-75), 3), (93, .aload_n 0, 1), (94, .getfield 15, 3), (97, .iload_n 1, 1), (98, .iload_n 2, 1), (99, .iastore, 1), (100, .iinc 1 1, 3)], [(103, .goto (-101), 3), (106, .return_, 1)]]
set_option maxRecDepth 100000 in
theorem MX2_compareLetters_d1 : k_dec cX2_compareLetters MX2_compareLetters_t1 = true := by decide +kernel
def MX2_compareLetters : k_M := (yX2_compareLetters, cX2_compareLetters, 6, none, MX2_compareLetters_t0 ++ (MX2_compareLetters_t1))
theorem MX2_compareLetters_dec : k_dec MX2_compareLetters.2.1 MX2_compareLetters.2.2.2.2 = true := k_dec_app MX2_compareLetters_d0 (MX2_compareLetters_d1)
def MX2_tellApart : k_M := (yX2_tellApart, cX2_tellApart, 7, (some .boolean), [[(0, .iconst 0, 1), (1, .istore_n 3, 1), (2, .iload_n 3, 1), (3, .aload_n 0, 1), (4, .getfield 15, 3), (7, .arraylength, 1), (8, .if_icmp .ge 71, 3), (11, .iload_n 3, 1), (12, .iconst 4, 1), (13, .idiv, 1), (14, .istore 4, 2), (16, .iload_n 3, 1), (17, .iconst 4, 1), (18, .irem, 1), (19, .istore 5, 2), (21, .iload_n 2, 1)], [(22, .iload 4, 2), (24, .ishr, 1), (25, .iconst 1, 1), (26, .iand, 1), (27, .iconst 1, 1), (28, .if_icmp .ne 17, 3), (31, .iload_n 2, 1), (32, .iload 5, 2), (34, .ishr, 1), (35, .iconst 1, 1), (36, .iand, 1), (37, .iconst 1, 1), (38, .if_icmp .ne 7, 3), (41, .iconst 1, 1), (42, .goto 4, 3), (45, .iconst 0, 1)], [(46, .istore 6, 2), (48, .iload 4, 2), (50, .iload 5, 2), (52, .if_icmp .ge 21, 3), (55, .iload 6, 2), (57, .ifCond .eq 16, 3), (60, .aload_n 0, 1), (61, .getfield 15, 3), (64, .iload_n 3, 1), (65, .iaload, 1), (66, .iload_n 1, 1), (67, .iand, 1), (68, .ifCond .ne 5, 3), (71, .iconst 0, 1), (72, .ireturn, 1), (73, .iinc 3 1, 3)], [(76, .goto (-74), 3), (79, .iconst 1, 1), (80, .ireturn, 1)]])
set_option maxRecDepth 100000 in
theorem MX2_tellApart_dec : k_dec MX2_tellApart.2.1 MX2_tellApart.2.2.2.2 = true := by decide +kernel
def MX3_takeFromTape : k_M := (yX3_takeFromTape, cX3_takeFromTape, 3, (some .int), [[(0, .aload_n 0, 1), (1, .getfield 23, 3), (4, .invokevirtual 27, 3), (7, .istore_n 1, 1), (8, .iload_n 1, 1), (9, .iconst (-1), 1), (10, .if_icmp .eq 5, 3), (13, .iload_n 1, 1), (14, .ireturn, 1), (15, .aload_n 0, 1), (16, .aload_n 0, 1), (17, .getfield 23, 3), (20, .getfield 31, 3), (23, .putfield 35, 3), (26, .iconst 0, 1), (27, .istore_n 2, 1)], [(28, .iload_n 2, 1), (29, .aload_n 0, 1), (30, .getfield 35, 3), (33, .if_icmp .ge 32, 3), (36, .iload_n 2, 1), (37, .aload_n 0, 1), (38, .getfield 11, 3), (41, .arraylength, 1), (42, .if_icmp .ge 23, 3), (45, .aload_n 0, 1), (46, .getfield 11, 3), (49, .iload_n 2, 1), (50, .aload_n 0, 1), (51, .getfield 23, 3), (54, .iload_n 2, 1), (55, .invokevirtual 36, 3)], [(58, .iastore, 1), (59, .iinc 2 1, 3), (62, .goto (-34), 3), (65, .iconst (-1), 1), (66, .ireturn, 1)]])
set_option maxRecDepth 100000 in
theorem MX3_takeFromTape_dec : k_dec MX3_takeFromTape.2.1 MX3_takeFromTape.2.2.2.2 = true := by decide +kernel
def MX3_valueAt : k_M := (yX3_valueAt, cX3_valueAt, 6, (some .int), [[(0, .aload_n 0, 1), (1, .iconst 0, 1), (2, .putfield 40, 3), (5, .iconst 0, 1), (6, .istore 4, 2), (8, .iload 4, 2), (10, .aload_n 0, 1), (11, .getfield 35, 3), (14, .if_icmp .ge 100, 3), (17, .iload 4, 2), (19, .aload_n 0, 1), (20, .getfield 11, 3), (23, .arraylength, 1), (24, .if_icmp .ge 90, 3), (27, .aload_n 0, 1), (28, .getfield 11, 3)], [(31, .iload 4, 2), (33, .iaload, 1), (34, .istore 5, 2), (36, .iload 5, 2), (38, .bipush (-59), 2), (40, .if_icmp .ne 8, 3), (43, .aload_n 0, 1), (44, .invokevirtual 43, 3), (47, .ireturn, 1), (48, .iload 5, 2), (50, .sipush 10000, 3), (53, .if_icmp .lt 28, 3), (56, .aload_n 0, 1), (57, .invokevirtual 43, 3), (60, .ifCond .ne 48, 3), (63, .iload 4, 2)], [(65, .iload 5, 2), (67, .sipush 10000, 3), (70, .isub, 1), (71, .iconst 1, 1), (72, .isub, 1), (73, .invokestatic 46, 3), (76, .istore 4, 2), (78, .goto 30, 3), (81, .iload 5, 2), (83, .ifCond .lt 12, 3), (86, .aload_n 0, 1), (87, .iload 5, 2), (89, .invokevirtual 52, 3), (92, .goto 16, 3), (95, .aload_n 0, 1), (96, .aload_n 0, 1)], [(97, .iload 5, 2), (99, .iload_n 1, 1), (100, .iload_n 2, 1), (101, .iload_n 3, 1), (102, .invokevirtual 56, 3), (105, .invokevirtual 52, 3), (108, .iinc 4 1, 3), (111, .goto (-103), 3), (114, .iconst 0, 1), (115, .ireturn, 1)]])
set_option maxRecDepth 100000 in
theorem MX3_valueAt_dec : k_dec MX3_valueAt.2.1 MX3_valueAt.2.2.2.2 = true := by decide +kernel
def MX3_resultOf_t0 : List (List (Nat × Instr × Nat)) := [[(0, .iload_n 1, 1), (1, .lookupswitch 101 #[(-122, 66), (-116, 59), (-112, 61), (-107, 63), (-33, 82), (-1, 95)], 59), (60, .iload_n 2, 1), (61, .ireturn, 1), (62, .iload_n 3, 1), (63, .ireturn, 1), (64, .iload 4, 2), (66, .ireturn, 1), (67, .iload_n 2, 1), (68, .ldc 60, 2), (70, .imul, 1), (71, .aload_n 0, 1), (72, .getfield 61, 3), (75, .iadd, 1), (76, .bipush 8, 2), (78, .iushr, 1)], [(79, .bipush 10, 2), (81, .irem, 1), (82, .ireturn, 1), (83, .aload_n 0, 1), (84, .invokevirtual 43, 3), (87, .ifCond .ne 7, 3), (90, .iconst 1, 1), (91, .goto 4, 3), (94, .iconst 0, 1), (95, .ireturn, 1), (96, .aload_n 0, 1), (97, .invokevirtual 43, 3), (100, .ineg, 1), (101, .ireturn, 1), (102, .aload_n 0, 1), (103, .invokevirtual 43, 3)], [(106, .istore 5, 2), (108, .aload_n 0, 1), (109, .invokevirtual 43, 3), (112, .istore 6, 2), (114, .iload_n 1, 1), (115, .lookupswitch 201 #[(-124, 89), (-62, 147), (-61, 134), (-60, 121), (-47, 178), (-45, 166), (-43, 160), (-42, 172), (-38, 105), (-37, 193)], 89), (204, .iload 6, 2), (206, .ifCond .ne 8, 3), (209, .iload 5, 2), (211, .ifCond .eq 7, 3), (214, .iconst 1, 1), (215, .goto 4, 3), (218, .iconst 0, 1), (219, .ireturn, 1), (220, .iload 6, 2), (222, .ifCond .eq 12, 3)]]
set_option maxRecDepth 100000 in
theorem MX3_resultOf_d0 : k_dec cX3_resultOf MX3_resultOf_t0 = true := by decide +kernel
def MX3_resultOf_t1 : List (List (Nat × Instr × Nat)) := [[(225, .iload 5, 2), (227, .ifCond .eq 7, 3), (230, .iconst 1, 1), (231, .goto 4, 3), (234, .iconst 0, 1), (235, .ireturn, 1), (236, .iload 6, 2), (238, .iload 5, 2), (240, .if_icmp .ge 7, 3), (243, .iconst 1, 1), (244, .goto 4, 3), (247, .iconst 0, 1), (248, .ireturn, 1), (249, .iload 6, 2), (251, .iload 5, 2), (253, .if_icmp .ne 7, 3)], [(256, .iconst 1, 1), (257, .goto 4, 3), (260, .iconst 0, 1), (261, .ireturn, 1), (262, .iload 6, 2), (264, .iload 5, 2), (266, .if_icmp .le 7, 3), (269, .iconst 1, 1), (270, .goto 4, 3), (273, .iconst 0, 1), (274, .ireturn, 1), (275, .iload 6, 2), (277, .iload 5, 2), (279, .iadd, 1), (280, .ireturn, 1), (281, .iload 6, 2)], [(283, .iload 5, 2), (285, .isub, 1), (286, .ireturn, 1), (287, .iload 6, 2), (289, .iload 5, 2), (291, .imul, 1), (292, .ireturn, 1), (293, .iload 5, 2), (295, .ifCond .ne 7, 3), (298, .iconst 0, 1), (299, .goto 8, 3), (302, .iload 6, 2), (304, .iload 5, 2), (306, .idiv, 1), (307, .ireturn, 1), (308, .iload 6, 2)]]
set_option maxRecDepth 100000 in
theorem MX3_resultOf_d1 : k_dec cX3_resultOf MX3_resultOf_t1 = true := by decide +kernel
def MX3_resultOf_t2 : List (List (Nat × Instr × Nat)) := [[(310, .iload 5, 2), (312, .invokestatic 64, 3), (315, .ireturn, 1), (316, .iconst 0, 1), (317, .ireturn, 1)]]
set_option maxRecDepth 100000 in
theorem MX3_resultOf_d2 : k_dec cX3_resultOf MX3_resultOf_t2 = true := by decide +kernel
def MX3_resultOf : k_M := (yX3_resultOf, cX3_resultOf, 7, (some .int), MX3_resultOf_t0 ++ (MX3_resultOf_t1 ++ (MX3_resultOf_t2)))
theorem MX3_resultOf_dec : k_dec MX3_resultOf.2.1 MX3_resultOf.2.2.2.2 = true := k_dec_app MX3_resultOf_d0 (k_dec_app MX3_resultOf_d1 (MX3_resultOf_d2))
def MX3_push : k_M := (yX3_push, cX3_push, 2, none, [[(0, .aload_n 0, 1), (1, .getfield 40, 3), (4, .ifCond .lt 15, 3), (7, .aload_n 0, 1), (8, .getfield 40, 3), (11, .aload_n 0, 1), (12, .getfield 15, 3), (15, .arraylength, 1), (16, .if_icmp .lt 4, 3), (19, .return_, 1), (20, .aload_n 0, 1), (21, .getfield 15, 3), (24, .aload_n 0, 1), (25, .getfield 40, 3), (28, .iload_n 1, 1), (29, .iastore, 1)], [(30, .aload_n 0, 1), (31, .dup, 1), (32, .getfield 40, 3), (35, .iconst 1, 1), (36, .iadd, 1), (37, .putfield 40, 3), (40, .return_, 1)]])
set_option maxRecDepth 100000 in
theorem MX3_push_dec : k_dec MX3_push.2.1 MX3_push.2.2.2.2 = true := by decide +kernel
def MX3_pop : k_M := (yX3_pop, cX3_pop, 1, (some .int), [[(0, .aload_n 0, 1), (1, .getfield 40, 3), (4, .ifCond .le 15, 3), (7, .aload_n 0, 1), (8, .getfield 40, 3), (11, .aload_n 0, 1), (12, .getfield 15, 3), (15, .arraylength, 1), (16, .if_icmp .le 5, 3), (19, .iconst 0, 1), (20, .ireturn, 1), (21, .aload_n 0, 1), (22, .dup, 1), (23, .getfield 40, 3), (26, .iconst 1, 1), (27, .isub, 1)], [(28, .putfield 40, 3), (31, .aload_n 0, 1), (32, .getfield 15, 3), (35, .aload_n 0, 1), (36, .getfield 40, 3), (39, .iaload, 1), (40, .ireturn, 1)]])
set_option maxRecDepth 100000 in
theorem MX3_pop_dec : k_dec MX3_pop.2.1 MX3_pop.2.2.2.2 = true := by decide +kernel
def MX4_stepAt : k_M := (yX4_stepAt, cX4_stepAt, 2, (some .int), [[(0, .iload_n 1, 1), (1, .ifCond .lt 21, 3), (4, .iload_n 1, 1), (5, .aload_n 0, 1), (6, .getfield 11, 3), (9, .arraylength, 1), (10, .if_icmp .ge 12, 3), (13, .aload_n 0, 1), (14, .getfield 11, 3), (17, .iload_n 1, 1), (18, .iaload, 1), (19, .goto 4, 3), (22, .iconst 0, 1), (23, .ireturn, 1)]])
set_option maxRecDepth 100000 in
theorem MX4_stepAt_dec : k_dec MX4_stepAt.2.1 MX4_stepAt.2.2.2.2 = true := by decide +kernel
def MX4_readTape : k_M := (yX4_readTape, cX4_readTape, 1, (some .int), [[(0, .aload_n 0, 1), (1, .iconst 0, 1), (2, .putfield 21, 3), (5, .aload_n 0, 1), (6, .iconst 0, 1), (7, .putfield 25, 3), (10, .aload_n 0, 1), (11, .invokevirtual 28, 3), (14, .ifCond .eq 21, 3), (17, .aload_n 0, 1), (18, .getfield 21, 3), (21, .aload_n 0, 1), (22, .getfield 17, 3), (25, .getfield 32, 3), (28, .if_icmp .ne 7, 3), (31, .iconst (-1), 1)], [(32, .goto 7, 3), (35, .aload_n 0, 1), (36, .getfield 21, 3), (39, .ireturn, 1)]])
set_option maxRecDepth 100000 in
theorem MX4_readTape_dec : k_dec MX4_readTape.2.1 MX4_readTape.2.2.2.2 = true := by decide +kernel
def MX4_lines : k_M := (yX4_lines, cX4_lines, 2, (some .boolean), [[(0, .aload_n 0, 1), (1, .invokevirtual 35, 3), (4, .ifCond .ne 5, 3), (7, .iconst 0, 1), (8, .ireturn, 1), (9, .iconst 0, 1), (10, .istore_n 1, 1), (11, .iload_n 1, 1), (12, .bipush 120, 2), (14, .if_icmp .ge 27, 3), (17, .aload_n 0, 1), (18, .bipush 59, 2), (20, .invokevirtual 38, 3), (23, .ifCond .eq 18, 3), (26, .aload_n 0, 1), (27, .invokevirtual 35, 3)], [(30, .ifCond .ne 5, 3), (33, .iconst 0, 1), (34, .ireturn, 1), (35, .iinc 1 1, 3), (38, .goto (-27), 3), (41, .iconst 1, 1), (42, .ireturn, 1)]])
set_option maxRecDepth 100000 in
theorem MX4_lines_dec : k_dec MX4_lines.2.1 MX4_lines.2.2.2.2 = true := by decide +kernel
def MX4_line : k_M := (yX4_line, cX4_line, 2, (some .boolean), [[(0, .aload_n 0, 1), (1, .iconst 0, 1), (2, .invokevirtual 42, 3), (5, .ifCond .ne 5, 3), (8, .iconst 0, 1), (9, .ireturn, 1), (10, .aload_n 0, 1), (11, .bipush 63, 2), (13, .invokevirtual 38, 3), (16, .ifCond .eq 57, 3), (19, .aload_n 0, 1), (20, .getfield 25, 3), (23, .istore_n 1, 1), (24, .aload_n 0, 1), (25, .sipush 10000, 3), (28, .invokevirtual 45, 3)], [(31, .aload_n 0, 1), (32, .iconst 0, 1), (33, .invokevirtual 42, 3), (36, .ifCond .ne 5, 3), (39, .iconst 0, 1), (40, .ireturn, 1), (41, .aload_n 0, 1), (42, .bipush (-59), 2), (44, .invokevirtual 45, 3), (47, .iload_n 1, 1), (48, .aload_n 0, 1), (49, .getfield 11, 3), (52, .arraylength, 1), (53, .if_icmp .ge 17, 3), (56, .aload_n 0, 1), (57, .getfield 11, 3)], [(60, .iload_n 1, 1), (61, .sipush 10000, 3), (64, .aload_n 0, 1), (65, .getfield 25, 3), (68, .iadd, 1), (69, .iastore, 1), (70, .goto 9, 3), (73, .aload_n 0, 1), (74, .bipush (-59), 2), (76, .invokevirtual 45, 3), (79, .iconst 1, 1), (80, .ireturn, 1)]])
set_option maxRecDepth 100000 in
theorem MX4_line_dec : k_dec MX4_line.2.1 MX4_line.2.2.2.2 = true := by decide +kernel
def MX4_either : k_M := (yX4_either, cX4_either, 3, (some .boolean), [[(0, .aload_n 0, 1), (1, .iload_n 1, 1), (2, .invokevirtual 49, 3), (5, .ifCond .ne 5, 3), (8, .iconst 0, 1), (9, .ireturn, 1), (10, .iconst 0, 1), (11, .istore_n 2, 1), (12, .iload_n 2, 1), (13, .bipush 120, 2), (15, .if_icmp .ge 34, 3), (18, .aload_n 0, 1), (19, .bipush 124, 2), (21, .invokevirtual 38, 3), (24, .ifCond .eq 25, 3), (27, .aload_n 0, 1)], [(28, .iload_n 1, 1), (29, .invokevirtual 49, 3), (32, .ifCond .ne 5, 3), (35, .iconst 0, 1), (36, .ireturn, 1), (37, .aload_n 0, 1), (38, .bipush (-124), 2), (40, .invokevirtual 45, 3), (43, .iinc 2 1, 3), (46, .goto (-34), 3), (49, .iconst 1, 1), (50, .ireturn, 1)]])
set_option maxRecDepth 100000 in
theorem MX4_either_dec : k_dec MX4_either.2.1 MX4_either.2.2.2.2 = true := by decide +kernel
def MX4_both : k_M := (yX4_both, cX4_both, 3, (some .boolean), [[(0, .aload_n 0, 1), (1, .iload_n 1, 1), (2, .invokevirtual 52, 3), (5, .ifCond .ne 5, 3), (8, .iconst 0, 1), (9, .ireturn, 1), (10, .iconst 0, 1), (11, .istore_n 2, 1), (12, .iload_n 2, 1), (13, .bipush 120, 2), (15, .if_icmp .ge 34, 3), (18, .aload_n 0, 1), (19, .bipush 38, 2), (21, .invokevirtual 38, 3), (24, .ifCond .eq 25, 3), (27, .aload_n 0, 1)], [(28, .iload_n 1, 1), (29, .invokevirtual 52, 3), (32, .ifCond .ne 5, 3), (35, .iconst 0, 1), (36, .ireturn, 1), (37, .aload_n 0, 1), (38, .bipush (-38), 2), (40, .invokevirtual 45, 3), (43, .iinc 2 1, 3), (46, .goto (-34), 3), (49, .iconst 1, 1), (50, .ireturn, 1)]])
set_option maxRecDepth 100000 in
theorem MX4_both_dec : k_dec MX4_both.2.1 MX4_both.2.2.2.2 = true := by decide +kernel
def MX4_compared : k_M := (yX4_compared, cX4_compared, 3, (some .boolean), [[(0, .aload_n 0, 1), (1, .iload_n 1, 1), (2, .invokevirtual 55, 3), (5, .ifCond .ne 5, 3), (8, .iconst 0, 1), (9, .ireturn, 1), (10, .aload_n 0, 1), (11, .getfield 17, 3), (14, .aload_n 0, 1), (15, .getfield 21, 3), (18, .invokevirtual 58, 3), (21, .istore_n 2, 1), (22, .iload_n 2, 1), (23, .bipush 60, 2), (25, .if_icmp .eq 17, 3), (28, .iload_n 2, 1)], [(29, .bipush 61, 2), (31, .if_icmp .eq 11, 3), (34, .iload_n 2, 1), (35, .bipush 62, 2), (37, .if_icmp .eq 5, 3), (40, .iconst 1, 1), (41, .ireturn, 1), (42, .aload_n 0, 1), (43, .dup, 1), (44, .getfield 21, 3), (47, .iconst 1, 1), (48, .iadd, 1), (49, .putfield 21, 3), (52, .aload_n 0, 1), (53, .iload_n 1, 1), (54, .invokevirtual 55, 3)], [(57, .ifCond .ne 5, 3), (60, .iconst 0, 1), (61, .ireturn, 1), (62, .aload_n 0, 1), (63, .iload_n 2, 1), (64, .ineg, 1), (65, .invokevirtual 45, 3), (68, .iconst 1, 1), (69, .ireturn, 1)]])
set_option maxRecDepth 100000 in
theorem MX4_compared_dec : k_dec MX4_compared.2.1 MX4_compared.2.2.2.2 = true := by decide +kernel
def MX4_summed : k_M := (yX4_summed, cX4_summed, 4, (some .boolean), [[(0, .aload_n 0, 1), (1, .iload_n 1, 1), (2, .invokevirtual 61, 3), (5, .ifCond .ne 5, 3), (8, .iconst 0, 1), (9, .ireturn, 1), (10, .iconst 0, 1), (11, .istore_n 2, 1), (12, .iload_n 2, 1), (13, .bipush 120, 2), (15, .if_icmp .ge 61, 3), (18, .aload_n 0, 1), (19, .getfield 17, 3), (22, .aload_n 0, 1), (23, .getfield 21, 3), (26, .invokevirtual 58, 3)], [(29, .istore_n 3, 1), (30, .iload_n 3, 1), (31, .bipush 43, 2), (33, .if_icmp .eq 11, 3), (36, .iload_n 3, 1), (37, .bipush 45, 2), (39, .if_icmp .eq 5, 3), (42, .iconst 1, 1), (43, .ireturn, 1), (44, .aload_n 0, 1), (45, .dup, 1), (46, .getfield 21, 3), (49, .iconst 1, 1), (50, .iadd, 1), (51, .putfield 21, 3), (54, .aload_n 0, 1)], [(55, .iload_n 1, 1), (56, .invokevirtual 61, 3), (59, .ifCond .ne 5, 3), (62, .iconst 0, 1), (63, .ireturn, 1), (64, .aload_n 0, 1), (65, .iload_n 3, 1), (66, .ineg, 1), (67, .invokevirtual 45, 3), (70, .iinc 2 1, 3), (73, .goto (-61), 3), (76, .iconst 1, 1), (77, .ireturn, 1)]])
set_option maxRecDepth 100000 in
theorem MX4_summed_dec : k_dec MX4_summed.2.1 MX4_summed.2.2.2.2 = true := by decide +kernel
def MX4_multiplied : k_M := (yX4_multiplied, cX4_multiplied, 4, (some .boolean), [[(0, .aload_n 0, 1), (1, .iload_n 1, 1), (2, .invokevirtual 64, 3), (5, .ifCond .ne 5, 3), (8, .iconst 0, 1), (9, .ireturn, 1), (10, .iconst 0, 1), (11, .istore_n 2, 1), (12, .iload_n 2, 1), (13, .bipush 120, 2), (15, .if_icmp .ge 67, 3), (18, .aload_n 0, 1), (19, .getfield 17, 3), (22, .aload_n 0, 1), (23, .getfield 21, 3), (26, .invokevirtual 58, 3)], [(29, .istore_n 3, 1), (30, .iload_n 3, 1), (31, .bipush 42, 2), (33, .if_icmp .eq 17, 3), (36, .iload_n 3, 1), (37, .bipush 47, 2), (39, .if_icmp .eq 11, 3), (42, .iload_n 3, 1), (43, .bipush 37, 2), (45, .if_icmp .eq 5, 3), (48, .iconst 1, 1), (49, .ireturn, 1), (50, .aload_n 0, 1), (51, .dup, 1), (52, .getfield 21, 3), (55, .iconst 1, 1)], [(56, .iadd, 1), (57, .putfield 21, 3), (60, .aload_n 0, 1), (61, .iload_n 1, 1), (62, .invokevirtual 64, 3), (65, .ifCond .ne 5, 3), (68, .iconst 0, 1), (69, .ireturn, 1), (70, .aload_n 0, 1), (71, .iload_n 3, 1), (72, .ineg, 1), (73, .invokevirtual 45, 3), (76, .iinc 2 1, 3), (79, .goto (-67), 3), (82, .iconst 1, 1), (83, .ireturn, 1)]])
set_option maxRecDepth 100000 in
theorem MX4_multiplied_dec : k_dec MX4_multiplied.2.1 MX4_multiplied.2.2.2.2 = true := by decide +kernel
def MX4_single_t0 : List (List (Nat × Instr × Nat)) := [[(0, .aload_n 0, 1), (1, .getfield 17, 3), (4, .aload_n 0, 1), (5, .getfield 21, 3), (8, .invokevirtual 58, 3), (11, .istore_n 2, 1), (12, .iload_n 2, 1), (13, .invokestatic 67, 3), (16, .ifCond .eq 9, 3), (19, .aload_n 0, 1), (20, .invokevirtual 70, 3), (23, .iconst 1, 1), (24, .ireturn, 1), (25, .iload_n 2, 1), (26, .bipush 116, 2), (28, .if_icmp .eq 21, 3)], [(31, .iload_n 2, 1), (32, .bipush 112, 2), (34, .if_icmp .eq 15, 3), (37, .iload_n 2, 1), (38, .bipush 107, 2), (40, .if_icmp .eq 9, 3), (43, .iload_n 2, 1), (44, .bipush 122, 2), (46, .if_icmp .ne 21, 3), (49, .aload_n 0, 1), (50, .dup, 1), (51, .getfield 21, 3), (54, .iconst 1, 1), (55, .iadd, 1), (56, .putfield 21, 3), (59, .aload_n 0, 1)], [(60, .iload_n 2, 1), (61, .ineg, 1), (62, .invokevirtual 45, 3), (65, .iconst 1, 1), (66, .ireturn, 1), (67, .iload_n 2, 1), (68, .bipush 40, 2), (70, .if_icmp .eq 17, 3), (73, .iload_n 2, 1), (74, .bipush 33, 2), (76, .if_icmp .eq 11, 3), (79, .iload_n 2, 1), (80, .bipush 45, 2), (82, .if_icmp .eq 5, 3), (85, .iconst 0, 1), (86, .ireturn, 1)]]
set_option maxRecDepth 100000 in
theorem MX4_single_d0 : k_dec cX4_single MX4_single_t0 = true := by decide +kernel
def MX4_single_t1 : List (List (Nat × Instr × Nat)) := [[(87, .iload_n 1, 1), (88, .bipush 6, 2), (90, .if_icmp .lt 5, 3), (93, .iconst 0, 1), (94, .ireturn, 1), (95, .aload_n 0, 1), (96, .dup, 1), (97, .getfield 21, 3), (100, .iconst 1, 1), (101, .iadd, 1), (102, .putfield 21, 3), (105, .iload_n 2, 1), (106, .bipush 40, 2), (108, .if_icmp .ne 28, 3), (111, .aload_n 0, 1), (112, .iload_n 1, 1)], [(113, .iconst 1, 1), (114, .iadd, 1), (115, .invokevirtual 42, 3), (118, .ifCond .eq 16, 3), (121, .aload_n 0, 1), (122, .bipush 41, 2), (124, .invokevirtual 38, 3), (127, .ifCond .eq 7, 3), (130, .iconst 1, 1), (131, .goto 4, 3), (134, .iconst 0, 1), (135, .ireturn, 1), (136, .aload_n 0, 1), (137, .iload_n 1, 1), (138, .iconst 1, 1), (139, .iadd, 1)], [(140, .invokevirtual 64, 3), (143, .ifCond .ne 5, 3), (146, .iconst 0, 1), (147, .ireturn, 1), (148, .aload_n 0, 1), (149, .iload_n 2, 1), (150, .bipush 45, 2), (152, .if_icmp .ne 7, 3), (155, .iconst (-1), 1), (156, .goto 5, 3), (159, .iload_n 2, 1), (160, .ineg, 1), (161, .invokevirtual 45, 3), (164, .iconst 1, 1), (165, .ireturn, 1)]]
set_option maxRecDepth 100000 in
theorem MX4_single_d1 : k_dec cX4_single MX4_single_t1 = true := by decide +kernel
def MX4_single : k_M := (yX4_single, cX4_single, 3, (some .boolean), MX4_single_t0 ++ (MX4_single_t1))
theorem MX4_single_dec : k_dec MX4_single.2.1 MX4_single.2.2.2.2 = true := k_dec_app MX4_single_d0 (MX4_single_d1)
def MX4_number : k_M := (yX4_number, cX4_number, 3, none, [[(0, .iconst 0, 1), (1, .istore_n 1, 1), (2, .iconst 0, 1), (3, .istore_n 2, 1), (4, .iload_n 2, 1), (5, .iconst 4, 1), (6, .if_icmp .ge 56, 3), (9, .aload_n 0, 1), (10, .getfield 17, 3), (13, .aload_n 0, 1), (14, .getfield 21, 3), (17, .invokevirtual 58, 3), (20, .invokestatic 67, 3), (23, .ifCond .eq 39, 3), (26, .bipush 10, 2), (28, .iload_n 1, 1)], [(29, .imul, 1), (30, .aload_n 0, 1), (31, .getfield 17, 3), (34, .aload_n 0, 1), (35, .getfield 21, 3), (38, .invokevirtual 58, 3), (41, .iadd, 1), (42, .bipush 48, 2), (44, .isub, 1), (45, .istore_n 1, 1), (46, .aload_n 0, 1), (47, .dup, 1), (48, .getfield 21, 3), (51, .iconst 1, 1), (52, .iadd, 1), (53, .putfield 21, 3)], [(56, .iinc 2 1, 3), (59, .goto (-55), 3), (62, .aload_n 0, 1), (63, .iload_n 1, 1), (64, .invokevirtual 45, 3), (67, .return_, 1)]])
set_option maxRecDepth 100000 in
theorem MX4_number_dec : k_dec MX4_number.2.1 MX4_number.2.2.2.2 = true := by decide +kernel
def MX4_passes : k_M := (yX4_passes, cX4_passes, 2, (some .boolean), [[(0, .aload_n 0, 1), (1, .getfield 17, 3), (4, .aload_n 0, 1), (5, .getfield 21, 3), (8, .invokevirtual 58, 3), (11, .iload_n 1, 1), (12, .if_icmp .eq 5, 3), (15, .iconst 0, 1), (16, .ireturn, 1), (17, .aload_n 0, 1), (18, .dup, 1), (19, .getfield 21, 3), (22, .iconst 1, 1), (23, .iadd, 1), (24, .putfield 21, 3), (27, .iconst 1, 1)], [(28, .ireturn, 1)]])
set_option maxRecDepth 100000 in
theorem MX4_passes_dec : k_dec MX4_passes.2.1 MX4_passes.2.2.2.2 = true := by decide +kernel
def MX4_add : k_M := (yX4_add, cX4_add, 2, none, [[(0, .aload_n 0, 1), (1, .getfield 25, 3), (4, .ifCond .lt 15, 3), (7, .aload_n 0, 1), (8, .getfield 25, 3), (11, .aload_n 0, 1), (12, .getfield 11, 3), (15, .arraylength, 1), (16, .if_icmp .lt 4, 3), (19, .return_, 1), (20, .aload_n 0, 1), (21, .getfield 11, 3), (24, .aload_n 0, 1), (25, .getfield 25, 3), (28, .iload_n 1, 1), (29, .iastore, 1)], [(30, .aload_n 0, 1), (31, .dup, 1), (32, .getfield 25, 3), (35, .iconst 1, 1), (36, .iadd, 1), (37, .putfield 25, 3), (40, .return_, 1)]])
set_option maxRecDepth 100000 in
theorem MX4_add_dec : k_dec MX4_add.2.1 MX4_add.2.2.2.2 = true := by decide +kernel
def MX4_isDigit : k_M := (yX4_isDigit, cX4_isDigit, 1, (some .boolean), [[(0, .iload_n 0, 1), (1, .bipush 48, 2), (3, .if_icmp .lt 13, 3), (6, .iload_n 0, 1), (7, .bipush 57, 2), (9, .if_icmp .gt 7, 3), (12, .iconst 1, 1), (13, .goto 4, 3), (16, .iconst 0, 1), (17, .ireturn, 1)]])
set_option maxRecDepth 100000 in
theorem MX4_isDigit_dec : k_dec MX4_isDigit.2.1 MX4_isDigit.2.2.2.2 = true := by decide +kernel
def MX5_placeOf : k_M := (yX5_placeOf, cX5_placeOf, 2, (some .int), [[(0, .iload_n 1, 1), (1, .ifCond .lt 21, 3), (4, .iload_n 1, 1), (5, .aload_n 0, 1), (6, .getfield 9, 3), (9, .arraylength, 1), (10, .if_icmp .ge 12, 3), (13, .aload_n 0, 1), (14, .getfield 9, 3), (17, .iload_n 1, 1), (18, .iaload, 1), (19, .goto 4, 3), (22, .iconst 0, 1), (23, .ireturn, 1)]])
set_option maxRecDepth 100000 in
theorem MX5_placeOf_dec : k_dec MX5_placeOf.2.1 MX5_placeOf.2.2.2.2 = true := by decide +kernel
def MX5_waitsOf : k_M := (yX5_waitsOf, cX5_waitsOf, 2, (some .int), [[(0, .iload_n 1, 1), (1, .ifCond .lt 21, 3), (4, .iload_n 1, 1), (5, .aload_n 0, 1), (6, .getfield 15, 3), (9, .arraylength, 1), (10, .if_icmp .ge 12, 3), (13, .aload_n 0, 1), (14, .getfield 15, 3), (17, .iload_n 1, 1), (18, .iaload, 1), (19, .goto 4, 3), (22, .iconst 0, 1), (23, .ireturn, 1)]])
set_option maxRecDepth 100000 in
theorem MX5_waitsOf_dec : k_dec MX5_waitsOf.2.1 MX5_waitsOf.2.2.2.2 = true := by decide +kernel
def MX5_stand : k_M := (yX5_stand, cX5_stand, 4, none, [[(0, .iload_n 1, 1), (1, .ifCond .lt 21, 3), (4, .iload_n 1, 1), (5, .aload_n 0, 1), (6, .getfield 9, 3), (9, .arraylength, 1), (10, .if_icmp .ge 12, 3), (13, .iload_n 1, 1), (14, .aload_n 0, 1), (15, .getfield 15, 3), (18, .arraylength, 1), (19, .if_icmp .lt 4, 3), (22, .return_, 1), (23, .aload_n 0, 1), (24, .getfield 9, 3), (27, .iload_n 1, 1)], [(28, .iload_n 2, 1), (29, .iastore, 1), (30, .aload_n 0, 1), (31, .getfield 15, 3), (34, .iload_n 1, 1), (35, .iload_n 3, 1), (36, .iastore, 1), (37, .return_, 1)]])
set_option maxRecDepth 100000 in
theorem MX5_stand_dec : k_dec MX5_stand.2.1 MX5_stand.2.2.2.2 = true := by decide +kernel
def MX5_become : k_M := (yX5_become, cX5_become, 4, none, [[(0, .aload_n 0, 1), (1, .aload_n 1, 1), (2, .getfield 18, 3), (5, .putfield 18, 3), (8, .iconst 0, 1), (9, .istore_n 3, 1), (10, .iload_n 3, 1), (11, .iload_n 2, 1), (12, .if_icmp .ge 33, 3), (15, .iload_n 3, 1), (16, .aload_n 0, 1), (17, .getfield 9, 3), (20, .arraylength, 1), (21, .if_icmp .ge 24, 3), (24, .aload_n 0, 1), (25, .iload_n 3, 1)], [(26, .aload_n 1, 1), (27, .iload_n 3, 1), (28, .invokevirtual 22, 3), (31, .aload_n 1, 1), (32, .iload_n 3, 1), (33, .invokevirtual 26, 3), (36, .invokevirtual 29, 3), (39, .iinc 3 1, 3), (42, .goto (-32), 3), (45, .return_, 1)]])
set_option maxRecDepth 100000 in
theorem MX5_become_dec : k_dec MX5_become.2.1 MX5_become.2.2.2.2 = true := by decide +kernel
def MX5_standsAs : k_M := (yX5_standsAs, cX5_standsAs, 4, (some .boolean), [[(0, .iconst 0, 1), (1, .istore_n 3, 1), (2, .iload_n 3, 1), (3, .iload_n 2, 1), (4, .if_icmp .ge 46, 3), (7, .iload_n 3, 1), (8, .aload_n 0, 1), (9, .getfield 9, 3), (12, .arraylength, 1), (13, .if_icmp .ge 37, 3), (16, .aload_n 0, 1), (17, .iload_n 3, 1), (18, .invokevirtual 22, 3), (21, .aload_n 1, 1), (22, .iload_n 3, 1), (23, .invokevirtual 22, 3)], [(26, .if_icmp .ne 16, 3), (29, .aload_n 0, 1), (30, .iload_n 3, 1), (31, .invokevirtual 26, 3), (34, .aload_n 1, 1), (35, .iload_n 3, 1), (36, .invokevirtual 26, 3), (39, .if_icmp .eq 5, 3), (42, .iconst 0, 1), (43, .ireturn, 1), (44, .iinc 3 1, 3), (47, .goto (-45), 3), (50, .iconst 1, 1), (51, .ireturn, 1)]])
set_option maxRecDepth 100000 in
theorem MX5_standsAs_dec : k_dec MX5_standsAs.2.1 MX5_standsAs.2.2.2.2 = true := by decide +kernel
def MX6_think : k_M := (yX6_think, cX6_think, 1, none, [[(0, .aload_n 0, 1), (1, .getfield 18, 3), (4, .aload_n 0, 1), (5, .getfield 12, 3), (8, .aload_n 0, 1), (9, .getfield 32, 3), (12, .getfield 40, 3), (15, .invokevirtual 45, 3), (18, .return_, 1)]])
set_option maxRecDepth 100000 in
theorem MX6_think_dec : k_dec MX6_think.2.1 MX6_think.2.2.2.2 = true := by decide +kernel
def MX6_pass : k_M := (yX6_pass, cX6_pass, 7, none, [[(0, .iconst 0, 1), (1, .istore 4, 2), (3, .iload 4, 2), (5, .iload_n 2, 1), (6, .if_icmp .ge 63, 3), (9, .aload_n 1, 1), (10, .dup, 1), (11, .getfield 49, 3), (14, .iconst 1, 1), (15, .iadd, 1), (16, .putfield 49, 3), (19, .iconst 1, 1), (20, .istore 5, 2), (22, .iconst 0, 1), (23, .istore 6, 2), (25, .iload 5, 2)], [(27, .ifCond .eq 36, 3), (30, .iload 6, 2), (32, .iload_n 3, 1), (33, .if_icmp .ge 30, 3), (36, .iload 6, 2), (38, .aload_n 0, 1), (39, .getfield 32, 3), (42, .getfield 40, 3), (45, .if_icmp .ge 18, 3), (48, .aload_n 0, 1), (49, .aload_n 1, 1), (50, .iload 6, 2), (52, .invokevirtual 52, 3), (55, .istore 5, 2), (57, .iinc 6 1, 3), (60, .goto (-35), 3)], [(63, .iinc 4 1, 3), (66, .goto (-63), 3), (69, .return_, 1)]])
set_option maxRecDepth 100000 in
theorem MX6_pass_dec : k_dec MX6_pass.2.1 MX6_pass.2.2.2.2 = true := by decide +kernel
def MX6_pushed_t0 : List (List (Nat × Instr × Nat)) := [[(0, .aload_n 1, 1), (1, .iload_n 2, 1), (2, .invokevirtual 56, 3), (5, .istore_n 3, 1), (6, .aload_n 1, 1), (7, .iload_n 2, 1), (8, .invokevirtual 60, 3), (11, .istore 4, 2), (13, .aload_n 0, 1), (14, .getfield 32, 3), (17, .iload_n 2, 1), (18, .iload_n 3, 1), (19, .invokevirtual 63, 3), (22, .istore 5, 2), (24, .iconst 1, 1), (25, .istore 6, 2)], [(27, .iload 5, 2), (29, .bipush 115, 2), (31, .if_icmp .ne 9, 3), (34, .iconst 2, 1), (35, .istore 6, 2), (37, .goto 123, 3), (40, .iload 5, 2), (42, .bipush 102, 2), (44, .if_icmp .ne 29, 3), (47, .aload_n 0, 1), (48, .getfield 36, 3), (51, .aload_n 1, 1), (52, .getfield 49, 3), (55, .iload_n 3, 1), (56, .iload_n 2, 1), (57, .invokevirtual 67, 3)], [(60, .ifCond .eq 7, 3), (63, .iconst 0, 1), (64, .goto 4, 3), (67, .iconst 1, 1), (68, .istore 6, 2), (70, .goto 90, 3), (73, .iload 5, 2), (75, .bipush 98, 2), (77, .if_icmp .ne 44, 3), (80, .aload_n 1, 1), (81, .getfield 49, 3), (84, .aload_n 0, 1), (85, .getfield 32, 3), (88, .iload_n 2, 1), (89, .invokevirtual 73, 3), (92, .if_icmp .lt 68, 3)]]
set_option maxRecDepth 100000 in
theorem MX6_pushed_d0 : k_dec cX6_pushed MX6_pushed_t0 = true := by decide +kernel
def MX6_pushed_t1 : List (List (Nat × Instr × Nat)) := [[(95, .iconst 2, 1), (96, .istore 6, 2), (98, .iload_n 2, 1), (99, .ifCond .ne 61, 3), (102, .aload_n 0, 1), (103, .getfield 29, 3), (106, .iconst (-1), 1), (107, .if_icmp .ne 53, 3), (110, .aload_n 0, 1), (111, .aload_n 1, 1), (112, .getfield 49, 3), (115, .putfield 29, 3), (118, .goto 42, 3), (121, .iload 5, 2), (123, .bipush 119, 2), (125, .if_icmp .eq 35, 3)], [(128, .iload 4, 2), (130, .iload 5, 2), (132, .bipush 48, 2), (134, .isub, 1), (135, .if_icmp .ge 7, 3), (138, .iconst 0, 1), (139, .goto 4, 3), (142, .iconst 1, 1), (143, .istore 6, 2), (145, .iload 6, 2), (147, .ifCond .ne 10, 3), (150, .iload 4, 2), (152, .iconst 1, 1), (153, .iadd, 1), (154, .goto 4, 3), (157, .iconst 0, 1)], [(158, .istore 4, 2), (160, .aload_n 0, 1), (161, .getfield 32, 3), (164, .iload_n 2, 1), (165, .invokevirtual 76, 3), (168, .istore 7, 2), (170, .iload_n 3, 1), (171, .iload 6, 2), (173, .iadd, 1), (174, .iload 7, 2), (176, .if_icmp .lt 7, 3), (179, .iconst 1, 1), (180, .goto 4, 3), (183, .iconst 0, 1), (184, .istore 8, 2), (186, .aload_n 1, 1)]]
set_option maxRecDepth 100000 in
theorem MX6_pushed_d1 : k_dec cX6_pushed MX6_pushed_t1 = true := by decide +kernel
def MX6_pushed_t2 : List (List (Nat × Instr × Nat)) := [[(187, .iload_n 2, 1), (188, .iload 8, 2), (190, .ifCond .eq 15, 3), (193, .iload_n 3, 1), (194, .iload 6, 2), (196, .iadd, 1), (197, .iload 7, 2), (199, .invokestatic 79, 3), (202, .goto 7, 3), (205, .iload_n 3, 1), (206, .iload 6, 2), (208, .iadd, 1), (209, .iload 4, 2), (211, .invokevirtual 82, 3), (214, .iload 8, 2), (216, .ireturn, 1)]]
set_option maxRecDepth 100000 in
theorem MX6_pushed_d2 : k_dec cX6_pushed MX6_pushed_t2 = true := by decide +kernel
def MX6_pushed : k_M := (yX6_pushed, cX6_pushed, 9, (some .boolean), MX6_pushed_t0 ++ (MX6_pushed_t1 ++ (MX6_pushed_t2)))
theorem MX6_pushed_dec : k_dec MX6_pushed.2.1 MX6_pushed.2.2.2.2 = true := k_dec_app MX6_pushed_d0 (k_dec_app MX6_pushed_d1 (MX6_pushed_d2))
def MX6_dayOf : k_M := (yX6_dayOf, cX6_dayOf, 2, (some .int), [[(0, .iload_n 1, 1), (1, .aload_n 0, 1), (2, .getfield 25, 3), (5, .invokestatic 79, 3), (8, .ireturn, 1)]])
set_option maxRecDepth 100000 in
theorem MX6_dayOf_dec : k_dec MX6_dayOf.2.1 MX6_dayOf.2.2.2.2 = true := by decide +kernel
def MX6_timesOfDay : k_M := (yX6_timesOfDay, cX6_timesOfDay, 5, (some .int), [[(0, .iconst 0, 1), (1, .istore_n 3, 1), (2, .aload_n 0, 1), (3, .invokevirtual 86, 3), (6, .iconst 0, 1), (7, .istore 4, 2), (9, .iload 4, 2), (11, .iload_n 2, 1), (12, .if_icmp .ge 38, 3), (15, .aload_n 0, 1), (16, .aload_n 0, 1), (17, .getfield 18, 3), (20, .iconst 1, 1), (21, .iconst 1, 1), (22, .invokevirtual 89, 3), (25, .aload_n 0, 1)], [(26, .aload_n 0, 1), (27, .getfield 18, 3), (30, .iconst 0, 1), (31, .invokevirtual 56, 3), (34, .invokevirtual 93, 3), (37, .iload_n 1, 1), (38, .if_icmp .ne 6, 3), (41, .iinc 3 1, 3), (44, .iinc 4 1, 3), (47, .goto (-38), 3), (50, .iload_n 3, 1), (51, .ireturn, 1)]])
set_option maxRecDepth 100000 in
theorem MX6_timesOfDay_dec : k_dec MX6_timesOfDay.2.1 MX6_timesOfDay.2.2.2.2 = true := by decide +kernel
def MX6_unshown_t0 : List (List (Nat × Instr × Nat)) := [[(0, .iconst 0, 1), (1, .istore_n 3, 1), (2, .iload_n 3, 1), (3, .aload_n 0, 1), (4, .getfield 21, 3), (7, .arraylength, 1), (8, .if_icmp .ge 16, 3), (11, .aload_n 0, 1), (12, .getfield 21, 3), (15, .iload_n 3, 1), (16, .iconst 0, 1), (17, .iastore, 1), (18, .iinc 3 1, 3), (21, .goto (-19), 3), (24, .aload_n 0, 1), (25, .invokevirtual 86, 3)], [(28, .aload_n 0, 1), (29, .invokevirtual 96, 3), (32, .iconst 0, 1), (33, .istore_n 3, 1), (34, .iload_n 3, 1), (35, .iload_n 1, 1), (36, .if_icmp .ge 23, 3), (39, .aload_n 0, 1), (40, .aload_n 0, 1), (41, .getfield 18, 3), (44, .iconst 1, 1), (45, .iconst 1, 1), (46, .invokevirtual 89, 3), (49, .aload_n 0, 1), (50, .invokevirtual 96, 3), (53, .iinc 3 1, 3)], [(56, .goto (-22), 3), (59, .iconst 0, 1), (60, .istore_n 3, 1), (61, .iconst 0, 1), (62, .istore 4, 2), (64, .iload 4, 2), (66, .aload_n 0, 1), (67, .getfield 32, 3), (70, .iconst 0, 1), (71, .invokevirtual 76, 3), (74, .if_icmp .ge 39, 3), (77, .iload 4, 2), (79, .aload_n 0, 1), (80, .getfield 21, 3), (83, .arraylength, 1), (84, .if_icmp .ge 29, 3)]]
set_option maxRecDepth 100000 in
theorem MX6_unshown_d0 : k_dec cX6_unshown MX6_unshown_t0 = true := by decide +kernel
def MX6_unshown_t1 : List (List (Nat × Instr × Nat)) := [[(87, .aload_n 0, 1), (88, .getfield 21, 3), (91, .iload 4, 2), (93, .iaload, 1), (94, .ifCond .ne 13, 3), (97, .iload_n 2, 1), (98, .ifCond .ne 6, 3), (101, .iload 4, 2), (103, .ireturn, 1), (104, .iinc 3 1, 3), (107, .iinc 4 1, 3), (110, .goto (-46), 3), (113, .iload_n 2, 1), (114, .ifCond .eq 7, 3), (117, .iload_n 3, 1), (118, .goto 5, 3)], [(121, .bipush (-2), 2), (123, .ireturn, 1)]]
set_option maxRecDepth 100000 in
theorem MX6_unshown_d1 : k_dec cX6_unshown MX6_unshown_t1 = true := by decide +kernel
def MX6_unshown : k_M := (yX6_unshown, cX6_unshown, 5, (some .int), MX6_unshown_t0 ++ (MX6_unshown_t1))
theorem MX6_unshown_dec : k_dec MX6_unshown.2.1 MX6_unshown.2.2.2.2 = true := k_dec_app MX6_unshown_d0 (MX6_unshown_d1)
def MX6_markShown : k_M := (yX6_markShown, cX6_markShown, 2, none, [[(0, .aload_n 0, 1), (1, .getfield 18, 3), (4, .iconst 0, 1), (5, .invokevirtual 56, 3), (8, .istore_n 1, 1), (9, .iload_n 1, 1), (10, .ifCond .lt 19, 3), (13, .iload_n 1, 1), (14, .aload_n 0, 1), (15, .getfield 21, 3), (18, .arraylength, 1), (19, .if_icmp .ge 10, 3), (22, .aload_n 0, 1), (23, .getfield 21, 3), (26, .iload_n 1, 1), (27, .iconst 1, 1)], [(28, .iastore, 1), (29, .return_, 1)]])
set_option maxRecDepth 100000 in
theorem MX6_markShown_dec : k_dec MX6_markShown.2.1 MX6_markShown.2.2.2.2 = true := by decide +kernel
def MX6_timesAt : k_M := (yX6_timesAt, cX6_timesAt, 7, (some .int), [[(0, .iconst 0, 1), (1, .istore 5, 2), (3, .aload_n 0, 1), (4, .invokevirtual 86, 3), (7, .iconst 1, 1), (8, .istore 6, 2), (10, .iload 6, 2), (12, .iload_n 3, 1), (13, .if_icmp .gt 44, 3), (16, .aload_n 0, 1), (17, .aload_n 0, 1), (18, .getfield 18, 3), (21, .iconst 1, 1), (22, .iload_n 1, 1), (23, .iconst 1, 1), (24, .iadd, 1)], [(25, .invokevirtual 89, 3), (28, .aload_n 0, 1), (29, .getfield 18, 3), (32, .iload_n 1, 1), (33, .invokevirtual 56, 3), (36, .iload_n 2, 1), (37, .if_icmp .ne 14, 3), (40, .iload 4, 2), (42, .ifCond .eq 6, 3), (45, .iload 6, 2), (47, .ireturn, 1), (48, .iinc 5 1, 3), (51, .iinc 6 1, 3), (54, .goto (-44), 3), (57, .iload 4, 2), (59, .ifCond .eq 8, 3)], [(62, .bipush (-2), 2), (64, .goto 5, 3), (67, .iload 5, 2), (69, .ireturn, 1)]])
set_option maxRecDepth 100000 in
theorem MX6_timesAt_dec : k_dec MX6_timesAt.2.1 MX6_timesAt.2.2.2.2 = true := by decide +kernel
def MX6_firstOfBoth : k_M := (yX6_firstOfBoth, cX6_firstOfBoth, 6, (some .int), [[(0, .iload_n 1, 1), (1, .bipush 100, 2), (3, .idiv, 1), (4, .iload_n 2, 1), (5, .bipush 100, 2), (7, .idiv, 1), (8, .invokestatic 99, 3), (11, .iconst 1, 1), (12, .iadd, 1), (13, .istore 4, 2), (15, .aload_n 0, 1), (16, .invokevirtual 86, 3), (19, .iconst 1, 1), (20, .istore 5, 2), (22, .iload 5, 2), (24, .iload_n 3, 1)], [(25, .if_icmp .gt 59, 3), (28, .aload_n 0, 1), (29, .aload_n 0, 1), (30, .getfield 18, 3), (33, .iconst 1, 1), (34, .iload 4, 2), (36, .invokevirtual 89, 3), (39, .aload_n 0, 1), (40, .getfield 18, 3), (43, .iload_n 1, 1), (44, .bipush 100, 2), (46, .idiv, 1), (47, .invokevirtual 56, 3), (50, .iload_n 1, 1), (51, .bipush 100, 2), (53, .irem, 1)], [(54, .if_icmp .ne 24, 3), (57, .aload_n 0, 1), (58, .getfield 18, 3), (61, .iload_n 2, 1), (62, .bipush 100, 2), (64, .idiv, 1), (65, .invokevirtual 56, 3), (68, .iload_n 2, 1), (69, .bipush 100, 2), (71, .irem, 1), (72, .if_icmp .ne 6, 3), (75, .iload 5, 2), (77, .ireturn, 1), (78, .iinc 5 1, 3), (81, .goto (-59), 3), (84, .bipush (-2), 2)], [(86, .ireturn, 1)]])
set_option maxRecDepth 100000 in
theorem MX6_firstOfBoth_dec : k_dec MX6_firstOfBoth.2.1 MX6_firstOfBoth.2.2.2.2 = true := by decide +kernel
def MX6_firstAsNow : k_M := (yX6_firstAsNow, cX6_firstAsNow, 3, (some .int), [[(0, .aload_n 0, 1), (1, .invokevirtual 86, 3), (4, .iconst 1, 1), (5, .istore_n 2, 1), (6, .iload_n 2, 1), (7, .iload_n 1, 1), (8, .if_icmp .gt 48, 3), (11, .aload_n 0, 1), (12, .aload_n 0, 1), (13, .getfield 18, 3), (16, .iconst 1, 1), (17, .aload_n 0, 1), (18, .getfield 32, 3), (21, .getfield 40, 3), (24, .invokevirtual 89, 3), (27, .aload_n 0, 1)], [(28, .getfield 18, 3), (31, .aload_n 0, 1), (32, .getfield 12, 3), (35, .aload_n 0, 1), (36, .getfield 32, 3), (39, .getfield 40, 3), (42, .invokevirtual 104, 3), (45, .ifCond .eq 5, 3), (48, .iload_n 2, 1), (49, .ireturn, 1), (50, .iinc 2 1, 3), (53, .goto (-47), 3), (56, .bipush (-2), 2), (58, .ireturn, 1)]])
set_option maxRecDepth 100000 in
theorem MX6_firstAsNow_dec : k_dec MX6_firstAsNow.2.1 MX6_firstAsNow.2.2.2.2 = true := by decide +kernel
def MX6_nightsTo : k_M := (yX6_nightsTo, cX6_nightsTo, 5, (some .int), [[(0, .iconst 0, 1), (1, .istore 4, 2), (3, .iload 4, 2), (5, .iload_n 3, 1), (6, .if_icmp .gt 45, 3), (9, .iload 4, 2), (11, .ifCond .le 13, 3), (14, .aload_n 0, 1), (15, .aload_n 0, 1), (16, .getfield 18, 3), (19, .iconst 1, 1), (20, .iconst 1, 1), (21, .invokevirtual 89, 3), (24, .iload 4, 2), (26, .iload_n 2, 1), (27, .if_icmp .lt 18, 3)], [(30, .aload_n 0, 1), (31, .getfield 18, 3), (34, .iconst 0, 1), (35, .invokevirtual 56, 3), (38, .iload_n 1, 1), (39, .if_icmp .ne 6, 3), (42, .iload 4, 2), (44, .ireturn, 1), (45, .iinc 4 1, 3), (48, .goto (-45), 3), (51, .bipush (-2), 2), (53, .ireturn, 1)]])
set_option maxRecDepth 100000 in
theorem MX6_nightsTo_dec : k_dec MX6_nightsTo.2.1 MX6_nightsTo.2.2.2.2 = true := by decide +kernel
def MX6_wrongDays : k_M := (yX6_wrongDays, cX6_wrongDays, 6, (some .int), [[(0, .iconst 0, 1), (1, .istore_n 2, 1), (2, .aload_n 0, 1), (3, .getfield 12, 3), (6, .iconst 0, 1), (7, .invokevirtual 56, 3), (10, .istore_n 3, 1), (11, .aload_n 0, 1), (12, .getfield 32, 3), (15, .iconst 0, 1), (16, .invokevirtual 76, 3), (19, .istore 4, 2), (21, .aload_n 0, 1), (22, .invokevirtual 86, 3), (25, .iconst 1, 1), (26, .istore 5, 2)], [(28, .iload 5, 2), (30, .iload_n 1, 1), (31, .if_icmp .gt 50, 3), (34, .aload_n 0, 1), (35, .aload_n 0, 1), (36, .getfield 18, 3), (39, .iconst 1, 1), (40, .iconst 1, 1), (41, .invokevirtual 89, 3), (44, .aload_n 0, 1), (45, .aload_n 0, 1), (46, .getfield 18, 3), (49, .iconst 0, 1), (50, .invokevirtual 56, 3), (53, .invokevirtual 93, 3), (56, .aload_n 0, 1)], [(57, .iload_n 3, 1), (58, .iload 5, 2), (60, .iadd, 1), (61, .iload 4, 2), (63, .invokestatic 79, 3), (66, .invokevirtual 93, 3), (69, .if_icmp .eq 6, 3), (72, .iinc 2 1, 3), (75, .iinc 5 1, 3), (78, .goto (-50), 3), (81, .iload_n 2, 1), (82, .ireturn, 1)]])
set_option maxRecDepth 100000 in
theorem MX6_wrongDays_dec : k_dec MX6_wrongDays.2.1 MX6_wrongDays.2.2.2.2 = true := by decide +kernel
def MX6_nearest_t0 : List (List (Nat × Instr × Nat)) := [[(0, .bipush (-2), 2), (2, .istore_n 3, 1), (3, .iload_n 1, 1), (4, .iconst 1, 1), (5, .iadd, 1), (6, .istore 4, 2), (8, .iconst 0, 1), (9, .istore 5, 2), (11, .iload 5, 2), (13, .aload_n 0, 1), (14, .getfield 32, 3), (17, .iconst 0, 1), (18, .invokevirtual 76, 3), (21, .if_icmp .ge 123, 3), (24, .iload 5, 2), (26, .bipush 40, 2)], [(28, .if_icmp .ge 116, 3), (31, .aload_n 0, 1), (32, .getfield 32, 3), (35, .iconst 0, 1), (36, .iload 5, 2), (38, .invokevirtual 63, 3), (41, .istore 6, 2), (43, .getstatic 107, 3), (46, .astore 7, 2), (48, .aload 7, 2), (50, .arraylength, 1), (51, .istore 8, 2), (53, .iconst 0, 1), (54, .istore 9, 2), (56, .iload 9, 2), (58, .iload 8, 2)], [(60, .if_icmp .ge 66, 3), (63, .aload 7, 2), (65, .iload 9, 2), (67, .iaload, 1), (68, .istore 10, 2), (70, .iload 10, 2), (72, .iload 6, 2), (74, .if_icmp .ne 6, 3), (77, .goto 43, 3), (80, .aload_n 0, 1), (81, .getfield 32, 3), (84, .iconst 0, 1), (85, .iload 5, 2), (87, .iload 10, 2), (89, .invokevirtual 110, 3), (92, .aload_n 0, 1)]]
set_option maxRecDepth 100000 in
theorem MX6_nearest_d0 : k_dec cX6_nearest MX6_nearest_t0 = true := by decide +kernel
def MX6_nearest_t1 : List (List (Nat × Instr × Nat)) := [[(93, .iload_n 1, 1), (94, .invokevirtual 113, 3), (97, .istore 11, 2), (99, .iload 11, 2), (101, .iload 4, 2), (103, .if_icmp .ge 17, 3), (106, .iload 11, 2), (108, .istore 4, 2), (110, .sipush 1000, 3), (113, .iload 5, 2), (115, .imul, 1), (116, .iload 10, 2), (118, .iadd, 1), (119, .istore_n 3, 1), (120, .iinc 9 1, 3), (123, .goto (-67), 3)], [(126, .aload_n 0, 1), (127, .getfield 32, 3), (130, .iconst 0, 1), (131, .iload 5, 2), (133, .iload 6, 2), (135, .invokevirtual 110, 3), (138, .iinc 5 1, 3), (141, .goto (-130), 3), (144, .iload_n 2, 1), (145, .ifCond .eq 7, 3), (148, .iload_n 3, 1), (149, .goto 5, 3), (152, .iload 4, 2), (154, .ireturn, 1)]]
set_option maxRecDepth 100000 in
theorem MX6_nearest_d1 : k_dec cX6_nearest MX6_nearest_t1 = true := by decide +kernel
def MX6_nearest : k_M := (yX6_nearest, cX6_nearest, 12, (some .int), MX6_nearest_t0 ++ (MX6_nearest_t1))
theorem MX6_nearest_dec : k_dec MX6_nearest.2.1 MX6_nearest.2.2.2.2 = true := k_dec_app MX6_nearest_d0 (MX6_nearest_d1)
def MX7_nightOf : k_M := (yX7_nightOf, cX7_nightOf, 2, (some .int), [[(0, .iload_n 1, 1), (1, .ifCond .lt 21, 3), (4, .iload_n 1, 1), (5, .aload_n 0, 1), (6, .getfield 9, 3), (9, .arraylength, 1), (10, .if_icmp .ge 12, 3), (13, .aload_n 0, 1), (14, .getfield 9, 3), (17, .iload_n 1, 1), (18, .iaload, 1), (19, .goto 4, 3), (22, .iconst 0, 1), (23, .ireturn, 1)]])
set_option maxRecDepth 100000 in
theorem MX7_nightOf_dec : k_dec MX7_nightOf.2.1 MX7_nightOf.2.2.2.2 = true := by decide +kernel
def MX7_placeOf : k_M := (yX7_placeOf, cX7_placeOf, 2, (some .int), [[(0, .iload_n 1, 1), (1, .ifCond .lt 21, 3), (4, .iload_n 1, 1), (5, .aload_n 0, 1), (6, .getfield 15, 3), (9, .arraylength, 1), (10, .if_icmp .ge 12, 3), (13, .aload_n 0, 1), (14, .getfield 15, 3), (17, .iload_n 1, 1), (18, .iaload, 1), (19, .goto 4, 3), (22, .iconst 0, 1), (23, .ireturn, 1)]])
set_option maxRecDepth 100000 in
theorem MX7_placeOf_dec : k_dec MX7_placeOf.2.1 MX7_placeOf.2.2.2.2 = true := by decide +kernel
def MX7_inOrder : k_M := (yX7_inOrder, cX7_inOrder, 2, (some .int), [[(0, .iload_n 1, 1), (1, .ifCond .lt 21, 3), (4, .iload_n 1, 1), (5, .aload_n 0, 1), (6, .getfield 18, 3), (9, .arraylength, 1), (10, .if_icmp .ge 12, 3), (13, .aload_n 0, 1), (14, .getfield 18, 3), (17, .iload_n 1, 1), (18, .iaload, 1), (19, .goto 4, 3), (22, .iconst 0, 1), (23, .ireturn, 1)]])
set_option maxRecDepth 100000 in
theorem MX7_inOrder_dec : k_dec MX7_inOrder.2.1 MX7_inOrder.2.2.2.2 = true := by decide +kernel
def MX7_add_t0 : List (List (Nat × Instr × Nat)) := [[(0, .aload_n 0, 1), (1, .getfield 21, 3), (4, .istore_n 3, 1), (5, .iload_n 3, 1), (6, .ifCond .lt 30, 3), (9, .iload_n 3, 1), (10, .aload_n 0, 1), (11, .getfield 9, 3), (14, .arraylength, 1), (15, .if_icmp .ge 21, 3), (18, .iload_n 3, 1), (19, .aload_n 0, 1), (20, .getfield 15, 3), (23, .arraylength, 1), (24, .if_icmp .ge 12, 3), (27, .iload_n 3, 1)], [(28, .aload_n 0, 1), (29, .getfield 18, 3), (32, .arraylength, 1), (33, .if_icmp .lt 6, 3), (36, .bipush (-3), 2), (38, .ireturn, 1), (39, .aload_n 0, 1), (40, .getfield 9, 3), (43, .iload_n 3, 1), (44, .iload_n 1, 1), (45, .iastore, 1), (46, .aload_n 0, 1), (47, .getfield 15, 3), (50, .iload_n 3, 1), (51, .iload_n 2, 1), (52, .iastore, 1)], [(53, .iload_n 3, 1), (54, .istore 4, 2), (56, .iload_n 3, 1), (57, .istore 5, 2), (59, .iload 5, 2), (61, .ifCond .le 48, 3), (64, .aload_n 0, 1), (65, .aload_n 0, 1), (66, .getfield 18, 3), (69, .iload 5, 2), (71, .iconst 1, 1), (72, .isub, 1), (73, .iaload, 1), (74, .invokevirtual 25, 3), (77, .iload_n 1, 1), (78, .if_icmp .le 31, 3)]]
set_option maxRecDepth 100000 in
theorem MX7_add_d0 : k_dec cX7_add MX7_add_t0 = true := by decide +kernel
def MX7_add_t1 : List (List (Nat × Instr × Nat)) := [[(81, .aload_n 0, 1), (82, .getfield 18, 3), (85, .iload 5, 2), (87, .aload_n 0, 1), (88, .getfield 18, 3), (91, .iload 5, 2), (93, .iconst 1, 1), (94, .isub, 1), (95, .iaload, 1), (96, .iastore, 1), (97, .iload 5, 2), (99, .iconst 1, 1), (100, .isub, 1), (101, .istore 4, 2), (103, .iinc 5 (-1), 3), (106, .goto (-47), 3)], [(109, .aload_n 0, 1), (110, .getfield 18, 3), (113, .iload 4, 2), (115, .iload_n 3, 1), (116, .iastore, 1), (117, .aload_n 0, 1), (118, .dup, 1), (119, .getfield 21, 3), (122, .iconst 1, 1), (123, .iadd, 1), (124, .putfield 21, 3), (127, .iload_n 3, 1), (128, .ireturn, 1)]]
set_option maxRecDepth 100000 in
theorem MX7_add_d1 : k_dec cX7_add MX7_add_t1 = true := by decide +kernel
def MX7_add : k_M := (yX7_add, cX7_add, 6, (some .int), MX7_add_t0 ++ (MX7_add_t1))
theorem MX7_add_dec : k_dec MX7_add.2.1 MX7_add.2.2.2.2 = true := k_dec_app MX7_add_d0 (MX7_add_d1)
def MX8_has : k_M := (yX8_has, cX8_has, 2, (some .boolean), [[(0, .iload_n 1, 1), (1, .ifCond .lt 16, 3), (4, .iload_n 1, 1), (5, .aload_n 0, 1), (6, .getfield 9, 3), (9, .arraylength, 1), (10, .if_icmp .ge 7, 3), (13, .iconst 1, 1), (14, .goto 4, 3), (17, .iconst 0, 1), (18, .ireturn, 1)]])
set_option maxRecDepth 100000 in
theorem MX8_has_dec : k_dec MX8_has.2.1 MX8_has.2.2.2.2 = true := by decide +kernel
def MX8_heldBy : k_M := (yX8_heldBy, cX8_heldBy, 2, (some .int), [[(0, .aload_n 0, 1), (1, .iload_n 1, 1), (2, .invokevirtual 22, 3), (5, .ifCond .eq 12, 3), (8, .aload_n 0, 1), (9, .getfield 9, 3), (12, .iload_n 1, 1), (13, .iaload, 1), (14, .goto 4, 3), (17, .iconst (-1), 1), (18, .ireturn, 1)]])
set_option maxRecDepth 100000 in
theorem MX8_heldBy_dec : k_dec MX8_heldBy.2.1 MX8_heldBy.2.2.2.2 = true := by decide +kernel
def MX8_sizeOf : k_M := (yX8_sizeOf, cX8_sizeOf, 2, (some .int), [[(0, .iload_n 1, 1), (1, .ifCond .lt 21, 3), (4, .iload_n 1, 1), (5, .aload_n 0, 1), (6, .getfield 15, 3), (9, .arraylength, 1), (10, .if_icmp .ge 12, 3), (13, .aload_n 0, 1), (14, .getfield 15, 3), (17, .iload_n 1, 1), (18, .iaload, 1), (19, .goto 4, 3), (22, .iconst 0, 1), (23, .ireturn, 1)]])
set_option maxRecDepth 100000 in
theorem MX8_sizeOf_dec : k_dec MX8_sizeOf.2.1 MX8_sizeOf.2.2.2.2 = true := by decide +kernel
def MX8_hold : k_M := (yX8_hold, cX8_hold, 6, none, [[(0, .aload_n 0, 1), (1, .iload_n 1, 1), (2, .invokevirtual 22, 3), (5, .ifCond .eq 12, 3), (8, .iload_n 1, 1), (9, .aload_n 0, 1), (10, .getfield 15, 3), (13, .arraylength, 1), (14, .if_icmp .lt 4, 3), (17, .return_, 1), (18, .aload_n 0, 1), (19, .getfield 9, 3), (22, .iload_n 1, 1), (23, .iload_n 2, 1), (24, .iastore, 1), (25, .aload_n 0, 1)], [(26, .getfield 15, 3), (29, .iload_n 1, 1), (30, .iload_n 3, 1), (31, .iastore, 1), (32, .bipush 60, 2), (34, .iload_n 1, 1), (35, .imul, 1), (36, .istore 4, 2), (38, .iconst 0, 1), (39, .istore 5, 2), (41, .iload 5, 2), (43, .bipush 60, 2), (45, .if_icmp .ge 33, 3), (48, .iload 4, 2), (50, .iload 5, 2), (52, .iadd, 1)], [(53, .aload_n 0, 1), (54, .getfield 18, 3), (57, .arraylength, 1), (58, .if_icmp .ge 20, 3), (61, .aload_n 0, 1), (62, .getfield 18, 3), (65, .iload 4, 2), (67, .iload 5, 2), (69, .iadd, 1), (70, .lconst 0, 1), (71, .lastore, 1), (72, .iinc 5 1, 3), (75, .goto (-34), 3), (78, .return_, 1)]])
set_option maxRecDepth 100000 in
theorem MX8_hold_dec : k_dec MX8_hold.2.1 MX8_hold.2.2.2.2 = true := by decide +kernel
def MX8_hasElement : k_M := (yX8_hasElement, cX8_hasElement, 4, (some .boolean), [[(0, .aload_n 0, 1), (1, .iload_n 1, 1), (2, .invokevirtual 26, 3), (5, .istore_n 3, 1), (6, .iload_n 3, 1), (7, .iconst (-1), 1), (8, .if_icmp .eq 25, 3), (11, .iload_n 3, 1), (12, .iconst 5, 1), (13, .if_icmp .eq 20, 3), (16, .iload_n 2, 1), (17, .ifCond .lt 16, 3), (20, .iload_n 2, 1), (21, .aload_n 0, 1), (22, .iload_n 1, 1), (23, .invokevirtual 30, 3)], [(26, .if_icmp .ge 7, 3), (29, .iconst 1, 1), (30, .goto 4, 3), (33, .iconst 0, 1), (34, .ireturn, 1)]])
set_option maxRecDepth 100000 in
theorem MX8_hasElement_dec : k_dec MX8_hasElement.2.1 MX8_hasElement.2.2.2.2 = true := by decide +kernel
def MX8_refusalAt : k_M := (yX8_refusalAt, cX8_refusalAt, 4, (some .int), [[(0, .aload_n 0, 1), (1, .iload_n 1, 1), (2, .invokevirtual 26, 3), (5, .istore_n 3, 1), (6, .iload_n 3, 1), (7, .iconst (-1), 1), (8, .if_icmp .ne 6, 3), (11, .bipush (-11), 2), (13, .ireturn, 1), (14, .iload_n 3, 1), (15, .iconst 5, 1), (16, .if_icmp .ne 6, 3), (19, .bipush (-12), 2), (21, .ireturn, 1), (22, .iload_n 2, 1), (23, .ifCond .lt 16, 3)], [(26, .iload_n 2, 1), (27, .aload_n 0, 1), (28, .iload_n 1, 1), (29, .invokevirtual 30, 3), (32, .if_icmp .ge 7, 3), (35, .iconst 0, 1), (36, .goto 5, 3), (39, .bipush (-13), 2), (41, .ireturn, 1)]])
set_option maxRecDepth 100000 in
theorem MX8_refusalAt_dec : k_dec MX8_refusalAt.2.1 MX8_refusalAt.2.2.2.2 = true := by decide +kernel
def MX8_hasPart : k_M := (yX8_hasPart, cX8_hasPart, 4, (some .boolean), [[(0, .iload_n 2, 1), (1, .ifCond .lt 31, 3), (4, .iload_n 3, 1), (5, .ifCond .lt 27, 3), (8, .iload_n 2, 1), (9, .aload_n 0, 1), (10, .iload_n 1, 1), (11, .invokevirtual 30, 3), (14, .if_icmp .gt 18, 3), (17, .iload_n 3, 1), (18, .aload_n 0, 1), (19, .iload_n 1, 1), (20, .invokevirtual 30, 3), (23, .iload_n 2, 1), (24, .isub, 1), (25, .if_icmp .gt 7, 3)], [(28, .iconst 1, 1), (29, .goto 4, 3), (32, .iconst 0, 1), (33, .ireturn, 1)]])
set_option maxRecDepth 100000 in
theorem MX8_hasPart_dec : k_dec MX8_hasPart.2.1 MX8_hasPart.2.2.2.2 = true := by decide +kernel
def MX8_valueAt : k_M := (yX8_valueAt, cX8_valueAt, 4, (some .long), [[(0, .bipush 60, 2), (2, .iload_n 1, 1), (3, .imul, 1), (4, .iload_n 2, 1), (5, .iadd, 1), (6, .istore_n 3, 1), (7, .iload_n 3, 1), (8, .ifCond .lt 21, 3), (11, .iload_n 3, 1), (12, .aload_n 0, 1), (13, .getfield 18, 3), (16, .arraylength, 1), (17, .if_icmp .ge 12, 3), (20, .aload_n 0, 1), (21, .getfield 18, 3), (24, .iload_n 3, 1)], [(25, .laload, 1), (26, .goto 4, 3), (29, .lconst 0, 1), (30, .lreturn, 1)]])
set_option maxRecDepth 100000 in
theorem MX8_valueAt_dec : k_dec MX8_valueAt.2.1 MX8_valueAt.2.2.2.2 = true := by decide +kernel
def MX8_write : k_M := (yX8_write, cX8_write, 6, none, [[(0, .bipush 60, 2), (2, .iload_n 1, 1), (3, .imul, 1), (4, .iload_n 2, 1), (5, .iadd, 1), (6, .istore 5, 2), (8, .iload 5, 2), (10, .ifCond .lt 29, 3), (13, .iload 5, 2), (15, .aload_n 0, 1), (16, .getfield 18, 3), (19, .arraylength, 1), (20, .if_icmp .ge 19, 3), (23, .aload_n 0, 1), (24, .getfield 18, 3), (27, .iload 5, 2)], [(29, .aload_n 0, 1), (30, .iload_n 1, 1), (31, .invokevirtual 26, 3), (34, .lload_n 3, 1), (35, .invokestatic 33, 3), (38, .lastore, 1), (39, .return_, 1)]])
set_option maxRecDepth 100000 in
theorem MX8_write_dec : k_dec MX8_write.2.1 MX8_write.2.2.2.2 = true := by decide +kernel
def MX8_lowest : k_M := (yX8_lowest, cX8_lowest, 3, (some .long), [[(0, .iload_n 0, 1), (1, .tableswitch 47 0 3 #[31, 36, 41, 45], 31), (32, .lload_n 1, 1), (33, .l2i, 1), (34, .i2b, 1), (35, .i2l, 1), (36, .lreturn, 1), (37, .lload_n 1, 1), (38, .l2i, 1), (39, .i2s, 1), (40, .i2l, 1), (41, .lreturn, 1), (42, .lload_n 1, 1), (43, .l2i, 1), (44, .i2l, 1), (45, .lreturn, 1)], [(46, .lload_n 1, 1), (47, .lreturn, 1), (48, .lload_n 1, 1), (49, .lconst 0, 1), (50, .lcmp, 1), (51, .ifCond .eq 7, 3), (54, .lconst 1, 1), (55, .goto 4, 3), (58, .lconst 0, 1), (59, .lreturn, 1)]])
set_option maxRecDepth 100000 in
theorem MX8_lowest_dec : k_dec MX8_lowest.2.1 MX8_lowest.2.2.2.2 = true := by decide +kernel
def MX8_move : k_M := (yX8_move, cX8_move, 9, none, [[(0, .iload 4, 2), (2, .iload_n 2, 1), (3, .if_icmp .le 7, 3), (6, .iconst 1, 1), (7, .goto 4, 3), (10, .iconst 0, 1), (11, .istore 6, 2), (13, .iconst 0, 1), (14, .istore 7, 2), (16, .iload 7, 2), (18, .iload 5, 2), (20, .if_icmp .ge 47, 3), (23, .iload 6, 2), (25, .ifCond .eq 13, 3), (28, .iload 5, 2), (30, .iconst 1, 1)], [(31, .isub, 1), (32, .iload 7, 2), (34, .isub, 1), (35, .goto 5, 3), (38, .iload 7, 2), (40, .istore 8, 2), (42, .aload_n 0, 1), (43, .iload_n 3, 1), (44, .iload 4, 2), (46, .iload 8, 2), (48, .iadd, 1), (49, .aload_n 0, 1), (50, .iload_n 1, 1), (51, .iload_n 2, 1), (52, .iload 8, 2), (54, .iadd, 1)], [(55, .invokevirtual 37, 3), (58, .invokevirtual 41, 3), (61, .iinc 7 1, 3), (64, .goto (-48), 3), (67, .return_, 1)]])
set_option maxRecDepth 100000 in
theorem MX8_move_dec : k_dec MX8_move.2.1 MX8_move.2.2.2.2 = true := by decide +kernel
def MX9_append : k_M := (yX9_append, cX9_append, 2, none, [[(0, .aload_n 0, 1), (1, .getfield 15, 3), (4, .ifCond .lt 15, 3), (7, .aload_n 0, 1), (8, .getfield 15, 3), (11, .aload_n 0, 1), (12, .getfield 9, 3), (15, .arraylength, 1), (16, .if_icmp .lt 4, 3), (19, .return_, 1), (20, .aload_n 0, 1), (21, .getfield 9, 3), (24, .aload_n 0, 1), (25, .getfield 15, 3), (28, .iload_n 1, 1), (29, .iastore, 1)], [(30, .aload_n 0, 1), (31, .dup, 1), (32, .getfield 15, 3), (35, .iconst 1, 1), (36, .iadd, 1), (37, .putfield 15, 3), (40, .return_, 1)]])
set_option maxRecDepth 100000 in
theorem MX9_append_dec : k_dec MX9_append.2.1 MX9_append.2.2.2.2 = true := by decide +kernel
def MX9_at : k_M := (yX9_at, cX9_at, 2, (some .int), [[(0, .iload_n 1, 1), (1, .ifCond .lt 29, 3), (4, .iload_n 1, 1), (5, .aload_n 0, 1), (6, .getfield 15, 3), (9, .if_icmp .ge 21, 3), (12, .iload_n 1, 1), (13, .aload_n 0, 1), (14, .getfield 9, 3), (17, .arraylength, 1), (18, .if_icmp .ge 12, 3), (21, .aload_n 0, 1), (22, .getfield 9, 3), (25, .iload_n 1, 1), (26, .iaload, 1), (27, .goto 4, 3)], [(30, .iconst (-1), 1), (31, .ireturn, 1)]])
set_option maxRecDepth 100000 in
theorem MX9_at_dec : k_dec MX9_at.2.1 MX9_at.2.2.2.2 = true := by decide +kernel
def MX10_has : k_M := (yX10_has, cX10_has, 2, (some .boolean), [[(0, .iload_n 1, 1), (1, .ifCond .lt 24, 3), (4, .iload_n 1, 1), (5, .aload_n 0, 1), (6, .getfield 21, 3), (9, .if_icmp .ge 16, 3), (12, .iload_n 1, 1), (13, .aload_n 0, 1), (14, .getfield 15, 3), (17, .arraylength, 1), (18, .if_icmp .ge 7, 3), (21, .iconst 1, 1), (22, .goto 4, 3), (25, .iconst 0, 1), (26, .ireturn, 1)]])
set_option maxRecDepth 100000 in
theorem MX10_has_dec : k_dec MX10_has.2.1 MX10_has.2.2.2.2 = true := by decide +kernel
def MX10_hasPlace : k_M := (yX10_hasPlace, cX10_hasPlace, 3, (some .boolean), [[(0, .aload_n 0, 1), (1, .iload_n 1, 1), (2, .invokevirtual 25, 3), (5, .ifCond .eq 21, 3), (8, .iload_n 2, 1), (9, .ifCond .lt 17, 3), (12, .iload_n 2, 1), (13, .aload_n 0, 1), (14, .getfield 15, 3), (17, .iload_n 1, 1), (18, .iaload, 1), (19, .if_icmp .ge 7, 3), (22, .iconst 1, 1), (23, .goto 4, 3), (26, .iconst 0, 1), (27, .ireturn, 1)]])
set_option maxRecDepth 100000 in
theorem MX10_hasPlace_dec : k_dec MX10_hasPlace.2.1 MX10_hasPlace.2.2.2.2 = true := by decide +kernel
def MX10_sizeOf : k_M := (yX10_sizeOf, cX10_sizeOf, 2, (some .int), [[(0, .iload_n 1, 1), (1, .ifCond .lt 21, 3), (4, .iload_n 1, 1), (5, .aload_n 0, 1), (6, .getfield 15, 3), (9, .arraylength, 1), (10, .if_icmp .ge 12, 3), (13, .aload_n 0, 1), (14, .getfield 15, 3), (17, .iload_n 1, 1), (18, .iaload, 1), (19, .goto 4, 3), (22, .iconst 0, 1), (23, .ireturn, 1)]])
set_option maxRecDepth 100000 in
theorem MX10_sizeOf_dec : k_dec MX10_sizeOf.2.1 MX10_sizeOf.2.2.2.2 = true := by decide +kernel
def MX10_breakOf : k_M := (yX10_breakOf, cX10_breakOf, 2, (some .int), [[(0, .iload_n 1, 1), (1, .ifCond .lt 21, 3), (4, .iload_n 1, 1), (5, .aload_n 0, 1), (6, .getfield 18, 3), (9, .arraylength, 1), (10, .if_icmp .ge 12, 3), (13, .aload_n 0, 1), (14, .getfield 18, 3), (17, .iload_n 1, 1), (18, .iaload, 1), (19, .goto 4, 3), (22, .iconst 0, 1), (23, .ireturn, 1)]])
set_option maxRecDepth 100000 in
theorem MX10_breakOf_dec : k_dec MX10_breakOf.2.1 MX10_breakOf.2.2.2.2 = true := by decide +kernel
def MX10_setBreak : k_M := (yX10_setBreak, cX10_setBreak, 3, none, [[(0, .iload_n 1, 1), (1, .ifCond .lt 19, 3), (4, .iload_n 1, 1), (5, .aload_n 0, 1), (6, .getfield 18, 3), (9, .arraylength, 1), (10, .if_icmp .ge 10, 3), (13, .aload_n 0, 1), (14, .getfield 18, 3), (17, .iload_n 1, 1), (18, .iload_n 2, 1), (19, .iastore, 1), (20, .return_, 1)]])
set_option maxRecDepth 100000 in
theorem MX10_setBreak_dec : k_dec MX10_setBreak.2.1 MX10_setBreak.2.2.2.2 = true := by decide +kernel
def MX10_letterAt : k_M := (yX10_letterAt, cX10_letterAt, 4, (some .int), [[(0, .bipush 40, 2), (2, .iload_n 1, 1), (3, .imul, 1), (4, .iload_n 2, 1), (5, .iadd, 1), (6, .istore_n 3, 1), (7, .iload_n 3, 1), (8, .ifCond .lt 21, 3), (11, .iload_n 3, 1), (12, .aload_n 0, 1), (13, .getfield 9, 3), (16, .arraylength, 1), (17, .if_icmp .ge 12, 3), (20, .aload_n 0, 1), (21, .getfield 9, 3), (24, .iload_n 3, 1)], [(25, .iaload, 1), (26, .goto 4, 3), (29, .iconst 0, 1), (30, .ireturn, 1)]])
set_option maxRecDepth 100000 in
theorem MX10_letterAt_dec : k_dec MX10_letterAt.2.1 MX10_letterAt.2.2.2.2 = true := by decide +kernel
def MX10_setLetter : k_M := (yX10_setLetter, cX10_setLetter, 5, none, [[(0, .bipush 40, 2), (2, .iload_n 1, 1), (3, .imul, 1), (4, .iload_n 2, 1), (5, .iadd, 1), (6, .istore 4, 2), (8, .iload 4, 2), (10, .ifCond .lt 21, 3), (13, .iload 4, 2), (15, .aload_n 0, 1), (16, .getfield 9, 3), (19, .arraylength, 1), (20, .if_icmp .ge 11, 3), (23, .aload_n 0, 1), (24, .getfield 9, 3), (27, .iload 4, 2)], [(29, .iload_n 3, 1), (30, .iastore, 1), (31, .return_, 1)]])
set_option maxRecDepth 100000 in
theorem MX10_setLetter_dec : k_dec MX10_setLetter.2.1 MX10_setLetter.2.2.2.2 = true := by decide +kernel
def MX10_faultOf : k_M := (yX10_faultOf, cX10_faultOf, 3, (some .int), [[(0, .iconst 0, 1), (1, .istore_n 2, 1), (2, .iload_n 2, 1), (3, .aload_n 1, 1), (4, .getfield 29, 3), (7, .if_icmp .ge 28, 3), (10, .iload_n 2, 1), (11, .bipush 40, 2), (13, .if_icmp .ge 14, 3), (16, .aload_n 1, 1), (17, .iload_n 2, 1), (18, .invokevirtual 34, 3), (21, .invokestatic 38, 3), (24, .ifCond .ne 5, 3), (27, .iload_n 2, 1), (28, .ireturn, 1)], [(29, .iinc 2 1, 3), (32, .goto (-30), 3), (35, .aload_n 1, 1), (36, .getfield 29, 3), (39, .iconst 2, 1), (40, .if_icmp .ge 10, 3), (43, .aload_n 1, 1), (44, .getfield 29, 3), (47, .goto 4, 3), (50, .iconst (-1), 1), (51, .ireturn, 1)]])
set_option maxRecDepth 100000 in
theorem MX10_faultOf_dec : k_dec MX10_faultOf.2.1 MX10_faultOf.2.2.2.2 = true := by decide +kernel
def MX10_cutFrom : k_M := (yX10_cutFrom, cX10_cutFrom, 4, (some .int), [[(0, .aload_n 0, 1), (1, .getfield 21, 3), (4, .istore_n 2, 1), (5, .iload_n 2, 1), (6, .ifCond .lt 12, 3), (9, .iload_n 2, 1), (10, .aload_n 0, 1), (11, .getfield 15, 3), (14, .arraylength, 1), (15, .if_icmp .lt 6, 3), (18, .bipush (-3), 2), (20, .ireturn, 1), (21, .iconst 0, 1), (22, .istore_n 3, 1), (23, .iload_n 3, 1), (24, .aload_n 1, 1)], [(25, .getfield 29, 3), (28, .if_icmp .ge 26, 3), (31, .iload_n 3, 1), (32, .bipush 40, 2), (34, .if_icmp .ge 20, 3), (37, .aload_n 0, 1), (38, .iload_n 2, 1), (39, .iload_n 3, 1), (40, .aload_n 1, 1), (41, .iload_n 3, 1), (42, .invokevirtual 34, 3), (45, .invokevirtual 41, 3), (48, .iinc 3 1, 3), (51, .goto (-28), 3), (54, .aload_n 0, 1), (55, .getfield 15, 3)], [(58, .iload_n 2, 1), (59, .aload_n 1, 1), (60, .getfield 29, 3), (63, .iastore, 1), (64, .aload_n 0, 1), (65, .dup, 1), (66, .getfield 21, 3), (69, .iconst 1, 1), (70, .iadd, 1), (71, .putfield 21, 3), (74, .iload_n 2, 1), (75, .ireturn, 1)]])
set_option maxRecDepth 100000 in
theorem MX10_cutFrom_dec : k_dec MX10_cutFrom.2.1 MX10_cutFrom.2.2.2.2 = true := by decide +kernel
def MX11_feed : k_M := (yX11_feed, cX11_feed, 2, (some .int), [[(0, .iload_n 1, 1), (1, .ifCond .lt 10, 3), (4, .iload_n 1, 1), (5, .sipush 255, 3), (8, .if_icmp .le 5, 3), (11, .iconst (-1), 1), (12, .ireturn, 1), (13, .aload_n 0, 1), (14, .getfield 10, 3), (17, .getfield 89, 3), (20, .bipush 120, 2), (22, .if_icmp .lt 6, 3), (25, .bipush (-3), 2), (27, .ireturn, 1), (28, .aload_n 0, 1), (29, .getfield 10, 3)], [(32, .iload_n 1, 1), (33, .invokevirtual 92, 3), (36, .aload_n 0, 1), (37, .getfield 10, 3), (40, .getfield 89, 3), (43, .ireturn, 1)]])
set_option maxRecDepth 100000 in
theorem MX11_feed_dec : k_dec MX11_feed.2.1 MX11_feed.2.2.2.2 = true := by decide +kernel
def MX11_wheel : k_M := (yX11_wheel, cX11_wheel, 3, (some .int), [[(0, .aload_n 0, 1), (1, .getfield 19, 3), (4, .getfield 96, 3), (7, .iconst 4, 1), (8, .if_icmp .lt 6, 3), (11, .bipush (-3), 2), (13, .ireturn, 1), (14, .aload_n 0, 1), (15, .getfield 19, 3), (18, .aload_n 0, 1), (19, .getfield 10, 3), (22, .invokevirtual 99, 3), (25, .istore_n 1, 1), (26, .iload_n 1, 1), (27, .iconst (-1), 1), (28, .if_icmp .ne 17, 3)], [(31, .aload_n 0, 1), (32, .getfield 19, 3), (35, .aload_n 0, 1), (36, .getfield 10, 3), (39, .invokevirtual 103, 3), (42, .goto 7, 3), (45, .bipush (-100), 2), (47, .iload_n 1, 1), (48, .isub, 1), (49, .istore_n 2, 1), (50, .aload_n 0, 1), (51, .getfield 10, 3), (54, .iconst 0, 1), (55, .putfield 89, 3), (58, .iload_n 2, 1), (59, .ireturn, 1)]])
set_option maxRecDepth 100000 in
theorem MX11_wheel_dec : k_dec MX11_wheel.2.1 MX11_wheel.2.2.2.2 = true := by decide +kernel
def MX11_law : k_M := (yX11_law, cX11_law, 2, (some .int), [[(0, .aload_n 0, 1), (1, .getfield 28, 3), (4, .invokevirtual 106, 3), (7, .istore_n 1, 1), (8, .aload_n 0, 1), (9, .getfield 10, 3), (12, .iconst 0, 1), (13, .putfield 89, 3), (16, .iload_n 1, 1), (17, .iconst (-1), 1), (18, .if_icmp .ne 7, 3), (21, .iconst 1, 1), (22, .goto 7, 3), (25, .bipush (-100), 2), (27, .iload_n 1, 1), (28, .isub, 1)], [(29, .ireturn, 1)]])
set_option maxRecDepth 100000 in
theorem MX11_law_dec : k_dec MX11_law.2.1 MX11_law.2.2.2.2 = true := by decide +kernel
def MX11_set : k_M := (yX11_set, cX11_set, 4, (some .int), [[(0, .iload_n 1, 1), (1, .ifCond .ne 32, 3), (4, .iload_n 2, 1), (5, .iconst 1, 1), (6, .if_icmp .lt 27, 3), (9, .iload_n 2, 1), (10, .bipush 9, 2), (12, .if_icmp .gt 21, 3), (15, .aload_n 0, 1), (16, .getfield 37, 3), (19, .getfield 110, 3), (22, .istore_n 3, 1), (23, .aload_n 0, 1), (24, .getfield 37, 3), (27, .iload_n 2, 1), (28, .putfield 110, 3)], [(31, .iload_n 3, 1), (32, .ireturn, 1), (33, .iload_n 1, 1), (34, .iconst 1, 1), (35, .if_icmp .ne 21, 3), (38, .aload_n 0, 1), (39, .getfield 28, 3), (42, .getfield 113, 3), (45, .istore_n 3, 1), (46, .aload_n 0, 1), (47, .getfield 28, 3), (50, .iload_n 2, 1), (51, .putfield 113, 3), (54, .iload_n 3, 1), (55, .ireturn, 1), (56, .ldc 116, 2)], [(58, .ireturn, 1)]])
set_option maxRecDepth 100000 in
theorem MX11_set_dec : k_dec MX11_set.2.1 MX11_set.2.2.2.2 = true := by decide +kernel
def MX11_broke : k_M := (yX11_broke, cX11_broke, 4, (some .int), [[(0, .aload_n 0, 1), (1, .getfield 19, 3), (4, .iload_n 1, 1), (5, .invokevirtual 117, 3), (8, .ifCond .eq 14, 3), (11, .iload_n 2, 1), (12, .ifCond .lt 10, 3), (15, .iload_n 2, 1), (16, .sipush 9999, 3), (19, .if_icmp .le 5, 3), (22, .iconst (-1), 1), (23, .ireturn, 1), (24, .aload_n 0, 1), (25, .getfield 19, 3), (28, .iload_n 1, 1), (29, .invokevirtual 121, 3)], [(32, .istore_n 3, 1), (33, .aload_n 0, 1), (34, .getfield 19, 3), (37, .iload_n 1, 1), (38, .iload_n 2, 1), (39, .invokevirtual 125, 3), (42, .aload_n 0, 1), (43, .getfield 67, 3), (46, .iload_n 1, 1), (47, .iconst (-1), 1), (48, .iload_n 3, 1), (49, .iload_n 2, 1), (50, .invokevirtual 129, 3), (53, .iload_n 3, 1), (54, .ireturn, 1)]])
set_option maxRecDepth 100000 in
theorem MX11_broke_dec : k_dec MX11_broke.2.1 MX11_broke.2.2.2.2 = true := by decide +kernel
def MX11_tooth : k_M := (yX11_tooth, cX11_tooth, 5, (some .int), [[(0, .aload_n 0, 1), (1, .getfield 19, 3), (4, .iload_n 1, 1), (5, .iload_n 2, 1), (6, .invokevirtual 133, 3), (9, .ifCond .eq 10, 3), (12, .iload_n 3, 1), (13, .invokestatic 137, 3), (16, .ifCond .ne 5, 3), (19, .iconst (-1), 1), (20, .ireturn, 1), (21, .aload_n 0, 1), (22, .getfield 19, 3), (25, .iload_n 1, 1), (26, .iload_n 2, 1), (27, .invokevirtual 140, 3)], [(30, .istore 4, 2), (32, .aload_n 0, 1), (33, .getfield 19, 3), (36, .iload_n 1, 1), (37, .iload_n 2, 1), (38, .iload_n 3, 1), (39, .invokevirtual 144, 3), (42, .aload_n 0, 1), (43, .getfield 67, 3), (46, .iload_n 1, 1), (47, .iload_n 2, 1), (48, .iload 4, 2), (50, .iload_n 3, 1), (51, .invokevirtual 129, 3), (54, .iload 4, 2), (56, .ireturn, 1)]])
set_option maxRecDepth 100000 in
theorem MX11_tooth_dec : k_dec MX11_tooth.2.1 MX11_tooth.2.2.2.2 = true := by decide +kernel
def MX11_of : k_M := (yX11_of, cX11_of, 3, (some .int), [[(0, .aload_n 0, 1), (1, .getfield 19, 3), (4, .iload_n 1, 1), (5, .invokevirtual 117, 3), (8, .ifCond .ne 5, 3), (11, .iconst (-1), 1), (12, .ireturn, 1), (13, .iload_n 2, 1), (14, .tableswitch 72 0 3 #[30, 39, 51, 63], 30), (44, .aload_n 0, 1), (45, .getfield 19, 3), (48, .iload_n 1, 1), (49, .invokevirtual 148, 3), (52, .ireturn, 1), (53, .aload_n 0, 1), (54, .getfield 37, 3)], [(57, .getfield 151, 3), (60, .iload_n 1, 1), (61, .invokevirtual 154, 3), (64, .ireturn, 1), (65, .aload_n 0, 1), (66, .getfield 37, 3), (69, .getfield 151, 3), (72, .iload_n 1, 1), (73, .invokevirtual 157, 3), (76, .ireturn, 1), (77, .aload_n 0, 1), (78, .getfield 19, 3), (81, .iload_n 1, 1), (82, .invokevirtual 121, 3), (85, .ireturn, 1), (86, .iload_n 2, 1)], [(87, .bipush 100, 2), (89, .if_icmp .lt 18, 3), (92, .aload_n 0, 1), (93, .getfield 19, 3), (96, .iload_n 1, 1), (97, .iload_n 2, 1), (98, .bipush 100, 2), (100, .isub, 1), (101, .invokevirtual 133, 3), (104, .ifCond .ne 5, 3), (107, .iconst (-1), 1), (108, .ireturn, 1), (109, .aload_n 0, 1), (110, .getfield 19, 3), (113, .iload_n 1, 1), (114, .iload_n 2, 1)], [(115, .bipush 100, 2), (117, .isub, 1), (118, .invokevirtual 140, 3), (121, .ireturn, 1)]])
set_option maxRecDepth 100000 in
theorem MX11_of_dec : k_dec MX11_of.2.1 MX11_of.2.2.2.2 = true := by decide +kernel
def MX11_on : k_M := (yX11_on, cX11_on, 2, (some .int), [[(0, .iload_n 1, 1), (1, .iconst 1, 1), (2, .if_icmp .lt 10, 3), (5, .iload_n 1, 1), (6, .sipush 2000, 3), (9, .if_icmp .le 5, 3), (12, .iconst (-1), 1), (13, .ireturn, 1), (14, .aload_n 0, 1), (15, .getfield 37, 3), (18, .getfield 151, 3), (21, .getfield 160, 3), (24, .ldc 163, 2), (26, .iload_n 1, 1), (27, .isub, 1), (28, .if_icmp .le 6, 3)], [(31, .bipush (-3), 2), (33, .ireturn, 1), (34, .aload_n 0, 1), (35, .getfield 37, 3), (38, .aload_n 0, 1), (39, .getfield 37, 3), (42, .getfield 151, 3), (45, .iload_n 1, 1), (46, .aload_n 0, 1), (47, .getfield 19, 3), (50, .getfield 96, 3), (53, .invokevirtual 164, 3), (56, .aload_n 0, 1), (57, .getfield 37, 3), (60, .getfield 151, 3), (63, .getfield 160, 3)], [(66, .ireturn, 1)]])
set_option maxRecDepth 100000 in
theorem MX11_on_dec : k_dec MX11_on.2.1 MX11_on.2.2.2.2 = true := by decide +kernel
def MX11_lay : k_M := (yX11_lay, cX11_lay, 4, (some .int), [[(0, .aload_n 0, 1), (1, .getfield 19, 3), (4, .iload_n 1, 1), (5, .iload_n 2, 1), (6, .invokevirtual 133, 3), (9, .ifCond .ne 5, 3), (12, .iconst (-1), 1), (13, .ireturn, 1), (14, .aload_n 0, 1), (15, .getfield 37, 3), (18, .getfield 151, 3), (21, .iload_n 1, 1), (22, .invokevirtual 154, 3), (25, .istore_n 3, 1), (26, .aload_n 0, 1), (27, .getfield 37, 3)], [(30, .getfield 151, 3), (33, .iload_n 1, 1), (34, .iload_n 2, 1), (35, .iconst 0, 1), (36, .invokevirtual 168, 3), (39, .iload_n 3, 1), (40, .ireturn, 1)]])
set_option maxRecDepth 100000 in
theorem MX11_lay_dec : k_dec MX11_lay.2.1 MX11_lay.2.2.2.2 = true := by decide +kernel
def MX11_shows : k_M := (yX11_shows, cX11_shows, 3, (some .int), [[(0, .aload_n 0, 1), (1, .getfield 19, 3), (4, .iload_n 1, 1), (5, .invokevirtual 117, 3), (8, .ifCond .eq 14, 3), (11, .iload_n 2, 1), (12, .ifCond .lt 10, 3), (15, .iload_n 2, 1), (16, .sipush 20000, 3), (19, .if_icmp .le 5, 3), (22, .iconst (-1), 1), (23, .ireturn, 1), (24, .aload_n 0, 1), (25, .getfield 37, 3), (28, .invokevirtual 171, 3), (31, .aload_n 0, 1)], [(32, .getfield 37, 3), (35, .aload_n 0, 1), (36, .getfield 37, 3), (39, .getfield 174, 3), (42, .iload_n 2, 1), (43, .iload_n 1, 1), (44, .iconst 1, 1), (45, .iadd, 1), (46, .invokevirtual 164, 3), (49, .aload_n 0, 1), (50, .getfield 37, 3), (53, .getfield 174, 3), (56, .iload_n 1, 1), (57, .invokevirtual 154, 3), (60, .ireturn, 1)]])
set_option maxRecDepth 100000 in
theorem MX11_shows_dec : k_dec MX11_shows.2.1 MX11_shows.2.2.2.2 = true := by decide +kernel
def MX11_day : k_M := (yX11_day, cX11_day, 1, (some .int), [[(0, .aload_n 0, 1), (1, .getfield 19, 3), (4, .getfield 96, 3), (7, .ifCond .ne 6, 3), (10, .bipush (-5), 2), (12, .ireturn, 1), (13, .aload_n 0, 1), (14, .getfield 37, 3), (17, .aload_n 0, 1), (18, .getfield 37, 3), (21, .getfield 151, 3), (24, .iconst 0, 1), (25, .invokevirtual 154, 3), (28, .invokevirtual 177, 3), (31, .ireturn, 1)]])
set_option maxRecDepth 100000 in
theorem MX11_day_dec : k_dec MX11_day.2.1 MX11_day.2.2.2.2 = true := by decide +kernel
def MX11_often : k_M := (yX11_often, cX11_often, 3, (some .int), [[(0, .iload_n 2, 1), (1, .iconst 1, 1), (2, .if_icmp .lt 25, 3), (5, .iload_n 2, 1), (6, .sipush 2000, 3), (9, .if_icmp .gt 18, 3), (12, .iload_n 1, 1), (13, .ifCond .lt 14, 3), (16, .iload_n 1, 1), (17, .aload_n 0, 1), (18, .getfield 37, 3), (21, .getfield 110, 3), (24, .if_icmp .lt 5, 3), (27, .iconst (-1), 1), (28, .ireturn, 1), (29, .aload_n 0, 1)], [(30, .getfield 19, 3), (33, .getfield 96, 3), (36, .ifCond .ne 6, 3), (39, .bipush (-5), 2), (41, .ireturn, 1), (42, .aload_n 0, 1), (43, .getfield 37, 3), (46, .iload_n 1, 1), (47, .iload_n 2, 1), (48, .invokevirtual 180, 3), (51, .ireturn, 1)]])
set_option maxRecDepth 100000 in
theorem MX11_often_dec : k_dec MX11_often.2.1 MX11_often.2.2.2.2 = true := by decide +kernel
def MX11_never : k_M := (yX11_never, cX11_never, 3, (some .int), [[(0, .iload_n 1, 1), (1, .iconst 1, 1), (2, .if_icmp .lt 19, 3), (5, .iload_n 1, 1), (6, .sipush 2000, 3), (9, .if_icmp .gt 12, 3), (12, .iload_n 2, 1), (13, .ifCond .lt 8, 3), (16, .iload_n 2, 1), (17, .iconst 1, 1), (18, .if_icmp .le 5, 3), (21, .iconst (-1), 1), (22, .ireturn, 1), (23, .aload_n 0, 1), (24, .getfield 19, 3), (27, .getfield 96, 3)], [(30, .ifCond .ne 6, 3), (33, .bipush (-5), 2), (35, .ireturn, 1), (36, .aload_n 0, 1), (37, .getfield 37, 3), (40, .iload_n 1, 1), (41, .iload_n 2, 1), (42, .ifCond .ne 7, 3), (45, .iconst 1, 1), (46, .goto 4, 3), (49, .iconst 0, 1), (50, .invokevirtual 183, 3), (53, .ireturn, 1)]])
set_option maxRecDepth 100000 in
theorem MX11_never_dec : k_dec MX11_never.2.1 MX11_never.2.2.2.2 = true := by decide +kernel
def MX11_meets : k_M := (yX11_meets, cX11_meets, 4, (some .int), [[(0, .aload_n 0, 1), (1, .iload_n 1, 1), (2, .invokevirtual 187, 3), (5, .ifCond .eq 24, 3), (8, .iload_n 2, 1), (9, .iconst 1, 1), (10, .if_icmp .lt 19, 3), (13, .iload_n 2, 1), (14, .sipush 2000, 3), (17, .if_icmp .gt 12, 3), (20, .iload_n 3, 1), (21, .ifCond .lt 8, 3), (24, .iload_n 3, 1), (25, .iconst 1, 1), (26, .if_icmp .le 5, 3), (29, .iconst (-1), 1)], [(30, .ireturn, 1), (31, .aload_n 0, 1), (32, .getfield 37, 3), (35, .iload_n 1, 1), (36, .bipush 100, 2), (38, .idiv, 1), (39, .iload_n 1, 1), (40, .bipush 100, 2), (42, .irem, 1), (43, .iload_n 2, 1), (44, .iload_n 3, 1), (45, .iconst 1, 1), (46, .if_icmp .ne 7, 3), (49, .iconst 1, 1), (50, .goto 4, 3), (53, .iconst 0, 1)], [(54, .invokevirtual 190, 3), (57, .ireturn, 1)]])
set_option maxRecDepth 100000 in
theorem MX11_meets_dec : k_dec MX11_meets.2.1 MX11_meets.2.2.2.2 = true := by decide +kernel
def MX11_two : k_M := (yX11_two, cX11_two, 4, (some .int), [[(0, .aload_n 0, 1), (1, .iload_n 1, 1), (2, .invokevirtual 187, 3), (5, .ifCond .eq 23, 3), (8, .aload_n 0, 1), (9, .iload_n 2, 1), (10, .invokevirtual 187, 3), (13, .ifCond .eq 15, 3), (16, .iload_n 3, 1), (17, .iconst 1, 1), (18, .if_icmp .lt 10, 3), (21, .iload_n 3, 1), (22, .sipush 20000, 3), (25, .if_icmp .le 5, 3), (28, .iconst (-1), 1), (29, .ireturn, 1)], [(30, .aload_n 0, 1), (31, .getfield 37, 3), (34, .iload_n 1, 1), (35, .iload_n 2, 1), (36, .iload_n 3, 1), (37, .invokevirtual 194, 3), (40, .ireturn, 1)]])
set_option maxRecDepth 100000 in
theorem MX11_two_dec : k_dec MX11_two.2.1 MX11_two.2.2.2.2 = true := by decide +kernel
def MX11_round : k_M := (yX11_round, cX11_round, 2, (some .int), [[(0, .iload_n 1, 1), (1, .iconst 1, 1), (2, .if_icmp .lt 10, 3), (5, .iload_n 1, 1), (6, .sipush 20000, 3), (9, .if_icmp .le 5, 3), (12, .iconst (-1), 1), (13, .ireturn, 1), (14, .aload_n 0, 1), (15, .getfield 37, 3), (18, .iload_n 1, 1), (19, .invokevirtual 198, 3), (22, .ireturn, 1)]])
set_option maxRecDepth 100000 in
theorem MX11_round_dec : k_dec MX11_round.2.1 MX11_round.2.2.2.2 = true := by decide +kernel
def MX11_truth : k_M := (yX11_truth, cX11_truth, 2, (some .int), [[(0, .iload_n 1, 1), (1, .ifCond .lt 21, 3), (4, .iload_n 1, 1), (5, .bipush 100, 2), (7, .idiv, 1), (8, .bipush 40, 2), (10, .if_icmp .ge 12, 3), (13, .iload_n 1, 1), (14, .bipush 100, 2), (16, .irem, 1), (17, .bipush 40, 2), (19, .if_icmp .lt 5, 3), (22, .iconst (-1), 1), (23, .ireturn, 1), (24, .aload_n 0, 1), (25, .getfield 19, 3)], [(28, .getfield 96, 3), (31, .ifCond .ne 6, 3), (34, .bipush (-5), 2), (36, .ireturn, 1), (37, .aload_n 0, 1), (38, .getfield 37, 3), (41, .invokevirtual 171, 3), (44, .aload_n 0, 1), (45, .getfield 37, 3), (48, .iload_n 1, 1), (49, .bipush 100, 2), (51, .idiv, 1), (52, .iconst 0, 1), (53, .sipush 2000, 3), (56, .invokevirtual 201, 3), (59, .bipush (-2), 2)], [(61, .if_icmp .ne 6, 3), (64, .bipush (-2), 2), (66, .ireturn, 1), (67, .aload_n 0, 1), (68, .getfield 37, 3), (71, .iload_n 1, 1), (72, .bipush 100, 2), (74, .irem, 1), (75, .iconst 1, 1), (76, .sipush 2000, 3), (79, .invokevirtual 201, 3), (82, .ireturn, 1)]])
set_option maxRecDepth 100000 in
theorem MX11_truth_dec : k_dec MX11_truth.2.1 MX11_truth.2.2.2.2 = true := by decide +kernel
def MX11_near : k_M := (yX11_near, cX11_near, 3, (some .int), [[(0, .iload_n 1, 1), (1, .iconst 1, 1), (2, .if_icmp .lt 19, 3), (5, .iload_n 1, 1), (6, .sipush 400, 3), (9, .if_icmp .gt 12, 3), (12, .iload_n 2, 1), (13, .ifCond .lt 8, 3), (16, .iload_n 2, 1), (17, .iconst 2, 1), (18, .if_icmp .le 5, 3), (21, .iconst (-1), 1), (22, .ireturn, 1), (23, .aload_n 0, 1), (24, .getfield 19, 3), (27, .getfield 96, 3)], [(30, .ifCond .ne 6, 3), (33, .bipush (-5), 2), (35, .ireturn, 1), (36, .iload_n 2, 1), (37, .iconst 2, 1), (38, .if_icmp .ne 14, 3), (41, .aload_n 0, 1), (42, .getfield 37, 3), (45, .iload_n 1, 1), (46, .invokevirtual 204, 3), (49, .goto 20, 3), (52, .aload_n 0, 1), (53, .getfield 37, 3), (56, .iload_n 1, 1), (57, .iload_n 2, 1), (58, .ifCond .ne 7, 3)], [(61, .iconst 1, 1), (62, .goto 4, 3), (65, .iconst 0, 1), (66, .invokevirtual 207, 3), (69, .ireturn, 1)]])
set_option maxRecDepth 100000 in
theorem MX11_near_dec : k_dec MX11_near.2.1 MX11_near.2.2.2.2 = true := by decide +kernel
def MX11_record : k_M := (yX11_record, cX11_record, 3, (some .int), [[(0, .iload_n 1, 1), (1, .iload_n 2, 1), (2, .invokestatic 210, 3), (5, .ifCond .ne 5, 3), (8, .iconst (-1), 1), (9, .ireturn, 1), (10, .aload_n 0, 1), (11, .getfield 44, 3), (14, .getfield 213, 3), (17, .bipush 40, 2), (19, .if_icmp .lt 6, 3), (22, .bipush (-3), 2), (24, .ireturn, 1), (25, .aload_n 0, 1), (26, .getfield 44, 3), (29, .iload_n 1, 1)], [(30, .iload_n 2, 1), (31, .invokevirtual 214, 3), (34, .ireturn, 1)]])
set_option maxRecDepth 100000 in
theorem MX11_record_dec : k_dec MX11_record.2.1 MX11_record.2.2.2.2 = true := by decide +kernel
def MX11_records_t0 : List (List (Nat × Instr × Nat)) := [[(0, .aload_n 0, 1), (1, .getfield 81, 3), (4, .iload_n 1, 1), (5, .invokevirtual 216, 3), (8, .ifCond .eq 14, 3), (11, .iload_n 3, 1), (12, .iconst 1, 1), (13, .if_icmp .lt 9, 3), (16, .iload_n 3, 1), (17, .bipush 30, 2), (19, .if_icmp .le 5, 3), (22, .iconst (-1), 1), (23, .ireturn, 1), (24, .aload_n 0, 1), (25, .getfield 81, 3), (28, .iload_n 1, 1)], [(29, .invokevirtual 217, 3), (32, .istore 4, 2), (34, .iload 4, 2), (36, .iconst (-1), 1), (37, .if_icmp .eq 12, 3), (40, .iload 4, 2), (42, .iconst 1, 1), (43, .if_icmp .eq 6, 3), (46, .bipush (-12), 2), (48, .ireturn, 1), (49, .iconst 0, 1), (50, .istore 5, 2), (52, .iload 5, 2), (54, .iload_n 3, 1), (55, .if_icmp .ge 113, 3), (58, .iload_n 2, 1)], [(59, .iconst 2, 1), (60, .iload 5, 2), (62, .imul, 1), (63, .iadd, 1), (64, .istore 6, 2), (66, .aload_n 0, 1), (67, .getfield 81, 3), (70, .iload_n 1, 1), (71, .iload 6, 2), (73, .invokevirtual 220, 3), (76, .ifCond .eq 18, 3), (79, .aload_n 0, 1), (80, .getfield 81, 3), (83, .iload_n 1, 1), (84, .iload 6, 2), (86, .iconst 1, 1)]]
set_option maxRecDepth 100000 in
theorem MX11_records_d0 : k_dec cX11_records MX11_records_t0 = true := by decide +kernel
def MX11_records_t1 : List (List (Nat × Instr × Nat)) := [[(87, .iadd, 1), (88, .invokevirtual 220, 3), (91, .ifCond .ne 6, 3), (94, .iload 5, 2), (96, .ireturn, 1), (97, .aload_n 0, 1), (98, .getfield 81, 3), (101, .iload_n 1, 1), (102, .iload 6, 2), (104, .invokevirtual 223, 3), (107, .l2i, 1), (108, .istore 7, 2), (110, .aload_n 0, 1), (111, .getfield 81, 3), (114, .iload_n 1, 1), (115, .iload 6, 2)], [(117, .iconst 1, 1), (118, .iadd, 1), (119, .invokevirtual 223, 3), (122, .l2i, 1), (123, .istore 8, 2), (125, .iload 7, 2), (127, .iload 8, 2), (129, .invokestatic 210, 3), (132, .ifCond .eq 15, 3), (135, .aload_n 0, 1), (136, .getfield 44, 3), (139, .getfield 213, 3), (142, .bipush 40, 2), (144, .if_icmp .lt 6, 3), (147, .iload 5, 2), (149, .ireturn, 1)], [(150, .aload_n 0, 1), (151, .getfield 44, 3), (154, .iload 7, 2), (156, .iload 8, 2), (158, .invokevirtual 214, 3), (161, .pop, 1), (162, .iinc 5 1, 3), (165, .goto (-113), 3), (168, .iload_n 3, 1), (169, .ireturn, 1)]]
set_option maxRecDepth 100000 in
theorem MX11_records_d1 : k_dec cX11_records MX11_records_t1 = true := by decide +kernel
def MX11_records : k_M := (yX11_records, cX11_records, 9, (some .int), MX11_records_t0 ++ (MX11_records_t1))
theorem MX11_records_dec : k_dec MX11_records.2.1 MX11_records.2.2.2.2 = true := k_dec_app MX11_records_d0 (MX11_records_d1)
def MX11_clear : k_M := (yX11_clear, cX11_clear, 2, (some .int), [[(0, .aload_n 0, 1), (1, .getfield 44, 3), (4, .getfield 213, 3), (7, .istore_n 1, 1), (8, .aload_n 0, 1), (9, .getfield 44, 3), (12, .iconst 0, 1), (13, .putfield 213, 3), (16, .iload_n 1, 1), (17, .ireturn, 1)]])
set_option maxRecDepth 100000 in
theorem MX11_clear_dec : k_dec MX11_clear.2.1 MX11_clear.2.2.2.2 = true := by decide +kernel
def MX11_judge : k_M := (yX11_judge, cX11_judge, 1, (some .int), [[(0, .aload_n 0, 1), (1, .getfield 19, 3), (4, .getfield 96, 3), (7, .ifCond .ne 6, 3), (10, .bipush (-5), 2), (12, .ireturn, 1), (13, .aload_n 0, 1), (14, .getfield 53, 3), (17, .iconst 0, 1), (18, .invokevirtual 227, 3), (21, .ireturn, 1)]])
set_option maxRecDepth 100000 in
theorem MX11_judge_dec : k_dec MX11_judge.2.1 MX11_judge.2.2.2.2 = true := by decide +kernel
def MX11_fits : k_M := (yX11_fits, cX11_fits, 2, (some .int), [[(0, .aload_n 0, 1), (1, .getfield 19, 3), (4, .iconst 0, 1), (5, .iload_n 1, 1), (6, .invokevirtual 133, 3), (9, .ifCond .ne 5, 3), (12, .iconst (-1), 1), (13, .ireturn, 1), (14, .aload_n 0, 1), (15, .getfield 53, 3), (18, .iload_n 1, 1), (19, .invokevirtual 231, 3), (22, .ireturn, 1)]])
set_option maxRecDepth 100000 in
theorem MX11_fits_dec : k_dec MX11_fits.2.1 MX11_fits.2.2.2.2 = true := by decide +kernel
def MX11_sure : k_M := (yX11_sure, cX11_sure, 4, (some .int), [[(0, .iload_n 1, 1), (1, .ifCond .lt 8, 3), (4, .iload_n 1, 1), (5, .iconst 1, 1), (6, .if_icmp .le 5, 3), (9, .iconst (-1), 1), (10, .ireturn, 1), (11, .aload_n 0, 1), (12, .getfield 19, 3), (15, .getfield 96, 3), (18, .ifCond .ne 6, 3), (21, .bipush (-5), 2), (23, .ireturn, 1), (24, .iconst 0, 1), (25, .istore_n 2, 1), (26, .iconst 0, 1)], [(27, .istore_n 3, 1), (28, .iload_n 3, 1), (29, .aload_n 0, 1), (30, .getfield 19, 3), (33, .iconst 0, 1), (34, .invokevirtual 148, 3), (37, .if_icmp .ge 40, 3), (40, .iload_n 3, 1), (41, .bipush 40, 2), (43, .if_icmp .ge 34, 3), (46, .aload_n 0, 1), (47, .getfield 53, 3), (50, .iload_n 3, 1), (51, .invokevirtual 231, 3), (54, .invokestatic 234, 3), (57, .iconst 1, 1)], [(58, .if_icmp .ne 13, 3), (61, .iload_n 1, 1), (62, .iconst 1, 1), (63, .if_icmp .ne 5, 3), (66, .iload_n 3, 1), (67, .ireturn, 1), (68, .iinc 2 1, 3), (71, .iinc 3 1, 3), (74, .goto (-46), 3), (77, .iload_n 1, 1), (78, .iconst 1, 1), (79, .if_icmp .ne 8, 3), (82, .bipush (-2), 2), (84, .goto 4, 3), (87, .iload_n 2, 1), (88, .ireturn, 1)]])
set_option maxRecDepth 100000 in
theorem MX11_sure_dec : k_dec MX11_sure.2.1 MX11_sure.2.2.2.2 = true := by decide +kernel
def MX11_when : k_M := (yX11_when, cX11_when, 2, (some .int), [[(0, .iload_n 1, 1), (1, .ifCond .lt 8, 3), (4, .iload_n 1, 1), (5, .iconst 2, 1), (6, .if_icmp .le 5, 3), (9, .iconst (-1), 1), (10, .ireturn, 1), (11, .aload_n 0, 1), (12, .getfield 19, 3), (15, .getfield 96, 3), (18, .ifCond .ne 6, 3), (21, .bipush (-5), 2), (23, .ireturn, 1), (24, .aload_n 0, 1), (25, .getfield 53, 3), (28, .invokevirtual 239, 3)], [(31, .iload_n 1, 1), (32, .iconst 2, 1), (33, .if_icmp .ne 11, 3), (36, .aload_n 0, 1), (37, .getfield 53, 3), (40, .getfield 242, 3), (43, .ireturn, 1), (44, .iload_n 1, 1), (45, .ifCond .ne 13, 3), (48, .aload_n 0, 1), (49, .getfield 53, 3), (52, .getfield 245, 3), (55, .goto 10, 3), (58, .aload_n 0, 1), (59, .getfield 53, 3), (62, .getfield 248, 3)], [(65, .ireturn, 1)]])
set_option maxRecDepth 100000 in
theorem MX11_when_dec : k_dec MX11_when.2.1 MX11_when.2.2.2.2 = true := by decide +kernel
def MX11_watch : k_M := (yX11_watch, cX11_watch, 2, (some .int), [[(0, .aload_n 0, 1), (1, .getfield 19, 3), (4, .iconst 0, 1), (5, .iload_n 1, 1), (6, .invokevirtual 133, 3), (9, .ifCond .ne 5, 3), (12, .iconst (-1), 1), (13, .ireturn, 1), (14, .aload_n 0, 1), (15, .getfield 53, 3), (18, .iload_n 1, 1), (19, .aload_n 0, 1), (20, .getfield 53, 3), (23, .iload_n 1, 1), (24, .invokevirtual 231, 3), (27, .invokevirtual 251, 3)], [(30, .ireturn, 1)]])
set_option maxRecDepth 100000 in
theorem MX11_watch_dec : k_dec MX11_watch.2.1 MX11_watch.2.2.2.2 = true := by decide +kernel
def MX11_image : k_M := (yX11_image, cX11_image, 1, (some .int), [[(0, .aload_n 0, 1), (1, .getfield 60, 3), (4, .aload_n 0, 1), (5, .getfield 37, 3), (8, .getfield 151, 3), (11, .aload_n 0, 1), (12, .getfield 19, 3), (15, .getfield 96, 3), (18, .invokevirtual 254, 3), (21, .aload_n 0, 1), (22, .aload_n 0, 1), (23, .getfield 19, 3), (26, .getfield 96, 3), (29, .putfield 85, 3), (32, .aload_n 0, 1), (33, .getfield 60, 3)], [(36, .getfield 160, 3), (39, .ireturn, 1)]])
set_option maxRecDepth 100000 in
theorem MX11_image_dec : k_dec MX11_image.2.1 MX11_image.2.2.2.2 = true := by decide +kernel
def MX11_back : k_M := (yX11_back, cX11_back, 1, (some .int), [[(0, .aload_n 0, 1), (1, .getfield 85, 3), (4, .iconst (-1), 1), (5, .if_icmp .ne 6, 3), (8, .bipush (-5), 2), (10, .ireturn, 1), (11, .aload_n 0, 1), (12, .getfield 37, 3), (15, .getfield 151, 3), (18, .aload_n 0, 1), (19, .getfield 60, 3), (22, .aload_n 0, 1), (23, .getfield 85, 3), (26, .invokevirtual 254, 3), (29, .aload_n 0, 1), (30, .getfield 37, 3)], [(33, .getfield 151, 3), (36, .getfield 160, 3), (39, .ireturn, 1)]])
set_option maxRecDepth 100000 in
theorem MX11_back_dec : k_dec MX11_back.2.1 MX11_back.2.2.2.2 = true := by decide +kernel
def MX11_undo : k_M := (yX11_undo, cX11_undo, 1, (some .int), [[(0, .aload_n 0, 1), (1, .getfield 67, 3), (4, .getfield 258, 3), (7, .ifCond .ne 6, 3), (10, .bipush (-5), 2), (12, .ireturn, 1), (13, .aload_n 0, 1), (14, .getfield 67, 3), (17, .dup, 1), (18, .getfield 258, 3), (21, .iconst 1, 1), (22, .isub, 1), (23, .putfield 258, 3), (26, .aload_n 0, 1), (27, .aload_n 0, 1), (28, .getfield 67, 3)], [(31, .getfield 258, 3), (34, .aload_n 0, 1), (35, .getfield 67, 3), (38, .aload_n 0, 1), (39, .getfield 67, 3), (42, .getfield 258, 3), (45, .invokevirtual 261, 3), (48, .invokevirtual 264, 3), (51, .aload_n 0, 1), (52, .getfield 67, 3), (55, .getfield 258, 3), (58, .ireturn, 1)]])
set_option maxRecDepth 100000 in
theorem MX11_undo_dec : k_dec MX11_undo.2.1 MX11_undo.2.2.2.2 = true := by decide +kernel
def MX11_redo : k_M := (yX11_redo, cX11_redo, 1, (some .int), [[(0, .aload_n 0, 1), (1, .getfield 67, 3), (4, .getfield 258, 3), (7, .aload_n 0, 1), (8, .getfield 67, 3), (11, .getfield 267, 3), (14, .if_icmp .lt 6, 3), (17, .bipush (-5), 2), (19, .ireturn, 1), (20, .aload_n 0, 1), (21, .aload_n 0, 1), (22, .getfield 67, 3), (25, .getfield 258, 3), (28, .aload_n 0, 1), (29, .getfield 67, 3), (32, .aload_n 0, 1)], [(33, .getfield 67, 3), (36, .getfield 258, 3), (39, .invokevirtual 270, 3), (42, .invokevirtual 264, 3), (45, .aload_n 0, 1), (46, .getfield 67, 3), (49, .dup, 1), (50, .getfield 258, 3), (53, .iconst 1, 1), (54, .iadd, 1), (55, .putfield 258, 3), (58, .aload_n 0, 1), (59, .getfield 67, 3), (62, .getfield 267, 3), (65, .aload_n 0, 1), (66, .getfield 67, 3)], [(69, .getfield 258, 3), (72, .isub, 1), (73, .ireturn, 1)]])
set_option maxRecDepth 100000 in
theorem MX11_redo_dec : k_dec MX11_redo.2.1 MX11_redo.2.2.2.2 = true := by decide +kernel
def MX11_body : k_M := (yX11_body, cX11_body, 2, (some .int), [[(0, .iload_n 1, 1), (1, .ifCond .lt 9, 3), (4, .iload_n 1, 1), (5, .bipush 8, 2), (7, .if_icmp .lt 5, 3), (10, .iconst (-1), 1), (11, .ireturn, 1), (12, .aload_n 0, 1), (13, .getfield 74, 3), (16, .getfield 273, 3), (19, .bipush 50, 2), (21, .if_icmp .lt 6, 3), (24, .bipush (-3), 2), (26, .ireturn, 1), (27, .aload_n 0, 1), (28, .getfield 74, 3)], [(31, .iload_n 1, 1), (32, .invokevirtual 274, 3), (35, .ireturn, 1)]])
set_option maxRecDepth 100000 in
theorem MX11_body_dec : k_dec MX11_body.2.1 MX11_body.2.2.2.2 = true := by decide +kernel
def MX11_act : k_M := (yX11_act, cX11_act, 4, (some .int), [[(0, .aload_n 0, 1), (1, .getfield 74, 3), (4, .invokevirtual 276, 3), (7, .aload_n 0, 1), (8, .getfield 74, 3), (11, .iload_n 1, 1), (12, .invokevirtual 279, 3), (15, .ifCond .eq 12, 3), (18, .iload_n 2, 1), (19, .ifCond .lt 8, 3), (22, .iload_n 2, 1), (23, .iconst 4, 1), (24, .if_icmp .lt 5, 3), (27, .iconst 0, 1), (28, .ireturn, 1), (29, .aload_n 0, 1)], [(30, .getfield 74, 3), (33, .iload_n 1, 1), (34, .iload_n 2, 1), (35, .iload_n 3, 1), (36, .invokevirtual 280, 3), (39, .ireturn, 1)]])
set_option maxRecDepth 100000 in
theorem MX11_act_dec : k_dec MX11_act.2.1 MX11_act.2.2.2.2 = true := by decide +kernel
def MX11_trace : k_M := (yX11_trace, cX11_trace, 2, (some .int), [[(0, .iload_n 1, 1), (1, .ifCond .lt 20, 3), (4, .iload_n 1, 1), (5, .aload_n 0, 1), (6, .getfield 74, 3), (9, .getfield 283, 3), (12, .if_icmp .ge 9, 3), (15, .iload_n 1, 1), (16, .bipush 24, 2), (18, .if_icmp .lt 5, 3), (21, .iconst (-1), 1), (22, .ireturn, 1), (23, .aload_n 0, 1), (24, .getfield 74, 3), (27, .iload_n 1, 1), (28, .invokevirtual 286, 3)], [(31, .ireturn, 1)]])
set_option maxRecDepth 100000 in
theorem MX11_trace_dec : k_dec MX11_trace.2.1 MX11_trace.2.2.2.2 = true := by decide +kernel
def MX11_keep : k_M := (yX11_keep, cX11_keep, 3, (some .int), [[(0, .aload_n 0, 1), (1, .getfield 81, 3), (4, .iload_n 1, 1), (5, .invokevirtual 216, 3), (8, .ifCond .ne 5, 3), (11, .iconst (-1), 1), (12, .ireturn, 1), (13, .iload_n 2, 1), (14, .iconst (-1), 1), (15, .if_icmp .eq 16, 3), (18, .aload_n 0, 1), (19, .getfield 74, 3), (22, .iload_n 2, 1), (23, .invokevirtual 279, 3), (26, .ifCond .ne 5, 3), (29, .iconst (-1), 1)], [(30, .ireturn, 1), (31, .aload_n 0, 1), (32, .getfield 81, 3), (35, .iload_n 1, 1), (36, .iload_n 2, 1), (37, .iconst (-1), 1), (38, .if_icmp .ne 7, 3), (41, .iconst (-1), 1), (42, .goto 4, 3), (45, .iconst 5, 1), (46, .iload_n 2, 1), (47, .invokevirtual 289, 3), (50, .iconst 1, 1), (51, .ireturn, 1)]])
set_option maxRecDepth 100000 in
theorem MX11_keep_dec : k_dec MX11_keep.2.1 MX11_keep.2.2.2.2 = true := by decide +kernel
def MX11_row : k_M := (yX11_row, cX11_row, 4, (some .int), [[(0, .aload_n 0, 1), (1, .getfield 81, 3), (4, .iload_n 1, 1), (5, .invokevirtual 216, 3), (8, .ifCond .eq 18, 3), (11, .iload_n 2, 1), (12, .ifCond .lt 14, 3), (15, .iload_n 2, 1), (16, .iconst 5, 1), (17, .if_icmp .ge 9, 3), (20, .iload_n 3, 1), (21, .bipush 60, 2), (23, .if_icmp .le 5, 3), (26, .iconst (-1), 1), (27, .ireturn, 1), (28, .iload_n 3, 1)], [(29, .ifCond .ge 6, 3), (32, .bipush (-14), 2), (34, .ireturn, 1), (35, .aload_n 0, 1), (36, .getfield 81, 3), (39, .iload_n 1, 1), (40, .iload_n 2, 1), (41, .iload_n 3, 1), (42, .invokevirtual 289, 3), (45, .iconst 1, 1), (46, .ireturn, 1)]])
set_option maxRecDepth 100000 in
theorem MX11_row_dec : k_dec MX11_row.2.1 MX11_row.2.2.2.2 = true := by decide +kernel
def MX11_put : k_M := (yX11_put, cX11_put, 6, (some .int), [[(0, .aload_n 0, 1), (1, .getfield 81, 3), (4, .iload_n 1, 1), (5, .invokevirtual 216, 3), (8, .ifCond .ne 5, 3), (11, .iconst (-1), 1), (12, .ireturn, 1), (13, .aload_n 0, 1), (14, .getfield 81, 3), (17, .iload_n 1, 1), (18, .iload_n 2, 1), (19, .invokevirtual 292, 3), (22, .istore 5, 2), (24, .iload 5, 2), (26, .ifCond .eq 6, 3), (29, .iload 5, 2)], [(31, .ireturn, 1), (32, .aload_n 0, 1), (33, .getfield 81, 3), (36, .iload_n 1, 1), (37, .iload_n 2, 1), (38, .lload_n 3, 1), (39, .invokevirtual 295, 3), (42, .iconst 1, 1), (43, .ireturn, 1)]])
set_option maxRecDepth 100000 in
theorem MX11_put_dec : k_dec MX11_put.2.1 MX11_put.2.2.2.2 = true := by decide +kernel
def MX11_element : k_M := (yX11_element, cX11_element, 3, (some .long), [[(0, .aload_n 0, 1), (1, .getfield 81, 3), (4, .iload_n 1, 1), (5, .invokevirtual 216, 3), (8, .ifCond .eq 15, 3), (11, .aload_n 0, 1), (12, .getfield 81, 3), (15, .iload_n 1, 1), (16, .iload_n 2, 1), (17, .invokevirtual 292, 3), (20, .ifCond .eq 7, 3), (23, .ldc2_w 301, 3), (26, .lreturn, 1), (27, .aload_n 0, 1), (28, .getfield 81, 3), (31, .iload_n 1, 1)], [(32, .iload_n 2, 1), (33, .invokevirtual 223, 3), (36, .lreturn, 1)]])
set_option maxRecDepth 100000 in
theorem MX11_element_dec : k_dec MX11_element.2.1 MX11_element.2.2.2.2 = true := by decide +kernel
def MX11_shift : k_M := (yX11_shift, cX11_shift, 8, (some .int), [[(0, .aload_n 0, 1), (1, .getfield 81, 3), (4, .iload_n 1, 1), (5, .invokevirtual 216, 3), (8, .ifCond .eq 14, 3), (11, .aload_n 0, 1), (12, .getfield 81, 3), (15, .iload_n 3, 1), (16, .invokevirtual 216, 3), (19, .ifCond .ne 5, 3), (22, .iconst (-1), 1), (23, .ireturn, 1), (24, .aload_n 0, 1), (25, .getfield 81, 3), (28, .iload_n 1, 1), (29, .invokevirtual 217, 3)], [(32, .istore 6, 2), (34, .aload_n 0, 1), (35, .getfield 81, 3), (38, .iload_n 3, 1), (39, .invokevirtual 217, 3), (42, .istore 7, 2), (44, .iload 6, 2), (46, .iconst (-1), 1), (47, .if_icmp .eq 9, 3), (50, .iload 7, 2), (52, .iconst (-1), 1), (53, .if_icmp .ne 6, 3), (56, .bipush (-11), 2), (58, .ireturn, 1), (59, .iload 6, 2), (61, .iconst 5, 1)], [(62, .if_icmp .eq 10, 3), (65, .iload 6, 2), (67, .iload 7, 2), (69, .if_icmp .eq 6, 3), (72, .bipush (-12), 2), (74, .ireturn, 1), (75, .aload_n 0, 1), (76, .getfield 81, 3), (79, .iload_n 1, 1), (80, .iload_n 2, 1), (81, .iload 5, 2), (83, .invokevirtual 303, 3), (86, .ifCond .eq 18, 3), (89, .aload_n 0, 1), (90, .getfield 81, 3), (93, .iload_n 3, 1)], [(94, .iload 4, 2), (96, .iload 5, 2), (98, .invokevirtual 303, 3), (101, .ifCond .ne 6, 3), (104, .bipush (-13), 2), (106, .ireturn, 1), (107, .aload_n 0, 1), (108, .getfield 81, 3), (111, .iload_n 1, 1), (112, .iload_n 2, 1), (113, .iload_n 3, 1), (114, .iload 4, 2), (116, .iload 5, 2), (118, .invokevirtual 307, 3), (121, .iload 5, 2), (123, .ireturn, 1)]])
set_option maxRecDepth 100000 in
theorem MX11_shift_dec : k_dec MX11_shift.2.1 MX11_shift.2.2.2.2 = true := by decide +kernel
def MX11_taken : k_M := (yX11_taken, cX11_taken, 5, (some .int), [[(0, .aload_n 0, 1), (1, .getfield 81, 3), (4, .iload_n 1, 1), (5, .invokevirtual 216, 3), (8, .ifCond .eq 13, 3), (11, .iload_n 2, 1), (12, .ifCond .lt 9, 3), (15, .iload_n 2, 1), (16, .bipush 8, 2), (18, .if_icmp .lt 5, 3), (21, .iconst (-1), 1), (22, .ireturn, 1), (23, .aload_n 0, 1), (24, .getfield 81, 3), (27, .iload_n 1, 1), (28, .invokevirtual 217, 3)], [(31, .istore_n 3, 1), (32, .iload_n 3, 1), (33, .iconst (-1), 1), (34, .if_icmp .ne 6, 3), (37, .bipush (-11), 2), (39, .ireturn, 1), (40, .iload_n 3, 1), (41, .iconst 5, 1), (42, .if_icmp .eq 6, 3), (45, .bipush (-12), 2), (47, .ireturn, 1), (48, .aload_n 0, 1), (49, .getfield 74, 3), (52, .aload_n 0, 1), (53, .getfield 81, 3), (56, .iload_n 1, 1)], [(57, .invokevirtual 311, 3), (60, .invokevirtual 312, 3), (63, .istore 4, 2), (65, .aload_n 0, 1), (66, .getfield 74, 3), (69, .iload 4, 2), (71, .iload_n 2, 1), (72, .invokevirtual 315, 3), (75, .ifCond .eq 8, 3), (78, .iload 4, 2), (80, .goto 5, 3), (83, .bipush (-12), 2), (85, .ireturn, 1)]])
set_option maxRecDepth 100000 in
theorem MX11_taken_dec : k_dec MX11_taken.2.1 MX11_taken.2.2.2.2 = true := by decide +kernel
def MX11_count : k_M := (yX11_count, cX11_count, 2, (some .int), [[(0, .iload_n 1, 1), (1, .tableswitch 102 0 6 #[43, 51, 62, 70, 78, 86, 94], 43), (44, .aload_n 0, 1), (45, .getfield 19, 3), (48, .getfield 96, 3), (51, .ireturn, 1), (52, .aload_n 0, 1), (53, .getfield 37, 3), (56, .getfield 151, 3), (59, .getfield 160, 3), (62, .ireturn, 1), (63, .aload_n 0, 1), (64, .getfield 44, 3), (67, .getfield 213, 3), (70, .ireturn, 1), (71, .aload_n 0, 1)], [(72, .getfield 10, 3), (75, .getfield 89, 3), (78, .ireturn, 1), (79, .aload_n 0, 1), (80, .getfield 67, 3), (83, .getfield 258, 3), (86, .ireturn, 1), (87, .aload_n 0, 1), (88, .getfield 74, 3), (91, .getfield 273, 3), (94, .ireturn, 1), (95, .aload_n 0, 1), (96, .getfield 74, 3), (99, .getfield 283, 3), (102, .ireturn, 1), (103, .iconst (-1), 1)], [(104, .ireturn, 1)]])
set_option maxRecDepth 100000 in
theorem MX11_count_dec : k_dec MX11_count.2.1 MX11_count.2.2.2.2 = true := by decide +kernel
def MX11_isSpot : k_M := (yX11_isSpot, cX11_isSpot, 2, (some .boolean), [[(0, .iload_n 1, 1), (1, .ifCond .lt 25, 3), (4, .aload_n 0, 1), (5, .getfield 19, 3), (8, .iload_n 1, 1), (9, .bipush 100, 2), (11, .idiv, 1), (12, .iload_n 1, 1), (13, .bipush 100, 2), (15, .irem, 1), (16, .invokevirtual 133, 3), (19, .ifCond .eq 7, 3), (22, .iconst 1, 1), (23, .goto 4, 3), (26, .iconst 0, 1), (27, .ireturn, 1)]])
set_option maxRecDepth 100000 in
theorem MX11_isSpot_dec : k_dec MX11_isSpot.2.1 MX11_isSpot.2.2.2.2 = true := by decide +kernel
def MX11_apply : k_M := (yX11_apply, cX11_apply, 5, none, [[(0, .aload_n 0, 1), (1, .getfield 67, 3), (4, .iload_n 1, 1), (5, .invokevirtual 318, 3), (8, .istore_n 3, 1), (9, .aload_n 0, 1), (10, .getfield 67, 3), (13, .iload_n 1, 1), (14, .invokevirtual 321, 3), (17, .istore 4, 2), (19, .iload 4, 2), (21, .iconst (-1), 1), (22, .if_icmp .ne 15, 3), (25, .aload_n 0, 1), (26, .getfield 19, 3), (29, .iload_n 3, 1)], [(30, .iload_n 2, 1), (31, .invokevirtual 125, 3), (34, .goto 14, 3), (37, .aload_n 0, 1), (38, .getfield 19, 3), (41, .iload_n 3, 1), (42, .iload 4, 2), (44, .iload_n 2, 1), (45, .invokevirtual 144, 3), (48, .return_, 1)]])
set_option maxRecDepth 100000 in
theorem MX11_apply_dec : k_dec MX11_apply.2.1 MX11_apply.2.2.2.2 = true := by decide +kernel
def MX11_isRecord : k_M := (yX11_isRecord, cX11_isRecord, 2, (some .boolean), [[(0, .iload_n 0, 1), (1, .ifCond .lt 24, 3), (4, .iload_n 0, 1), (5, .sipush 5000, 3), (8, .if_icmp .gt 17, 3), (11, .iload_n 1, 1), (12, .ifCond .lt 13, 3), (15, .iload_n 1, 1), (16, .bipush 40, 2), (18, .if_icmp .ge 7, 3), (21, .iconst 1, 1), (22, .goto 4, 3), (25, .iconst 0, 1), (26, .ireturn, 1)]])
set_option maxRecDepth 100000 in
theorem MX11_isRecord_dec : k_dec MX11_isRecord.2.1 MX11_isRecord.2.2.2.2 = true := by decide +kernel
def MX11_isTooth : k_M := (yX11_isTooth, cX11_isTooth, 1, (some .boolean), [[(0, .iload_n 0, 1), (1, .bipush 119, 2), (3, .if_icmp .eq 33, 3), (6, .iload_n 0, 1), (7, .bipush 115, 2), (9, .if_icmp .eq 27, 3), (12, .iload_n 0, 1), (13, .bipush 102, 2), (15, .if_icmp .eq 21, 3), (18, .iload_n 0, 1), (19, .bipush 98, 2), (21, .if_icmp .eq 15, 3), (24, .iload_n 0, 1), (25, .bipush 49, 2), (27, .if_icmp .lt 13, 3), (30, .iload_n 0, 1)], [(31, .bipush 57, 2), (33, .if_icmp .gt 7, 3), (36, .iconst 1, 1), (37, .goto 4, 3), (40, .iconst 0, 1), (41, .ireturn, 1)]])
set_option maxRecDepth 100000 in
theorem MX11_isTooth_dec : k_dec MX11_isTooth.2.1 MX11_isTooth.2.2.2.2 = true := by decide +kernel
def MX11_left : k_M := (yX11_left, cX11_left, 2, (some .int), [[(0, .iload_n 1, 1), (1, .ifCond .ne 7, 3), (4, .iconst 0, 1), (5, .goto 6, 3), (8, .iload_n 0, 1), (9, .iload_n 1, 1), (10, .irem, 1), (11, .ireturn, 1)]])
set_option maxRecDepth 100000 in
theorem MX11_left_dec : k_dec MX11_left.2.1 MX11_left.2.2.2.2 = true := by decide +kernel
def MX12_in : k_M := (yX12_in, cX12_in, 3, (some .boolean), [[(0, .iload_n 0, 1), (1, .iload_n 1, 1), (2, .if_icmp .lt 12, 3), (5, .iload_n 0, 1), (6, .iload_n 2, 1), (7, .if_icmp .gt 7, 3), (10, .iconst 1, 1), (11, .goto 4, 3), (14, .iconst 0, 1), (15, .ireturn, 1)]])
set_option maxRecDepth 100000 in
theorem MX12_in_dec : k_dec MX12_in.2.1 MX12_in.2.2.2.2 = true := by decide +kernel
def MX12_feed : k_M := (yX12_feed, cX12_feed, 2, (some .int), [[(0, .iload_n 1, 1), (1, .iconst 0, 1), (2, .sipush 255, 3), (5, .invokestatic 120, 3), (8, .ifCond .ne 5, 3), (11, .iconst (-1), 1), (12, .ireturn, 1), (13, .aload_n 0, 1), (14, .getfield 124, 3), (17, .bipush 120, 2), (19, .if_icmp .ne 6, 3), (22, .bipush (-3), 2), (24, .ireturn, 1), (25, .aload_n 0, 1), (26, .getfield 7, 3), (29, .aload_n 0, 1)], [(30, .getfield 124, 3), (33, .iload_n 1, 1), (34, .i2b, 1), (35, .bastore, 1), (36, .aload_n 0, 1), (37, .dup, 1), (38, .getfield 124, 3), (41, .iconst 1, 1), (42, .iadd, 1), (43, .putfield 124, 3), (46, .aload_n 0, 1), (47, .getfield 124, 3), (50, .ireturn, 1)]])
set_option maxRecDepth 100000 in
theorem MX12_feed_dec : k_dec MX12_feed.2.1 MX12_feed.2.2.2.2 = true := by decide +kernel
def MX12_isWheel : k_M := (yX12_isWheel, cX12_isWheel, 2, (some .boolean), [[(0, .iload_n 1, 1), (1, .iconst 0, 1), (2, .aload_n 0, 1), (3, .getfield 127, 3), (6, .iconst 1, 1), (7, .isub, 1), (8, .invokestatic 120, 3), (11, .ireturn, 1)]])
set_option maxRecDepth 100000 in
theorem MX12_isWheel_dec : k_dec MX12_isWheel.2.1 MX12_isWheel.2.2.2.2 = true := by decide +kernel
def MX12_isTooth : k_M := (yX12_isTooth, cX12_isTooth, 1, (some .boolean), [[(0, .iload_n 0, 1), (1, .bipush 119, 2), (3, .if_icmp .eq 32, 3), (6, .iload_n 0, 1), (7, .bipush 115, 2), (9, .if_icmp .eq 26, 3), (12, .iload_n 0, 1), (13, .bipush 102, 2), (15, .if_icmp .eq 20, 3), (18, .iload_n 0, 1), (19, .bipush 98, 2), (21, .if_icmp .eq 14, 3), (24, .iload_n 0, 1), (25, .bipush 49, 2), (27, .bipush 57, 2), (29, .invokestatic 120, 3)], [(32, .ifCond .eq 7, 3), (35, .iconst 1, 1), (36, .goto 4, 3), (39, .iconst 0, 1), (40, .ireturn, 1)]])
set_option maxRecDepth 100000 in
theorem MX12_isTooth_dec : k_dec MX12_isTooth.2.1 MX12_isTooth.2.2.2.2 = true := by decide +kernel
def MX12_wheel_t0 : List (List (Nat × Instr × Nat)) := [[(0, .aload_n 0, 1), (1, .getfield 127, 3), (4, .iconst 4, 1), (5, .if_icmp .ne 6, 3), (8, .bipush (-3), 2), (10, .ireturn, 1), (11, .iconst 0, 1), (12, .istore_n 1, 1), (13, .iload_n 1, 1), (14, .aload_n 0, 1), (15, .getfield 124, 3), (18, .if_icmp .ge 27, 3), (21, .iload_n 1, 1), (22, .bipush 40, 2), (24, .if_icmp .ge 21, 3), (27, .aload_n 0, 1)], [(28, .getfield 7, 3), (31, .iload_n 1, 1), (32, .baload, 1), (33, .invokestatic 130, 3), (36, .ifCond .eq 9, 3), (39, .iinc 1 1, 3), (42, .goto (-29), 3), (45, .iload_n 1, 1), (46, .aload_n 0, 1), (47, .getfield 124, 3), (50, .if_icmp .ne 12, 3), (53, .iload_n 1, 1), (54, .iconst 2, 1), (55, .if_icmp .lt 7, 3), (58, .iconst 1, 1), (59, .goto 4, 3)], [(62, .iconst 0, 1), (63, .istore_n 2, 1), (64, .iconst 0, 1), (65, .istore_n 3, 1), (66, .iload_n 3, 1), (67, .iload_n 1, 1), (68, .if_icmp .ge 29, 3), (71, .aload_n 0, 1), (72, .getfield 13, 3), (75, .bipush 40, 2), (77, .aload_n 0, 1), (78, .getfield 127, 3), (81, .imul, 1), (82, .iload_n 3, 1), (83, .iadd, 1), (84, .aload_n 0, 1)]]
set_option maxRecDepth 100000 in
theorem MX12_wheel_d0 : k_dec cX12_wheel MX12_wheel_t0 = true := by decide +kernel
def MX12_wheel_t1 : List (List (Nat × Instr × Nat)) := [[(85, .getfield 7, 3), (88, .iload_n 3, 1), (89, .baload, 1), (90, .iastore, 1), (91, .iinc 3 1, 3), (94, .goto (-28), 3), (97, .aload_n 0, 1), (98, .iconst 0, 1), (99, .putfield 124, 3), (102, .iload_n 2, 1), (103, .ifCond .ne 8, 3), (106, .bipush (-100), 2), (108, .iload_n 1, 1), (109, .isub, 1), (110, .ireturn, 1), (111, .aload_n 0, 1)], [(112, .getfield 17, 3), (115, .aload_n 0, 1), (116, .getfield 127, 3), (119, .iload_n 1, 1), (120, .iastore, 1), (121, .aload_n 0, 1), (122, .getfield 20, 3), (125, .aload_n 0, 1), (126, .getfield 127, 3), (129, .iconst 0, 1), (130, .iastore, 1), (131, .aload_n 0, 1), (132, .getfield 23, 3), (135, .aload_n 0, 1), (136, .getfield 127, 3), (139, .iconst 0, 1)], [(140, .iastore, 1), (141, .aload_n 0, 1), (142, .getfield 26, 3), (145, .aload_n 0, 1), (146, .getfield 127, 3), (149, .iconst 0, 1), (150, .iastore, 1), (151, .aload_n 0, 1), (152, .dup, 1), (153, .getfield 127, 3), (156, .iconst 1, 1), (157, .iadd, 1), (158, .putfield 127, 3), (161, .aload_n 0, 1), (162, .getfield 127, 3), (165, .iconst 1, 1)]]
set_option maxRecDepth 100000 in
theorem MX12_wheel_d1 : k_dec cX12_wheel MX12_wheel_t1 = true := by decide +kernel
def MX12_wheel_t2 : List (List (Nat × Instr × Nat)) := [[(166, .isub, 1), (167, .ireturn, 1)]]
set_option maxRecDepth 100000 in
theorem MX12_wheel_d2 : k_dec cX12_wheel MX12_wheel_t2 = true := by decide +kernel
def MX12_wheel : k_M := (yX12_wheel, cX12_wheel, 4, (some .int), MX12_wheel_t0 ++ (MX12_wheel_t1 ++ (MX12_wheel_t2)))
theorem MX12_wheel_dec : k_dec MX12_wheel.2.1 MX12_wheel.2.2.2.2 = true := k_dec_app MX12_wheel_d0 (k_dec_app MX12_wheel_d1 (MX12_wheel_d2))
def MX12_look : k_M := (yX12_look, cX12_look, 1, (some .int), [[(0, .aload_n 0, 1), (1, .getfield 134, 3), (4, .aload_n 0, 1), (5, .getfield 124, 3), (8, .if_icmp .ge 15, 3), (11, .aload_n 0, 1), (12, .getfield 7, 3), (15, .aload_n 0, 1), (16, .getfield 134, 3), (19, .baload, 1), (20, .goto 4, 3), (23, .iconst (-1), 1), (24, .ireturn, 1)]])
set_option maxRecDepth 100000 in
theorem MX12_look_dec : k_dec MX12_look.2.1 MX12_look.2.2.2.2 = true := by decide +kernel
def MX12_wrong : k_M := (yX12_wrong, cX12_wrong, 1, none, [[(0, .aload_n 0, 1), (1, .getfield 137, 3), (4, .ifCond .ge 11, 3), (7, .aload_n 0, 1), (8, .aload_n 0, 1), (9, .getfield 134, 3), (12, .putfield 137, 3), (15, .return_, 1)]])
set_option maxRecDepth 100000 in
theorem MX12_wrong_dec : k_dec MX12_wrong.2.1 MX12_wrong.2.2.2.2 = true := by decide +kernel
def MX12_addStep : k_M := (yX12_addStep, cX12_addStep, 3, none, [[(0, .aload_n 0, 1), (1, .getfield 33, 3), (4, .sipush 130, 3), (7, .aload_n 0, 1), (8, .getfield 140, 3), (11, .iadd, 1), (12, .iload_n 1, 1), (13, .i2b, 1), (14, .bastore, 1), (15, .aload_n 0, 1), (16, .getfield 36, 3), (19, .sipush 130, 3), (22, .aload_n 0, 1), (23, .getfield 140, 3), (26, .iadd, 1), (27, .iload_n 2, 1)], [(28, .iastore, 1), (29, .aload_n 0, 1), (30, .dup, 1), (31, .getfield 140, 3), (34, .iconst 1, 1), (35, .iadd, 1), (36, .putfield 140, 3), (39, .return_, 1)]])
set_option maxRecDepth 100000 in
theorem MX12_addStep_dec : k_dec MX12_addStep.2.1 MX12_addStep.2.2.2.2 = true := by decide +kernel
def MX12_nameOf : k_M := (yX12_nameOf, cX12_nameOf, 1, (some .int), [[(0, .iload_n 0, 1), (1, .lookupswitch 51 #[(107, 47), (112, 45), (116, 43), (122, 49)], 43), (44, .iconst 0, 1), (45, .ireturn, 1), (46, .iconst 1, 1), (47, .ireturn, 1), (48, .iconst 2, 1), (49, .ireturn, 1), (50, .iconst 3, 1), (51, .ireturn, 1), (52, .iconst (-1), 1), (53, .ireturn, 1)]])
set_option maxRecDepth 100000 in
theorem MX12_nameOf_dec : k_dec MX12_nameOf.2.1 MX12_nameOf.2.2.2.2 = true := by decide +kernel
def MX12_opens : k_M := (yX12_opens, cX12_opens, 1, (some .boolean), [[(0, .aload_n 0, 1), (1, .getfield 143, 3), (4, .bipush 6, 2), (6, .if_icmp .ne 9, 3), (9, .aload_n 0, 1), (10, .invokevirtual 146, 3), (13, .iconst 0, 1), (14, .ireturn, 1), (15, .aload_n 0, 1), (16, .dup, 1), (17, .getfield 143, 3), (20, .iconst 1, 1), (21, .iadd, 1), (22, .putfield 143, 3), (25, .aload_n 0, 1), (26, .dup, 1)], [(27, .getfield 134, 3), (30, .iconst 1, 1), (31, .iadd, 1), (32, .putfield 134, 3), (35, .iconst 1, 1), (36, .ireturn, 1)]])
set_option maxRecDepth 100000 in
theorem MX12_opens_dec : k_dec MX12_opens.2.1 MX12_opens.2.2.2.2 = true := by decide +kernel
def MX12_figure : k_M := (yX12_figure, cX12_figure, 3, none, [[(0, .iconst 0, 1), (1, .istore_n 1, 1), (2, .iconst 0, 1), (3, .istore_n 2, 1), (4, .iload_n 2, 1), (5, .iconst 4, 1), (6, .if_icmp .ge 46, 3), (9, .aload_n 0, 1), (10, .invokevirtual 149, 3), (13, .bipush 48, 2), (15, .bipush 57, 2), (17, .invokestatic 120, 3), (20, .ifCond .eq 32, 3), (23, .bipush 10, 2), (25, .iload_n 1, 1), (26, .imul, 1)], [(27, .aload_n 0, 1), (28, .invokevirtual 149, 3), (31, .iadd, 1), (32, .bipush 48, 2), (34, .isub, 1), (35, .istore_n 1, 1), (36, .iinc 2 1, 3), (39, .aload_n 0, 1), (40, .dup, 1), (41, .getfield 134, 3), (44, .iconst 1, 1), (45, .iadd, 1), (46, .putfield 134, 3), (49, .goto (-45), 3), (52, .iload_n 2, 1), (53, .ifCond .eq 17, 3)], [(56, .aload_n 0, 1), (57, .invokevirtual 149, 3), (60, .bipush 48, 2), (62, .bipush 57, 2), (64, .invokestatic 120, 3), (67, .ifCond .eq 7, 3), (70, .aload_n 0, 1), (71, .invokevirtual 146, 3), (74, .aload_n 0, 1), (75, .iconst 1, 1), (76, .iload_n 1, 1), (77, .invokevirtual 153, 3), (80, .return_, 1)]])
set_option maxRecDepth 100000 in
theorem MX12_figure_dec : k_dec MX12_figure.2.1 MX12_figure.2.2.2.2 = true := by decide +kernel
def MX12_operand_t0 : List (List (Nat × Instr × Nat)) := [[(0, .aload_n 0, 1), (1, .invokevirtual 149, 3), (4, .istore_n 1, 1), (5, .iload_n 1, 1), (6, .invokestatic 157, 3), (9, .ifCond .lt 25, 3), (12, .aload_n 0, 1), (13, .iconst 2, 1), (14, .iload_n 1, 1), (15, .invokestatic 157, 3), (18, .invokevirtual 153, 3), (21, .aload_n 0, 1), (22, .dup, 1), (23, .getfield 134, 3), (26, .iconst 1, 1), (27, .iadd, 1)], [(28, .putfield 134, 3), (31, .goto 123, 3), (34, .iload_n 1, 1), (35, .bipush 33, 2), (37, .if_icmp .eq 9, 3), (40, .iload_n 1, 1), (41, .bipush 45, 2), (43, .if_icmp .ne 44, 3), (46, .aload_n 0, 1), (47, .invokevirtual 161, 3), (50, .ifCond .ne 4, 3), (53, .return_, 1), (54, .aload_n 0, 1), (55, .invokevirtual 165, 3), (58, .aload_n 0, 1), (59, .dup, 1)], [(60, .getfield 143, 3), (63, .iconst 1, 1), (64, .isub, 1), (65, .putfield 143, 3), (68, .aload_n 0, 1), (69, .iload_n 1, 1), (70, .bipush 33, 2), (72, .if_icmp .ne 7, 3), (75, .iconst 3, 1), (76, .goto 4, 3), (79, .iconst 4, 1), (80, .iconst 0, 1), (81, .invokevirtual 153, 3), (84, .goto 70, 3), (87, .iload_n 1, 1), (88, .bipush 40, 2)]]
set_option maxRecDepth 100000 in
theorem MX12_operand_d0 : k_dec cX12_operand MX12_operand_t0 = true := by decide +kernel
def MX12_operand_t1 : List (List (Nat × Instr × Nat)) := [[(90, .if_icmp .ne 60, 3), (93, .aload_n 0, 1), (94, .invokevirtual 161, 3), (97, .ifCond .ne 4, 3), (100, .return_, 1), (101, .aload_n 0, 1), (102, .invokevirtual 168, 3), (105, .aload_n 0, 1), (106, .getfield 137, 3), (109, .ifCond .lt 4, 3), (112, .return_, 1), (113, .aload_n 0, 1), (114, .invokevirtual 149, 3), (117, .bipush 41, 2), (119, .if_icmp .eq 8, 3), (122, .aload_n 0, 1)], [(123, .invokevirtual 146, 3), (126, .return_, 1), (127, .aload_n 0, 1), (128, .dup, 1), (129, .getfield 134, 3), (132, .iconst 1, 1), (133, .iadd, 1), (134, .putfield 134, 3), (137, .aload_n 0, 1), (138, .dup, 1), (139, .getfield 143, 3), (142, .iconst 1, 1), (143, .isub, 1), (144, .putfield 143, 3), (147, .goto 7, 3), (150, .aload_n 0, 1)], [(151, .invokevirtual 171, 3), (154, .return_, 1)]]
set_option maxRecDepth 100000 in
theorem MX12_operand_d1 : k_dec cX12_operand MX12_operand_t1 = true := by decide +kernel
def MX12_operand : k_M := (yX12_operand, cX12_operand, 2, none, MX12_operand_t0 ++ (MX12_operand_t1))
theorem MX12_operand_dec : k_dec MX12_operand.2.1 MX12_operand.2.2.2.2 = true := k_dec_app MX12_operand_d0 (MX12_operand_d1)
def MX12_product : k_M := (yX12_product, cX12_product, 2, none, [[(0, .aload_n 0, 1), (1, .invokevirtual 165, 3), (4, .aload_n 0, 1), (5, .getfield 137, 3), (8, .ifCond .ge 58, 3), (11, .aload_n 0, 1), (12, .invokevirtual 149, 3), (15, .bipush 42, 2), (17, .if_icmp .eq 21, 3), (20, .aload_n 0, 1), (21, .invokevirtual 149, 3), (24, .bipush 47, 2), (26, .if_icmp .eq 12, 3), (29, .aload_n 0, 1), (30, .invokevirtual 149, 3), (33, .bipush 37, 2)], [(35, .if_icmp .ne 31, 3), (38, .aload_n 0, 1), (39, .invokevirtual 149, 3), (42, .istore_n 1, 1), (43, .aload_n 0, 1), (44, .dup, 1), (45, .getfield 134, 3), (48, .iconst 1, 1), (49, .iadd, 1), (50, .putfield 134, 3), (53, .aload_n 0, 1), (54, .invokevirtual 165, 3), (57, .aload_n 0, 1), (58, .iload_n 1, 1), (59, .iconst 0, 1), (60, .invokevirtual 153, 3)], [(63, .goto (-59), 3), (66, .return_, 1)]])
set_option maxRecDepth 100000 in
theorem MX12_product_dec : k_dec MX12_product.2.1 MX12_product.2.2.2.2 = true := by decide +kernel
def MX12_sum : k_M := (yX12_sum, cX12_sum, 2, none, [[(0, .aload_n 0, 1), (1, .invokevirtual 174, 3), (4, .aload_n 0, 1), (5, .getfield 137, 3), (8, .ifCond .ge 49, 3), (11, .aload_n 0, 1), (12, .invokevirtual 149, 3), (15, .bipush 43, 2), (17, .if_icmp .eq 12, 3), (20, .aload_n 0, 1), (21, .invokevirtual 149, 3), (24, .bipush 45, 2), (26, .if_icmp .ne 31, 3), (29, .aload_n 0, 1), (30, .invokevirtual 149, 3), (33, .istore_n 1, 1)], [(34, .aload_n 0, 1), (35, .dup, 1), (36, .getfield 134, 3), (39, .iconst 1, 1), (40, .iadd, 1), (41, .putfield 134, 3), (44, .aload_n 0, 1), (45, .invokevirtual 174, 3), (48, .aload_n 0, 1), (49, .iload_n 1, 1), (50, .iconst 0, 1), (51, .invokevirtual 153, 3), (54, .goto (-50), 3), (57, .return_, 1)]])
set_option maxRecDepth 100000 in
theorem MX12_sum_dec : k_dec MX12_sum.2.1 MX12_sum.2.2.2.2 = true := by decide +kernel
def MX12_compared : k_M := (yX12_compared, cX12_compared, 2, none, [[(0, .aload_n 0, 1), (1, .invokevirtual 177, 3), (4, .aload_n 0, 1), (5, .invokevirtual 149, 3), (8, .istore_n 1, 1), (9, .aload_n 0, 1), (10, .getfield 137, 3), (13, .ifCond .ge 21, 3), (16, .iload_n 1, 1), (17, .bipush 60, 2), (19, .if_icmp .eq 16, 3), (22, .iload_n 1, 1), (23, .bipush 61, 2), (25, .if_icmp .eq 10, 3), (28, .iload_n 1, 1), (29, .bipush 62, 2)], [(31, .if_icmp .eq 4, 3), (34, .return_, 1), (35, .aload_n 0, 1), (36, .dup, 1), (37, .getfield 134, 3), (40, .iconst 1, 1), (41, .iadd, 1), (42, .putfield 134, 3), (45, .aload_n 0, 1), (46, .invokevirtual 177, 3), (49, .aload_n 0, 1), (50, .iload_n 1, 1), (51, .iconst 0, 1), (52, .invokevirtual 153, 3), (55, .return_, 1)]])
set_option maxRecDepth 100000 in
theorem MX12_compared_dec : k_dec MX12_compared.2.1 MX12_compared.2.2.2.2 = true := by decide +kernel
def MX12_both : k_M := (yX12_both, cX12_both, 1, none, [[(0, .aload_n 0, 1), (1, .invokevirtual 180, 3), (4, .aload_n 0, 1), (5, .getfield 137, 3), (8, .ifCond .ge 36, 3), (11, .aload_n 0, 1), (12, .invokevirtual 149, 3), (15, .bipush 38, 2), (17, .if_icmp .ne 27, 3), (20, .aload_n 0, 1), (21, .dup, 1), (22, .getfield 134, 3), (25, .iconst 1, 1), (26, .iadd, 1), (27, .putfield 134, 3), (30, .aload_n 0, 1)], [(31, .invokevirtual 180, 3), (34, .aload_n 0, 1), (35, .bipush 38, 2), (37, .iconst 0, 1), (38, .invokevirtual 153, 3), (41, .goto (-37), 3), (44, .return_, 1)]])
set_option maxRecDepth 100000 in
theorem MX12_both_dec : k_dec MX12_both.2.1 MX12_both.2.2.2.2 = true := by decide +kernel
def MX12_either : k_M := (yX12_either, cX12_either, 1, none, [[(0, .aload_n 0, 1), (1, .invokevirtual 183, 3), (4, .aload_n 0, 1), (5, .getfield 137, 3), (8, .ifCond .ge 36, 3), (11, .aload_n 0, 1), (12, .invokevirtual 149, 3), (15, .bipush 124, 2), (17, .if_icmp .ne 27, 3), (20, .aload_n 0, 1), (21, .dup, 1), (22, .getfield 134, 3), (25, .iconst 1, 1), (26, .iadd, 1), (27, .putfield 134, 3), (30, .aload_n 0, 1)], [(31, .invokevirtual 183, 3), (34, .aload_n 0, 1), (35, .bipush 124, 2), (37, .iconst 0, 1), (38, .invokevirtual 153, 3), (41, .goto (-37), 3), (44, .return_, 1)]])
set_option maxRecDepth 100000 in
theorem MX12_either_dec : k_dec MX12_either.2.1 MX12_either.2.2.2.2 = true := by decide +kernel
def MX12_line : k_M := (yX12_line, cX12_line, 2, none, [[(0, .bipush 61, 2), (2, .aload_n 0, 1), (3, .getfield 39, 3), (6, .iconst 1, 1), (7, .iaload, 1), (8, .iadd, 1), (9, .istore_n 1, 1), (10, .aload_n 0, 1), (11, .getfield 42, 3), (14, .iload_n 1, 1), (15, .aload_n 0, 1), (16, .getfield 140, 3), (19, .i2s, 1), (20, .sastore, 1), (21, .aload_n 0, 1), (22, .invokevirtual 168, 3)], [(25, .aload_n 0, 1), (26, .getfield 137, 3), (29, .ifCond .ge 37, 3), (32, .aload_n 0, 1), (33, .invokevirtual 149, 3), (36, .bipush 63, 2), (38, .if_icmp .ne 28, 3), (41, .aload_n 0, 1), (42, .dup, 1), (43, .getfield 134, 3), (46, .iconst 1, 1), (47, .iadd, 1), (48, .putfield 134, 3), (51, .aload_n 0, 1), (52, .getfield 42, 3), (55, .iload_n 1, 1)], [(56, .aload_n 0, 1), (57, .getfield 140, 3), (60, .i2s, 1), (61, .sastore, 1), (62, .aload_n 0, 1), (63, .invokevirtual 168, 3), (66, .aload_n 0, 1), (67, .getfield 46, 3), (70, .iload_n 1, 1), (71, .aload_n 0, 1), (72, .getfield 140, 3), (75, .i2s, 1), (76, .sastore, 1), (77, .aload_n 0, 1), (78, .getfield 39, 3), (81, .iconst 1, 1)], [(82, .dup2, 1), (83, .iaload, 1), (84, .iconst 1, 1), (85, .iadd, 1), (86, .iastore, 1), (87, .return_, 1)]])
set_option maxRecDepth 100000 in
theorem MX12_line_dec : k_dec MX12_line.2.1 MX12_line.2.2.2.2 = true := by decide +kernel
def MX12_readText_t0 : List (List (Nat × Instr × Nat)) := [[(0, .aload_n 0, 1), (1, .iconst 0, 1), (2, .putfield 134, 3), (5, .aload_n 0, 1), (6, .iconst (-1), 1), (7, .putfield 137, 3), (10, .aload_n 0, 1), (11, .iconst 0, 1), (12, .putfield 143, 3), (15, .aload_n 0, 1), (16, .iconst 0, 1), (17, .putfield 140, 3), (20, .aload_n 0, 1), (21, .getfield 39, 3), (24, .iconst 1, 1), (25, .iconst 0, 1)], [(26, .iastore, 1), (27, .aload_n 0, 1), (28, .invokevirtual 186, 3), (31, .aload_n 0, 1), (32, .getfield 137, 3), (35, .ifCond .ge 29, 3), (38, .aload_n 0, 1), (39, .invokevirtual 149, 3), (42, .bipush 59, 2), (44, .if_icmp .ne 20, 3), (47, .aload_n 0, 1), (48, .dup, 1), (49, .getfield 134, 3), (52, .iconst 1, 1), (53, .iadd, 1), (54, .putfield 134, 3)], [(57, .aload_n 0, 1), (58, .invokevirtual 186, 3), (61, .goto (-30), 3), (64, .aload_n 0, 1), (65, .getfield 137, 3), (68, .ifCond .ge 18, 3), (71, .aload_n 0, 1), (72, .getfield 134, 3), (75, .aload_n 0, 1), (76, .getfield 124, 3), (79, .if_icmp .ge 7, 3), (82, .aload_n 0, 1), (83, .invokevirtual 146, 3), (86, .aload_n 0, 1), (87, .iconst 0, 1), (88, .putfield 124, 3)]]
set_option maxRecDepth 100000 in
theorem MX12_readText_d0 : k_dec cX12_readText MX12_readText_t0 = true := by decide +kernel
def MX12_readText_t1 : List (List (Nat × Instr × Nat)) := [[(91, .aload_n 0, 1), (92, .getfield 137, 3), (95, .ifCond .lt 8, 3), (98, .aload_n 0, 1), (99, .getfield 137, 3), (102, .ireturn, 1), (103, .iconst 0, 1), (104, .istore_n 2, 1), (105, .iload_n 2, 1), (106, .aload_n 0, 1), (107, .getfield 140, 3), (110, .if_icmp .ge 53, 3), (113, .aload_n 0, 1), (114, .getfield 33, 3), (117, .sipush 130, 3), (120, .iload_n 1, 1)], [(121, .imul, 1), (122, .iload_n 2, 1), (123, .iadd, 1), (124, .aload_n 0, 1), (125, .getfield 33, 3), (128, .sipush 130, 3), (131, .iload_n 2, 1), (132, .iadd, 1), (133, .baload, 1), (134, .bastore, 1), (135, .aload_n 0, 1), (136, .getfield 36, 3), (139, .sipush 130, 3), (142, .iload_n 1, 1), (143, .imul, 1), (144, .iload_n 2, 1)], [(145, .iadd, 1), (146, .aload_n 0, 1), (147, .getfield 36, 3), (150, .sipush 130, 3), (153, .iload_n 2, 1), (154, .iadd, 1), (155, .iaload, 1), (156, .iastore, 1), (157, .iinc 2 1, 3), (160, .goto (-55), 3), (163, .aload_n 0, 1), (164, .getfield 39, 3), (167, .iload_n 1, 1), (168, .aload_n 0, 1), (169, .getfield 39, 3), (172, .iconst 1, 1)]]
set_option maxRecDepth 100000 in
theorem MX12_readText_d1 : k_dec cX12_readText MX12_readText_t1 = true := by decide +kernel
def MX12_readText_t2 : List (List (Nat × Instr × Nat)) := [[(173, .iaload, 1), (174, .iastore, 1), (175, .iconst 0, 1), (176, .istore_n 2, 1), (177, .iload_n 2, 1), (178, .aload_n 0, 1), (179, .getfield 39, 3), (182, .iload_n 1, 1), (183, .iaload, 1), (184, .if_icmp .ge 49, 3), (187, .aload_n 0, 1), (188, .getfield 42, 3), (191, .bipush 61, 2), (193, .iload_n 1, 1), (194, .imul, 1), (195, .iload_n 2, 1)], [(196, .iadd, 1), (197, .aload_n 0, 1), (198, .getfield 42, 3), (201, .bipush 61, 2), (203, .iload_n 2, 1), (204, .iadd, 1), (205, .saload, 1), (206, .sastore, 1), (207, .aload_n 0, 1), (208, .getfield 46, 3), (211, .bipush 61, 2), (213, .iload_n 1, 1), (214, .imul, 1), (215, .iload_n 2, 1), (216, .iadd, 1), (217, .aload_n 0, 1)], [(218, .getfield 46, 3), (221, .bipush 61, 2), (223, .iload_n 2, 1), (224, .iadd, 1), (225, .saload, 1), (226, .sastore, 1), (227, .iinc 2 1, 3), (230, .goto (-53), 3), (233, .iconst (-1), 1), (234, .ireturn, 1)]]
set_option maxRecDepth 100000 in
theorem MX12_readText_d2 : k_dec cX12_readText MX12_readText_t2 = true := by decide +kernel
def MX12_readText : k_M := (yX12_readText, cX12_readText, 3, (some .int), MX12_readText_t0 ++ (MX12_readText_t1 ++ (MX12_readText_t2)))
theorem MX12_readText_dec : k_dec MX12_readText.2.1 MX12_readText.2.2.2.2 = true := k_dec_app MX12_readText_d0 (k_dec_app MX12_readText_d1 (MX12_readText_d2))
def MX12_twoOf_t0 : List (List (Nat × Instr × Nat)) := [[(0, .iload_n 0, 1), (1, .tableswitch 217 37 62 #[153, 203, 217, 217, 217, 127, 119, 217, 123, 217, 131, 217, 217, 217, 217, 217, 217, 217, 217, 217, 217, 217, 217, 170, 181, 192], 119), (120, .iload_n 1, 1), (121, .iload_n 2, 1), (122, .iadd, 1), (123, .ireturn, 1), (124, .iload_n 1, 1), (125, .iload_n 2, 1), (126, .isub, 1), (127, .ireturn, 1), (128, .iload_n 1, 1), (129, .iload_n 2, 1), (130, .imul, 1), (131, .ireturn, 1), (132, .iload_n 2, 1), (133, .ifCond .ne 7, 3)], [(136, .iconst 0, 1), (137, .goto 16, 3), (140, .iload_n 2, 1), (141, .iconst (-1), 1), (142, .if_icmp .ne 8, 3), (145, .iload_n 1, 1), (146, .ineg, 1), (147, .goto 6, 3), (150, .iload_n 1, 1), (151, .iload_n 2, 1), (152, .idiv, 1), (153, .ireturn, 1), (154, .iload_n 2, 1), (155, .ifCond .eq 8, 3), (158, .iload_n 2, 1), (159, .iconst (-1), 1)], [(160, .if_icmp .ne 7, 3), (163, .iconst 0, 1), (164, .goto 6, 3), (167, .iload_n 1, 1), (168, .iload_n 2, 1), (169, .irem, 1), (170, .ireturn, 1), (171, .iload_n 1, 1), (172, .iload_n 2, 1), (173, .if_icmp .ge 7, 3), (176, .iconst 1, 1), (177, .goto 4, 3), (180, .iconst 0, 1), (181, .ireturn, 1), (182, .iload_n 1, 1), (183, .iload_n 2, 1)]]
set_option maxRecDepth 100000 in
theorem MX12_twoOf_d0 : k_dec cX12_twoOf MX12_twoOf_t0 = true := by decide +kernel
def MX12_twoOf_t1 : List (List (Nat × Instr × Nat)) := [[(184, .if_icmp .ne 7, 3), (187, .iconst 1, 1), (188, .goto 4, 3), (191, .iconst 0, 1), (192, .ireturn, 1), (193, .iload_n 1, 1), (194, .iload_n 2, 1), (195, .if_icmp .le 7, 3), (198, .iconst 1, 1), (199, .goto 4, 3), (202, .iconst 0, 1), (203, .ireturn, 1), (204, .iload_n 1, 1), (205, .ifCond .eq 11, 3), (208, .iload_n 2, 1), (209, .ifCond .eq 7, 3)], [(212, .iconst 1, 1), (213, .goto 4, 3), (216, .iconst 0, 1), (217, .ireturn, 1), (218, .iload_n 1, 1), (219, .ifCond .ne 7, 3), (222, .iload_n 2, 1), (223, .ifCond .eq 7, 3), (226, .iconst 1, 1), (227, .goto 4, 3), (230, .iconst 0, 1), (231, .ireturn, 1)]]
set_option maxRecDepth 100000 in
theorem MX12_twoOf_d1 : k_dec cX12_twoOf MX12_twoOf_t1 = true := by decide +kernel
def MX12_twoOf : k_M := (yX12_twoOf, cX12_twoOf, 3, (some .int), MX12_twoOf_t0 ++ (MX12_twoOf_t1))
theorem MX12_twoOf_dec : k_dec MX12_twoOf.2.1 MX12_twoOf.2.2.2.2 = true := k_dec_app MX12_twoOf_d0 (MX12_twoOf_d1)
def MX12_worked_t0 : List (List (Nat × Instr × Nat)) := [[(0, .iconst 0, 1), (1, .istore 4, 2), (3, .sipush 130, 3), (6, .iload_n 1, 1), (7, .imul, 1), (8, .iload_n 2, 1), (9, .iadd, 1), (10, .istore 5, 2), (12, .iload 5, 2), (14, .sipush 130, 3), (17, .iload_n 1, 1), (18, .imul, 1), (19, .iload_n 3, 1), (20, .iadd, 1), (21, .if_icmp .ge 167, 3), (24, .aload_n 0, 1)], [(25, .getfield 33, 3), (28, .iload 5, 2), (30, .baload, 1), (31, .istore 6, 2), (33, .iload 6, 2), (35, .iconst 1, 1), (36, .if_icmp .eq 9, 3), (39, .iload 6, 2), (41, .iconst 2, 1), (42, .if_icmp .ne 44, 3), (45, .aload_n 0, 1), (46, .getfield 52, 3), (49, .iload 4, 2), (51, .iload 6, 2), (53, .iconst 1, 1), (54, .if_icmp .ne 13, 3)], [(57, .aload_n 0, 1), (58, .getfield 36, 3), (61, .iload 5, 2), (63, .iaload, 1), (64, .goto 15, 3), (67, .aload_n 0, 1), (68, .getfield 49, 3), (71, .aload_n 0, 1), (72, .getfield 36, 3), (75, .iload 5, 2), (77, .iaload, 1), (78, .iaload, 1), (79, .iastore, 1), (80, .iinc 4 1, 3), (83, .goto 99, 3), (86, .iload 6, 2)]]
set_option maxRecDepth 100000 in
theorem MX12_worked_d0 : k_dec cX12_worked MX12_worked_t0 = true := by decide +kernel
def MX12_worked_t1 : List (List (Nat × Instr × Nat)) := [[(88, .iconst 3, 1), (89, .if_icmp .ne 32, 3), (92, .aload_n 0, 1), (93, .getfield 52, 3), (96, .iload 4, 2), (98, .iconst 1, 1), (99, .isub, 1), (100, .aload_n 0, 1), (101, .getfield 52, 3), (104, .iload 4, 2), (106, .iconst 1, 1), (107, .isub, 1), (108, .iaload, 1), (109, .ifCond .ne 7, 3), (112, .iconst 1, 1), (113, .goto 4, 3)], [(116, .iconst 0, 1), (117, .iastore, 1), (118, .goto 64, 3), (121, .iload 6, 2), (123, .iconst 4, 1), (124, .if_icmp .ne 25, 3), (127, .aload_n 0, 1), (128, .getfield 52, 3), (131, .iload 4, 2), (133, .iconst 1, 1), (134, .isub, 1), (135, .aload_n 0, 1), (136, .getfield 52, 3), (139, .iload 4, 2), (141, .iconst 1, 1), (142, .isub, 1)], [(143, .iaload, 1), (144, .ineg, 1), (145, .iastore, 1), (146, .goto 36, 3), (149, .iinc 4 (-1), 3), (152, .aload_n 0, 1), (153, .getfield 52, 3), (156, .iload 4, 2), (158, .iconst 1, 1), (159, .isub, 1), (160, .iload 6, 2), (162, .aload_n 0, 1), (163, .getfield 52, 3), (166, .iload 4, 2), (168, .iconst 1, 1), (169, .isub, 1)]]
set_option maxRecDepth 100000 in
theorem MX12_worked_d1 : k_dec cX12_worked MX12_worked_t1 = true := by decide +kernel
def MX12_worked_t2 : List (List (Nat × Instr × Nat)) := [[(170, .iaload, 1), (171, .aload_n 0, 1), (172, .getfield 52, 3), (175, .iload 4, 2), (177, .iaload, 1), (178, .invokestatic 189, 3), (181, .iastore, 1), (182, .iinc 5 1, 3), (185, .goto (-173), 3), (188, .aload_n 0, 1), (189, .getfield 52, 3), (192, .iconst 0, 1), (193, .iaload, 1), (194, .ireturn, 1)]]
set_option maxRecDepth 100000 in
theorem MX12_worked_d2 : k_dec cX12_worked MX12_worked_t2 = true := by decide +kernel
def MX12_worked : k_M := (yX12_worked, cX12_worked, 7, (some .int), MX12_worked_t0 ++ (MX12_worked_t1 ++ (MX12_worked_t2)))
theorem MX12_worked_dec : k_dec MX12_worked.2.1 MX12_worked.2.2.2.2 = true := k_dec_app MX12_worked_d0 (k_dec_app MX12_worked_d1 (MX12_worked_d2))
def MX12_gives : k_M := (yX12_gives, cX12_gives, 4, (some .int), [[(0, .iconst 0, 1), (1, .istore_n 2, 1), (2, .bipush 61, 2), (4, .iload_n 1, 1), (5, .imul, 1), (6, .istore_n 3, 1), (7, .iload_n 3, 1), (8, .bipush 61, 2), (10, .iload_n 1, 1), (11, .imul, 1), (12, .aload_n 0, 1), (13, .getfield 39, 3), (16, .iload_n 1, 1), (17, .iaload, 1), (18, .iadd, 1), (19, .if_icmp .ge 59, 3)], [(22, .aload_n 0, 1), (23, .getfield 42, 3), (26, .iload_n 3, 1), (27, .saload, 1), (28, .iload_n 2, 1), (29, .if_icmp .eq 18, 3), (32, .aload_n 0, 1), (33, .iload_n 1, 1), (34, .iload_n 2, 1), (35, .aload_n 0, 1), (36, .getfield 42, 3), (39, .iload_n 3, 1), (40, .saload, 1), (41, .invokevirtual 193, 3), (44, .ifCond .eq 21, 3), (47, .aload_n 0, 1)], [(48, .iload_n 1, 1), (49, .aload_n 0, 1), (50, .getfield 42, 3), (53, .iload_n 3, 1), (54, .saload, 1), (55, .aload_n 0, 1), (56, .getfield 46, 3), (59, .iload_n 3, 1), (60, .saload, 1), (61, .invokevirtual 193, 3), (64, .ireturn, 1), (65, .aload_n 0, 1), (66, .getfield 46, 3), (69, .iload_n 3, 1), (70, .saload, 1), (71, .istore_n 2, 1)], [(72, .iinc 3 1, 3), (75, .goto (-68), 3), (78, .iconst 0, 1), (79, .ireturn, 1)]])
set_option maxRecDepth 100000 in
theorem MX12_gives_dec : k_dec MX12_gives.2.1 MX12_gives.2.2.2.2 = true := by decide +kernel
def MX12_law : k_M := (yX12_law, cX12_law, 2, (some .int), [[(0, .aload_n 0, 1), (1, .iconst 0, 1), (2, .invokevirtual 196, 3), (5, .istore_n 1, 1), (6, .iload_n 1, 1), (7, .ifCond .lt 8, 3), (10, .bipush (-100), 2), (12, .iload_n 1, 1), (13, .isub, 1), (14, .ireturn, 1), (15, .aload_n 0, 1), (16, .iconst 1, 1), (17, .putfield 199, 3), (20, .iconst 1, 1), (21, .ireturn, 1)]])
set_option maxRecDepth 100000 in
theorem MX12_law_dec : k_dec MX12_law.2.1 MX12_law.2.2.2.2 = true := by decide +kernel
def MX12_isCold : k_M := (yX12_isCold, cX12_isCold, 2, (some .boolean), [[(0, .aload_n 0, 1), (1, .getfield 199, 3), (4, .ifCond .ne 5, 3), (7, .iconst 0, 1), (8, .ireturn, 1), (9, .aload_n 0, 1), (10, .getfield 49, 3), (13, .iconst 0, 1), (14, .aload_n 0, 1), (15, .getfield 203, 3), (18, .iastore, 1), (19, .aload_n 0, 1), (20, .getfield 49, 3), (23, .iconst 1, 1), (24, .aload_n 0, 1), (25, .getfield 20, 3)], [(28, .iload_n 1, 1), (29, .iaload, 1), (30, .iastore, 1), (31, .aload_n 0, 1), (32, .getfield 49, 3), (35, .iconst 2, 1), (36, .iload_n 1, 1), (37, .iastore, 1), (38, .aload_n 0, 1), (39, .getfield 49, 3), (42, .iconst 3, 1), (43, .aload_n 0, 1), (44, .getfield 203, 3), (47, .ldc 206, 2), (49, .imul, 1), (50, .aload_n 0, 1)], [(51, .getfield 207, 3), (54, .iadd, 1), (55, .bipush 8, 2), (57, .iushr, 1), (58, .bipush 10, 2), (60, .irem, 1), (61, .iastore, 1), (62, .aload_n 0, 1), (63, .iconst 0, 1), (64, .invokevirtual 210, 3), (67, .ifCond .eq 7, 3), (70, .iconst 1, 1), (71, .goto 4, 3), (74, .iconst 0, 1), (75, .ireturn, 1)]])
set_option maxRecDepth 100000 in
theorem MX12_isCold_dec : k_dec MX12_isCold.2.1 MX12_isCold.2.2.2.2 = true := by decide +kernel
def MX12_set : k_M := (yX12_set, cX12_set, 4, (some .int), [[(0, .iload_n 1, 1), (1, .ifCond .ne 25, 3), (4, .iload_n 2, 1), (5, .iconst 1, 1), (6, .bipush 9, 2), (8, .invokestatic 120, 3), (11, .ifCond .eq 15, 3), (14, .aload_n 0, 1), (15, .getfield 29, 3), (18, .istore_n 3, 1), (19, .aload_n 0, 1), (20, .iload_n 2, 1), (21, .putfield 29, 3), (24, .iload_n 3, 1), (25, .ireturn, 1), (26, .iload_n 1, 1)], [(27, .iconst 1, 1), (28, .if_icmp .eq 6, 3), (31, .ldc 213, 2), (33, .ireturn, 1), (34, .aload_n 0, 1), (35, .getfield 207, 3), (38, .istore_n 3, 1), (39, .aload_n 0, 1), (40, .iload_n 2, 1), (41, .putfield 207, 3), (44, .iload_n 3, 1), (45, .ireturn, 1)]])
set_option maxRecDepth 100000 in
theorem MX12_set_dec : k_dec MX12_set.2.1 MX12_set.2.2.2.2 = true := by decide +kernel
def MX12_valueAt : k_M := (yX12_valueAt, cX12_valueAt, 3, (some .int), [[(0, .iload_n 1, 1), (1, .ifCond .ne 12, 3), (4, .aload_n 0, 1), (5, .getfield 13, 3), (8, .iload_n 2, 1), (9, .iaload, 1), (10, .goto 9, 3), (13, .aload_n 0, 1), (14, .getfield 26, 3), (17, .iload_n 2, 1), (18, .iaload, 1), (19, .ireturn, 1)]])
set_option maxRecDepth 100000 in
theorem MX12_valueAt_dec : k_dec MX12_valueAt.2.1 MX12_valueAt.2.2.2.2 = true := by decide +kernel
def MX12_lays : k_M := (yX12_lays, cX12_lays, 4, none, [[(0, .iload_n 1, 1), (1, .ifCond .ne 13, 3), (4, .aload_n 0, 1), (5, .getfield 13, 3), (8, .iload_n 2, 1), (9, .iload_n 3, 1), (10, .iastore, 1), (11, .goto 10, 3), (14, .aload_n 0, 1), (15, .getfield 26, 3), (18, .iload_n 2, 1), (19, .iload_n 3, 1), (20, .iastore, 1), (21, .return_, 1)]])
set_option maxRecDepth 100000 in
theorem MX12_lays_dec : k_dec MX12_lays.2.1 MX12_lays.2.2.2.2 = true := by decide +kernel
def MX12_changes_t0 : List (List (Nat × Instr × Nat)) := [[(0, .aload_n 0, 1), (1, .iload_n 1, 1), (2, .iload_n 2, 1), (3, .invokevirtual 214, 3), (6, .istore 4, 2), (8, .iload 4, 2), (10, .iload_n 3, 1), (11, .if_icmp .ne 6, 3), (14, .iload 4, 2), (16, .ireturn, 1), (17, .aload_n 0, 1), (18, .iconst 0, 1), (19, .putfield 218, 3), (22, .aload_n 0, 1), (23, .getfield 221, 3), (26, .bipush 40, 2)], [(28, .if_icmp .ne 93, 3), (31, .iconst 1, 1), (32, .istore 5, 2), (34, .iload 5, 2), (36, .bipush 40, 2), (38, .if_icmp .ge 73, 3), (41, .aload_n 0, 1), (42, .getfield 55, 3), (45, .iload 5, 2), (47, .iconst 1, 1), (48, .isub, 1), (49, .aload_n 0, 1), (50, .getfield 55, 3), (53, .iload 5, 2), (55, .iaload, 1), (56, .iastore, 1)], [(57, .aload_n 0, 1), (58, .getfield 58, 3), (61, .iload 5, 2), (63, .iconst 1, 1), (64, .isub, 1), (65, .aload_n 0, 1), (66, .getfield 58, 3), (69, .iload 5, 2), (71, .iaload, 1), (72, .iastore, 1), (73, .aload_n 0, 1), (74, .getfield 61, 3), (77, .iload 5, 2), (79, .iconst 1, 1), (80, .isub, 1), (81, .aload_n 0, 1)]]
set_option maxRecDepth 100000 in
theorem MX12_changes_d0 : k_dec cX12_changes MX12_changes_t0 = true := by decide +kernel
def MX12_changes_t1 : List (List (Nat × Instr × Nat)) := [[(82, .getfield 61, 3), (85, .iload 5, 2), (87, .iaload, 1), (88, .iastore, 1), (89, .aload_n 0, 1), (90, .getfield 64, 3), (93, .iload 5, 2), (95, .iconst 1, 1), (96, .isub, 1), (97, .aload_n 0, 1), (98, .getfield 64, 3), (101, .iload 5, 2), (103, .iaload, 1), (104, .iastore, 1), (105, .iinc 5 1, 3), (108, .goto (-74), 3)], [(111, .aload_n 0, 1), (112, .dup, 1), (113, .getfield 221, 3), (116, .iconst 1, 1), (117, .isub, 1), (118, .putfield 221, 3), (121, .aload_n 0, 1), (122, .getfield 55, 3), (125, .aload_n 0, 1), (126, .getfield 221, 3), (129, .iload_n 1, 1), (130, .iastore, 1), (131, .aload_n 0, 1), (132, .getfield 58, 3), (135, .aload_n 0, 1), (136, .getfield 221, 3)], [(139, .iload_n 2, 1), (140, .iastore, 1), (141, .aload_n 0, 1), (142, .getfield 61, 3), (145, .aload_n 0, 1), (146, .getfield 221, 3), (149, .iload 4, 2), (151, .iastore, 1), (152, .aload_n 0, 1), (153, .getfield 64, 3), (156, .aload_n 0, 1), (157, .getfield 221, 3), (160, .iload_n 3, 1), (161, .iastore, 1), (162, .aload_n 0, 1), (163, .dup, 1)]]
set_option maxRecDepth 100000 in
theorem MX12_changes_d1 : k_dec cX12_changes MX12_changes_t1 = true := by decide +kernel
def MX12_changes_t2 : List (List (Nat × Instr × Nat)) := [[(164, .getfield 221, 3), (167, .iconst 1, 1), (168, .iadd, 1), (169, .putfield 221, 3), (172, .aload_n 0, 1), (173, .iload_n 1, 1), (174, .iload_n 2, 1), (175, .iload_n 3, 1), (176, .invokevirtual 224, 3), (179, .iload 4, 2), (181, .ireturn, 1)]]
set_option maxRecDepth 100000 in
theorem MX12_changes_d2 : k_dec cX12_changes MX12_changes_t2 = true := by decide +kernel
def MX12_changes : k_M := (yX12_changes, cX12_changes, 6, (some .int), MX12_changes_t0 ++ (MX12_changes_t1 ++ (MX12_changes_t2)))
theorem MX12_changes_dec : k_dec MX12_changes.2.1 MX12_changes.2.2.2.2 = true := k_dec_app MX12_changes_d0 (k_dec_app MX12_changes_d1 (MX12_changes_d2))
def MX12_undo : k_M := (yX12_undo, cX12_undo, 1, (some .int), [[(0, .aload_n 0, 1), (1, .getfield 221, 3), (4, .ifCond .ne 6, 3), (7, .bipush (-5), 2), (9, .ireturn, 1), (10, .aload_n 0, 1), (11, .dup, 1), (12, .getfield 221, 3), (15, .iconst 1, 1), (16, .isub, 1), (17, .putfield 221, 3), (20, .aload_n 0, 1), (21, .dup, 1), (22, .getfield 218, 3), (25, .iconst 1, 1), (26, .iadd, 1)], [(27, .putfield 218, 3), (30, .aload_n 0, 1), (31, .aload_n 0, 1), (32, .getfield 55, 3), (35, .aload_n 0, 1), (36, .getfield 221, 3), (39, .iaload, 1), (40, .aload_n 0, 1), (41, .getfield 58, 3), (44, .aload_n 0, 1), (45, .getfield 221, 3), (48, .iaload, 1), (49, .aload_n 0, 1), (50, .getfield 61, 3), (53, .aload_n 0, 1), (54, .getfield 221, 3)], [(57, .iaload, 1), (58, .invokevirtual 224, 3), (61, .aload_n 0, 1), (62, .getfield 221, 3), (65, .ireturn, 1)]])
set_option maxRecDepth 100000 in
theorem MX12_undo_dec : k_dec MX12_undo.2.1 MX12_undo.2.2.2.2 = true := by decide +kernel
def MX12_redo : k_M := (yX12_redo, cX12_redo, 1, (some .int), [[(0, .aload_n 0, 1), (1, .getfield 218, 3), (4, .ifCond .ne 6, 3), (7, .bipush (-5), 2), (9, .ireturn, 1), (10, .aload_n 0, 1), (11, .aload_n 0, 1), (12, .getfield 55, 3), (15, .aload_n 0, 1), (16, .getfield 221, 3), (19, .iaload, 1), (20, .aload_n 0, 1), (21, .getfield 58, 3), (24, .aload_n 0, 1), (25, .getfield 221, 3), (28, .iaload, 1)], [(29, .aload_n 0, 1), (30, .getfield 64, 3), (33, .aload_n 0, 1), (34, .getfield 221, 3), (37, .iaload, 1), (38, .invokevirtual 224, 3), (41, .aload_n 0, 1), (42, .dup, 1), (43, .getfield 221, 3), (46, .iconst 1, 1), (47, .iadd, 1), (48, .putfield 221, 3), (51, .aload_n 0, 1), (52, .dup, 1), (53, .getfield 218, 3), (56, .iconst 1, 1)], [(57, .isub, 1), (58, .putfield 218, 3), (61, .aload_n 0, 1), (62, .getfield 218, 3), (65, .ireturn, 1)]])
set_option maxRecDepth 100000 in
theorem MX12_redo_dec : k_dec MX12_redo.2.1 MX12_redo.2.2.2.2 = true := by decide +kernel
def MX12_broke : k_M := (yX12_broke, cX12_broke, 3, (some .int), [[(0, .aload_n 0, 1), (1, .iload_n 1, 1), (2, .invokevirtual 228, 3), (5, .ifCond .eq 24, 3), (8, .iload_n 2, 1), (9, .iconst 0, 1), (10, .sipush 9999, 3), (13, .invokestatic 120, 3), (16, .ifCond .eq 13, 3), (19, .aload_n 0, 1), (20, .iconst 1, 1), (21, .iload_n 1, 1), (22, .iload_n 2, 1), (23, .invokevirtual 231, 3), (26, .goto 4, 3), (29, .iconst (-1), 1)], [(30, .ireturn, 1)]])
set_option maxRecDepth 100000 in
theorem MX12_broke_dec : k_dec MX12_broke.2.1 MX12_broke.2.2.2.2 = true := by decide +kernel
def MX12_tooth : k_M := (yX12_tooth, cX12_tooth, 4, (some .int), [[(0, .aload_n 0, 1), (1, .iload_n 1, 1), (2, .invokevirtual 228, 3), (5, .ifCond .eq 41, 3), (8, .iload_n 2, 1), (9, .iconst 0, 1), (10, .aload_n 0, 1), (11, .getfield 17, 3), (14, .iload_n 1, 1), (15, .iaload, 1), (16, .iconst 1, 1), (17, .isub, 1), (18, .invokestatic 120, 3), (21, .ifCond .eq 25, 3), (24, .iload_n 3, 1), (25, .invokestatic 130, 3)], [(28, .ifCond .eq 18, 3), (31, .aload_n 0, 1), (32, .iconst 0, 1), (33, .bipush 40, 2), (35, .iload_n 1, 1), (36, .imul, 1), (37, .iload_n 2, 1), (38, .iadd, 1), (39, .iload_n 3, 1), (40, .invokevirtual 231, 3), (43, .goto 4, 3), (46, .iconst (-1), 1), (47, .ireturn, 1)]])
set_option maxRecDepth 100000 in
theorem MX12_tooth_dec : k_dec MX12_tooth.2.1 MX12_tooth.2.2.2.2 = true := by decide +kernel
def MX12_of : k_M := (yX12_of, cX12_of, 3, (some .int), [[(0, .aload_n 0, 1), (1, .iload_n 1, 1), (2, .invokevirtual 228, 3), (5, .ifCond .ne 5, 3), (8, .iconst (-1), 1), (9, .ireturn, 1), (10, .iload_n 2, 1), (11, .bipush 100, 2), (13, .bipush 99, 2), (15, .aload_n 0, 1), (16, .getfield 17, 3), (19, .iload_n 1, 1), (20, .iaload, 1), (21, .iadd, 1), (22, .invokestatic 120, 3), (25, .ifCond .eq 18, 3)], [(28, .aload_n 0, 1), (29, .getfield 13, 3), (32, .bipush 40, 2), (34, .iload_n 1, 1), (35, .imul, 1), (36, .iload_n 2, 1), (37, .iadd, 1), (38, .bipush 100, 2), (40, .isub, 1), (41, .iaload, 1), (42, .ireturn, 1), (43, .iload_n 2, 1), (44, .tableswitch 60 0 3 #[32, 39, 46, 53], 32), (76, .aload_n 0, 1), (77, .getfield 17, 3), (80, .iload_n 1, 1)], [(81, .iaload, 1), (82, .ireturn, 1), (83, .aload_n 0, 1), (84, .getfield 20, 3), (87, .iload_n 1, 1), (88, .iaload, 1), (89, .ireturn, 1), (90, .aload_n 0, 1), (91, .getfield 23, 3), (94, .iload_n 1, 1), (95, .iaload, 1), (96, .ireturn, 1), (97, .aload_n 0, 1), (98, .getfield 26, 3), (101, .iload_n 1, 1), (102, .iaload, 1)], [(103, .ireturn, 1), (104, .iconst (-1), 1), (105, .ireturn, 1)]])
set_option maxRecDepth 100000 in
theorem MX12_of_dec : k_dec MX12_of.2.1 MX12_of.2.2.2.2 = true := by decide +kernel
def MX12_step : k_M := (yX12_step, cX12_step, 3, (some .int), [[(0, .aload_n 0, 1), (1, .getfield 13, 3), (4, .bipush 40, 2), (6, .iload_n 1, 1), (7, .imul, 1), (8, .aload_n 0, 1), (9, .getfield 20, 3), (12, .iload_n 1, 1), (13, .iaload, 1), (14, .iadd, 1), (15, .iaload, 1), (16, .istore_n 2, 1), (17, .iload_n 2, 1), (18, .lookupswitch 79 #[(98, 46), (102, 65), (115, 44), (119, 42)], 42), (60, .iconst 1, 1), (61, .ireturn, 1)], [(62, .iconst 2, 1), (63, .ireturn, 1), (64, .aload_n 0, 1), (65, .getfield 203, 3), (68, .aload_n 0, 1), (69, .getfield 26, 3), (72, .iload_n 1, 1), (73, .iaload, 1), (74, .if_icmp .ge 7, 3), (77, .iconst 1, 1), (78, .goto 4, 3), (81, .iconst 2, 1), (82, .ireturn, 1), (83, .aload_n 0, 1), (84, .iload_n 1, 1), (85, .invokevirtual 234, 3)], [(88, .ifCond .eq 7, 3), (91, .iconst 0, 1), (92, .goto 4, 3), (95, .iconst 1, 1), (96, .ireturn, 1), (97, .aload_n 0, 1), (98, .getfield 23, 3), (101, .iload_n 1, 1), (102, .iaload, 1), (103, .iload_n 2, 1), (104, .bipush 48, 2), (106, .isub, 1), (107, .if_icmp .ge 15, 3), (110, .aload_n 0, 1), (111, .getfield 23, 3), (114, .iload_n 1, 1)], [(115, .dup2, 1), (116, .iaload, 1), (117, .iconst 1, 1), (118, .iadd, 1), (119, .iastore, 1), (120, .iconst 0, 1), (121, .ireturn, 1), (122, .aload_n 0, 1), (123, .getfield 23, 3), (126, .iload_n 1, 1), (127, .iconst 0, 1), (128, .iastore, 1), (129, .iconst 1, 1), (130, .ireturn, 1)]])
set_option maxRecDepth 100000 in
theorem MX12_step_dec : k_dec MX12_step.2.1 MX12_step.2.2.2.2 = true := by decide +kernel
def MX12_goOn : k_M := (yX12_goOn, cX12_goOn, 4, none, [[(0, .aload_n 0, 1), (1, .dup, 1), (2, .getfield 203, 3), (5, .iconst 1, 1), (6, .iadd, 1), (7, .putfield 203, 3), (10, .iconst 0, 1), (11, .istore_n 1, 1), (12, .iload_n 1, 1), (13, .aload_n 0, 1), (14, .getfield 127, 3), (17, .if_icmp .ge 72, 3), (20, .aload_n 0, 1), (21, .getfield 20, 3), (24, .iload_n 1, 1), (25, .iaload, 1)], [(26, .aload_n 0, 1), (27, .iload_n 1, 1), (28, .invokevirtual 237, 3), (31, .iadd, 1), (32, .istore_n 2, 1), (33, .iload_n 2, 1), (34, .aload_n 0, 1), (35, .getfield 17, 3), (38, .iload_n 1, 1), (39, .iaload, 1), (40, .if_icmp .lt 7, 3), (43, .iconst 1, 1), (44, .goto 4, 3), (47, .iconst 0, 1), (48, .istore_n 3, 1), (49, .aload_n 0, 1)], [(50, .getfield 20, 3), (53, .iload_n 1, 1), (54, .iload_n 3, 1), (55, .ifCond .eq 14, 3), (58, .iload_n 2, 1), (59, .aload_n 0, 1), (60, .getfield 17, 3), (63, .iload_n 1, 1), (64, .iaload, 1), (65, .isub, 1), (66, .goto 4, 3), (69, .iload_n 2, 1), (70, .iastore, 1), (71, .iload_n 3, 1), (72, .ifCond .eq 9, 3), (75, .iload_n 1, 1)], [(76, .iconst 1, 1), (77, .iadd, 1), (78, .goto 7, 3), (81, .aload_n 0, 1), (82, .getfield 127, 3), (85, .istore_n 1, 1), (86, .goto (-74), 3), (89, .return_, 1)]])
set_option maxRecDepth 100000 in
theorem MX12_goOn_dec : k_dec MX12_goOn.2.1 MX12_goOn.2.2.2.2 = true := by decide +kernel
def MX12_keepNow : k_M := (yX12_keepNow, cX12_keepNow, 2, none, [[(0, .aload_n 0, 1), (1, .aload_n 0, 1), (2, .getfield 203, 3), (5, .putfield 240, 3), (8, .iconst 0, 1), (9, .istore_n 1, 1), (10, .iload_n 1, 1), (11, .iconst 4, 1), (12, .if_icmp .ge 33, 3), (15, .aload_n 0, 1), (16, .getfield 67, 3), (19, .iload_n 1, 1), (20, .aload_n 0, 1), (21, .getfield 20, 3), (24, .iload_n 1, 1), (25, .iaload, 1)], [(26, .iastore, 1), (27, .aload_n 0, 1), (28, .getfield 70, 3), (31, .iload_n 1, 1), (32, .aload_n 0, 1), (33, .getfield 23, 3), (36, .iload_n 1, 1), (37, .iaload, 1), (38, .iastore, 1), (39, .iinc 1 1, 3), (42, .goto (-32), 3), (45, .return_, 1)]])
set_option maxRecDepth 100000 in
theorem MX12_keepNow_dec : k_dec MX12_keepNow.2.1 MX12_keepNow.2.2.2.2 = true := by decide +kernel
def MX12_layBack : k_M := (yX12_layBack, cX12_layBack, 2, none, [[(0, .aload_n 0, 1), (1, .aload_n 0, 1), (2, .getfield 240, 3), (5, .putfield 203, 3), (8, .iconst 0, 1), (9, .istore_n 1, 1), (10, .iload_n 1, 1), (11, .iconst 4, 1), (12, .if_icmp .ge 33, 3), (15, .aload_n 0, 1), (16, .getfield 20, 3), (19, .iload_n 1, 1), (20, .aload_n 0, 1), (21, .getfield 67, 3), (24, .iload_n 1, 1), (25, .iaload, 1)], [(26, .iastore, 1), (27, .aload_n 0, 1), (28, .getfield 23, 3), (31, .iload_n 1, 1), (32, .aload_n 0, 1), (33, .getfield 70, 3), (36, .iload_n 1, 1), (37, .iaload, 1), (38, .iastore, 1), (39, .iinc 1 1, 3), (42, .goto (-32), 3), (45, .return_, 1)]])
set_option maxRecDepth 100000 in
theorem MX12_layBack_dec : k_dec MX12_layBack.2.1 MX12_layBack.2.2.2.2 = true := by decide +kernel
def MX12_on : k_M := (yX12_on, cX12_on, 3, (some .int), [[(0, .iload_n 1, 1), (1, .iconst 1, 1), (2, .sipush 2000, 3), (5, .invokestatic 120, 3), (8, .ifCond .ne 5, 3), (11, .iconst (-1), 1), (12, .ireturn, 1), (13, .aload_n 0, 1), (14, .getfield 203, 3), (17, .iload_n 1, 1), (18, .iadd, 1), (19, .ldc 243, 2), (21, .if_icmp .le 6, 3), (24, .bipush (-3), 2), (26, .ireturn, 1), (27, .iconst 0, 1)], [(28, .istore_n 2, 1), (29, .iload_n 2, 1), (30, .iload_n 1, 1), (31, .if_icmp .ge 13, 3), (34, .aload_n 0, 1), (35, .invokevirtual 244, 3), (38, .iinc 2 1, 3), (41, .goto (-12), 3), (44, .aload_n 0, 1), (45, .getfield 203, 3), (48, .ireturn, 1)]])
set_option maxRecDepth 100000 in
theorem MX12_on_dec : k_dec MX12_on.2.1 MX12_on.2.2.2.2 = true := by decide +kernel
def MX12_lay : k_M := (yX12_lay, cX12_lay, 4, (some .int), [[(0, .aload_n 0, 1), (1, .iload_n 1, 1), (2, .invokevirtual 228, 3), (5, .ifCond .eq 19, 3), (8, .iload_n 2, 1), (9, .iconst 0, 1), (10, .aload_n 0, 1), (11, .getfield 17, 3), (14, .iload_n 1, 1), (15, .iaload, 1), (16, .iconst 1, 1), (17, .isub, 1), (18, .invokestatic 120, 3), (21, .ifCond .ne 5, 3), (24, .iconst (-1), 1), (25, .ireturn, 1)], [(26, .aload_n 0, 1), (27, .getfield 20, 3), (30, .iload_n 1, 1), (31, .iaload, 1), (32, .istore_n 3, 1), (33, .aload_n 0, 1), (34, .getfield 20, 3), (37, .iload_n 1, 1), (38, .iload_n 2, 1), (39, .iastore, 1), (40, .aload_n 0, 1), (41, .getfield 23, 3), (44, .iload_n 1, 1), (45, .iconst 0, 1), (46, .iastore, 1), (47, .iload_n 3, 1)], [(48, .ireturn, 1)]])
set_option maxRecDepth 100000 in
theorem MX12_lay_dec : k_dec MX12_lay.2.1 MX12_lay.2.2.2.2 = true := by decide +kernel
def MX12_shows : k_M := (yX12_shows, cX12_shows, 4, (some .int), [[(0, .aload_n 0, 1), (1, .iload_n 1, 1), (2, .invokevirtual 228, 3), (5, .ifCond .eq 14, 3), (8, .iload_n 2, 1), (9, .iconst 0, 1), (10, .sipush 20000, 3), (13, .invokestatic 120, 3), (16, .ifCond .ne 5, 3), (19, .iconst (-1), 1), (20, .ireturn, 1), (21, .aload_n 0, 1), (22, .invokevirtual 247, 3), (25, .iconst 0, 1), (26, .istore_n 3, 1), (27, .iload_n 3, 1)], [(28, .iload_n 2, 1), (29, .if_icmp .ge 13, 3), (32, .aload_n 0, 1), (33, .invokevirtual 244, 3), (36, .iinc 3 1, 3), (39, .goto (-12), 3), (42, .aload_n 0, 1), (43, .getfield 20, 3), (46, .iload_n 1, 1), (47, .iaload, 1), (48, .istore_n 3, 1), (49, .aload_n 0, 1), (50, .invokevirtual 250, 3), (53, .iload_n 3, 1), (54, .ireturn, 1)]])
set_option maxRecDepth 100000 in
theorem MX12_shows_dec : k_dec MX12_shows.2.1 MX12_shows.2.2.2.2 = true := by decide +kernel
def MX12_day : k_M := (yX12_day, cX12_day, 1, (some .int), [[(0, .aload_n 0, 1), (1, .getfield 127, 3), (4, .ifCond .ne 8, 3), (7, .bipush (-5), 2), (9, .goto 14, 3), (12, .aload_n 0, 1), (13, .getfield 20, 3), (16, .iconst 0, 1), (17, .iaload, 1), (18, .aload_n 0, 1), (19, .getfield 29, 3), (22, .irem, 1), (23, .ireturn, 1)]])
set_option maxRecDepth 100000 in
theorem MX12_day_dec : k_dec MX12_day.2.1 MX12_day.2.2.2.2 = true := by decide +kernel
def MX12_often : k_M := (yX12_often, cX12_often, 5, (some .int), [[(0, .iload_n 1, 1), (1, .iconst 0, 1), (2, .aload_n 0, 1), (3, .getfield 29, 3), (6, .iconst 1, 1), (7, .isub, 1), (8, .invokestatic 120, 3), (11, .ifCond .eq 14, 3), (14, .iload_n 2, 1), (15, .iconst 1, 1), (16, .sipush 2000, 3), (19, .invokestatic 120, 3), (22, .ifCond .ne 5, 3), (25, .iconst (-1), 1), (26, .ireturn, 1), (27, .aload_n 0, 1)], [(28, .getfield 127, 3), (31, .ifCond .ne 6, 3), (34, .bipush (-5), 2), (36, .ireturn, 1), (37, .aload_n 0, 1), (38, .invokevirtual 247, 3), (41, .iconst 0, 1), (42, .istore_n 3, 1), (43, .iconst 0, 1), (44, .istore 4, 2), (46, .iload 4, 2), (48, .iload_n 2, 1), (49, .if_icmp .ge 31, 3), (52, .aload_n 0, 1), (53, .invokevirtual 244, 3), (56, .aload_n 0, 1)], [(57, .getfield 20, 3), (60, .iconst 0, 1), (61, .iaload, 1), (62, .aload_n 0, 1), (63, .getfield 29, 3), (66, .irem, 1), (67, .iload_n 1, 1), (68, .if_icmp .ne 6, 3), (71, .iinc 3 1, 3), (74, .iinc 4 1, 3), (77, .goto (-31), 3), (80, .aload_n 0, 1), (81, .invokevirtual 250, 3), (84, .iload_n 3, 1), (85, .ireturn, 1)]])
set_option maxRecDepth 100000 in
theorem MX12_often_dec : k_dec MX12_often.2.1 MX12_often.2.2.2.2 = true := by decide +kernel
def MX12_never_t0 : List (List (Nat × Instr × Nat)) := [[(0, .iload_n 1, 1), (1, .iconst 1, 1), (2, .sipush 2000, 3), (5, .invokestatic 120, 3), (8, .ifCond .eq 12, 3), (11, .iload_n 2, 1), (12, .iconst 0, 1), (13, .iconst 1, 1), (14, .invokestatic 120, 3), (17, .ifCond .ne 5, 3), (20, .iconst (-1), 1), (21, .ireturn, 1), (22, .aload_n 0, 1), (23, .getfield 127, 3), (26, .ifCond .ne 6, 3), (29, .bipush (-5), 2)], [(31, .ireturn, 1), (32, .iconst 0, 1), (33, .istore_n 3, 1), (34, .iload_n 3, 1), (35, .bipush 40, 2), (37, .if_icmp .ge 16, 3), (40, .aload_n 0, 1), (41, .getfield 73, 3), (44, .iload_n 3, 1), (45, .iconst 0, 1), (46, .bastore, 1), (47, .iinc 3 1, 3), (50, .goto (-16), 3), (53, .aload_n 0, 1), (54, .invokevirtual 247, 3), (57, .aload_n 0, 1)], [(58, .getfield 73, 3), (61, .aload_n 0, 1), (62, .getfield 20, 3), (65, .iconst 0, 1), (66, .iaload, 1), (67, .iconst 1, 1), (68, .bastore, 1), (69, .iconst 0, 1), (70, .istore_n 3, 1), (71, .iload_n 3, 1), (72, .iload_n 1, 1), (73, .if_icmp .ge 25, 3), (76, .aload_n 0, 1), (77, .invokevirtual 244, 3), (80, .aload_n 0, 1), (81, .getfield 73, 3)]]
set_option maxRecDepth 100000 in
theorem MX12_never_d0 : k_dec cX12_never MX12_never_t0 = true := by decide +kernel
def MX12_never_t1 : List (List (Nat × Instr × Nat)) := [[(84, .aload_n 0, 1), (85, .getfield 20, 3), (88, .iconst 0, 1), (89, .iaload, 1), (90, .iconst 1, 1), (91, .bastore, 1), (92, .iinc 3 1, 3), (95, .goto (-24), 3), (98, .aload_n 0, 1), (99, .invokevirtual 250, 3), (102, .iconst 0, 1), (103, .istore_n 3, 1), (104, .bipush (-2), 2), (106, .istore 4, 2), (108, .aload_n 0, 1), (109, .getfield 17, 3)], [(112, .iconst 0, 1), (113, .iaload, 1), (114, .iconst 1, 1), (115, .isub, 1), (116, .istore 5, 2), (118, .iload 5, 2), (120, .ifCond .lt 29, 3), (123, .aload_n 0, 1), (124, .getfield 73, 3), (127, .iload 5, 2), (129, .baload, 1), (130, .ifCond .eq 6, 3), (133, .goto 10, 3), (136, .iinc 3 1, 3), (139, .iload 5, 2), (141, .istore 4, 2)], [(143, .iinc 5 (-1), 3), (146, .goto (-28), 3), (149, .iload_n 2, 1), (150, .ifCond .ne 7, 3), (153, .iload_n 3, 1), (154, .goto 5, 3), (157, .iload 4, 2), (159, .ireturn, 1)]]
set_option maxRecDepth 100000 in
theorem MX12_never_d1 : k_dec cX12_never MX12_never_t1 = true := by decide +kernel
def MX12_never : k_M := (yX12_never, cX12_never, 6, (some .int), MX12_never_t0 ++ (MX12_never_t1))
theorem MX12_never_dec : k_dec MX12_never.2.1 MX12_never.2.2.2.2 = true := k_dec_app MX12_never_d0 (MX12_never_d1)
def MX12_isSpot : k_M := (yX12_isSpot, cX12_isSpot, 2, (some .boolean), [[(0, .iload_n 1, 1), (1, .ifCond .lt 34, 3), (4, .aload_n 0, 1), (5, .iload_n 1, 1), (6, .bipush 100, 2), (8, .idiv, 1), (9, .invokevirtual 228, 3), (12, .ifCond .eq 23, 3), (15, .iload_n 1, 1), (16, .bipush 100, 2), (18, .irem, 1), (19, .aload_n 0, 1), (20, .getfield 17, 3), (23, .iload_n 1, 1), (24, .bipush 100, 2), (26, .idiv, 1)], [(27, .iaload, 1), (28, .if_icmp .ge 7, 3), (31, .iconst 1, 1), (32, .goto 4, 3), (35, .iconst 0, 1), (36, .ireturn, 1)]])
set_option maxRecDepth 100000 in
theorem MX12_isSpot_dec : k_dec MX12_isSpot.2.1 MX12_isSpot.2.2.2.2 = true := by decide +kernel
def MX12_meets : k_M := (yX12_meets, cX12_meets, 7, (some .int), [[(0, .aload_n 0, 1), (1, .iload_n 1, 1), (2, .invokevirtual 253, 3), (5, .ifCond .eq 23, 3), (8, .iload_n 2, 1), (9, .iconst 1, 1), (10, .sipush 2000, 3), (13, .invokestatic 120, 3), (16, .ifCond .eq 12, 3), (19, .iload_n 3, 1), (20, .iconst 0, 1), (21, .iconst 1, 1), (22, .invokestatic 120, 3), (25, .ifCond .ne 5, 3), (28, .iconst (-1), 1), (29, .ireturn, 1)], [(30, .aload_n 0, 1), (31, .invokevirtual 247, 3), (34, .iconst 0, 1), (35, .istore 4, 2), (37, .bipush (-2), 2), (39, .istore 5, 2), (41, .iconst 1, 1), (42, .istore 6, 2), (44, .iload 6, 2), (46, .iload_n 2, 1), (47, .if_icmp .gt 44, 3), (50, .aload_n 0, 1), (51, .invokevirtual 244, 3), (54, .aload_n 0, 1), (55, .getfield 20, 3), (58, .iload_n 1, 1)], [(59, .bipush 100, 2), (61, .idiv, 1), (62, .iaload, 1), (63, .iload_n 1, 1), (64, .bipush 100, 2), (66, .irem, 1), (67, .if_icmp .eq 6, 3), (70, .goto 15, 3), (73, .iinc 4 1, 3), (76, .iload 5, 2), (78, .ifCond .ge 7, 3), (81, .iload 6, 2), (83, .istore 5, 2), (85, .iinc 6 1, 3), (88, .goto (-44), 3), (91, .aload_n 0, 1)], [(92, .invokevirtual 250, 3), (95, .iload_n 3, 1), (96, .ifCond .ne 8, 3), (99, .iload 4, 2), (101, .goto 5, 3), (104, .iload 5, 2), (106, .ireturn, 1)]])
set_option maxRecDepth 100000 in
theorem MX12_meets_dec : k_dec MX12_meets.2.1 MX12_meets.2.2.2.2 = true := by decide +kernel
def MX12_two : k_M := (yX12_two, cX12_two, 6, (some .int), [[(0, .aload_n 0, 1), (1, .iload_n 1, 1), (2, .invokevirtual 253, 3), (5, .ifCond .eq 22, 3), (8, .aload_n 0, 1), (9, .iload_n 2, 1), (10, .invokevirtual 253, 3), (13, .ifCond .eq 14, 3), (16, .iload_n 3, 1), (17, .iconst 1, 1), (18, .sipush 20000, 3), (21, .invokestatic 120, 3), (24, .ifCond .ne 5, 3), (27, .iconst (-1), 1), (28, .ireturn, 1), (29, .aload_n 0, 1)], [(30, .invokevirtual 247, 3), (33, .bipush (-2), 2), (35, .istore 4, 2), (37, .iconst 1, 1), (38, .istore 5, 2), (40, .iload 5, 2), (42, .iload_n 3, 1), (43, .if_icmp .gt 54, 3), (46, .iload 4, 2), (48, .ifCond .ge 49, 3), (51, .aload_n 0, 1), (52, .invokevirtual 244, 3), (55, .aload_n 0, 1), (56, .getfield 20, 3), (59, .iload_n 1, 1), (60, .bipush 100, 2)], [(62, .idiv, 1), (63, .iaload, 1), (64, .iload_n 1, 1), (65, .bipush 100, 2), (67, .irem, 1), (68, .if_icmp .ne 23, 3), (71, .aload_n 0, 1), (72, .getfield 20, 3), (75, .iload_n 2, 1), (76, .bipush 100, 2), (78, .idiv, 1), (79, .iaload, 1), (80, .iload_n 2, 1), (81, .bipush 100, 2), (83, .irem, 1), (84, .if_icmp .ne 7, 3)], [(87, .iload 5, 2), (89, .istore 4, 2), (91, .iinc 5 1, 3), (94, .goto (-54), 3), (97, .aload_n 0, 1), (98, .invokevirtual 250, 3), (101, .iload 4, 2), (103, .ireturn, 1)]])
set_option maxRecDepth 100000 in
theorem MX12_two_dec : k_dec MX12_two.2.1 MX12_two.2.2.2.2 = true := by decide +kernel
def MX12_isAsWas : k_M := (yX12_isAsWas, cX12_isAsWas, 2, (some .boolean), [[(0, .iconst 0, 1), (1, .istore_n 1, 1), (2, .iload_n 1, 1), (3, .aload_n 0, 1), (4, .getfield 127, 3), (7, .if_icmp .ge 41, 3), (10, .aload_n 0, 1), (11, .getfield 20, 3), (14, .iload_n 1, 1), (15, .iaload, 1), (16, .aload_n 0, 1), (17, .getfield 67, 3), (20, .iload_n 1, 1), (21, .iaload, 1), (22, .if_icmp .ne 18, 3), (25, .aload_n 0, 1)], [(26, .getfield 23, 3), (29, .iload_n 1, 1), (30, .iaload, 1), (31, .aload_n 0, 1), (32, .getfield 70, 3), (35, .iload_n 1, 1), (36, .iaload, 1), (37, .if_icmp .eq 5, 3), (40, .iconst 0, 1), (41, .ireturn, 1), (42, .iinc 1 1, 3), (45, .goto (-43), 3), (48, .iconst 1, 1), (49, .ireturn, 1)]])
set_option maxRecDepth 100000 in
theorem MX12_isAsWas_dec : k_dec MX12_isAsWas.2.1 MX12_isAsWas.2.2.2.2 = true := by decide +kernel
def MX12_round : k_M := (yX12_round, cX12_round, 4, (some .int), [[(0, .iload_n 1, 1), (1, .iconst 1, 1), (2, .sipush 20000, 3), (5, .invokestatic 120, 3), (8, .ifCond .ne 5, 3), (11, .iconst (-1), 1), (12, .ireturn, 1), (13, .aload_n 0, 1), (14, .invokevirtual 247, 3), (17, .bipush (-2), 2), (19, .istore_n 2, 1), (20, .iconst 1, 1), (21, .istore_n 3, 1), (22, .iload_n 3, 1), (23, .iload_n 1, 1), (24, .if_icmp .gt 26, 3)], [(27, .iload_n 2, 1), (28, .ifCond .ge 22, 3), (31, .aload_n 0, 1), (32, .invokevirtual 244, 3), (35, .aload_n 0, 1), (36, .invokevirtual 256, 3), (39, .ifCond .eq 5, 3), (42, .iload_n 3, 1), (43, .istore_n 2, 1), (44, .iinc 3 1, 3), (47, .goto (-25), 3), (50, .aload_n 0, 1), (51, .invokevirtual 250, 3), (54, .iload_n 2, 1), (55, .ireturn, 1)]])
set_option maxRecDepth 100000 in
theorem MX12_round_dec : k_dec MX12_round.2.1 MX12_round.2.2.2.2 = true := by decide +kernel
def MX12_truth_t0 : List (List (Nat × Instr × Nat)) := [[(0, .aload_n 0, 1), (1, .getfield 127, 3), (4, .ifCond .ne 32, 3), (7, .iload_n 1, 1), (8, .ifCond .lt 21, 3), (11, .iload_n 1, 1), (12, .bipush 100, 2), (14, .irem, 1), (15, .bipush 40, 2), (17, .if_icmp .ge 12, 3), (20, .iload_n 1, 1), (21, .bipush 100, 2), (23, .idiv, 1), (24, .bipush 40, 2), (26, .if_icmp .lt 7, 3), (29, .iconst (-1), 1)], [(30, .goto 5, 3), (33, .bipush (-5), 2), (35, .ireturn, 1), (36, .iload_n 1, 1), (37, .ifCond .lt 29, 3), (40, .iload_n 1, 1), (41, .bipush 100, 2), (43, .idiv, 1), (44, .aload_n 0, 1), (45, .getfield 17, 3), (48, .iconst 0, 1), (49, .iaload, 1), (50, .if_icmp .ge 16, 3), (53, .iload_n 1, 1), (54, .bipush 100, 2), (56, .irem, 1)], [(57, .aload_n 0, 1), (58, .getfield 17, 3), (61, .iconst 0, 1), (62, .iaload, 1), (63, .if_icmp .lt 5, 3), (66, .iconst (-1), 1), (67, .ireturn, 1), (68, .aload_n 0, 1), (69, .invokevirtual 247, 3), (72, .iconst 0, 1), (73, .istore_n 2, 1), (74, .iload_n 2, 1), (75, .sipush 2000, 3), (78, .if_icmp .gt 26, 3), (81, .aload_n 0, 1), (82, .getfield 20, 3)]]
set_option maxRecDepth 100000 in
theorem MX12_truth_d0 : k_dec cX12_truth MX12_truth_t0 = true := by decide +kernel
def MX12_truth_t1 : List (List (Nat × Instr × Nat)) := [[(85, .iconst 0, 1), (86, .iaload, 1), (87, .iload_n 1, 1), (88, .bipush 100, 2), (90, .idiv, 1), (91, .if_icmp .eq 13, 3), (94, .aload_n 0, 1), (95, .invokevirtual 244, 3), (98, .iinc 2 1, 3), (101, .goto (-27), 3), (104, .bipush (-2), 2), (106, .istore_n 3, 1), (107, .iload_n 2, 1), (108, .sipush 2000, 3), (111, .if_icmp .gt 44, 3), (114, .iconst 1, 1)], [(115, .istore 4, 2), (117, .iload 4, 2), (119, .sipush 2000, 3), (122, .if_icmp .gt 33, 3), (125, .iload_n 3, 1), (126, .ifCond .ge 29, 3), (129, .aload_n 0, 1), (130, .invokevirtual 244, 3), (133, .aload_n 0, 1), (134, .getfield 20, 3), (137, .iconst 0, 1), (138, .iaload, 1), (139, .iload_n 1, 1), (140, .bipush 100, 2), (142, .irem, 1), (143, .if_icmp .ne 6, 3)], [(146, .iload 4, 2), (148, .istore_n 3, 1), (149, .iinc 4 1, 3), (152, .goto (-35), 3), (155, .aload_n 0, 1), (156, .invokevirtual 250, 3), (159, .iload_n 3, 1), (160, .ireturn, 1)]]
set_option maxRecDepth 100000 in
theorem MX12_truth_d1 : k_dec cX12_truth MX12_truth_t1 = true := by decide +kernel
def MX12_truth : k_M := (yX12_truth, cX12_truth, 5, (some .int), MX12_truth_t0 ++ (MX12_truth_t1))
theorem MX12_truth_dec : k_dec MX12_truth.2.1 MX12_truth.2.2.2.2 = true := k_dec_app MX12_truth_d0 (MX12_truth_d1)
def MX12_wrongIn : k_M := (yX12_wrongIn, cX12_wrongIn, 4, (some .int), [[(0, .aload_n 0, 1), (1, .invokevirtual 247, 3), (4, .iconst 0, 1), (5, .istore_n 2, 1), (6, .iconst 1, 1), (7, .istore_n 3, 1), (8, .iload_n 3, 1), (9, .iload_n 1, 1), (10, .if_icmp .gt 50, 3), (13, .aload_n 0, 1), (14, .invokevirtual 244, 3), (17, .aload_n 0, 1), (18, .getfield 20, 3), (21, .iconst 0, 1), (22, .iaload, 1), (23, .aload_n 0, 1)], [(24, .getfield 29, 3), (27, .irem, 1), (28, .aload_n 0, 1), (29, .getfield 67, 3), (32, .iconst 0, 1), (33, .iaload, 1), (34, .iload_n 3, 1), (35, .iadd, 1), (36, .aload_n 0, 1), (37, .getfield 17, 3), (40, .iconst 0, 1), (41, .iaload, 1), (42, .irem, 1), (43, .aload_n 0, 1), (44, .getfield 29, 3), (47, .irem, 1)], [(48, .if_icmp .eq 6, 3), (51, .iinc 2 1, 3), (54, .iinc 3 1, 3), (57, .goto (-49), 3), (60, .aload_n 0, 1), (61, .invokevirtual 250, 3), (64, .iload_n 2, 1), (65, .ireturn, 1)]])
set_option maxRecDepth 100000 in
theorem MX12_wrongIn_dec : k_dec MX12_wrongIn.2.1 MX12_wrongIn.2.2.2.2 = true := by decide +kernel
def MX12_near_t0 : List (List (Nat × Instr × Nat)) := [[(0, .iload_n 1, 1), (1, .iconst 1, 1), (2, .sipush 400, 3), (5, .invokestatic 120, 3), (8, .ifCond .eq 12, 3), (11, .iload_n 2, 1), (12, .iconst 0, 1), (13, .iconst 2, 1), (14, .invokestatic 120, 3), (17, .ifCond .ne 5, 3), (20, .iconst (-1), 1), (21, .ireturn, 1), (22, .aload_n 0, 1), (23, .getfield 127, 3), (26, .ifCond .ne 6, 3), (29, .bipush (-5), 2)], [(31, .ireturn, 1), (32, .iload_n 2, 1), (33, .iconst 2, 1), (34, .if_icmp .ne 9, 3), (37, .aload_n 0, 1), (38, .iload_n 1, 1), (39, .invokevirtual 259, 3), (42, .ireturn, 1), (43, .iconst (-1), 1), (44, .istore_n 3, 1), (45, .iconst 0, 1), (46, .istore 4, 2), (48, .iconst 0, 1), (49, .istore 5, 2), (51, .iload 5, 2), (53, .aload_n 0, 1)], [(54, .getfield 17, 3), (57, .iconst 0, 1), (58, .iaload, 1), (59, .if_icmp .ge 111, 3), (62, .aload_n 0, 1), (63, .getfield 13, 3), (66, .iload 5, 2), (68, .iaload, 1), (69, .istore 6, 2), (71, .iconst 0, 1), (72, .istore 7, 2), (74, .iload 7, 2), (76, .iconst 3, 1), (77, .if_icmp .ge 78, 3), (80, .aload_n 0, 1), (81, .getfield 77, 3)]]
set_option maxRecDepth 100000 in
theorem MX12_near_d0 : k_dec cX12_near MX12_near_t0 = true := by decide +kernel
def MX12_near_t1 : List (List (Nat × Instr × Nat)) := [[(84, .iload 7, 2), (86, .iaload, 1), (87, .iload 6, 2), (89, .if_icmp .ne 6, 3), (92, .goto 57, 3), (95, .aload_n 0, 1), (96, .getfield 13, 3), (99, .iload 5, 2), (101, .aload_n 0, 1), (102, .getfield 77, 3), (105, .iload 7, 2), (107, .iaload, 1), (108, .iastore, 1), (109, .aload_n 0, 1), (110, .iload_n 1, 1), (111, .invokevirtual 259, 3)], [(114, .istore 8, 2), (116, .iload_n 3, 1), (117, .ifCond .lt 13, 3), (120, .iload 8, 2), (122, .iload 4, 2), (124, .if_icmp .lt 6, 3), (127, .goto 22, 3), (130, .sipush 1000, 3), (133, .iload 5, 2), (135, .imul, 1), (136, .aload_n 0, 1), (137, .getfield 77, 3), (140, .iload 7, 2), (142, .iaload, 1), (143, .iadd, 1), (144, .istore_n 3, 1)], [(145, .iload 8, 2), (147, .istore 4, 2), (149, .iinc 7 1, 3), (152, .goto (-78), 3), (155, .aload_n 0, 1), (156, .getfield 13, 3), (159, .iload 5, 2), (161, .iload 6, 2), (163, .iastore, 1), (164, .iinc 5 1, 3), (167, .goto (-116), 3), (170, .iload_n 2, 1), (171, .ifCond .ne 7, 3), (174, .iload_n 3, 1), (175, .goto 5, 3), (178, .iload 4, 2)]]
set_option maxRecDepth 100000 in
theorem MX12_near_d1 : k_dec cX12_near MX12_near_t1 = true := by decide +kernel
def MX12_near_t2 : List (List (Nat × Instr × Nat)) := [[(180, .ireturn, 1)]]
set_option maxRecDepth 100000 in
theorem MX12_near_d2 : k_dec cX12_near MX12_near_t2 = true := by decide +kernel
def MX12_near : k_M := (yX12_near, cX12_near, 9, (some .int), MX12_near_t0 ++ (MX12_near_t1 ++ (MX12_near_t2)))
theorem MX12_near_dec : k_dec MX12_near.2.1 MX12_near.2.2.2.2 = true := k_dec_app MX12_near_d0 (k_dec_app MX12_near_d1 (MX12_near_d2))
def MX12_isRecord : k_M := (yX12_isRecord, cX12_isRecord, 2, (some .boolean), [[(0, .iload_n 0, 1), (1, .iconst 0, 1), (2, .sipush 5000, 3), (5, .invokestatic 120, 3), (8, .ifCond .eq 17, 3), (11, .iload_n 1, 1), (12, .iconst 0, 1), (13, .bipush 39, 2), (15, .invokestatic 120, 3), (18, .ifCond .eq 7, 3), (21, .iconst 1, 1), (22, .goto 4, 3), (25, .iconst 0, 1), (26, .ireturn, 1)]])
set_option maxRecDepth 100000 in
theorem MX12_isRecord_dec : k_dec MX12_isRecord.2.1 MX12_isRecord.2.2.2.2 = true := by decide +kernel
def MX12_addRecord : k_M := (yX12_addRecord, cX12_addRecord, 3, none, [[(0, .aload_n 0, 1), (1, .getfield 80, 3), (4, .aload_n 0, 1), (5, .getfield 262, 3), (8, .iload_n 1, 1), (9, .iastore, 1), (10, .aload_n 0, 1), (11, .getfield 83, 3), (14, .aload_n 0, 1), (15, .getfield 262, 3), (18, .iload_n 2, 1), (19, .iastore, 1), (20, .aload_n 0, 1), (21, .dup, 1), (22, .getfield 262, 3), (25, .iconst 1, 1)], [(26, .iadd, 1), (27, .putfield 262, 3), (30, .return_, 1)]])
set_option maxRecDepth 100000 in
theorem MX12_addRecord_dec : k_dec MX12_addRecord.2.1 MX12_addRecord.2.2.2.2 = true := by decide +kernel
def MX12_record : k_M := (yX12_record, cX12_record, 3, (some .int), [[(0, .iload_n 1, 1), (1, .iload_n 2, 1), (2, .invokestatic 265, 3), (5, .ifCond .ne 5, 3), (8, .iconst (-1), 1), (9, .ireturn, 1), (10, .aload_n 0, 1), (11, .getfield 262, 3), (14, .bipush 40, 2), (16, .if_icmp .ne 6, 3), (19, .bipush (-3), 2), (21, .ireturn, 1), (22, .aload_n 0, 1), (23, .iload_n 1, 1), (24, .iload_n 2, 1), (25, .invokevirtual 269, 3)], [(28, .aload_n 0, 1), (29, .getfield 262, 3), (32, .iconst 1, 1), (33, .isub, 1), (34, .ireturn, 1)]])
set_option maxRecDepth 100000 in
theorem MX12_record_dec : k_dec MX12_record.2.1 MX12_record.2.2.2.2 = true := by decide +kernel
def MX12_records_t0 : List (List (Nat × Instr × Nat)) := [[(0, .iload_n 1, 1), (1, .invokestatic 272, 3), (4, .ifCond .eq 13, 3), (7, .iload_n 3, 1), (8, .iconst 1, 1), (9, .bipush 30, 2), (11, .invokestatic 120, 3), (14, .ifCond .ne 5, 3), (17, .iconst (-1), 1), (18, .ireturn, 1), (19, .aload_n 0, 1), (20, .getfield 104, 3), (23, .iload_n 1, 1), (24, .iaload, 1), (25, .iconst (-1), 1), (26, .if_icmp .eq 17, 3)], [(29, .aload_n 0, 1), (30, .getfield 104, 3), (33, .iload_n 1, 1), (34, .iaload, 1), (35, .bipush (-3), 2), (37, .if_icmp .eq 6, 3), (40, .bipush (-12), 2), (42, .ireturn, 1), (43, .aload_n 0, 1), (44, .getfield 104, 3), (47, .iload_n 1, 1), (48, .iaload, 1), (49, .iconst (-1), 1), (50, .if_icmp .ne 5, 3), (53, .iconst 0, 1), (54, .ireturn, 1)], [(55, .iconst 0, 1), (56, .istore 4, 2), (58, .iload 4, 2), (60, .iload_n 3, 1), (61, .if_icmp .ge 112, 3), (64, .iload_n 2, 1), (65, .i2l, 1), (66, .iconst 2, 1), (67, .iload 4, 2), (69, .imul, 1), (70, .i2l, 1), (71, .ladd, 1), (72, .lstore 5, 2), (74, .lload 5, 2), (76, .lconst 0, 1), (77, .lcmp, 1)]]
set_option maxRecDepth 100000 in
theorem MX12_records_d0 : k_dec cX12_records MX12_records_t0 = true := by decide +kernel
def MX12_records_t1 : List (List (Nat × Instr × Nat)) := [[(78, .ifCond .lt 27, 3), (81, .lload 5, 2), (83, .lconst 1, 1), (84, .ladd, 1), (85, .aload_n 0, 1), (86, .getfield 107, 3), (89, .iload_n 1, 1), (90, .iaload, 1), (91, .i2l, 1), (92, .lcmp, 1), (93, .ifCond .ge 12, 3), (96, .aload_n 0, 1), (97, .getfield 262, 3), (100, .bipush 40, 2), (102, .if_icmp .ne 6, 3), (105, .iload 4, 2)], [(107, .ireturn, 1), (108, .bipush 60, 2), (110, .iload_n 1, 1), (111, .imul, 1), (112, .lload 5, 2), (114, .l2i, 1), (115, .iadd, 1), (116, .istore 7, 2), (118, .aload_n 0, 1), (119, .getfield 110, 3), (122, .iload 7, 2), (124, .laload, 1), (125, .l2i, 1), (126, .aload_n 0, 1), (127, .getfield 110, 3), (130, .iload 7, 2)], [(132, .iconst 1, 1), (133, .iadd, 1), (134, .laload, 1), (135, .l2i, 1), (136, .invokestatic 265, 3), (139, .ifCond .ne 6, 3), (142, .iload 4, 2), (144, .ireturn, 1), (145, .aload_n 0, 1), (146, .aload_n 0, 1), (147, .getfield 110, 3), (150, .iload 7, 2), (152, .laload, 1), (153, .l2i, 1), (154, .aload_n 0, 1), (155, .getfield 110, 3)]]
set_option maxRecDepth 100000 in
theorem MX12_records_d1 : k_dec cX12_records MX12_records_t1 = true := by decide +kernel
def MX12_records_t2 : List (List (Nat × Instr × Nat)) := [[(158, .iload 7, 2), (160, .iconst 1, 1), (161, .iadd, 1), (162, .laload, 1), (163, .l2i, 1), (164, .invokevirtual 269, 3), (167, .iinc 4 1, 3), (170, .goto (-112), 3), (173, .iload_n 3, 1), (174, .ireturn, 1)]]
set_option maxRecDepth 100000 in
theorem MX12_records_d2 : k_dec cX12_records MX12_records_t2 = true := by decide +kernel
def MX12_records : k_M := (yX12_records, cX12_records, 8, (some .int), MX12_records_t0 ++ (MX12_records_t1 ++ (MX12_records_t2)))
theorem MX12_records_dec : k_dec MX12_records.2.1 MX12_records.2.2.2.2 = true := k_dec_app MX12_records_d0 (k_dec_app MX12_records_d1 (MX12_records_d2))
def MX12_clear : k_M := (yX12_clear, cX12_clear, 2, (some .int), [[(0, .aload_n 0, 1), (1, .getfield 262, 3), (4, .istore_n 1, 1), (5, .aload_n 0, 1), (6, .iconst 0, 1), (7, .putfield 262, 3), (10, .iload_n 1, 1), (11, .ireturn, 1)]])
set_option maxRecDepth 100000 in
theorem MX12_clear_dec : k_dec MX12_clear.2.1 MX12_clear.2.2.2.2 = true := by decide +kernel
def MX12_firstWrong_t0 : List (List (Nat × Instr × Nat)) := [[(0, .aload_n 0, 1), (1, .getfield 203, 3), (4, .iconst 1, 1), (5, .isub, 1), (6, .istore_n 1, 1), (7, .iconst 0, 1), (8, .istore_n 2, 1), (9, .iload_n 2, 1), (10, .aload_n 0, 1), (11, .getfield 262, 3), (14, .if_icmp .ge 26, 3), (17, .aload_n 0, 1), (18, .getfield 80, 3), (21, .iload_n 2, 1), (22, .iaload, 1), (23, .iload_n 1, 1)], [(24, .if_icmp .le 10, 3), (27, .aload_n 0, 1), (28, .getfield 80, 3), (31, .iload_n 2, 1), (32, .iaload, 1), (33, .istore_n 1, 1), (34, .iinc 2 1, 3), (37, .goto (-28), 3), (40, .aload_n 0, 1), (41, .invokevirtual 247, 3), (44, .bipush (-2), 2), (46, .istore_n 2, 1), (47, .aload_n 0, 1), (48, .getfield 203, 3), (51, .iload_n 1, 1), (52, .if_icmp .gt 65, 3)], [(55, .iconst 0, 1), (56, .istore_n 3, 1), (57, .iload_n 3, 1), (58, .aload_n 0, 1), (59, .getfield 262, 3), (62, .if_icmp .ge 48, 3), (65, .aload_n 0, 1), (66, .getfield 80, 3), (69, .iload_n 3, 1), (70, .iaload, 1), (71, .aload_n 0, 1), (72, .getfield 203, 3), (75, .if_icmp .ne 29, 3), (78, .aload_n 0, 1), (79, .getfield 83, 3), (82, .iload_n 3, 1)]]
set_option maxRecDepth 100000 in
theorem MX12_firstWrong_d0 : k_dec cX12_firstWrong MX12_firstWrong_t0 = true := by decide +kernel
def MX12_firstWrong_t1 : List (List (Nat × Instr × Nat)) := [[(83, .iaload, 1), (84, .aload_n 0, 1), (85, .getfield 20, 3), (88, .iconst 0, 1), (89, .iaload, 1), (90, .if_icmp .eq 14, 3), (93, .iload_n 2, 1), (94, .ifCond .lt 8, 3), (97, .iload_n 3, 1), (98, .iload_n 2, 1), (99, .if_icmp .ge 5, 3), (102, .iload_n 3, 1), (103, .istore_n 2, 1), (104, .iinc 3 1, 3), (107, .goto (-50), 3), (110, .aload_n 0, 1)], [(111, .invokevirtual 244, 3), (114, .goto (-67), 3), (117, .aload_n 0, 1), (118, .invokevirtual 250, 3), (121, .iload_n 2, 1), (122, .ireturn, 1)]]
set_option maxRecDepth 100000 in
theorem MX12_firstWrong_d1 : k_dec cX12_firstWrong MX12_firstWrong_t1 = true := by decide +kernel
def MX12_firstWrong : k_M := (yX12_firstWrong, cX12_firstWrong, 4, (some .int), MX12_firstWrong_t0 ++ (MX12_firstWrong_t1))
theorem MX12_firstWrong_dec : k_dec MX12_firstWrong.2.1 MX12_firstWrong.2.2.2.2 = true := k_dec_app MX12_firstWrong_d0 (MX12_firstWrong_d1)
def MX12_judge : k_M := (yX12_judge, cX12_judge, 1, (some .int), [[(0, .aload_n 0, 1), (1, .getfield 127, 3), (4, .ifCond .ne 8, 3), (7, .bipush (-5), 2), (9, .goto 7, 3), (12, .aload_n 0, 1), (13, .invokevirtual 275, 3), (16, .ireturn, 1)]])
set_option maxRecDepth 100000 in
theorem MX12_judge_dec : k_dec MX12_judge.2.1 MX12_judge.2.2.2.2 = true := by decide +kernel
def MX12_fitting : k_M := (yX12_fitting, cX12_fitting, 5, (some .int), [[(0, .aload_n 0, 1), (1, .getfield 13, 3), (4, .iload_n 1, 1), (5, .iaload, 1), (6, .istore_n 2, 1), (7, .iconst 0, 1), (8, .istore_n 3, 1), (9, .iconst 0, 1), (10, .istore 4, 2), (12, .iload 4, 2), (14, .iconst 4, 1), (15, .if_icmp .ge 36, 3), (18, .aload_n 0, 1), (19, .getfield 13, 3), (22, .iload_n 1, 1), (23, .aload_n 0, 1)], [(24, .getfield 86, 3), (27, .iload 4, 2), (29, .iaload, 1), (30, .iastore, 1), (31, .aload_n 0, 1), (32, .invokevirtual 275, 3), (35, .ifCond .ge 10, 3), (38, .iload_n 3, 1), (39, .iconst 1, 1), (40, .iload 4, 2), (42, .ishl, 1), (43, .ior, 1), (44, .istore_n 3, 1), (45, .iinc 4 1, 3), (48, .goto (-36), 3), (51, .aload_n 0, 1)], [(52, .getfield 13, 3), (55, .iload_n 1, 1), (56, .iload_n 2, 1), (57, .iastore, 1), (58, .iload_n 3, 1), (59, .ireturn, 1)]])
set_option maxRecDepth 100000 in
theorem MX12_fitting_dec : k_dec MX12_fitting.2.1 MX12_fitting.2.2.2.2 = true := by decide +kernel
def MX12_fits : k_M := (yX12_fits, cX12_fits, 2, (some .int), [[(0, .aload_n 0, 1), (1, .getfield 127, 3), (4, .ifCond .le 27, 3), (7, .iload_n 1, 1), (8, .iconst 0, 1), (9, .aload_n 0, 1), (10, .getfield 17, 3), (13, .iconst 0, 1), (14, .iaload, 1), (15, .iconst 1, 1), (16, .isub, 1), (17, .invokestatic 120, 3), (20, .ifCond .eq 11, 3), (23, .aload_n 0, 1), (24, .iload_n 1, 1), (25, .invokevirtual 278, 3)], [(28, .goto 4, 3), (31, .iconst (-1), 1), (32, .ireturn, 1)]])
set_option maxRecDepth 100000 in
theorem MX12_fits_dec : k_dec MX12_fits.2.1 MX12_fits.2.2.2.2 = true := by decide +kernel
def MX12_bitsOf : k_M := (yX12_bitsOf, cX12_bitsOf, 3, (some .int), [[(0, .iconst 0, 1), (1, .istore_n 1, 1), (2, .iload_n 0, 1), (3, .istore_n 2, 1), (4, .iload_n 2, 1), (5, .ifCond .eq 15, 3), (8, .iinc 1 1, 3), (11, .iload_n 2, 1), (12, .iload_n 2, 1), (13, .iconst 1, 1), (14, .isub, 1), (15, .iand, 1), (16, .istore_n 2, 1), (17, .goto (-13), 3), (20, .iload_n 1, 1), (21, .ireturn, 1)]])
set_option maxRecDepth 100000 in
theorem MX12_bitsOf_dec : k_dec MX12_bitsOf.2.1 MX12_bitsOf.2.2.2.2 = true := by decide +kernel
def MX12_sure : k_M := (yX12_sure, cX12_sure, 5, (some .int), [[(0, .iload_n 1, 1), (1, .iconst 0, 1), (2, .iconst 1, 1), (3, .invokestatic 120, 3), (6, .ifCond .ne 5, 3), (9, .iconst (-1), 1), (10, .ireturn, 1), (11, .aload_n 0, 1), (12, .getfield 127, 3), (15, .ifCond .ne 6, 3), (18, .bipush (-5), 2), (20, .ireturn, 1), (21, .iconst 0, 1), (22, .istore_n 2, 1), (23, .bipush (-2), 2), (25, .istore_n 3, 1)], [(26, .iconst 0, 1), (27, .istore 4, 2), (29, .iload 4, 2), (31, .aload_n 0, 1), (32, .getfield 17, 3), (35, .iconst 0, 1), (36, .iaload, 1), (37, .if_icmp .ge 35, 3), (40, .aload_n 0, 1), (41, .iload 4, 2), (43, .invokevirtual 278, 3), (46, .invokestatic 281, 3), (49, .iconst 1, 1), (50, .if_icmp .eq 6, 3), (53, .goto 13, 3), (56, .iinc 2 1, 3)], [(59, .iload_n 3, 1), (60, .ifCond .ge 6, 3), (63, .iload 4, 2), (65, .istore_n 3, 1), (66, .iinc 4 1, 3), (69, .goto (-40), 3), (72, .iload_n 1, 1), (73, .ifCond .ne 7, 3), (76, .iload_n 2, 1), (77, .goto 4, 3), (80, .iload_n 3, 1), (81, .ireturn, 1)]])
set_option maxRecDepth 100000 in
theorem MX12_sure_dec : k_dec MX12_sure.2.1 MX12_sure.2.2.2.2 = true := by decide +kernel
def MX12_when : k_M := (yX12_when, cX12_when, 7, (some .int), [[(0, .iload_n 1, 1), (1, .iconst 0, 1), (2, .iconst 2, 1), (3, .invokestatic 120, 3), (6, .ifCond .ne 5, 3), (9, .iconst (-1), 1), (10, .ireturn, 1), (11, .aload_n 0, 1), (12, .getfield 127, 3), (15, .ifCond .ne 6, 3), (18, .bipush (-5), 2), (20, .ireturn, 1), (21, .aload_n 0, 1), (22, .getfield 26, 3), (25, .iconst 0, 1), (26, .iaload, 1)], [(27, .istore_n 2, 1), (28, .bipush (-2), 2), (30, .istore_n 3, 1), (31, .bipush (-2), 2), (33, .istore 4, 2), (35, .iconst 0, 1), (36, .istore 5, 2), (38, .iconst 0, 1), (39, .istore 6, 2), (41, .iload 6, 2), (43, .sipush 400, 3), (46, .if_icmp .gt 41, 3), (49, .aload_n 0, 1), (50, .getfield 26, 3), (53, .iconst 0, 1), (54, .iload 6, 2)], [(56, .iastore, 1), (57, .aload_n 0, 1), (58, .invokevirtual 275, 3), (61, .ifCond .lt 6, 3), (64, .goto 17, 3), (67, .iload_n 3, 1), (68, .ifCond .ge 6, 3), (71, .iload 6, 2), (73, .istore_n 3, 1), (74, .iload 6, 2), (76, .istore 4, 2), (78, .iinc 5 1, 3), (81, .iinc 6 1, 3), (84, .goto (-43), 3), (87, .aload_n 0, 1), (88, .getfield 26, 3)], [(91, .iconst 0, 1), (92, .iload_n 2, 1), (93, .iastore, 1), (94, .iload_n 1, 1), (95, .ifCond .ne 7, 3), (98, .iload_n 3, 1), (99, .goto 15, 3), (102, .iload_n 1, 1), (103, .iconst 1, 1), (104, .if_icmp .ne 8, 3), (107, .iload 4, 2), (109, .goto 5, 3), (112, .iload 5, 2), (114, .ireturn, 1)]])
set_option maxRecDepth 100000 in
theorem MX12_when_dec : k_dec MX12_when.2.1 MX12_when.2.2.2.2 = true := by decide +kernel
def MX12_doesPart_t0 : List (List (Nat × Instr × Nat)) := [[(0, .iconst 0, 1), (1, .istore_n 3, 1), (2, .iload_n 3, 1), (3, .iconst 4, 1), (4, .if_icmp .ge 115, 3), (7, .iload_n 3, 1), (8, .iconst 1, 1), (9, .iadd, 1), (10, .istore 4, 2), (12, .iload 4, 2), (14, .iconst 4, 1), (15, .if_icmp .ge 98, 3), (18, .iload_n 2, 1), (19, .iload_n 3, 1), (20, .ishr, 1), (21, .iconst 1, 1)], [(22, .iand, 1), (23, .ifCond .eq 84, 3), (26, .iload_n 2, 1), (27, .iload 4, 2), (29, .ishr, 1), (30, .iconst 1, 1), (31, .iand, 1), (32, .ifCond .ne 6, 3), (35, .goto 72, 3), (38, .iconst 0, 1), (39, .istore 5, 2), (41, .iconst 1, 1), (42, .istore 6, 2), (44, .iload 6, 2), (46, .bipush 10, 2), (48, .if_icmp .gt 52, 3)], [(51, .iload_n 1, 1), (52, .iload 6, 2), (54, .iconst 1, 1), (55, .isub, 1), (56, .ishr, 1), (57, .iconst 1, 1), (58, .iand, 1), (59, .iconst 1, 1), (60, .if_icmp .ne 34, 3), (63, .aload_n 0, 1), (64, .getfield 89, 3), (67, .bipush 11, 2), (69, .iload_n 3, 1), (70, .imul, 1), (71, .iload 6, 2), (73, .iadd, 1)]]
set_option maxRecDepth 100000 in
theorem MX12_doesPart_d0 : k_dec cX12_doesPart MX12_doesPart_t0 = true := by decide +kernel
def MX12_doesPart_t1 : List (List (Nat × Instr × Nat)) := [[(74, .iaload, 1), (75, .aload_n 0, 1), (76, .getfield 89, 3), (79, .bipush 11, 2), (81, .iload 4, 2), (83, .imul, 1), (84, .iload 6, 2), (86, .iadd, 1), (87, .iaload, 1), (88, .if_icmp .eq 6, 3), (91, .iconst 1, 1), (92, .istore 5, 2), (94, .iinc 6 1, 3), (97, .goto (-53), 3), (100, .iload 5, 2), (102, .ifCond .ne 5, 3)], [(105, .iconst 0, 1), (106, .ireturn, 1), (107, .iinc 4 1, 3), (110, .goto (-98), 3), (113, .iinc 3 1, 3), (116, .goto (-114), 3), (119, .iconst 1, 1), (120, .ireturn, 1)]]
set_option maxRecDepth 100000 in
theorem MX12_doesPart_d1 : k_dec cX12_doesPart MX12_doesPart_t1 = true := by decide +kernel
def MX12_doesPart : k_M := (yX12_doesPart, cX12_doesPart, 7, (some .boolean), MX12_doesPart_t0 ++ (MX12_doesPart_t1))
theorem MX12_doesPart_dec : k_dec MX12_doesPart.2.1 MX12_doesPart.2.2.2.2 = true := k_dec_app MX12_doesPart_d0 (MX12_doesPart_d1)
def MX12_watch_t0 : List (List (Nat × Instr × Nat)) := [[(0, .aload_n 0, 1), (1, .getfield 127, 3), (4, .ifCond .eq 19, 3), (7, .iload_n 1, 1), (8, .iconst 0, 1), (9, .aload_n 0, 1), (10, .getfield 17, 3), (13, .iconst 0, 1), (14, .iaload, 1), (15, .iconst 1, 1), (16, .isub, 1), (17, .invokestatic 120, 3), (20, .ifCond .ne 5, 3), (23, .iconst (-1), 1), (24, .ireturn, 1), (25, .aload_n 0, 1)], [(26, .iload_n 1, 1), (27, .invokevirtual 278, 3), (30, .istore_n 2, 1), (31, .iload_n 2, 1), (32, .invokestatic 281, 3), (35, .iconst 2, 1), (36, .if_icmp .ge 5, 3), (39, .iconst 0, 1), (40, .ireturn, 1), (41, .aload_n 0, 1), (42, .getfield 13, 3), (45, .iload_n 1, 1), (46, .iaload, 1), (47, .istore_n 3, 1), (48, .iconst 0, 1), (49, .istore 4, 2)], [(51, .iload 4, 2), (53, .iconst 4, 1), (54, .if_icmp .ge 69, 3), (57, .aload_n 0, 1), (58, .getfield 13, 3), (61, .iload_n 1, 1), (62, .aload_n 0, 1), (63, .getfield 86, 3), (66, .iload 4, 2), (68, .iaload, 1), (69, .iastore, 1), (70, .aload_n 0, 1), (71, .invokevirtual 247, 3), (74, .iconst 1, 1), (75, .istore 5, 2), (77, .iload 5, 2)]]
set_option maxRecDepth 100000 in
theorem MX12_watch_d0 : k_dec cX12_watch MX12_watch_t0 = true := by decide +kernel
def MX12_watch_t1 : List (List (Nat × Instr × Nat)) := [[(79, .bipush 10, 2), (81, .if_icmp .gt 32, 3), (84, .aload_n 0, 1), (85, .invokevirtual 244, 3), (88, .aload_n 0, 1), (89, .getfield 89, 3), (92, .bipush 11, 2), (94, .iload 4, 2), (96, .imul, 1), (97, .iload 5, 2), (99, .iadd, 1), (100, .aload_n 0, 1), (101, .getfield 20, 3), (104, .iconst 0, 1), (105, .iaload, 1), (106, .iastore, 1)], [(107, .iinc 5 1, 3), (110, .goto (-33), 3), (113, .aload_n 0, 1), (114, .invokevirtual 250, 3), (117, .iinc 4 1, 3), (120, .goto (-69), 3), (123, .aload_n 0, 1), (124, .getfield 13, 3), (127, .iload_n 1, 1), (128, .iload_n 3, 1), (129, .iastore, 1), (130, .bipush (-2), 2), (132, .istore 4, 2), (134, .iconst 0, 1), (135, .istore 5, 2), (137, .iload 5, 2)], [(139, .sipush 1024, 3), (142, .if_icmp .ge 41, 3), (145, .iload 4, 2), (147, .ifCond .lt 16, 3), (150, .iload 5, 2), (152, .invokestatic 281, 3), (155, .iload 4, 2), (157, .invokestatic 281, 3), (160, .if_icmp .ge 17, 3), (163, .aload_n 0, 1), (164, .iload 5, 2), (166, .iload_n 2, 1), (167, .invokevirtual 284, 3), (170, .ifCond .eq 7, 3), (173, .iload 5, 2), (175, .istore 4, 2)]]
set_option maxRecDepth 100000 in
theorem MX12_watch_d1 : k_dec cX12_watch MX12_watch_t1 = true := by decide +kernel
def MX12_watch_t2 : List (List (Nat × Instr × Nat)) := [[(177, .iinc 5 1, 3), (180, .goto (-43), 3), (183, .iload 4, 2), (185, .ireturn, 1)]]
set_option maxRecDepth 100000 in
theorem MX12_watch_d2 : k_dec cX12_watch MX12_watch_t2 = true := by decide +kernel
def MX12_watch : k_M := (yX12_watch, cX12_watch, 6, (some .int), MX12_watch_t0 ++ (MX12_watch_t1 ++ (MX12_watch_t2)))
theorem MX12_watch_dec : k_dec MX12_watch.2.1 MX12_watch.2.2.2.2 = true := k_dec_app MX12_watch_d0 (k_dec_app MX12_watch_d1 (MX12_watch_d2))
def MX12_image : k_M := (yX12_image, cX12_image, 2, (some .int), [[(0, .aload_n 0, 1), (1, .iconst 1, 1), (2, .putfield 287, 3), (5, .aload_n 0, 1), (6, .aload_n 0, 1), (7, .getfield 127, 3), (10, .putfield 290, 3), (13, .aload_n 0, 1), (14, .aload_n 0, 1), (15, .getfield 203, 3), (18, .putfield 293, 3), (21, .iconst 0, 1), (22, .istore_n 1, 1), (23, .iload_n 1, 1), (24, .iconst 4, 1), (25, .if_icmp .ge 33, 3)], [(28, .aload_n 0, 1), (29, .getfield 92, 3), (32, .iload_n 1, 1), (33, .aload_n 0, 1), (34, .getfield 20, 3), (37, .iload_n 1, 1), (38, .iaload, 1), (39, .iastore, 1), (40, .aload_n 0, 1), (41, .getfield 95, 3), (44, .iload_n 1, 1), (45, .aload_n 0, 1), (46, .getfield 23, 3), (49, .iload_n 1, 1), (50, .iaload, 1), (51, .iastore, 1)], [(52, .iinc 1 1, 3), (55, .goto (-32), 3), (58, .aload_n 0, 1), (59, .getfield 203, 3), (62, .ireturn, 1)]])
set_option maxRecDepth 100000 in
theorem MX12_image_dec : k_dec MX12_image.2.1 MX12_image.2.2.2.2 = true := by decide +kernel
def MX12_back : k_M := (yX12_back, cX12_back, 2, (some .int), [[(0, .aload_n 0, 1), (1, .getfield 287, 3), (4, .ifCond .ne 6, 3), (7, .bipush (-5), 2), (9, .ireturn, 1), (10, .aload_n 0, 1), (11, .aload_n 0, 1), (12, .getfield 293, 3), (15, .putfield 203, 3), (18, .iconst 0, 1), (19, .istore_n 1, 1), (20, .iload_n 1, 1), (21, .aload_n 0, 1), (22, .getfield 290, 3), (25, .if_icmp .ge 33, 3), (28, .aload_n 0, 1)], [(29, .getfield 20, 3), (32, .iload_n 1, 1), (33, .aload_n 0, 1), (34, .getfield 92, 3), (37, .iload_n 1, 1), (38, .iaload, 1), (39, .iastore, 1), (40, .aload_n 0, 1), (41, .getfield 23, 3), (44, .iload_n 1, 1), (45, .aload_n 0, 1), (46, .getfield 95, 3), (49, .iload_n 1, 1), (50, .iaload, 1), (51, .iastore, 1), (52, .iinc 1 1, 3)], [(55, .goto (-35), 3), (58, .aload_n 0, 1), (59, .getfield 203, 3), (62, .ireturn, 1)]])
set_option maxRecDepth 100000 in
theorem MX12_back_dec : k_dec MX12_back.2.1 MX12_back.2.2.2.2 = true := by decide +kernel
def MX12_isBody : k_M := (yX12_isBody, cX12_isBody, 2, (some .boolean), [[(0, .iload_n 1, 1), (1, .iconst 0, 1), (2, .aload_n 0, 1), (3, .getfield 296, 3), (6, .iconst 1, 1), (7, .isub, 1), (8, .invokestatic 120, 3), (11, .ireturn, 1)]])
set_option maxRecDepth 100000 in
theorem MX12_isBody_dec : k_dec MX12_isBody.2.1 MX12_isBody.2.2.2.2 = true := by decide +kernel
def MX12_ran : k_M := (yX12_ran, cX12_ran, 2, none, [[(0, .aload_n 0, 1), (1, .getfield 299, 3), (4, .bipush 24, 2), (6, .if_icmp .ge 13, 3), (9, .aload_n 0, 1), (10, .getfield 101, 3), (13, .aload_n 0, 1), (14, .getfield 299, 3), (17, .iload_n 1, 1), (18, .iastore, 1), (19, .aload_n 0, 1), (20, .dup, 1), (21, .getfield 299, 3), (24, .iconst 1, 1), (25, .iadd, 1), (26, .putfield 299, 3)], [(29, .return_, 1)]])
set_option maxRecDepth 100000 in
theorem MX12_ran_dec : k_dec MX12_ran.2.1 MX12_ran.2.2.2.2 = true := by decide +kernel
def MX12_trace : k_M := (yX12_trace, cX12_trace, 2, (some .int), [[(0, .iload_n 1, 1), (1, .ifCond .lt 26, 3), (4, .iload_n 1, 1), (5, .aload_n 0, 1), (6, .getfield 299, 3), (9, .if_icmp .ge 18, 3), (12, .iload_n 1, 1), (13, .bipush 24, 2), (15, .if_icmp .ge 12, 3), (18, .aload_n 0, 1), (19, .getfield 101, 3), (22, .iload_n 1, 1), (23, .iaload, 1), (24, .goto 4, 3), (27, .iconst (-1), 1), (28, .ireturn, 1)]])
set_option maxRecDepth 100000 in
theorem MX12_trace_dec : k_dec MX12_trace.2.1 MX12_trace.2.2.2.2 = true := by decide +kernel
def MX12_body : k_M := (yX12_body, cX12_body, 2, (some .int), [[(0, .iload_n 1, 1), (1, .iconst 0, 1), (2, .bipush 7, 2), (4, .invokestatic 120, 3), (7, .ifCond .ne 5, 3), (10, .iconst (-1), 1), (11, .ireturn, 1), (12, .aload_n 0, 1), (13, .getfield 296, 3), (16, .bipush 50, 2), (18, .if_icmp .ne 6, 3), (21, .bipush (-3), 2), (23, .ireturn, 1), (24, .aload_n 0, 1), (25, .getfield 98, 3), (28, .aload_n 0, 1)], [(29, .getfield 296, 3), (32, .iload_n 1, 1), (33, .iastore, 1), (34, .aload_n 0, 1), (35, .dup, 1), (36, .getfield 296, 3), (39, .iconst 1, 1), (40, .iadd, 1), (41, .putfield 296, 3), (44, .aload_n 0, 1), (45, .getfield 296, 3), (48, .iconst 1, 1), (49, .isub, 1), (50, .ireturn, 1)]])
set_option maxRecDepth 100000 in
theorem MX12_body_dec : k_dec MX12_body.2.1 MX12_body.2.2.2.2 = true := by decide +kernel
def MX12_isUnder : k_M := (yX12_isUnder, cX12_isUnder, 2, (some .boolean), [[(0, .iload_n 1, 1), (1, .ifCond .eq 55, 3), (4, .iload_n 0, 1), (5, .iload_n 1, 1), (6, .if_icmp .eq 50, 3), (9, .iload_n 1, 1), (10, .iconst 1, 1), (11, .if_icmp .ne 13, 3), (14, .iload_n 0, 1), (15, .iconst 4, 1), (16, .if_icmp .eq 40, 3), (19, .iload_n 0, 1), (20, .iconst 5, 1), (21, .if_icmp .eq 35, 3), (24, .iload_n 1, 1), (25, .iconst 2, 1)], [(26, .if_icmp .ne 8, 3), (29, .iload_n 0, 1), (30, .iconst 3, 1), (31, .if_icmp .eq 25, 3), (34, .iload_n 1, 1), (35, .iconst 4, 1), (36, .if_icmp .ne 8, 3), (39, .iload_n 0, 1), (40, .iconst 5, 1), (41, .if_icmp .eq 15, 3), (44, .iload_n 1, 1), (45, .bipush 6, 2), (47, .if_icmp .ne 13, 3), (50, .iload_n 0, 1), (51, .bipush 7, 2), (53, .if_icmp .ne 7, 3)], [(56, .iconst 1, 1), (57, .goto 4, 3), (60, .iconst 0, 1), (61, .ireturn, 1)]])
set_option maxRecDepth 100000 in
theorem MX12_isUnder_dec : k_dec MX12_isUnder.2.1 MX12_isUnder.2.2.2.2 = true := by decide +kernel
def MX12_plainTurns : k_M := (yX12_plainTurns, cX12_plainTurns, 3, (some .int), [[(0, .aload_n 0, 1), (1, .iconst 1, 1), (2, .invokevirtual 302, 3), (5, .iload_n 2, 1), (6, .iload_n 1, 1), (7, .iadd, 1), (8, .ireturn, 1)]])
set_option maxRecDepth 100000 in
theorem MX12_plainTurns_dec : k_dec MX12_plainTurns.2.1 MX12_plainTurns.2.2.2.2 = true := by decide +kernel
def MX12_toldTurns : k_M := (yX12_toldTurns, cX12_toldTurns, 3, (some .int), [[(0, .aload_n 0, 1), (1, .bipush 70, 2), (3, .invokevirtual 302, 3), (6, .aload_n 0, 1), (7, .iload_n 1, 1), (8, .iload_n 2, 1), (9, .invokevirtual 306, 3), (12, .iconst 2, 1), (13, .imul, 1), (14, .ireturn, 1)]])
set_option maxRecDepth 100000 in
theorem MX12_toldTurns_dec : k_dec MX12_toldTurns.2.1 MX12_toldTurns.2.2.2.2 = true := by decide +kernel
def MX12_turning : k_M := (yX12_turning, cX12_turning, 3, (some .int), [[(0, .aload_n 0, 1), (1, .getfield 98, 3), (4, .iload_n 1, 1), (5, .iaload, 1), (6, .iconst 1, 1), (7, .invokestatic 309, 3), (10, .ifCond .eq 18, 3), (13, .aload_n 0, 1), (14, .bipush 20, 2), (16, .invokevirtual 302, 3), (19, .aload_n 0, 1), (20, .iload_n 1, 1), (21, .iload_n 2, 1), (22, .invokevirtual 306, 3), (25, .iconst 3, 1), (26, .iadd, 1)], [(27, .ireturn, 1), (28, .aload_n 0, 1), (29, .getfield 98, 3), (32, .iload_n 1, 1), (33, .iaload, 1), (34, .bipush 7, 2), (36, .if_icmp .ne 18, 3), (39, .aload_n 0, 1), (40, .bipush 81, 2), (42, .invokevirtual 302, 3), (45, .aload_n 0, 1), (46, .iload_n 1, 1), (47, .iload_n 2, 1), (48, .invokevirtual 312, 3), (51, .iconst 1, 1), (52, .isub, 1)], [(53, .ireturn, 1), (54, .aload_n 0, 1), (55, .getfield 98, 3), (58, .iload_n 1, 1), (59, .iaload, 1), (60, .bipush 6, 2), (62, .if_icmp .ne 12, 3), (65, .aload_n 0, 1), (66, .iload_n 1, 1), (67, .iload_n 2, 1), (68, .invokevirtual 312, 3), (71, .goto 9, 3), (74, .aload_n 0, 1), (75, .iload_n 1, 1), (76, .iload_n 2, 1), (77, .invokevirtual 306, 3)], [(80, .ireturn, 1)]])
set_option maxRecDepth 100000 in
theorem MX12_turning_dec : k_dec MX12_turning.2.1 MX12_turning.2.2.2.2 = true := by decide +kernel
def MX12_plainShows : k_M := (yX12_plainShows, cX12_plainShows, 3, (some .int), [[(0, .aload_n 0, 1), (1, .bipush 10, 2), (3, .invokevirtual 302, 3), (6, .aload_n 0, 1), (7, .iload_n 1, 1), (8, .iload_n 2, 1), (9, .invokevirtual 315, 3), (12, .iconst 2, 1), (13, .imul, 1), (14, .ireturn, 1)]])
set_option maxRecDepth 100000 in
theorem MX12_plainShows_dec : k_dec MX12_plainShows.2.1 MX12_plainShows.2.2.2.2 = true := by decide +kernel
def MX12_skipShows : k_M := (yX12_skipShows, cX12_skipShows, 3, (some .int), [[(0, .aload_n 0, 1), (1, .bipush 30, 2), (3, .invokevirtual 302, 3), (6, .aload_n 0, 1), (7, .iload_n 1, 1), (8, .iload_n 2, 1), (9, .invokevirtual 318, 3), (12, .ineg, 1), (13, .ireturn, 1)]])
set_option maxRecDepth 100000 in
theorem MX12_skipShows_dec : k_dec MX12_skipShows.2.1 MX12_skipShows.2.2.2.2 = true := by decide +kernel
def MX12_showing : k_M := (yX12_showing, cX12_showing, 4, (some .int), [[(0, .aload_n 0, 1), (1, .getfield 98, 3), (4, .iload_n 1, 1), (5, .iaload, 1), (6, .iconst 3, 1), (7, .if_icmp .ne 18, 3), (10, .aload_n 0, 1), (11, .bipush 41, 2), (13, .invokevirtual 302, 3), (16, .aload_n 0, 1), (17, .iload_n 1, 1), (18, .iload_n 2, 1), (19, .iconst 1, 1), (20, .iadd, 1), (21, .invokevirtual 321, 3), (24, .ireturn, 1)], [(25, .aload_n 0, 1), (26, .getfield 98, 3), (29, .iload_n 1, 1), (30, .iaload, 1), (31, .bipush 7, 2), (33, .if_icmp .ne 25, 3), (36, .aload_n 0, 1), (37, .bipush 80, 2), (39, .invokevirtual 302, 3), (42, .aload_n 0, 1), (43, .iload_n 1, 1), (44, .iload_n 2, 1), (45, .invokevirtual 318, 3), (48, .istore_n 3, 1), (49, .iload_n 3, 1), (50, .aload_n 0, 1)], [(51, .iload_n 1, 1), (52, .iconst 2, 1), (53, .invokevirtual 324, 3), (56, .iadd, 1), (57, .ireturn, 1), (58, .aload_n 0, 1), (59, .getfield 98, 3), (62, .iload_n 1, 1), (63, .iaload, 1), (64, .iconst 2, 1), (65, .if_icmp .ne 12, 3), (68, .aload_n 0, 1), (69, .iload_n 1, 1), (70, .iload_n 2, 1), (71, .invokevirtual 321, 3), (74, .goto 9, 3)], [(77, .aload_n 0, 1), (78, .iload_n 1, 1), (79, .iload_n 2, 1), (80, .invokevirtual 318, 3), (83, .ireturn, 1)]])
set_option maxRecDepth 100000 in
theorem MX12_showing_dec : k_dec MX12_showing.2.1 MX12_showing.2.2.2.2 = true := by decide +kernel
def MX12_plainWaits : k_M := (yX12_plainWaits, cX12_plainWaits, 3, (some .int), [[(0, .aload_n 0, 1), (1, .bipush 11, 2), (3, .invokevirtual 302, 3), (6, .iload_n 2, 1), (7, .iload_n 1, 1), (8, .ixor, 1), (9, .ireturn, 1)]])
set_option maxRecDepth 100000 in
theorem MX12_plainWaits_dec : k_dec MX12_plainWaits.2.1 MX12_plainWaits.2.2.2.2 = true := by decide +kernel
def MX12_waiting : k_M := (yX12_waiting, cX12_waiting, 4, (some .int), [[(0, .aload_n 0, 1), (1, .getfield 98, 3), (4, .iload_n 1, 1), (5, .iaload, 1), (6, .iconst 3, 1), (7, .if_icmp .ne 18, 3), (10, .aload_n 0, 1), (11, .bipush 40, 2), (13, .invokevirtual 302, 3), (16, .aload_n 0, 1), (17, .iload_n 1, 1), (18, .iload_n 2, 1), (19, .invokevirtual 327, 3), (22, .iconst 3, 1), (23, .imul, 1), (24, .ireturn, 1)], [(25, .aload_n 0, 1), (26, .getfield 98, 3), (29, .iload_n 1, 1), (30, .iaload, 1), (31, .iconst 5, 1), (32, .if_icmp .ne 25, 3), (35, .aload_n 0, 1), (36, .bipush 60, 2), (38, .invokevirtual 302, 3), (41, .aload_n 0, 1), (42, .iload_n 1, 1), (43, .iload_n 2, 1), (44, .invokevirtual 327, 3), (47, .istore_n 3, 1), (48, .iload_n 3, 1), (49, .aload_n 0, 1)], [(50, .iload_n 1, 1), (51, .iconst 2, 1), (52, .invokevirtual 315, 3), (55, .isub, 1), (56, .ireturn, 1), (57, .aload_n 0, 1), (58, .iload_n 1, 1), (59, .iload_n 2, 1), (60, .invokevirtual 327, 3), (63, .ireturn, 1)]])
set_option maxRecDepth 100000 in
theorem MX12_waiting_dec : k_dec MX12_waiting.2.1 MX12_waiting.2.2.2.2 = true := by decide +kernel
def MX12_plainTells : k_M := (yX12_plainTells, cX12_plainTells, 4, (some .int), [[(0, .aload_n 0, 1), (1, .iconst 2, 1), (2, .invokevirtual 302, 3), (5, .aload_n 0, 1), (6, .iload_n 1, 1), (7, .iload_n 2, 1), (8, .invokevirtual 330, 3), (11, .istore_n 3, 1), (12, .iload_n 3, 1), (13, .aload_n 0, 1), (14, .iload_n 1, 1), (15, .iconst 1, 1), (16, .invokevirtual 324, 3), (19, .isub, 1), (20, .ireturn, 1)]])
set_option maxRecDepth 100000 in
theorem MX12_plainTells_dec : k_dec MX12_plainTells.2.1 MX12_plainTells.2.2.2.2 = true := by decide +kernel
def MX12_frostTells : k_M := (yX12_frostTells, cX12_frostTells, 3, (some .int), [[(0, .aload_n 0, 1), (1, .bipush 50, 2), (3, .invokevirtual 302, 3), (6, .aload_n 0, 1), (7, .iload_n 1, 1), (8, .iload_n 2, 1), (9, .invokevirtual 333, 3), (12, .iconst 5, 1), (13, .ixor, 1), (14, .ireturn, 1)]])
set_option maxRecDepth 100000 in
theorem MX12_frostTells_dec : k_dec MX12_frostTells.2.1 MX12_frostTells.2.2.2.2 = true := by decide +kernel
def MX12_telling : k_M := (yX12_telling, cX12_telling, 3, (some .int), [[(0, .aload_n 0, 1), (1, .getfield 98, 3), (4, .iload_n 1, 1), (5, .iaload, 1), (6, .iconst 5, 1), (7, .if_icmp .ne 18, 3), (10, .aload_n 0, 1), (11, .bipush 61, 2), (13, .invokevirtual 302, 3), (16, .aload_n 0, 1), (17, .iload_n 1, 1), (18, .iload_n 2, 1), (19, .invokevirtual 336, 3), (22, .iconst 1, 1), (23, .iadd, 1), (24, .ireturn, 1)], [(25, .aload_n 0, 1), (26, .getfield 98, 3), (29, .iload_n 1, 1), (30, .iaload, 1), (31, .iconst 4, 1), (32, .if_icmp .ne 12, 3), (35, .aload_n 0, 1), (36, .iload_n 1, 1), (37, .iload_n 2, 1), (38, .invokevirtual 336, 3), (41, .goto 9, 3), (44, .aload_n 0, 1), (45, .iload_n 1, 1), (46, .iload_n 2, 1), (47, .invokevirtual 333, 3), (50, .ireturn, 1)]])
set_option maxRecDepth 100000 in
theorem MX12_telling_dec : k_dec MX12_telling.2.1 MX12_telling.2.2.2.2 = true := by decide +kernel
def MX12_act : k_M := (yX12_act, cX12_act, 4, (some .int), [[(0, .aload_n 0, 1), (1, .iconst 0, 1), (2, .putfield 299, 3), (5, .aload_n 0, 1), (6, .iload_n 1, 1), (7, .invokevirtual 339, 3), (10, .ifCond .eq 12, 3), (13, .iload_n 2, 1), (14, .iconst 0, 1), (15, .iconst 3, 1), (16, .invokestatic 120, 3), (19, .ifCond .ne 5, 3), (22, .iconst 0, 1), (23, .ireturn, 1), (24, .iload_n 2, 1), (25, .ifCond .ne 12, 3)], [(28, .aload_n 0, 1), (29, .iload_n 1, 1), (30, .iload_n 3, 1), (31, .invokevirtual 315, 3), (34, .goto 37, 3), (37, .iload_n 2, 1), (38, .iconst 1, 1), (39, .if_icmp .ne 12, 3), (42, .aload_n 0, 1), (43, .iload_n 1, 1), (44, .iload_n 3, 1), (45, .invokevirtual 330, 3), (48, .goto 23, 3), (51, .iload_n 2, 1), (52, .iconst 2, 1), (53, .if_icmp .ne 12, 3)], [(56, .aload_n 0, 1), (57, .iload_n 1, 1), (58, .iload_n 3, 1), (59, .invokevirtual 324, 3), (62, .goto 9, 3), (65, .aload_n 0, 1), (66, .iload_n 1, 1), (67, .iload_n 3, 1), (68, .invokevirtual 342, 3), (71, .ireturn, 1)]])
set_option maxRecDepth 100000 in
theorem MX12_act_dec : k_dec MX12_act.2.1 MX12_act.2.2.2.2 = true := by decide +kernel
def MX12_count : k_M := (yX12_count, cX12_count, 2, (some .int), [[(0, .iload_n 1, 1), (1, .tableswitch 78 0 6 #[43, 48, 53, 58, 63, 68, 73], 43), (44, .aload_n 0, 1), (45, .getfield 127, 3), (48, .ireturn, 1), (49, .aload_n 0, 1), (50, .getfield 203, 3), (53, .ireturn, 1), (54, .aload_n 0, 1), (55, .getfield 262, 3), (58, .ireturn, 1), (59, .aload_n 0, 1), (60, .getfield 124, 3), (63, .ireturn, 1), (64, .aload_n 0, 1), (65, .getfield 221, 3)], [(68, .ireturn, 1), (69, .aload_n 0, 1), (70, .getfield 296, 3), (73, .ireturn, 1), (74, .aload_n 0, 1), (75, .getfield 299, 3), (78, .ireturn, 1), (79, .iconst (-1), 1), (80, .ireturn, 1)]])
set_option maxRecDepth 100000 in
theorem MX12_count_dec : k_dec MX12_count.2.1 MX12_count.2.2.2.2 = true := by decide +kernel
def MX12_isShelf : k_M := (yX12_isShelf, cX12_isShelf, 1, (some .boolean), [[(0, .iload_n 0, 1), (1, .iconst 0, 1), (2, .iconst 5, 1), (3, .invokestatic 120, 3), (6, .ireturn, 1)]])
set_option maxRecDepth 100000 in
theorem MX12_isShelf_dec : k_dec MX12_isShelf.2.1 MX12_isShelf.2.2.2.2 = true := by decide +kernel
def MX12_keep : k_M := (yX12_keep, cX12_keep, 3, (some .int), [[(0, .iload_n 1, 1), (1, .invokestatic 272, 3), (4, .ifCond .eq 16, 3), (7, .iload_n 2, 1), (8, .iconst (-1), 1), (9, .if_icmp .eq 13, 3), (12, .aload_n 0, 1), (13, .iload_n 2, 1), (14, .invokevirtual 339, 3), (17, .ifCond .ne 5, 3), (20, .iconst (-1), 1), (21, .ireturn, 1), (22, .aload_n 0, 1), (23, .getfield 104, 3), (26, .iload_n 1, 1), (27, .iload_n 2, 1)], [(28, .iastore, 1), (29, .iconst 1, 1), (30, .ireturn, 1)]])
set_option maxRecDepth 100000 in
theorem MX12_keep_dec : k_dec MX12_keep.2.1 MX12_keep.2.2.2.2 = true := by decide +kernel
def MX12_row : k_M := (yX12_row, cX12_row, 5, (some .int), [[(0, .iload_n 1, 1), (1, .invokestatic 272, 3), (4, .ifCond .eq 18, 3), (7, .iload_n 2, 1), (8, .iconst 0, 1), (9, .iconst 4, 1), (10, .invokestatic 120, 3), (13, .ifCond .eq 9, 3), (16, .iload_n 3, 1), (17, .bipush 60, 2), (19, .if_icmp .le 5, 3), (22, .iconst (-1), 1), (23, .ireturn, 1), (24, .iload_n 3, 1), (25, .ifCond .ge 6, 3), (28, .bipush (-14), 2)], [(30, .ireturn, 1), (31, .aload_n 0, 1), (32, .getfield 104, 3), (35, .iload_n 1, 1), (36, .bipush (-2), 2), (38, .iload_n 2, 1), (39, .isub, 1), (40, .iastore, 1), (41, .aload_n 0, 1), (42, .getfield 107, 3), (45, .iload_n 1, 1), (46, .iload_n 3, 1), (47, .iastore, 1), (48, .bipush 60, 2), (50, .iload_n 1, 1), (51, .imul, 1)], [(52, .istore 4, 2), (54, .iload 4, 2), (56, .bipush 60, 2), (58, .iload_n 1, 1), (59, .imul, 1), (60, .bipush 60, 2), (62, .iadd, 1), (63, .if_icmp .ge 17, 3), (66, .aload_n 0, 1), (67, .getfield 110, 3), (70, .iload 4, 2), (72, .lconst 0, 1), (73, .lastore, 1), (74, .iinc 4 1, 3), (77, .goto (-23), 3), (80, .iconst 1, 1)], [(81, .ireturn, 1)]])
set_option maxRecDepth 100000 in
theorem MX12_row_dec : k_dec MX12_row.2.1 MX12_row.2.2.2.2 = true := by decide +kernel
def MX12_whyNoPlace : k_M := (yX12_whyNoPlace, cX12_whyNoPlace, 3, (some .int), [[(0, .iload_n 1, 1), (1, .invokestatic 272, 3), (4, .ifCond .ne 5, 3), (7, .iconst (-1), 1), (8, .ireturn, 1), (9, .aload_n 0, 1), (10, .getfield 104, 3), (13, .iload_n 1, 1), (14, .iaload, 1), (15, .iconst (-1), 1), (16, .if_icmp .ne 6, 3), (19, .bipush (-11), 2), (21, .ireturn, 1), (22, .aload_n 0, 1), (23, .getfield 104, 3), (26, .iload_n 1, 1)], [(27, .iaload, 1), (28, .ifCond .lt 6, 3), (31, .bipush (-12), 2), (33, .ireturn, 1), (34, .iload_n 2, 1), (35, .iconst 0, 1), (36, .aload_n 0, 1), (37, .getfield 107, 3), (40, .iload_n 1, 1), (41, .iaload, 1), (42, .iconst 1, 1), (43, .isub, 1), (44, .invokestatic 120, 3), (47, .ifCond .eq 7, 3), (50, .iconst 0, 1), (51, .goto 5, 3)], [(54, .bipush (-13), 2), (56, .ireturn, 1)]])
set_option maxRecDepth 100000 in
theorem MX12_whyNoPlace_dec : k_dec MX12_whyNoPlace.2.1 MX12_whyNoPlace.2.2.2.2 = true := by decide +kernel
def MX12_put : k_M := (yX12_put, cX12_put, 7, (some .int), [[(0, .aload_n 0, 1), (1, .iload_n 1, 1), (2, .iload_n 2, 1), (3, .invokevirtual 345, 3), (6, .istore 5, 2), (8, .iload 5, 2), (10, .ifCond .ge 6, 3), (13, .iload 5, 2), (15, .ireturn, 1), (16, .bipush (-2), 2), (18, .aload_n 0, 1), (19, .getfield 104, 3), (22, .iload_n 1, 1), (23, .iaload, 1), (24, .isub, 1), (25, .istore 6, 2)], [(27, .aload_n 0, 1), (28, .getfield 110, 3), (31, .bipush 60, 2), (33, .iload_n 1, 1), (34, .imul, 1), (35, .iload_n 2, 1), (36, .iadd, 1), (37, .iload 6, 2), (39, .ifCond .ne 10, 3), (42, .lload_n 3, 1), (43, .l2i, 1), (44, .i2b, 1), (45, .i2l, 1), (46, .goto 49, 3), (49, .iload 6, 2), (51, .iconst 1, 1)], [(52, .if_icmp .ne 10, 3), (55, .lload_n 3, 1), (56, .l2i, 1), (57, .i2s, 1), (58, .i2l, 1), (59, .goto 36, 3), (62, .iload 6, 2), (64, .iconst 2, 1), (65, .if_icmp .ne 9, 3), (68, .lload_n 3, 1), (69, .l2i, 1), (70, .i2l, 1), (71, .goto 24, 3), (74, .iload 6, 2), (76, .iconst 3, 1), (77, .if_icmp .ne 7, 3)], [(80, .lload_n 3, 1), (81, .goto 14, 3), (84, .lload_n 3, 1), (85, .lconst 0, 1), (86, .lcmp, 1), (87, .ifCond .eq 7, 3), (90, .lconst 1, 1), (91, .goto 4, 3), (94, .lconst 0, 1), (95, .lastore, 1), (96, .iconst 1, 1), (97, .ireturn, 1)]])
set_option maxRecDepth 100000 in
theorem MX12_put_dec : k_dec MX12_put.2.1 MX12_put.2.2.2.2 = true := by decide +kernel
def MX12_element : k_M := (yX12_element, cX12_element, 3, (some .long), [[(0, .aload_n 0, 1), (1, .iload_n 1, 1), (2, .iload_n 2, 1), (3, .invokevirtual 345, 3), (6, .ifCond .ge 9, 3), (9, .ldc2_w 350, 3), (12, .goto 14, 3), (15, .aload_n 0, 1), (16, .getfield 110, 3), (19, .bipush 60, 2), (21, .iload_n 1, 1), (22, .imul, 1), (23, .iload_n 2, 1), (24, .iadd, 1), (25, .laload, 1), (26, .lreturn, 1)]])
set_option maxRecDepth 100000 in
theorem MX12_element_dec : k_dec MX12_element.2.1 MX12_element.2.2.2.2 = true := by decide +kernel
def MX12_shift_t0 : List (List (Nat × Instr × Nat)) := [[(0, .iload_n 1, 1), (1, .invokestatic 272, 3), (4, .ifCond .eq 10, 3), (7, .iload_n 3, 1), (8, .invokestatic 272, 3), (11, .ifCond .ne 5, 3), (14, .iconst (-1), 1), (15, .ireturn, 1), (16, .aload_n 0, 1), (17, .getfield 104, 3), (20, .iload_n 1, 1), (21, .iaload, 1), (22, .iconst (-1), 1), (23, .if_icmp .eq 13, 3), (26, .aload_n 0, 1), (27, .getfield 104, 3)], [(30, .iload_n 3, 1), (31, .iaload, 1), (32, .iconst (-1), 1), (33, .if_icmp .ne 6, 3), (36, .bipush (-11), 2), (38, .ireturn, 1), (39, .aload_n 0, 1), (40, .getfield 104, 3), (43, .iload_n 1, 1), (44, .iaload, 1), (45, .ifCond .ge 18, 3), (48, .aload_n 0, 1), (49, .getfield 104, 3), (52, .iload_n 1, 1), (53, .iaload, 1), (54, .aload_n 0, 1)], [(55, .getfield 104, 3), (58, .iload_n 3, 1), (59, .iaload, 1), (60, .if_icmp .eq 6, 3), (63, .bipush (-12), 2), (65, .ireturn, 1), (66, .iload 5, 2), (68, .ifCond .lt 39, 3), (71, .iload_n 2, 1), (72, .ifCond .lt 35, 3), (75, .iload 4, 2), (77, .ifCond .lt 30, 3), (80, .iload_n 2, 1), (81, .aload_n 0, 1), (82, .getfield 107, 3), (85, .iload_n 1, 1)]]
set_option maxRecDepth 100000 in
theorem MX12_shift_d0 : k_dec cX12_shift MX12_shift_t0 = true := by decide +kernel
def MX12_shift_t1 : List (List (Nat × Instr × Nat)) := [[(86, .iaload, 1), (87, .iload 5, 2), (89, .isub, 1), (90, .if_icmp .gt 17, 3), (93, .iload 4, 2), (95, .aload_n 0, 1), (96, .getfield 107, 3), (99, .iload_n 3, 1), (100, .iaload, 1), (101, .iload 5, 2), (103, .isub, 1), (104, .if_icmp .le 6, 3), (107, .bipush (-13), 2), (109, .ireturn, 1), (110, .iconst 0, 1), (111, .istore 6, 2)], [(113, .iload 6, 2), (115, .iload 5, 2), (117, .if_icmp .ge 30, 3), (120, .aload_n 0, 1), (121, .getfield 114, 3), (124, .iload 6, 2), (126, .aload_n 0, 1), (127, .getfield 110, 3), (130, .bipush 60, 2), (132, .iload_n 1, 1), (133, .imul, 1), (134, .iload_n 2, 1), (135, .iadd, 1), (136, .iload 6, 2), (138, .iadd, 1), (139, .laload, 1)], [(140, .lastore, 1), (141, .iinc 6 1, 3), (144, .goto (-31), 3), (147, .iconst 0, 1), (148, .istore 6, 2), (150, .iload 6, 2), (152, .iload 5, 2), (154, .if_icmp .ge 31, 3), (157, .aload_n 0, 1), (158, .getfield 110, 3), (161, .bipush 60, 2), (163, .iload_n 3, 1), (164, .imul, 1), (165, .iload 4, 2), (167, .iadd, 1), (168, .iload 6, 2)]]
set_option maxRecDepth 100000 in
theorem MX12_shift_d1 : k_dec cX12_shift MX12_shift_t1 = true := by decide +kernel
def MX12_shift_t2 : List (List (Nat × Instr × Nat)) := [[(170, .iadd, 1), (171, .aload_n 0, 1), (172, .getfield 114, 3), (175, .iload 6, 2), (177, .laload, 1), (178, .lastore, 1), (179, .iinc 6 1, 3), (182, .goto (-32), 3), (185, .iload 5, 2), (187, .ireturn, 1)]]
set_option maxRecDepth 100000 in
theorem MX12_shift_d2 : k_dec cX12_shift MX12_shift_t2 = true := by decide +kernel
def MX12_shift : k_M := (yX12_shift, cX12_shift, 7, (some .int), MX12_shift_t0 ++ (MX12_shift_t1 ++ (MX12_shift_t2)))
theorem MX12_shift_dec : k_dec MX12_shift.2.1 MX12_shift.2.2.2.2 = true := k_dec_app MX12_shift_d0 (k_dec_app MX12_shift_d1 (MX12_shift_d2))
def MX12_taken : k_M := (yX12_taken, cX12_taken, 3, (some .int), [[(0, .iload_n 1, 1), (1, .invokestatic 272, 3), (4, .ifCond .eq 13, 3), (7, .iload_n 2, 1), (8, .iconst 0, 1), (9, .bipush 7, 2), (11, .invokestatic 120, 3), (14, .ifCond .ne 5, 3), (17, .iconst (-1), 1), (18, .ireturn, 1), (19, .aload_n 0, 1), (20, .getfield 104, 3), (23, .iload_n 1, 1), (24, .iaload, 1), (25, .iconst (-1), 1), (26, .if_icmp .ne 6, 3)], [(29, .bipush (-11), 2), (31, .ireturn, 1), (32, .aload_n 0, 1), (33, .getfield 104, 3), (36, .iload_n 1, 1), (37, .iaload, 1), (38, .ifCond .lt 35, 3), (41, .aload_n 0, 1), (42, .getfield 98, 3), (45, .aload_n 0, 1), (46, .getfield 104, 3), (49, .iload_n 1, 1), (50, .iaload, 1), (51, .iaload, 1), (52, .iload_n 2, 1), (53, .invokestatic 309, 3)], [(56, .ifCond .eq 17, 3), (59, .aload_n 0, 1), (60, .getfield 98, 3), (63, .aload_n 0, 1), (64, .getfield 104, 3), (67, .iload_n 1, 1), (68, .iaload, 1), (69, .iaload, 1), (70, .goto 5, 3), (73, .bipush (-12), 2), (75, .ireturn, 1)]])
set_option maxRecDepth 100000 in
theorem MX12_taken_dec : k_dec MX12_taken.2.1 MX12_taken.2.2.2.2 = true := by decide +kernel
def MJ6_bitCount_0f7a4 : k_M := (yJ6_bitCount_0f7a4, cJ6_bitCount_0f7a4, 1, (some .int), [[(0, .iload_n 0, 1), (1, .iload_n 0, 1), (2, .iconst 1, 1), (3, .iushr, 1), (4, .ldc_w 265, 3), (7, .iand, 1), (8, .isub, 1), (9, .istore_n 0, 1), (10, .iload_n 0, 1), (11, .ldc_w 266, 3), (14, .iand, 1), (15, .iload_n 0, 1), (16, .iconst 2, 1), (17, .iushr, 1), (18, .ldc_w 266, 3), (21, .iand, 1)], [(22, .iadd, 1), (23, .istore_n 0, 1), (24, .iload_n 0, 1), (25, .iload_n 0, 1), (26, .iconst 4, 1), (27, .iushr, 1), (28, .iadd, 1), (29, .ldc_w 267, 3), (32, .iand, 1), (33, .istore_n 0, 1), (34, .iload_n 0, 1), (35, .iload_n 0, 1), (36, .bipush 8, 2), (38, .iushr, 1), (39, .iadd, 1), (40, .istore_n 0, 1)], [(41, .iload_n 0, 1), (42, .iload_n 0, 1), (43, .bipush 16, 2), (45, .iushr, 1), (46, .iadd, 1), (47, .istore_n 0, 1), (48, .iload_n 0, 1), (49, .bipush 63, 2), (51, .iand, 1), (52, .ireturn, 1)]])
set_option maxRecDepth 100000 in
theorem MJ6_bitCount_0f7a4_dec : k_dec MJ6_bitCount_0f7a4.2.1 MJ6_bitCount_0f7a4.2.2.2.2 = true := by decide +kernel
def MJ9_max_7cf53 : k_M := (yJ9_max_7cf53, cJ9_max_7cf53, 2, (some .int), [[(0, .iload_n 0, 1), (1, .iload_n 1, 1), (2, .if_icmp .lt 7, 3), (5, .iload_n 0, 1), (6, .goto 4, 3), (9, .iload_n 1, 1), (10, .ireturn, 1)]])
set_option maxRecDepth 100000 in
theorem MJ9_max_7cf53_dec : k_dec MJ9_max_7cf53.2.1 MJ9_max_7cf53.2.2.2.2 = true := by decide +kernel
def ML_law_t0 : List (List (Nat × Instr × Nat)) := [[(0, .new 7, 3), (3, .dup, 1), (4, .invokespecial 9, 3), (7, .astore_n 1, 1), (8, .new 10, 3), (11, .dup, 1), (12, .invokespecial 12, 3), (15, .astore_n 2, 1), (16, .iconst 0, 1), (17, .istore_n 3, 1), (18, .iload_n 3, 1), (19, .aload_n 0, 1), (20, .arraylength, 1), (21, .bipush 6, 2), (23, .isub, 1), (24, .if_icmp .gt 1351, 3)], [(27, .aload_n 0, 1), (28, .iload_n 3, 1), (29, .iaload, 1), (30, .bipush 63, 2), (32, .iand, 1), (33, .tableswitch 1336 0 39 #[175, 198, 211, 224, 257, 290, 333, 366, 389, 422, 455, 468, 501, 534, 577, 620, 643, 666, 699, 732, 775, 788, 801, 824, 847, 870, 893, 906, 919, 932, 945, 968, 1011, 1034, 1067, 1110, 1183, 1217, 1280, 1313], 175), (208, .aload_n 1, 1), (209, .aload_n 0, 1), (210, .iload_n 3, 1), (211, .iconst 1, 1), (212, .iadd, 1), (213, .iaload, 1), (214, .invokevirtual 13, 3), (217, .aload_n 2, 1), (218, .aload_n 0, 1), (219, .iload_n 3, 1)], [(220, .iconst 1, 1), (221, .iadd, 1), (222, .iaload, 1), (223, .invokevirtual 17, 3), (226, .if_icmp .eq 1143, 3), (229, .iconst 0, 1), (230, .ireturn, 1), (231, .aload_n 1, 1), (232, .invokevirtual 18, 3), (235, .aload_n 2, 1), (236, .invokevirtual 22, 3), (239, .if_icmp .eq 1130, 3), (242, .iconst 0, 1), (243, .ireturn, 1), (244, .aload_n 1, 1), (245, .invokevirtual 23, 3)]]
set_option maxRecDepth 100000 in
theorem ML_law_d0 : k_dec code ML_law_t0 = true := by decide +kernel
def ML_law_t1 : List (List (Nat × Instr × Nat)) := [[(248, .aload_n 2, 1), (249, .invokevirtual 26, 3), (252, .if_icmp .eq 1117, 3), (255, .iconst 0, 1), (256, .ireturn, 1), (257, .aload_n 1, 1), (258, .aload_n 0, 1), (259, .iload_n 3, 1), (260, .iconst 1, 1), (261, .iadd, 1), (262, .iaload, 1), (263, .aload_n 0, 1), (264, .iload_n 3, 1), (265, .iconst 2, 1), (266, .iadd, 1), (267, .iaload, 1)], [(268, .invokevirtual 27, 3), (271, .aload_n 2, 1), (272, .aload_n 0, 1), (273, .iload_n 3, 1), (274, .iconst 1, 1), (275, .iadd, 1), (276, .iaload, 1), (277, .aload_n 0, 1), (278, .iload_n 3, 1), (279, .iconst 2, 1), (280, .iadd, 1), (281, .iaload, 1), (282, .invokevirtual 31, 3), (285, .if_icmp .eq 1084, 3), (288, .iconst 0, 1), (289, .ireturn, 1)], [(290, .aload_n 1, 1), (291, .aload_n 0, 1), (292, .iload_n 3, 1), (293, .iconst 1, 1), (294, .iadd, 1), (295, .iaload, 1), (296, .aload_n 0, 1), (297, .iload_n 3, 1), (298, .iconst 2, 1), (299, .iadd, 1), (300, .iaload, 1), (301, .invokevirtual 32, 3), (304, .aload_n 2, 1), (305, .aload_n 0, 1), (306, .iload_n 3, 1), (307, .iconst 1, 1)]]
set_option maxRecDepth 100000 in
theorem ML_law_d1 : k_dec code ML_law_t1 = true := by decide +kernel
def ML_law_t2 : List (List (Nat × Instr × Nat)) := [[(308, .iadd, 1), (309, .iaload, 1), (310, .aload_n 0, 1), (311, .iload_n 3, 1), (312, .iconst 2, 1), (313, .iadd, 1), (314, .iaload, 1), (315, .invokevirtual 35, 3), (318, .if_icmp .eq 1051, 3), (321, .iconst 0, 1), (322, .ireturn, 1), (323, .aload_n 1, 1), (324, .aload_n 0, 1), (325, .iload_n 3, 1), (326, .iconst 1, 1), (327, .iadd, 1)], [(328, .iaload, 1), (329, .aload_n 0, 1), (330, .iload_n 3, 1), (331, .iconst 2, 1), (332, .iadd, 1), (333, .iaload, 1), (334, .aload_n 0, 1), (335, .iload_n 3, 1), (336, .iconst 3, 1), (337, .iadd, 1), (338, .iaload, 1), (339, .invokevirtual 36, 3), (342, .aload_n 2, 1), (343, .aload_n 0, 1), (344, .iload_n 3, 1), (345, .iconst 1, 1)], [(346, .iadd, 1), (347, .iaload, 1), (348, .aload_n 0, 1), (349, .iload_n 3, 1), (350, .iconst 2, 1), (351, .iadd, 1), (352, .iaload, 1), (353, .aload_n 0, 1), (354, .iload_n 3, 1), (355, .iconst 3, 1), (356, .iadd, 1), (357, .iaload, 1), (358, .invokevirtual 40, 3), (361, .if_icmp .eq 1008, 3), (364, .iconst 0, 1), (365, .ireturn, 1)]]
set_option maxRecDepth 100000 in
theorem ML_law_d2 : k_dec code ML_law_t2 = true := by decide +kernel
def ML_law_t3 : List (List (Nat × Instr × Nat)) := [[(366, .aload_n 1, 1), (367, .aload_n 0, 1), (368, .iload_n 3, 1), (369, .iconst 1, 1), (370, .iadd, 1), (371, .iaload, 1), (372, .aload_n 0, 1), (373, .iload_n 3, 1), (374, .iconst 2, 1), (375, .iadd, 1), (376, .iaload, 1), (377, .invokevirtual 41, 3), (380, .aload_n 2, 1), (381, .aload_n 0, 1), (382, .iload_n 3, 1), (383, .iconst 1, 1)], [(384, .iadd, 1), (385, .iaload, 1), (386, .aload_n 0, 1), (387, .iload_n 3, 1), (388, .iconst 2, 1), (389, .iadd, 1), (390, .iaload, 1), (391, .invokevirtual 44, 3), (394, .if_icmp .eq 975, 3), (397, .iconst 0, 1), (398, .ireturn, 1), (399, .aload_n 1, 1), (400, .aload_n 0, 1), (401, .iload_n 3, 1), (402, .iconst 1, 1), (403, .iadd, 1)], [(404, .iaload, 1), (405, .invokevirtual 45, 3), (408, .aload_n 2, 1), (409, .aload_n 0, 1), (410, .iload_n 3, 1), (411, .iconst 1, 1), (412, .iadd, 1), (413, .iaload, 1), (414, .invokevirtual 48, 3), (417, .if_icmp .eq 952, 3), (420, .iconst 0, 1), (421, .ireturn, 1), (422, .aload_n 1, 1), (423, .aload_n 0, 1), (424, .iload_n 3, 1), (425, .iconst 1, 1)]]
set_option maxRecDepth 100000 in
theorem ML_law_d3 : k_dec code ML_law_t3 = true := by decide +kernel
def ML_law_t4 : List (List (Nat × Instr × Nat)) := [[(426, .iadd, 1), (427, .iaload, 1), (428, .aload_n 0, 1), (429, .iload_n 3, 1), (430, .iconst 2, 1), (431, .iadd, 1), (432, .iaload, 1), (433, .invokevirtual 49, 3), (436, .aload_n 2, 1), (437, .aload_n 0, 1), (438, .iload_n 3, 1), (439, .iconst 1, 1), (440, .iadd, 1), (441, .iaload, 1), (442, .aload_n 0, 1), (443, .iload_n 3, 1)], [(444, .iconst 2, 1), (445, .iadd, 1), (446, .iaload, 1), (447, .invokevirtual 52, 3), (450, .if_icmp .eq 919, 3), (453, .iconst 0, 1), (454, .ireturn, 1), (455, .aload_n 1, 1), (456, .aload_n 0, 1), (457, .iload_n 3, 1), (458, .iconst 1, 1), (459, .iadd, 1), (460, .iaload, 1), (461, .aload_n 0, 1), (462, .iload_n 3, 1), (463, .iconst 2, 1)], [(464, .iadd, 1), (465, .iaload, 1), (466, .invokevirtual 53, 3), (469, .aload_n 2, 1), (470, .aload_n 0, 1), (471, .iload_n 3, 1), (472, .iconst 1, 1), (473, .iadd, 1), (474, .iaload, 1), (475, .aload_n 0, 1), (476, .iload_n 3, 1), (477, .iconst 2, 1), (478, .iadd, 1), (479, .iaload, 1), (480, .invokevirtual 56, 3), (483, .if_icmp .eq 886, 3)]]
set_option maxRecDepth 100000 in
theorem ML_law_d4 : k_dec code ML_law_t4 = true := by decide +kernel
def ML_law_t5 : List (List (Nat × Instr × Nat)) := [[(486, .iconst 0, 1), (487, .ireturn, 1), (488, .aload_n 1, 1), (489, .invokevirtual 57, 3), (492, .aload_n 2, 1), (493, .invokevirtual 60, 3), (496, .if_icmp .eq 873, 3), (499, .iconst 0, 1), (500, .ireturn, 1), (501, .aload_n 1, 1), (502, .aload_n 0, 1), (503, .iload_n 3, 1), (504, .iconst 1, 1), (505, .iadd, 1), (506, .iaload, 1), (507, .aload_n 0, 1)], [(508, .iload_n 3, 1), (509, .iconst 2, 1), (510, .iadd, 1), (511, .iaload, 1), (512, .invokevirtual 61, 3), (515, .aload_n 2, 1), (516, .aload_n 0, 1), (517, .iload_n 3, 1), (518, .iconst 1, 1), (519, .iadd, 1), (520, .iaload, 1), (521, .aload_n 0, 1), (522, .iload_n 3, 1), (523, .iconst 2, 1), (524, .iadd, 1), (525, .iaload, 1)], [(526, .invokevirtual 64, 3), (529, .if_icmp .eq 840, 3), (532, .iconst 0, 1), (533, .ireturn, 1), (534, .aload_n 1, 1), (535, .aload_n 0, 1), (536, .iload_n 3, 1), (537, .iconst 1, 1), (538, .iadd, 1), (539, .iaload, 1), (540, .aload_n 0, 1), (541, .iload_n 3, 1), (542, .iconst 2, 1), (543, .iadd, 1), (544, .iaload, 1), (545, .invokevirtual 65, 3)]]
set_option maxRecDepth 100000 in
theorem ML_law_d5 : k_dec code ML_law_t5 = true := by decide +kernel
def ML_law_t6 : List (List (Nat × Instr × Nat)) := [[(548, .aload_n 2, 1), (549, .aload_n 0, 1), (550, .iload_n 3, 1), (551, .iconst 1, 1), (552, .iadd, 1), (553, .iaload, 1), (554, .aload_n 0, 1), (555, .iload_n 3, 1), (556, .iconst 2, 1), (557, .iadd, 1), (558, .iaload, 1), (559, .invokevirtual 68, 3), (562, .if_icmp .eq 807, 3), (565, .iconst 0, 1), (566, .ireturn, 1), (567, .aload_n 1, 1)], [(568, .aload_n 0, 1), (569, .iload_n 3, 1), (570, .iconst 1, 1), (571, .iadd, 1), (572, .iaload, 1), (573, .aload_n 0, 1), (574, .iload_n 3, 1), (575, .iconst 2, 1), (576, .iadd, 1), (577, .iaload, 1), (578, .aload_n 0, 1), (579, .iload_n 3, 1), (580, .iconst 3, 1), (581, .iadd, 1), (582, .iaload, 1), (583, .invokevirtual 69, 3)], [(586, .aload_n 2, 1), (587, .aload_n 0, 1), (588, .iload_n 3, 1), (589, .iconst 1, 1), (590, .iadd, 1), (591, .iaload, 1), (592, .aload_n 0, 1), (593, .iload_n 3, 1), (594, .iconst 2, 1), (595, .iadd, 1), (596, .iaload, 1), (597, .aload_n 0, 1), (598, .iload_n 3, 1), (599, .iconst 3, 1), (600, .iadd, 1), (601, .iaload, 1)]]
set_option maxRecDepth 100000 in
theorem ML_law_d6 : k_dec code ML_law_t6 = true := by decide +kernel
def ML_law_t7 : List (List (Nat × Instr × Nat)) := [[(602, .invokevirtual 72, 3), (605, .if_icmp .eq 764, 3), (608, .iconst 0, 1), (609, .ireturn, 1), (610, .aload_n 1, 1), (611, .aload_n 0, 1), (612, .iload_n 3, 1), (613, .iconst 1, 1), (614, .iadd, 1), (615, .iaload, 1), (616, .aload_n 0, 1), (617, .iload_n 3, 1), (618, .iconst 2, 1), (619, .iadd, 1), (620, .iaload, 1), (621, .aload_n 0, 1)], [(622, .iload_n 3, 1), (623, .iconst 3, 1), (624, .iadd, 1), (625, .iaload, 1), (626, .invokevirtual 73, 3), (629, .aload_n 2, 1), (630, .aload_n 0, 1), (631, .iload_n 3, 1), (632, .iconst 1, 1), (633, .iadd, 1), (634, .iaload, 1), (635, .aload_n 0, 1), (636, .iload_n 3, 1), (637, .iconst 2, 1), (638, .iadd, 1), (639, .iaload, 1)], [(640, .aload_n 0, 1), (641, .iload_n 3, 1), (642, .iconst 3, 1), (643, .iadd, 1), (644, .iaload, 1), (645, .invokevirtual 76, 3), (648, .if_icmp .eq 721, 3), (651, .iconst 0, 1), (652, .ireturn, 1), (653, .aload_n 1, 1), (654, .aload_n 0, 1), (655, .iload_n 3, 1), (656, .iconst 1, 1), (657, .iadd, 1), (658, .iaload, 1), (659, .invokevirtual 77, 3)]]
set_option maxRecDepth 100000 in
theorem ML_law_d7 : k_dec code ML_law_t7 = true := by decide +kernel
def ML_law_t8 : List (List (Nat × Instr × Nat)) := [[(662, .aload_n 2, 1), (663, .aload_n 0, 1), (664, .iload_n 3, 1), (665, .iconst 1, 1), (666, .iadd, 1), (667, .iaload, 1), (668, .invokevirtual 80, 3), (671, .if_icmp .eq 698, 3), (674, .iconst 0, 1), (675, .ireturn, 1), (676, .aload_n 1, 1), (677, .aload_n 0, 1), (678, .iload_n 3, 1), (679, .iconst 1, 1), (680, .iadd, 1), (681, .iaload, 1)], [(682, .invokevirtual 81, 3), (685, .aload_n 2, 1), (686, .aload_n 0, 1), (687, .iload_n 3, 1), (688, .iconst 1, 1), (689, .iadd, 1), (690, .iaload, 1), (691, .invokevirtual 84, 3), (694, .if_icmp .eq 675, 3), (697, .iconst 0, 1), (698, .ireturn, 1), (699, .aload_n 1, 1), (700, .aload_n 0, 1), (701, .iload_n 3, 1), (702, .iconst 1, 1), (703, .iadd, 1)], [(704, .iaload, 1), (705, .aload_n 0, 1), (706, .iload_n 3, 1), (707, .iconst 2, 1), (708, .iadd, 1), (709, .iaload, 1), (710, .invokevirtual 85, 3), (713, .aload_n 2, 1), (714, .aload_n 0, 1), (715, .iload_n 3, 1), (716, .iconst 1, 1), (717, .iadd, 1), (718, .iaload, 1), (719, .aload_n 0, 1), (720, .iload_n 3, 1), (721, .iconst 2, 1)]]
set_option maxRecDepth 100000 in
theorem ML_law_d8 : k_dec code ML_law_t8 = true := by decide +kernel
def ML_law_t9 : List (List (Nat × Instr × Nat)) := [[(722, .iadd, 1), (723, .iaload, 1), (724, .invokevirtual 88, 3), (727, .if_icmp .eq 642, 3), (730, .iconst 0, 1), (731, .ireturn, 1), (732, .aload_n 1, 1), (733, .aload_n 0, 1), (734, .iload_n 3, 1), (735, .iconst 1, 1), (736, .iadd, 1), (737, .iaload, 1), (738, .aload_n 0, 1), (739, .iload_n 3, 1), (740, .iconst 2, 1), (741, .iadd, 1)], [(742, .iaload, 1), (743, .invokevirtual 89, 3), (746, .aload_n 2, 1), (747, .aload_n 0, 1), (748, .iload_n 3, 1), (749, .iconst 1, 1), (750, .iadd, 1), (751, .iaload, 1), (752, .aload_n 0, 1), (753, .iload_n 3, 1), (754, .iconst 2, 1), (755, .iadd, 1), (756, .iaload, 1), (757, .invokevirtual 92, 3), (760, .if_icmp .eq 609, 3), (763, .iconst 0, 1)], [(764, .ireturn, 1), (765, .aload_n 1, 1), (766, .aload_n 0, 1), (767, .iload_n 3, 1), (768, .iconst 1, 1), (769, .iadd, 1), (770, .iaload, 1), (771, .aload_n 0, 1), (772, .iload_n 3, 1), (773, .iconst 2, 1), (774, .iadd, 1), (775, .iaload, 1), (776, .aload_n 0, 1), (777, .iload_n 3, 1), (778, .iconst 3, 1), (779, .iadd, 1)]]
set_option maxRecDepth 100000 in
theorem ML_law_d9 : k_dec code ML_law_t9 = true := by decide +kernel
def ML_law_t10 : List (List (Nat × Instr × Nat)) := [[(780, .iaload, 1), (781, .invokevirtual 93, 3), (784, .aload_n 2, 1), (785, .aload_n 0, 1), (786, .iload_n 3, 1), (787, .iconst 1, 1), (788, .iadd, 1), (789, .iaload, 1), (790, .aload_n 0, 1), (791, .iload_n 3, 1), (792, .iconst 2, 1), (793, .iadd, 1), (794, .iaload, 1), (795, .aload_n 0, 1), (796, .iload_n 3, 1), (797, .iconst 3, 1)], [(798, .iadd, 1), (799, .iaload, 1), (800, .invokevirtual 96, 3), (803, .if_icmp .eq 566, 3), (806, .iconst 0, 1), (807, .ireturn, 1), (808, .aload_n 1, 1), (809, .invokevirtual 97, 3), (812, .aload_n 2, 1), (813, .invokevirtual 100, 3), (816, .if_icmp .eq 553, 3), (819, .iconst 0, 1), (820, .ireturn, 1), (821, .aload_n 1, 1), (822, .invokevirtual 101, 3), (825, .aload_n 2, 1)], [(826, .invokevirtual 104, 3), (829, .if_icmp .eq 540, 3), (832, .iconst 0, 1), (833, .ireturn, 1), (834, .aload_n 1, 1), (835, .aload_n 0, 1), (836, .iload_n 3, 1), (837, .iconst 1, 1), (838, .iadd, 1), (839, .iaload, 1), (840, .invokevirtual 105, 3), (843, .aload_n 2, 1), (844, .aload_n 0, 1), (845, .iload_n 3, 1), (846, .iconst 1, 1), (847, .iadd, 1)]]
set_option maxRecDepth 100000 in
theorem ML_law_d10 : k_dec code ML_law_t10 = true := by decide +kernel
def ML_law_t11 : List (List (Nat × Instr × Nat)) := [[(848, .iaload, 1), (849, .invokevirtual 108, 3), (852, .if_icmp .eq 517, 3), (855, .iconst 0, 1), (856, .ireturn, 1), (857, .aload_n 1, 1), (858, .aload_n 0, 1), (859, .iload_n 3, 1), (860, .iconst 1, 1), (861, .iadd, 1), (862, .iaload, 1), (863, .invokevirtual 109, 3), (866, .aload_n 2, 1), (867, .aload_n 0, 1), (868, .iload_n 3, 1), (869, .iconst 1, 1)], [(870, .iadd, 1), (871, .iaload, 1), (872, .invokevirtual 112, 3), (875, .if_icmp .eq 494, 3), (878, .iconst 0, 1), (879, .ireturn, 1), (880, .aload_n 1, 1), (881, .aload_n 0, 1), (882, .iload_n 3, 1), (883, .iconst 1, 1), (884, .iadd, 1), (885, .iaload, 1), (886, .invokevirtual 113, 3), (889, .aload_n 2, 1), (890, .aload_n 0, 1), (891, .iload_n 3, 1)], [(892, .iconst 1, 1), (893, .iadd, 1), (894, .iaload, 1), (895, .invokevirtual 116, 3), (898, .if_icmp .eq 471, 3), (901, .iconst 0, 1), (902, .ireturn, 1), (903, .aload_n 1, 1), (904, .aload_n 0, 1), (905, .iload_n 3, 1), (906, .iconst 1, 1), (907, .iadd, 1), (908, .iaload, 1), (909, .invokevirtual 117, 3), (912, .aload_n 2, 1), (913, .aload_n 0, 1)]]
set_option maxRecDepth 100000 in
theorem ML_law_d11 : k_dec code ML_law_t11 = true := by decide +kernel
def ML_law_t12 : List (List (Nat × Instr × Nat)) := [[(914, .iload_n 3, 1), (915, .iconst 1, 1), (916, .iadd, 1), (917, .iaload, 1), (918, .invokevirtual 120, 3), (921, .if_icmp .eq 448, 3), (924, .iconst 0, 1), (925, .ireturn, 1), (926, .aload_n 1, 1), (927, .invokevirtual 121, 3), (930, .aload_n 2, 1), (931, .invokevirtual 124, 3), (934, .if_icmp .eq 435, 3), (937, .iconst 0, 1), (938, .ireturn, 1), (939, .aload_n 1, 1)], [(940, .invokevirtual 125, 3), (943, .aload_n 2, 1), (944, .invokevirtual 128, 3), (947, .if_icmp .eq 422, 3), (950, .iconst 0, 1), (951, .ireturn, 1), (952, .aload_n 1, 1), (953, .invokevirtual 129, 3), (956, .aload_n 2, 1), (957, .invokevirtual 132, 3), (960, .if_icmp .eq 409, 3), (963, .iconst 0, 1), (964, .ireturn, 1), (965, .aload_n 1, 1), (966, .invokevirtual 133, 3), (969, .aload_n 2, 1)], [(970, .invokevirtual 136, 3), (973, .if_icmp .eq 396, 3), (976, .iconst 0, 1), (977, .ireturn, 1), (978, .aload_n 1, 1), (979, .aload_n 0, 1), (980, .iload_n 3, 1), (981, .iconst 1, 1), (982, .iadd, 1), (983, .iaload, 1), (984, .invokevirtual 137, 3), (987, .aload_n 2, 1), (988, .aload_n 0, 1), (989, .iload_n 3, 1), (990, .iconst 1, 1), (991, .iadd, 1)]]
set_option maxRecDepth 100000 in
theorem ML_law_d12 : k_dec code ML_law_t12 = true := by decide +kernel
def ML_law_t13 : List (List (Nat × Instr × Nat)) := [[(992, .iaload, 1), (993, .invokevirtual 140, 3), (996, .if_icmp .eq 373, 3), (999, .iconst 0, 1), (1000, .ireturn, 1), (1001, .aload_n 1, 1), (1002, .aload_n 0, 1), (1003, .iload_n 3, 1), (1004, .iconst 1, 1), (1005, .iadd, 1), (1006, .iaload, 1), (1007, .aload_n 0, 1), (1008, .iload_n 3, 1), (1009, .iconst 2, 1), (1010, .iadd, 1), (1011, .iaload, 1)], [(1012, .aload_n 0, 1), (1013, .iload_n 3, 1), (1014, .iconst 3, 1), (1015, .iadd, 1), (1016, .iaload, 1), (1017, .invokevirtual 141, 3), (1020, .aload_n 2, 1), (1021, .aload_n 0, 1), (1022, .iload_n 3, 1), (1023, .iconst 1, 1), (1024, .iadd, 1), (1025, .iaload, 1), (1026, .aload_n 0, 1), (1027, .iload_n 3, 1), (1028, .iconst 2, 1), (1029, .iadd, 1)], [(1030, .iaload, 1), (1031, .aload_n 0, 1), (1032, .iload_n 3, 1), (1033, .iconst 3, 1), (1034, .iadd, 1), (1035, .iaload, 1), (1036, .invokevirtual 144, 3), (1039, .if_icmp .eq 330, 3), (1042, .iconst 0, 1), (1043, .ireturn, 1), (1044, .aload_n 1, 1), (1045, .aload_n 0, 1), (1046, .iload_n 3, 1), (1047, .iconst 1, 1), (1048, .iadd, 1), (1049, .iaload, 1)]]
set_option maxRecDepth 100000 in
theorem ML_law_d13 : k_dec code ML_law_t13 = true := by decide +kernel
def ML_law_t14 : List (List (Nat × Instr × Nat)) := [[(1050, .invokevirtual 145, 3), (1053, .aload_n 2, 1), (1054, .aload_n 0, 1), (1055, .iload_n 3, 1), (1056, .iconst 1, 1), (1057, .iadd, 1), (1058, .iaload, 1), (1059, .invokevirtual 148, 3), (1062, .if_icmp .eq 307, 3), (1065, .iconst 0, 1), (1066, .ireturn, 1), (1067, .aload_n 1, 1), (1068, .aload_n 0, 1), (1069, .iload_n 3, 1), (1070, .iconst 1, 1), (1071, .iadd, 1)], [(1072, .iaload, 1), (1073, .aload_n 0, 1), (1074, .iload_n 3, 1), (1075, .iconst 2, 1), (1076, .iadd, 1), (1077, .iaload, 1), (1078, .invokevirtual 149, 3), (1081, .aload_n 2, 1), (1082, .aload_n 0, 1), (1083, .iload_n 3, 1), (1084, .iconst 1, 1), (1085, .iadd, 1), (1086, .iaload, 1), (1087, .aload_n 0, 1), (1088, .iload_n 3, 1), (1089, .iconst 2, 1)], [(1090, .iadd, 1), (1091, .iaload, 1), (1092, .invokevirtual 152, 3), (1095, .if_icmp .eq 274, 3), (1098, .iconst 0, 1), (1099, .ireturn, 1), (1100, .aload_n 1, 1), (1101, .aload_n 0, 1), (1102, .iload_n 3, 1), (1103, .iconst 1, 1), (1104, .iadd, 1), (1105, .iaload, 1), (1106, .aload_n 0, 1), (1107, .iload_n 3, 1), (1108, .iconst 2, 1), (1109, .iadd, 1)]]
set_option maxRecDepth 100000 in
theorem ML_law_d14 : k_dec code ML_law_t14 = true := by decide +kernel
def ML_law_t15 : List (List (Nat × Instr × Nat)) := [[(1110, .iaload, 1), (1111, .aload_n 0, 1), (1112, .iload_n 3, 1), (1113, .iconst 3, 1), (1114, .iadd, 1), (1115, .iaload, 1), (1116, .invokevirtual 153, 3), (1119, .aload_n 2, 1), (1120, .aload_n 0, 1), (1121, .iload_n 3, 1), (1122, .iconst 1, 1), (1123, .iadd, 1), (1124, .iaload, 1), (1125, .aload_n 0, 1), (1126, .iload_n 3, 1), (1127, .iconst 2, 1)], [(1128, .iadd, 1), (1129, .iaload, 1), (1130, .aload_n 0, 1), (1131, .iload_n 3, 1), (1132, .iconst 3, 1), (1133, .iadd, 1), (1134, .iaload, 1), (1135, .invokevirtual 156, 3), (1138, .if_icmp .eq 231, 3), (1141, .iconst 0, 1), (1142, .ireturn, 1), (1143, .aload_n 1, 1), (1144, .aload_n 0, 1), (1145, .iload_n 3, 1), (1146, .iconst 1, 1), (1147, .iadd, 1)], [(1148, .iaload, 1), (1149, .aload_n 0, 1), (1150, .iload_n 3, 1), (1151, .iconst 2, 1), (1152, .iadd, 1), (1153, .iaload, 1), (1154, .aload_n 0, 1), (1155, .iload_n 3, 1), (1156, .iconst 3, 1), (1157, .iadd, 1), (1158, .iaload, 1), (1159, .i2l, 1), (1160, .bipush 32, 2), (1162, .lshl, 1), (1163, .aload_n 0, 1), (1164, .iload_n 3, 1)]]
set_option maxRecDepth 100000 in
theorem ML_law_d15 : k_dec code ML_law_t15 = true := by decide +kernel
def ML_law_t16 : List (List (Nat × Instr × Nat)) := [[(1165, .iconst 4, 1), (1166, .iadd, 1), (1167, .iaload, 1), (1168, .i2l, 1), (1169, .ldc2_w 157, 3), (1172, .land, 1), (1173, .lor, 1), (1174, .invokevirtual 159, 3), (1177, .aload_n 2, 1), (1178, .aload_n 0, 1), (1179, .iload_n 3, 1), (1180, .iconst 1, 1), (1181, .iadd, 1), (1182, .iaload, 1), (1183, .aload_n 0, 1), (1184, .iload_n 3, 1)], [(1185, .iconst 2, 1), (1186, .iadd, 1), (1187, .iaload, 1), (1188, .aload_n 0, 1), (1189, .iload_n 3, 1), (1190, .iconst 3, 1), (1191, .iadd, 1), (1192, .iaload, 1), (1193, .i2l, 1), (1194, .bipush 32, 2), (1196, .lshl, 1), (1197, .aload_n 0, 1), (1198, .iload_n 3, 1), (1199, .iconst 4, 1), (1200, .iadd, 1), (1201, .iaload, 1)], [(1202, .i2l, 1), (1203, .ldc2_w 157, 3), (1206, .land, 1), (1207, .lor, 1), (1208, .invokevirtual 163, 3), (1211, .if_icmp .eq 158, 3), (1214, .iconst 0, 1), (1215, .ireturn, 1), (1216, .aload_n 1, 1), (1217, .aload_n 0, 1), (1218, .iload_n 3, 1), (1219, .iconst 1, 1), (1220, .iadd, 1), (1221, .iaload, 1), (1222, .aload_n 0, 1), (1223, .iload_n 3, 1)]]
set_option maxRecDepth 100000 in
theorem ML_law_d16 : k_dec code ML_law_t16 = true := by decide +kernel
def ML_law_t17 : List (List (Nat × Instr × Nat)) := [[(1224, .iconst 2, 1), (1225, .iadd, 1), (1226, .iaload, 1), (1227, .invokevirtual 164, 3), (1230, .aload_n 2, 1), (1231, .aload_n 0, 1), (1232, .iload_n 3, 1), (1233, .iconst 1, 1), (1234, .iadd, 1), (1235, .iaload, 1), (1236, .aload_n 0, 1), (1237, .iload_n 3, 1), (1238, .iconst 2, 1), (1239, .iadd, 1), (1240, .iaload, 1), (1241, .invokevirtual 168, 3)], [(1244, .lcmp, 1), (1245, .ifCond .eq 124, 3), (1248, .iconst 0, 1), (1249, .ireturn, 1), (1250, .aload_n 1, 1), (1251, .aload_n 0, 1), (1252, .iload_n 3, 1), (1253, .iconst 1, 1), (1254, .iadd, 1), (1255, .iaload, 1), (1256, .aload_n 0, 1), (1257, .iload_n 3, 1), (1258, .iconst 2, 1), (1259, .iadd, 1), (1260, .iaload, 1), (1261, .aload_n 0, 1)], [(1262, .iload_n 3, 1), (1263, .iconst 3, 1), (1264, .iadd, 1), (1265, .iaload, 1), (1266, .aload_n 0, 1), (1267, .iload_n 3, 1), (1268, .iconst 4, 1), (1269, .iadd, 1), (1270, .iaload, 1), (1271, .aload_n 0, 1), (1272, .iload_n 3, 1), (1273, .iconst 5, 1), (1274, .iadd, 1), (1275, .iaload, 1), (1276, .invokevirtual 169, 3), (1279, .aload_n 2, 1)]]
set_option maxRecDepth 100000 in
theorem ML_law_d17 : k_dec code ML_law_t17 = true := by decide +kernel
def ML_law_t18 : List (List (Nat × Instr × Nat)) := [[(1280, .aload_n 0, 1), (1281, .iload_n 3, 1), (1282, .iconst 1, 1), (1283, .iadd, 1), (1284, .iaload, 1), (1285, .aload_n 0, 1), (1286, .iload_n 3, 1), (1287, .iconst 2, 1), (1288, .iadd, 1), (1289, .iaload, 1), (1290, .aload_n 0, 1), (1291, .iload_n 3, 1), (1292, .iconst 3, 1), (1293, .iadd, 1), (1294, .iaload, 1), (1295, .aload_n 0, 1)], [(1296, .iload_n 3, 1), (1297, .iconst 4, 1), (1298, .iadd, 1), (1299, .iaload, 1), (1300, .aload_n 0, 1), (1301, .iload_n 3, 1), (1302, .iconst 5, 1), (1303, .iadd, 1), (1304, .iaload, 1), (1305, .invokevirtual 173, 3), (1308, .if_icmp .eq 61, 3), (1311, .iconst 0, 1), (1312, .ireturn, 1), (1313, .aload_n 1, 1), (1314, .aload_n 0, 1), (1315, .iload_n 3, 1)], [(1316, .iconst 1, 1), (1317, .iadd, 1), (1318, .iaload, 1), (1319, .aload_n 0, 1), (1320, .iload_n 3, 1), (1321, .iconst 2, 1), (1322, .iadd, 1), (1323, .iaload, 1), (1324, .invokevirtual 174, 3), (1327, .aload_n 2, 1), (1328, .aload_n 0, 1), (1329, .iload_n 3, 1), (1330, .iconst 1, 1), (1331, .iadd, 1), (1332, .iaload, 1), (1333, .aload_n 0, 1)]]
set_option maxRecDepth 100000 in
theorem ML_law_d18 : k_dec code ML_law_t18 = true := by decide +kernel
def ML_law_t19 : List (List (Nat × Instr × Nat)) := [[(1334, .iload_n 3, 1), (1335, .iconst 2, 1), (1336, .iadd, 1), (1337, .iaload, 1), (1338, .invokevirtual 177, 3), (1341, .if_icmp .eq 28, 3), (1344, .iconst 0, 1), (1345, .ireturn, 1), (1346, .aload_n 1, 1), (1347, .aload_n 0, 1), (1348, .iload_n 3, 1), (1349, .iconst 1, 1), (1350, .iadd, 1), (1351, .iaload, 1), (1352, .invokevirtual 178, 3), (1355, .aload_n 2, 1)], [(1356, .aload_n 0, 1), (1357, .iload_n 3, 1), (1358, .iconst 1, 1), (1359, .iadd, 1), (1360, .iaload, 1), (1361, .invokevirtual 181, 3), (1364, .if_icmp .eq 5, 3), (1367, .iconst 0, 1), (1368, .ireturn, 1), (1369, .iinc 3 6, 3), (1372, .goto (-1354), 3), (1375, .iconst 1, 1), (1376, .ireturn, 1)]]
set_option maxRecDepth 100000 in
theorem ML_law_d19 : k_dec code ML_law_t19 = true := by decide +kernel
def ML_law : k_M := (x, code, 4, some .boolean, ML_law_t0 ++ (ML_law_t1 ++ (ML_law_t2 ++ (ML_law_t3 ++ (ML_law_t4 ++ (ML_law_t5 ++ (ML_law_t6 ++ (ML_law_t7 ++ (ML_law_t8 ++ (ML_law_t9 ++ (ML_law_t10 ++ (ML_law_t11 ++ (ML_law_t12 ++ (ML_law_t13 ++ (ML_law_t14 ++ (ML_law_t15 ++ (ML_law_t16 ++ (ML_law_t17 ++ (ML_law_t18 ++ (ML_law_t19))))))))))))))))))))
theorem ML_law_dec : k_dec ML_law.2.1 ML_law.2.2.2.2 = true := k_dec_app ML_law_d0 (k_dec_app ML_law_d1 (k_dec_app ML_law_d2 (k_dec_app ML_law_d3 (k_dec_app ML_law_d4 (k_dec_app ML_law_d5 (k_dec_app ML_law_d6 (k_dec_app ML_law_d7 (k_dec_app ML_law_d8 (k_dec_app ML_law_d9 (k_dec_app ML_law_d10 (k_dec_app ML_law_d11 (k_dec_app ML_law_d12 (k_dec_app ML_law_d13 (k_dec_app ML_law_d14 (k_dec_app ML_law_d15 (k_dec_app ML_law_d16 (k_dec_app ML_law_d17 (k_dec_app ML_law_d18 (ML_law_d19)))))))))))))))))))
end
section
/-! THE LAYER: what the system is between constructors and calls: numbered cells that never move, ints in fields and arrays by number; a judgement k_W at a place of a method's code; contracts k_OK; partial functions, and k_sat of what they give -/
abbrev k_S : Type := (Nat → Int32) × (Nat → Nat → Int32) × (Nat → Nat → Int64)
def k_wF (u : k_S) (i : Nat) (v : Int32) : k_S := (fun j => if j = i then v else u.1 j, u.2)
def k_wA (u : k_S) (k : Nat) (i : Nat) (v : Int32) : k_S := (u.1, fun c => if c = k then upd (u.2.1 k) i v else u.2.1 c, u.2.2)
def k_wL (u : k_S) (k : Nat) (i : Nat) (v : Int64) : k_S := (u.1, u.2.1, fun c => if c = k then vp_updL (u.2.2 k) i v else u.2.2 c)
/-- launch, first address of the system's cells, addresses, array classes, classes and slots, the script's length and ints -/
abbrev k_G : Type := Launch × Nat × (Nat → Nat) × (Nat → ClassId) × va_G × Nat × (Nat → Int32)
abbrev k_z (g : k_G) : Nat := g.2.1
abbrev k_ad (g : k_G) : Nat → Nat := g.2.2.1
abbrev k_ca (g : k_G) : Nat → ClassId := g.2.2.2.1
abbrev k_D (g : k_G) : va_G := g.2.2.2.2.1
abbrev k_sl (g : k_G) : Nat := g.2.2.2.2.2.1
abbrev k_sx (g : k_G) : Nat → Int32 := g.2.2.2.2.2.2
abbrev k_A (g : k_G) : Nat → Prop := fun q => k_z g ≤ q
def k_fs (g : k_G) (u : k_S) (k : Nat) : Nat → List (Option Nat) → List Value
  | _, [] => []
  | j, some t :: r => .ref (k_ad g t) :: k_fs g u k (j + 1) r
  | j, none :: r => .int (u.1 (100 * k + j)) :: k_fs g u k (j + 1) r
def k_e (g : k_G) (u : k_S) (k : Nat) : k_C → va_E
  | .inl (ci, fs) => .inr (ci, k_fs g u k 0 fs)
  | .inr (_, n, false) => .inl (k_ca g k, n, .inl (u.2.1 k))
  | .inr (_, n, true) => .inl (k_ca g k, n, .inr (.inl (u.2.2 k)))
def k_w (g : k_G) (u : k_S) : Nat → List k_C → va_W
  | _, [] => []
  | k, c :: r => (k_ad g k, k_e g u k c) :: k_w g u (k + 1) r
abbrev k_wd (g : k_G) (u : k_S) : va_W := k_w g u 0 k_lay
def k_tys (g : k_G) : Nat → List k_C → List (ClassId × FieldType)
  | _, [] => []
  | k, .inl _ :: r => k_tys g (k + 1) r
  | k, .inr (ty, _, _) :: r => (k_ca g k, ty) :: k_tys g (k + 1) r
theorem k_fs_get (g : k_G) (u : k_S) (k : Nat) : ∀ (fs : List (Option Nat)) (j0 i : Nat), (k_fs g u k j0 fs)[i]? = (fs[i]?).map (fun f => match f with | some t => .ref (k_ad g t) | none => .int (u.1 (100 * k + (j0 + i))))
  | [], j0, i => by simp [k_fs]
  | some t :: r, j0, 0 => by simp [k_fs]
  | none :: r, j0, 0 => by simp [k_fs]
  | some t :: r, j0, i + 1 => by
    simp only [k_fs, List.getElem?_cons_succ]
    rw [k_fs_get g u k r (j0 + 1) i, show j0 + 1 + i = j0 + (i + 1) by omega]
  | none :: r, j0, i + 1 => by
    simp only [k_fs, List.getElem?_cons_succ]
    rw [k_fs_get g u k r (j0 + 1) i, show j0 + 1 + i = j0 + (i + 1) by omega]
theorem k_w_get (g : k_G) (u : k_S) : ∀ (cs : List k_C) (k0 i : Nat), (k_w g u k0 cs)[i]? = (cs[i]?).map (fun c => (k_ad g (k0 + i), k_e g u (k0 + i) c))
  | [], k0, i => by simp [k_w]
  | c :: r, k0, 0 => by simp [k_w]
  | c :: r, k0, i + 1 => by
    simp only [k_w, List.getElem?_cons_succ]
    rw [k_w_get g u r (k0 + 1) i, show k0 + 1 + i = k0 + (i + 1) by omega]
theorem k_wd_get (g : k_G) (u : k_S) {k : Nat} {c : k_C} (h : k_lay[k]? = some c) : (k_wd g u)[k]? = some (k_ad g k, k_e g u k c) := by
  rw [k_wd, k_w_get, h]; simp
theorem k_tys_get (g : k_G) : ∀ (cs : List k_C) (k0 i : Nat) (ty : FieldType) (n : Nat) (b : Bool), cs[i]? = some (.inr (ty, n, b)) → ∃ t0 : Nat, (k_tys g k0 cs)[t0]? = some (k_ca g (k0 + i), ty)
  | [], k0, i, ty, n, b, h => by simp at h
  | .inl _ :: r, k0, 0, ty, n, b, h => by simp at h
  | .inr (ty', n', b') :: r, k0, 0, ty, n, b, h => by
    simp at h
    exact ⟨0, by simp [k_tys, h.1]⟩
  | .inl _ :: r, k0, i + 1, ty, n, b, h => by
    obtain ⟨t0, h0⟩ := k_tys_get g r (k0 + 1) i ty n b (by simpa using h)
    exact ⟨t0, by rw [show k0 + (i + 1) = k0 + 1 + i by omega]; simpa [k_tys] using h0⟩
  | .inr (ty', n', b') :: r, k0, i + 1, ty, n, b, h => by
    obtain ⟨t0, h0⟩ := k_tys_get g r (k0 + 1) i ty n b (by simpa using h)
    exact ⟨t0 + 1, by rw [show k0 + (i + 1) = k0 + 1 + i by omega]; simpa [k_tys] using h0⟩
/-- fields of an object are fewer than a hundred -/
theorem k_lay_small : ∀ (k : Nat) (ci : Nat) (fs : List (Option Nat)), k_lay[k]? = some (.inl (ci, fs)) → fs.length ≤ 100 := by
  intro k ci fs h
  have h1 : (k_lay.all (fun c => match c with | .inl (_, fs) => decide (fs.length ≤ 100) | .inr _ => true)) = true := by decide +kernel
  have h2 := List.all_eq_true.mp h1 _ (List.mem_of_getElem? h)
  simpa using h2
theorem k_fs_same (g : k_G) (u v : k_S) (k : Nat) (fs : List (Option Nat)) (j0 : Nat) (h : ∀ j, j0 ≤ j → j < j0 + fs.length → u.1 (100 * k + j) = v.1 (100 * k + j)) : k_fs g u k j0 fs = k_fs g v k j0 fs := by
  induction fs generalizing j0 with
  | nil => rfl
  | cons f r ih =>
    have ih' := ih (j0 + 1) (fun j h1 h2 => h j (by omega) (by simp; omega))
    cases f with
    | some t => simp only [k_fs, ih']
    | none => simp only [k_fs, ih', h j0 (Nat.le_refl _) (by simp)]
theorem k_wd_F (g : k_G) (u : k_S) {k j ci : Nat} {fs : List (Option Nat)} (v : Int32) (hk : k_lay[k]? = some (.inl (ci, fs))) (hj : fs[j]? = some none) : k_wd g (k_wF u (100 * k + j) v) = (k_wd g u).set k (k_ad g k, .inr (ci, (k_fs g u k 0 fs).set j (.int v))) := by
  have hjl : j < fs.length := (List.getElem?_eq_some_iff.mp hj).1
  have hj100 : j < 100 := Nat.lt_of_lt_of_le hjl (k_lay_small k ci fs hk)
  apply List.ext_getElem?
  intro i
  rw [List.getElem?_set, k_w_get, k_w_get]
  have hlen : k < (k_wd g u).length := (List.getElem?_eq_some_iff.mp (k_wd_get g u hk)).1
  by_cases hi : k = i
  · subst hi
    rw [if_pos rfl, if_pos hlen, hk]
    simp only [Option.map_some, Nat.zero_add, k_e]
    congr 4
    apply List.ext_getElem?
    intro t
    rw [List.getElem?_set, k_fs_get, k_fs_get]
    have hl2 : j < (k_fs g u k 0 fs).length := by
      have := k_fs_get g u k fs 0 j
      rw [hj] at this
      exact (List.getElem?_eq_some_iff.mp this).1
    by_cases ht : j = t
    · subst ht
      rw [if_pos rfl, if_pos hl2, hj]
      simp [k_wF]
    · rw [if_neg ht]
      cases hft : fs[t]? with
      | none => rfl
      | some f =>
        cases f with
        | some w => rfl
        | none => simp [k_wF, show ¬ t = j by omega]
  · rw [if_neg hi]
    cases hc : k_lay[i]? with
    | none => rfl
    | some c =>
      simp only [Option.map_some, Nat.zero_add]
      match c, hc with
      | .inl (ci', fs'), hc =>
        simp only [k_e]
        have := k_lay_small i ci' fs' hc
        rw [k_fs_same g (k_wF u (100 * k + j) v) u i fs' 0 (fun t _ ht => by simp only [k_wF]; rw [if_neg (by omega)])]
      | .inr (ty, n, false), hc => rfl
      | .inr (ty, n, true), hc => rfl
theorem k_wd_A (g : k_G) (u : k_S) {k n : Nat} {ty : FieldType} (i : Nat) (v : Int32) (hk : k_lay[k]? = some (.inr (ty, n, false))) : k_wd g (k_wA u k i v) = (k_wd g u).set k (k_ad g k, .inl (k_ca g k, n, .inl (upd (u.2.1 k) i v))) := by
  apply List.ext_getElem?
  intro t
  rw [List.getElem?_set, k_w_get, k_w_get]
  have hlen : k < (k_wd g u).length := (List.getElem?_eq_some_iff.mp (k_wd_get g u hk)).1
  by_cases hi : k = t
  · subst hi
    rw [if_pos rfl, if_pos hlen, hk]
    simp [k_e, k_wA]
  · rw [if_neg hi]
    cases hc : k_lay[t]? with
    | none => rfl
    | some c =>
      simp only [Option.map_some, Nat.zero_add]
      match c, hc with
      | .inl (ci', fs'), hc => simp only [k_e]; rw [k_fs_same g (k_wA u k i v) u t fs' 0 (fun _ _ _ => rfl)]
      | .inr (ty, n, false), hc => simp [k_e, k_wA, show ¬ t = k by omega]
      | .inr (ty, n, true), hc => rfl
theorem k_wd_L (g : k_G) (u : k_S) {k n : Nat} {ty : FieldType} (i : Nat) (v : Int64) (hk : k_lay[k]? = some (.inr (ty, n, true))) : k_wd g (k_wL u k i v) = (k_wd g u).set k (k_ad g k, .inl (k_ca g k, n, .inr (.inl (vp_updL (u.2.2 k) i v)))) := by
  apply List.ext_getElem?
  intro t
  rw [List.getElem?_set, k_w_get, k_w_get]
  have hlen : k < (k_wd g u).length := (List.getElem?_eq_some_iff.mp (k_wd_get g u hk)).1
  by_cases hi : k = t
  · subst hi
    rw [if_pos rfl, if_pos hlen, hk]
    simp [k_e, k_wL]
  · rw [if_neg hi]
    cases hc : k_lay[t]? with
    | none => rfl
    | some c =>
      simp only [Option.map_some, Nat.zero_add]
      match c, hc with
      | .inl (ci', fs'), hc => simp only [k_e]; rw [k_fs_same g (k_wL u k i v) u t fs' 0 (fun _ _ _ => rfl)]
      | .inr (ty, n, false), hc => rfl
      | .inr (ty, n, true), hc => simp [k_e, k_wL, show ¬ t = k by omega]
/-- the cells lie apart, from the system's first address on -/
def k_apart (g : k_G) : Prop := ∀ i j, i < k_lay.length → j < k_lay.length → (k_ad g i = k_ad g j → i = j) ∧ k_z g ≤ k_ad g i
theorem k_wd_len (g : k_G) (u : k_S) : ∀ (cs : List k_C) (k0 : Nat), (k_w g u k0 cs).length = cs.length
  | [], _ => rfl
  | c :: r, k0 => by simp [k_w, k_wd_len g u r]
theorem k_wd_D {g : k_G} (h : k_apart g) (u : k_S) : va_D (k_A g) (k_wd g u) := by
  have key : ∀ (k : Nat) (q : Nat × va_E), (k_wd g u)[k]? = some q → k < k_lay.length ∧ q.1 = k_ad g k := by
    intro k q hq
    have hl := (List.getElem?_eq_some_iff.mp hq).1
    rw [k_wd_len] at hl
    rw [k_w_get] at hq
    cases hc : k_lay[k]? with
    | none => rw [hc] at hq; cases hq
    | some c => rw [hc] at hq; simp at hq; exact ⟨hl, by rw [← hq]⟩
  refine ⟨fun i j p q hp hq e => ?_, fun k q hq => ?_⟩
  · obtain ⟨h1, e1⟩ := key i p hp
    obtain ⟨h2, e2⟩ := key j q hq
    exact (h i j h1 h2).1 (by rw [← e1, ← e2]; exact e)
  · obtain ⟨h1, e1⟩ := key k q hq
    show k_z g ≤ q.1
    rw [e1]
    exact (h k k h1 h1).2
def k_t100 (j : Nat) : Int32 := [119, 115, 49].getD j 0
def k_t101 (j : Nat) : Int32 := [119, 115, 102, 49].getD j 0
def k_t102 (j : Nat) : Int32 := [-1, 0, 0, 2, 1, 4, 0, 6].getD j 0
def k_t103 (j : Nat) : Int32 := [1, 10, 11, 2, 20, 0, 0, 0, 0, 30, 0, 0, 0, 41, 40, 0, 0, 0, 0, 50, 0, 0, 60, 61, 70, 0, 0, 0, 81, 80, 0, 0].getD j 0
/-- old arrays of ints that nobody writes: the class's tables and the script -/
def k_st (g : k_G) : Nat → Option (Nat × (Nat → Int32))
  | 100 => some (3, k_t100)
  | 101 => some (4, k_t101)
  | 102 => some (8, k_t102)
  | 103 => some (32, k_t103)
  | 104 => some (g.2.2.2.2.2.1, g.2.2.2.2.2.2)
  | _ => none
def k_O (g : k_G) (U : State) (H : Heap) : Prop := ∀ (k n : Nat) (f : Nat → Int32), k_st g k = some (n, f) → va_T .int (k_ad g k) n (fun j => .int (f j)) (k_A g) U H
def k_sf : List (String × String × Nat) := [("WheelSkips$Nights", "NEAR_LETTERS", 100), ("WheelSkips$Judging", "FIT_LETTERS", 101), ("WheelSkips$Bodies", "ABOVE", 102), ("WheelSkips$Bodies", "OWN", 103)]
def k_Zs (g : k_G) (U : State) (H : Heap) : Prop := ∀ e ∈ k_sf, va_Z e.1 e.2.1 "[I" (.ref (k_ad g e.2.2)) (k_A g) U H
def k_v (g : k_G) : Value → Value
  | .ref k => .ref (k_ad g k)
  | v => v
def k_tab (M : k_M) : Prop := ∀ (i j : Nat) (r : List (Nat × Instr × Nat)) (e : Nat × Instr × Nat), M.2.2.2.2[i]? = some r → r[j]? = some e → decode M.2.1 e.1 = .ok (e.2.1, e.2.2)
theorem k_tab_of {M : k_M} (h : k_dec M.2.1 M.2.2.2.2 = true) : k_tab M := by
  intro i j r e hi hj
  have h1 := List.all_eq_true.mp h _ (List.mem_of_getElem? hi)
  have h2 := List.all_eq_true.mp h1 _ (List.mem_of_getElem? hj)
  exact of_decide_eq_true h2
def k_Nw (U : State) : Prop := ∀ w ∈ k_nest, va_Nw w U
theorem k_Nw.warm {s U : State} (hW : s.WarmedH U.vm) (h : k_Nw s) : k_Nw U := by
  intro w hw
  have hn := (List.mem_filter.mp hw).2
  have h1 := h w hw
  cases w <;> simp [k_isN] at hn
  · exact va_Nw.warmM hW h1
  · exact va_Nw.warmF hW h1
theorem k_Nw.same {u U : State} (hv : u.vm = U.vm) (h : k_Nw u) : k_Nw U := by
  intro w hw
  have hn := (List.mem_filter.mp hw).2
  have h1 := h w hw
  cases w <;> simp [k_isN] at hn
  · exact va_Nw.same rfl hv h1
  · exact va_Nw.same rfl hv h1
/-- what holds of the machine all through a method -/
def k_Fx (g : k_G) (M : k_M) (p : Program) (s : State) (m : MethodId) (args : Array Value) (c : Code) : Prop :=
  p.tables.exec = Jvm.exec ∧ c.code = M.2.1 ∧ c.maxLocals = M.2.2.1 ∧ s.vm.findClass M.1.cls = some m.cls ∧ (∀ w ∈ k_tbl, w.before args s = true) ∧ va_K (k_D g) vwCl (k_tys g 0 k_lay) s ∧ k_O g s s.heap ∧ k_Zs g s s.heap ∧ k_apart g ∧ k_tab M ∧ k_Nw s
/-- which instruction gives an answer -/
def k_ri (M : k_M) (pc : Nat) : Option Value → Prop
  | none => decode M.2.1 pc = .ok (.return_, 1) ∧ M.2.2.2.1 = none
  | some (.int v) => decode M.2.1 pc = .ok (.ireturn, 1) ∧ ∃ ty, M.2.2.2.1 = some ty ∧ narrow ty (.int v) = .int v
  | some (.long _) => decode M.2.1 pc = .ok (.lreturn, 1) ∧ M.2.2.2.1 = some .long
  | _ => False
def k_R (g : k_G) (M : k_M) (Q : Option Value → k_S → Prop) (p : Program) (e : Env) (R : Room) (s : State) (m : MethodId) (args : Array Value) (below : List Frame) (meth : Method) (c : Code) (cells slots : Nat) (Z : State → Prop) : Prop :=
  ∀ (r : Option Value) (u : k_S) (H : Heap) (locs : List Loc) (pc : Nat) (ls : Array Slot), Q r u → va_P (k_D g) vwCl (k_wd g u) H → va_S (k_A g) s.heap H locs → k_ri M pc r → W p g.1 e R s m args below meth c H locs cells slots Z (F0 m pc ls r.toList)
def k_W (g : k_G) (d : Nat) (M : k_M) (pc : Nat) (l : List (Nat × Value)) (st : List Value) (u : k_S) (Q : Option Value → k_S → Prop) : Prop :=
  ∀ (p : Program) (e : Env) (R : Room) (s : State) (m : MethodId) (args : Array Value) (below : List Frame) (meth : Method) (c : Code) (H : Heap) (locs : List Loc) (cells slots : Nat) (ls : Array Slot) (Z : State → Prop),
    k_Fx g M p s m args c → d ≤ R.frames → 32 * d ≤ R.locals → cells ≤ R.cells → slots ≤ R.slots → va_P (k_D g) vwCl (k_wd g u) H → va_S (k_A g) s.heap H locs → lv_has ls M.2.2.1 (l.map fun q => (q.1, k_v g q.2)) → k_R g M Q p e R s m args below meth c cells slots Z →
    W p g.1 e R s m args below meth c H locs cells slots Z (F0 m pc ls (st.map (k_v g)))
/-! locals by number -/
def k_at : List (Nat × Value) → Nat → Option Value
  | [], _ => none
  | q :: r, i => match Nat.beq q.1 i with
    | true => some q.2
    | false => k_at r i
def k_cl (i : Nat) : List (Nat × Value) → List (Nat × Value)
  | [] => []
  | q :: r => match Nat.beq q.1 i with
    | true => k_cl i r
    | false => match Nat.beq (q.1 + 1) i, q.2 with
      | true, .long _ => k_cl i r
      | true, .double _ => k_cl i r
      | _, _ => q :: k_cl i r
def k_put (i : Nat) (v : Value) (l : List (Nat × Value)) : List (Nat × Value) := (i, v) :: k_cl i l
def k_put2 (i : Nat) (v : Value) (l : List (Nat × Value)) : List (Nat × Value) := (i, v) :: k_cl (i + 1) (k_cl i l)
theorem k_at_mem : ∀ {l : List (Nat × Value)} {i : Nat} {v : Value}, k_at l i = some v → (i, v) ∈ l
  | [], i, v, h => by simp [k_at] at h
  | q :: r, i, v, h => by
    obtain ⟨a, w⟩ := q
    simp only [k_at] at h
    cases hb : Nat.beq a i with
    | true =>
      rw [hb] at h
      simp at h
      rw [Nat.eq_of_beq_eq_true hb, h]
      exact List.mem_cons_self
    | false =>
      rw [hb] at h
      exact List.mem_cons_of_mem _ (k_at_mem h)
theorem k_cl_mem {i : Nat} : ∀ {l : List (Nat × Value)} {q : Nat × Value}, q ∈ k_cl i l → q ∈ l ∧ ¬ q.1 = i ∧ ¬ (q.1 + 1 = i ∧ q.2.category = 2)
  | [], q, h => by simp [k_cl] at h
  | t :: r, q, h => by
    obtain ⟨a, w⟩ := t
    have keep : ∀ {q : Nat × Value}, q ∈ k_cl i r → q ∈ (a, w) :: r ∧ ¬ q.1 = i ∧ ¬ (q.1 + 1 = i ∧ q.2.category = 2) := fun h => ⟨List.mem_cons_of_mem _ (k_cl_mem h).1, (k_cl_mem h).2⟩
    simp only [k_cl] at h
    cases hb : Nat.beq a i with
    | true => rw [hb] at h; exact keep h
    | false =>
      rw [hb] at h
      have hne : ¬ a = i := Nat.ne_of_beq_eq_false hb
      cases hb2 : Nat.beq (a + 1) i with
      | false =>
        rw [hb2] at h
        have hne2 : ¬ a + 1 = i := Nat.ne_of_beq_eq_false hb2
        rcases List.mem_cons.mp h with rfl | h
        · exact ⟨List.mem_cons_self, hne, fun z => hne2 z.1⟩
        · exact keep h
      | true =>
        rw [hb2] at h
        cases w <;> first
          | exact keep h
          | (rcases List.mem_cons.mp h with rfl | h
             · exact ⟨List.mem_cons_self, hne, fun z => by simp [Value.category] at z⟩
             · exact keep h)
theorem k_v_cat (g : k_G) (v : Value) : (k_v g v).category = v.category := by cases v <;> rfl
theorem k_has_sub {ls : Array Slot} {n : Nat} {l l' : List (Nat × Value)} (h : lv_has ls n l) (hs : ∀ q ∈ l', q ∈ l) : lv_has ls n l' := ⟨h.1, h.2.1, fun q hq => h.2.2 q (hs q hq)⟩
theorem k_has_at {g : k_G} {ls : Array Slot} {n : Nat} {l : List (Nat × Value)} (h : lv_has ls n (l.map fun q => (q.1, k_v g q.2))) {i : Nat} {v : Value} (hk : k_at l i = some v) : ls[i]? = some (.val (k_v g v)) :=
  h.2.2 (i, k_v g v) (List.mem_map.mpr ⟨(i, v), k_at_mem hk, rfl⟩)
theorem k_has_put {g : k_G} {ls : Array Slot} {n i : Nat} {v : Value} {l : List (Nat × Value)} (h : lv_has ls n ((i, k_v g v) :: (l.map fun q => (q.1, k_v g q.2)).filter (fun q => !(q.1 == i) && !(q.1 + 1 == i && q.2.category == 2)))) : lv_has ls n ((k_put i v l).map fun q => (q.1, k_v g q.2)) := by
  refine k_has_sub h (fun q hq => ?_)
  obtain ⟨t, ht, rfl⟩ := List.mem_map.mp hq
  rcases List.mem_cons.mp ht with rfl | ht
  · exact List.mem_cons_self
  · obtain ⟨h1, h2, h3⟩ := k_cl_mem ht
    refine List.mem_cons_of_mem _ (List.mem_filter.mpr ⟨List.mem_map.mpr ⟨t, h1, rfl⟩, ?_⟩)
    simp only [k_v_cat, Bool.and_eq_true, Bool.not_eq_true', beq_eq_false_iff_ne, Bool.and_eq_false_iff]
    refine ⟨h2, ?_⟩
    by_cases e : t.1 + 1 = i
    · exact Or.inr (fun z => h3 ⟨e, z⟩)
    · exact Or.inl e
theorem k_has_put2 {g : k_G} {ls : Array Slot} {n i : Nat} {v : Value} {l : List (Nat × Value)} (h : lv_has ls n ((i, k_v g v) :: (l.map fun q => (q.1, k_v g q.2)).filter (fun q => !(q.1 == i) && (!(q.1 == i + 1) && !(q.1 + 1 == i && q.2.category == 2))))) : lv_has ls n ((k_put2 i v l).map fun q => (q.1, k_v g q.2)) := by
  refine k_has_sub h (fun q hq => ?_)
  obtain ⟨t, ht, rfl⟩ := List.mem_map.mp hq
  rcases List.mem_cons.mp ht with rfl | ht
  · exact List.mem_cons_self
  · obtain ⟨h0, h02, -⟩ := k_cl_mem ht
    obtain ⟨h1, h2, h3⟩ := k_cl_mem h0
    refine List.mem_cons_of_mem _ (List.mem_filter.mpr ⟨List.mem_map.mpr ⟨t, h1, rfl⟩, ?_⟩)
    simp only [k_v_cat, Bool.and_eq_true, Bool.not_eq_true', beq_eq_false_iff_ne, Bool.and_eq_false_iff]
    refine ⟨h2, h02, ?_⟩
    by_cases e : t.1 + 1 = i
    · exact Or.inr (fun z => h3 ⟨e, z⟩)
    · exact Or.inl e
/-- fewer locals are told -/
def k_sub (l : List (Nat × Value)) : List (Nat × Value) → Prop
  | [] => True
  | q :: r => k_at l q.1 = some q.2 ∧ k_sub l r
theorem k_sub_mem {l : List (Nat × Value)} : ∀ {l' : List (Nat × Value)}, k_sub l l' → ∀ q ∈ l', q ∈ l
  | [], _, q, hq => by cases hq
  | t :: r, h, q, hq => by
    rcases List.mem_cons.mp hq with rfl | hq
    · exact k_at_mem h.1
    · exact k_sub_mem h.2 q hq
section KL
variable {g : k_G} {d : Nat} {M : k_M} {pc : Nat} {l : List (Nat × Value)} {st : List Value} {u : k_S} {Q : Option Value → k_S → Prop}
theorem k_W.sub {l' : List (Nat × Value)} (h : k_sub l l') (k : k_W g d M pc l' st u Q) : k_W g d M pc l st u Q := by
  intro p e R s m args below meth c H locs cells slots ls Z F h1 h2 h3 h4 hP hS hl hR
  refine k p e R s m args below meth c H locs cells slots ls Z F h1 h2 h3 h4 hP hS (k_has_sub hl fun q hq => ?_) hR
  obtain ⟨t, ht, rfl⟩ := List.mem_map.mp hq
  exact List.mem_map.mpr ⟨t, k_sub_mem h t ht, rfl⟩
end KL
end
section
def k_nth {α : Type} : List α → Nat → Option α
  | [], _ => none
  | a :: _, 0 => some a
  | _ :: r, n + 1 => k_nth r n
theorem k_nth_eq {α : Type} : ∀ (l : List α) (n : Nat), k_nth l n = l[n]?
  | [], n => by simp [k_nth]
  | a :: r, 0 => by simp [k_nth]
  | a :: r, n + 1 => by simp [k_nth, k_nth_eq r n]
/-- the instruction at place j of row i of a method's table -/
def k_i (M : k_M) (i j : Nat) : Option (Nat × Instr × Nat) := match k_nth M.2.2.2.2 i with
  | some r => k_nth r j
  | none => none
theorem k_i_dec {M : k_M} (h : k_tab M) {i j pc n : Nat} {ins : Instr} (hi : k_i M i j = some (pc, ins, n)) : decode M.2.1 pc = .ok (ins, n) := by
  unfold k_i at hi
  rw [k_nth_eq] at hi
  cases hr : M.2.2.2.2[i]? with
  | none => rw [hr] at hi; cases hi
  | some r =>
    rw [hr] at hi
    simp only [k_nth_eq] at hi
    exact h i j r (pc, ins, n) hr hi
/-- what a partial function gives is so -/
def k_sat {α : Type} (o : Option (α × k_S)) (Q : α → k_S → Prop) : Prop := match o with
  | none => False
  | some x => Q x.1 x.2
def k_bind {α β : Type} (o : Option (α × k_S)) (f : α → k_S → Option (β × k_S)) : Option (β × k_S) := match o with
  | none => none
  | some x => f x.1 x.2
def k_let {α β : Type} (a : α) (f : α → β) : β := f a
def k_ck {α : Type} (i : Int32) (n : Nat) (o : Option α) : Option α := if i < 0 ∨ n ≤ i.toNatClampNeg then none else o
def k_nz {α : Type} (y : Int32) (o : Option α) : Option α := if y = 0 then none else o
theorem k_sat_bind {α β : Type} {o : Option (α × k_S)} {f : α → k_S → Option (β × k_S)} {Q : β → k_S → Prop} (h : k_sat (k_bind o f) Q) : k_sat o (fun a u => k_sat (f a u) Q) := by
  cases o with
  | none => exact h
  | some x => exact h
theorem k_sat_ck {α : Type} {i : Int32} {n : Nat} {o : Option (α × k_S)} {Q : α → k_S → Prop} (h : k_sat (k_ck i n o) Q) : vp_in i n ∧ k_sat o Q := by
  unfold k_ck at h
  split at h
  · exact h.elim
  · rename_i hn
    exact ⟨hn, h⟩
theorem k_sat_nz {α : Type} {y : Int32} {o : Option (α × k_S)} {Q : α → k_S → Prop} (h : k_sat (k_nz y o) Q) : ¬ y = 0 ∧ k_sat o Q := by
  unfold k_nz at h
  split at h
  · exact h.elim
  · rename_i hn
    exact ⟨hn, h⟩
theorem k_sat_pos {α : Type} {c : Prop} {hd : Decidable c} {a b : Option (α × k_S)} {Q : α → k_S → Prop} (h : k_sat (if c then a else b) Q) (hc : c) : k_sat a Q := by rw [if_pos hc] at h; exact h
theorem k_sat_neg {α : Type} {c : Prop} {hd : Decidable c} {a b : Option (α × k_S)} {Q : α → k_S → Prop} (h : k_sat (if c then a else b) Q) (hc : ¬ c) : k_sat b Q := by rw [if_neg hc] at h; exact h
/-- loops: at most n turns; a turn goes on, or comes out -/
def k_itr {X Y : Type} (b : X → k_S → Option ((X ⊕ Y) × k_S)) : Nat → X → k_S → Option (Y × k_S)
  | 0, _, _ => none
  | n + 1, x, u => match b x u with
    | none => none
    | some (.inl x', u') => k_itr b n x' u'
    | some (.inr y, u') => some (y, u')
def k_out {X Y : Type} (P : X → k_S → Prop) (K : Y → k_S → Prop) : X ⊕ Y → k_S → Prop
  | .inl x, u => P x u
  | .inr y, u => K y u
theorem k_loop {X Y : Type} {b : X → k_S → Option ((X ⊕ Y) × k_S)} {P : X → k_S → Prop} {K : Y → k_S → Prop} (hs : ∀ x u, k_sat (b x u) (k_out P K) → P x u) : ∀ (n : Nat) (x : X) (u : k_S), k_sat (k_itr b n x u) K → P x u
  | 0, x, u, h => h.elim
  | n + 1, x, u, h => by
    refine hs x u ?_
    unfold k_itr at h
    match hb : b x u with
    | none => rw [hb] at h; exact h.elim
    | some (.inl x', u') =>
      rw [hb] at h
      exact k_loop hs n x' u' h
    | some (.inr y, u') =>
      rw [hb] at h
      exact h
section KR
variable {g : k_G} {d : Nat} {M : k_M} {pc : Nat} {l : List (Nat × Value)} {st : List Value} {u : k_S} {Q : Option Value → k_S → Prop}
theorem s_iconst {n : Int} (i j : Nat) (hd : k_i M i j = some (pc, .iconst n, 1))  (k : k_W g d M (pc + 1) l (.int (Int32.ofInt n) :: st) u Q) : k_W g d M pc l (st) u Q := by
  intro p e R s m args below meth c H locs cells slots ls Z F h1 h2 h3 h4 hP hS hl hR
  have hx := F.1
  have hb := F.2.1
  have hown := F.2.2.2.1
  have hts := F.2.2.2.2.1
  have hK := F.2.2.2.2.2.1
  have hO := F.2.2.2.2.2.2.1
  have hZ := F.2.2.2.2.2.2.2.1
  have hap := F.2.2.2.2.2.2.2.2.1
  have ht := F.2.2.2.2.2.2.2.2.2.1
  have hNw := F.2.2.2.2.2.2.2.2.2.2
  exact lv_iconst hx hb (k_i_dec ht hd) rfl (k p e R s m args below meth c H locs cells slots ls Z F h1 h2 h3 h4 hP hS hl hR)
theorem s_const {n : Int} (v : Int32) (i j : Nat) (hd : k_i M i j = some (pc, .iconst n, 1)) (hv : Int32.ofInt n = v) (k : k_W g d M (pc + 1) l (.int v :: st) u Q) : k_W g d M pc l st u Q := by
  intro p e R s m args below meth c H locs cells slots ls Z F h1 h2 h3 h4 hP hS hl hR
  have hx := F.1
  have hb := F.2.1
  have hown := F.2.2.2.1
  have hts := F.2.2.2.2.1
  have hK := F.2.2.2.2.2.1
  have hO := F.2.2.2.2.2.2.1
  have hZ := F.2.2.2.2.2.2.2.1
  have hap := F.2.2.2.2.2.2.2.2.1
  have ht := F.2.2.2.2.2.2.2.2.2.1
  have hNw := F.2.2.2.2.2.2.2.2.2.2
  exact lv_iconst hx hb (k_i_dec ht hd) hv (k p e R s m args below meth c H locs cells slots ls Z F h1 h2 h3 h4 hP hS hl hR)
theorem s_bipush {n : Int} (v : Int32) (i j : Nat) (hd : k_i M i j = some (pc, .bipush n, 2)) (hv : (Int8.ofInt n).toInt32 = v) (k : k_W g d M (pc + 2) l (.int v :: st) u Q) : k_W g d M pc l st u Q := by
  intro p e R s m args below meth c H locs cells slots ls Z F h1 h2 h3 h4 hP hS hl hR
  have hx := F.1
  have hb := F.2.1
  have hown := F.2.2.2.1
  have hts := F.2.2.2.2.1
  have hK := F.2.2.2.2.2.1
  have hO := F.2.2.2.2.2.2.1
  have hZ := F.2.2.2.2.2.2.2.1
  have hap := F.2.2.2.2.2.2.2.2.1
  have ht := F.2.2.2.2.2.2.2.2.2.1
  have hNw := F.2.2.2.2.2.2.2.2.2.2
  exact lv_bipush hx hb (k_i_dec ht hd) hv (k p e R s m args below meth c H locs cells slots ls Z F h1 h2 h3 h4 hP hS hl hR)
theorem s_sipush {n : Int} (v : Int32) (i j : Nat) (hd : k_i M i j = some (pc, .sipush n, 3)) (hv : (Int16.ofInt n).toInt32 = v) (k : k_W g d M (pc + 3) l (.int v :: st) u Q) : k_W g d M pc l st u Q := by
  intro p e R s m args below meth c H locs cells slots ls Z F h1 h2 h3 h4 hP hS hl hR
  have hx := F.1
  have hb := F.2.1
  have hown := F.2.2.2.1
  have hts := F.2.2.2.2.1
  have hK := F.2.2.2.2.2.1
  have hO := F.2.2.2.2.2.2.1
  have hZ := F.2.2.2.2.2.2.2.1
  have hap := F.2.2.2.2.2.2.2.2.1
  have ht := F.2.2.2.2.2.2.2.2.2.1
  have hNw := F.2.2.2.2.2.2.2.2.2.2
  exact lv_sipush hx hb (k_i_dec ht hd) hv (k p e R s m args below meth c H locs cells slots ls Z F h1 h2 h3 h4 hP hS hl hR)
theorem s_lconst {n : Fin 2} (v : Int64) (i j : Nat) (hd : k_i M i j = some (pc, .lconst n, 1)) (hv : Int64.ofNat (n : Nat) = v) (k : k_W g d M (pc + 1) l (.long v :: st) u Q) : k_W g d M pc l st u Q := by
  intro p e R s m args below meth c H locs cells slots ls Z F h1 h2 h3 h4 hP hS hl hR
  have hx := F.1
  have hb := F.2.1
  have hown := F.2.2.2.1
  have hts := F.2.2.2.2.1
  have hK := F.2.2.2.2.2.1
  have hO := F.2.2.2.2.2.2.1
  have hZ := F.2.2.2.2.2.2.2.1
  have hap := F.2.2.2.2.2.2.2.2.1
  have ht := F.2.2.2.2.2.2.2.2.2.1
  have hNw := F.2.2.2.2.2.2.2.2.2.2
  exact lv_lconst hx hb (k_i_dec ht hd) hv (k p e R s m args below meth c H locs cells slots ls Z F h1 h2 h3 h4 hP hS hl hR)
theorem s_ldc {n : Nat} (v : Int32) (i j : Nat) (hd : k_i M i j = some (pc, .ldc n, 2)) (hw : Cond.constant M.1.cls n v ∈ k_tbl) (k : k_W g d M (pc + 2) l (.int v :: st) u Q) : k_W g d M pc l st u Q := by
  intro p e R s m args below meth c H locs cells slots ls Z F h1 h2 h3 h4 hP hS hl hR
  have hx := F.1
  have hb := F.2.1
  have hown := F.2.2.2.1
  have hts := F.2.2.2.2.1
  have hK := F.2.2.2.2.2.1
  have hO := F.2.2.2.2.2.2.1
  have hZ := F.2.2.2.2.2.2.2.1
  have hap := F.2.2.2.2.2.2.2.2.1
  have ht := F.2.2.2.2.2.2.2.2.2.1
  have hNw := F.2.2.2.2.2.2.2.2.2.2
  exact lv_ldc hx hb hown (hts _ hw) (k_i_dec ht hd) (k p e R s m args below meth c H locs cells slots ls Z F h1 h2 h3 h4 hP hS hl hR)
theorem s_ldcw {n : Nat} (v : Int32) (i j : Nat) (hd : k_i M i j = some (pc, .ldc_w n, 3)) (hw : Cond.constant M.1.cls n v ∈ k_tbl) (k : k_W g d M (pc + 3) l (.int v :: st) u Q) : k_W g d M pc l st u Q := by
  intro p e R s m args below meth c H locs cells slots ls Z F h1 h2 h3 h4 hP hS hl hR
  have hx := F.1
  have hb := F.2.1
  have hown := F.2.2.2.1
  have hts := F.2.2.2.2.1
  have hK := F.2.2.2.2.2.1
  have hO := F.2.2.2.2.2.2.1
  have hZ := F.2.2.2.2.2.2.2.1
  have hap := F.2.2.2.2.2.2.2.2.1
  have ht := F.2.2.2.2.2.2.2.2.2.1
  have hNw := F.2.2.2.2.2.2.2.2.2.2
  exact lv_ldcw hx hb hown (hts _ hw) (k_i_dec ht hd) (k p e R s m args below meth c H locs cells slots ls Z F h1 h2 h3 h4 hP hS hl hR)
theorem s_ldc2 {n : Nat} (v : Int64) (i j : Nat) (hd : k_i M i j = some (pc, .ldc2_w n, 3)) (hw : Cond.constantLong M.1.cls n v ∈ k_tbl) (k : k_W g d M (pc + 3) l (.long v :: st) u Q) : k_W g d M pc l st u Q := by
  intro p e R s m args below meth c H locs cells slots ls Z F h1 h2 h3 h4 hP hS hl hR
  have hx := F.1
  have hb := F.2.1
  have hown := F.2.2.2.1
  have hts := F.2.2.2.2.1
  have hK := F.2.2.2.2.2.1
  have hO := F.2.2.2.2.2.2.1
  have hZ := F.2.2.2.2.2.2.2.1
  have hap := F.2.2.2.2.2.2.2.2.1
  have ht := F.2.2.2.2.2.2.2.2.2.1
  have hNw := F.2.2.2.2.2.2.2.2.2.2
  exact lv_ldc2 hx hb hown (hts _ hw) (k_i_dec ht hd) (k p e R s m args below meth c H locs cells slots ls Z F h1 h2 h3 h4 hP hS hl hR)
theorem s_iloadn {q : Fin 4} {x : Int32} (i j : Nat) (hd : k_i M i j = some (pc, .iload_n q, 1)) (hv : k_at l q = some (.int x)) (k : k_W g d M (pc + 1) l (.int x :: st) u Q) : k_W g d M pc l st u Q := by
  intro p e R s m args below meth c H locs cells slots ls Z F h1 h2 h3 h4 hP hS hl hR
  have hx := F.1
  have hb := F.2.1
  have hown := F.2.2.2.1
  have hts := F.2.2.2.2.1
  have hK := F.2.2.2.2.2.1
  have hO := F.2.2.2.2.2.2.1
  have hZ := F.2.2.2.2.2.2.2.1
  have hap := F.2.2.2.2.2.2.2.2.1
  have ht := F.2.2.2.2.2.2.2.2.2.1
  have hNw := F.2.2.2.2.2.2.2.2.2.2
  exact lv_iload_n hx hb (k_i_dec ht hd) rfl (k_has_at hl hv) (k p e R s m args below meth c H locs cells slots ls Z F h1 h2 h3 h4 hP hS hl hR)
theorem s_iload {q : Nat} {x : Int32} (i j : Nat) (hd : k_i M i j = some (pc, .iload q, 2)) (hv : k_at l q = some (.int x)) (k : k_W g d M (pc + 2) l (.int x :: st) u Q) : k_W g d M pc l st u Q := by
  intro p e R s m args below meth c H locs cells slots ls Z F h1 h2 h3 h4 hP hS hl hR
  have hx := F.1
  have hb := F.2.1
  have hown := F.2.2.2.1
  have hts := F.2.2.2.2.1
  have hK := F.2.2.2.2.2.1
  have hO := F.2.2.2.2.2.2.1
  have hZ := F.2.2.2.2.2.2.2.1
  have hap := F.2.2.2.2.2.2.2.2.1
  have ht := F.2.2.2.2.2.2.2.2.2.1
  have hNw := F.2.2.2.2.2.2.2.2.2.2
  exact lv_iload hx hb (k_i_dec ht hd) (k_has_at hl hv) (k p e R s m args below meth c H locs cells slots ls Z F h1 h2 h3 h4 hP hS hl hR)
theorem s_lloadn {q : Fin 4} {x : Int64} (i j : Nat) (hd : k_i M i j = some (pc, .lload_n q, 1)) (hv : k_at l q = some (.long x)) (k : k_W g d M (pc + 1) l (.long x :: st) u Q) : k_W g d M pc l st u Q := by
  intro p e R s m args below meth c H locs cells slots ls Z F h1 h2 h3 h4 hP hS hl hR
  have hx := F.1
  have hb := F.2.1
  have hown := F.2.2.2.1
  have hts := F.2.2.2.2.1
  have hK := F.2.2.2.2.2.1
  have hO := F.2.2.2.2.2.2.1
  have hZ := F.2.2.2.2.2.2.2.1
  have hap := F.2.2.2.2.2.2.2.2.1
  have ht := F.2.2.2.2.2.2.2.2.2.1
  have hNw := F.2.2.2.2.2.2.2.2.2.2
  exact lv_lload_n hx hb (k_i_dec ht hd) rfl (k_has_at hl hv) (k p e R s m args below meth c H locs cells slots ls Z F h1 h2 h3 h4 hP hS hl hR)
theorem s_lload {q : Nat} {x : Int64} (i j : Nat) (hd : k_i M i j = some (pc, .lload q, 2)) (hv : k_at l q = some (.long x)) (k : k_W g d M (pc + 2) l (.long x :: st) u Q) : k_W g d M pc l st u Q := by
  intro p e R s m args below meth c H locs cells slots ls Z F h1 h2 h3 h4 hP hS hl hR
  have hx := F.1
  have hb := F.2.1
  have hown := F.2.2.2.1
  have hts := F.2.2.2.2.1
  have hK := F.2.2.2.2.2.1
  have hO := F.2.2.2.2.2.2.1
  have hZ := F.2.2.2.2.2.2.2.1
  have hap := F.2.2.2.2.2.2.2.2.1
  have ht := F.2.2.2.2.2.2.2.2.2.1
  have hNw := F.2.2.2.2.2.2.2.2.2.2
  exact lv_lload hx hb (k_i_dec ht hd) (k_has_at hl hv) (k p e R s m args below meth c H locs cells slots ls Z F h1 h2 h3 h4 hP hS hl hR)
theorem s_aloadn {q : Fin 4} {x : Nat} (i j : Nat) (hd : k_i M i j = some (pc, .aload_n q, 1)) (hv : k_at l q = some (.ref x)) (k : k_W g d M (pc + 1) l (.ref x :: st) u Q) : k_W g d M pc l st u Q := by
  intro p e R s m args below meth c H locs cells slots ls Z F h1 h2 h3 h4 hP hS hl hR
  have hx := F.1
  have hb := F.2.1
  have hown := F.2.2.2.1
  have hts := F.2.2.2.2.1
  have hK := F.2.2.2.2.2.1
  have hO := F.2.2.2.2.2.2.1
  have hZ := F.2.2.2.2.2.2.2.1
  have hap := F.2.2.2.2.2.2.2.2.1
  have ht := F.2.2.2.2.2.2.2.2.2.1
  have hNw := F.2.2.2.2.2.2.2.2.2.2
  exact lv_aload_n hx hb (k_i_dec ht hd) rfl (k_has_at hl hv) (k p e R s m args below meth c H locs cells slots ls Z F h1 h2 h3 h4 hP hS hl hR)
theorem s_aload {q : Nat} {x : Nat} (i j : Nat) (hd : k_i M i j = some (pc, .aload q, 2)) (hv : k_at l q = some (.ref x)) (k : k_W g d M (pc + 2) l (.ref x :: st) u Q) : k_W g d M pc l st u Q := by
  intro p e R s m args below meth c H locs cells slots ls Z F h1 h2 h3 h4 hP hS hl hR
  have hx := F.1
  have hb := F.2.1
  have hown := F.2.2.2.1
  have hts := F.2.2.2.2.1
  have hK := F.2.2.2.2.2.1
  have hO := F.2.2.2.2.2.2.1
  have hZ := F.2.2.2.2.2.2.2.1
  have hap := F.2.2.2.2.2.2.2.2.1
  have ht := F.2.2.2.2.2.2.2.2.2.1
  have hNw := F.2.2.2.2.2.2.2.2.2.2
  exact lv_aload hx hb (k_i_dec ht hd) (k_has_at hl hv) (k p e R s m args below meth c H locs cells slots ls Z F h1 h2 h3 h4 hP hS hl hR)
theorem s_istoren {q : Fin 4} {x : Int32} (i j : Nat) (hd : k_i M i j = some (pc, .istore_n q, 1)) (hn : Nat.blt q M.2.2.1 = true) (k : k_W g d M (pc + 1) (k_put q (.int x) l) st u Q) : k_W g d M pc l (.int x :: st) u Q := by
  intro p e R s m args below meth c H locs cells slots ls Z F h1 h2 h3 h4 hP hS hl hR
  have hx := F.1
  have hb := F.2.1
  have hown := F.2.2.2.1
  have hts := F.2.2.2.2.1
  have hK := F.2.2.2.2.2.1
  have hO := F.2.2.2.2.2.2.1
  have hZ := F.2.2.2.2.2.2.2.1
  have hap := F.2.2.2.2.2.2.2.2.1
  have ht := F.2.2.2.2.2.2.2.2.2.1
  have hNw := F.2.2.2.2.2.2.2.2.2.2
  exact lv_istore_n hx hb (k_i_dec ht hd) rfl hl (Nat.blt_eq.mp hn) rfl (fun ls hl => k p e R s m args below meth c H locs cells slots ls Z F h1 h2 h3 h4 hP hS (k_has_put hl) hR)
theorem s_istore {q : Nat} {x : Int32} (i j : Nat) (hd : k_i M i j = some (pc, .istore q, 2)) (hn : Nat.blt q M.2.2.1 = true) (k : k_W g d M (pc + 2) (k_put q (.int x) l) st u Q) : k_W g d M pc l (.int x :: st) u Q := by
  intro p e R s m args below meth c H locs cells slots ls Z F h1 h2 h3 h4 hP hS hl hR
  have hx := F.1
  have hb := F.2.1
  have hown := F.2.2.2.1
  have hts := F.2.2.2.2.1
  have hK := F.2.2.2.2.2.1
  have hO := F.2.2.2.2.2.2.1
  have hZ := F.2.2.2.2.2.2.2.1
  have hap := F.2.2.2.2.2.2.2.2.1
  have ht := F.2.2.2.2.2.2.2.2.2.1
  have hNw := F.2.2.2.2.2.2.2.2.2.2
  exact lv_istore hx hb (k_i_dec ht hd) hl (Nat.blt_eq.mp hn) rfl (fun ls hl => k p e R s m args below meth c H locs cells slots ls Z F h1 h2 h3 h4 hP hS (k_has_put hl) hR)
theorem s_astoren {q : Fin 4} {x : Nat} (i j : Nat) (hd : k_i M i j = some (pc, .astore_n q, 1)) (hn : Nat.blt q M.2.2.1 = true) (k : k_W g d M (pc + 1) (k_put q (.ref x) l) st u Q) : k_W g d M pc l (.ref x :: st) u Q := by
  intro p e R s m args below meth c H locs cells slots ls Z F h1 h2 h3 h4 hP hS hl hR
  have hx := F.1
  have hb := F.2.1
  have hown := F.2.2.2.1
  have hts := F.2.2.2.2.1
  have hK := F.2.2.2.2.2.1
  have hO := F.2.2.2.2.2.2.1
  have hZ := F.2.2.2.2.2.2.2.1
  have hap := F.2.2.2.2.2.2.2.2.1
  have ht := F.2.2.2.2.2.2.2.2.2.1
  have hNw := F.2.2.2.2.2.2.2.2.2.2
  exact lv_astore_n hx hb (k_i_dec ht hd) rfl hl (Nat.blt_eq.mp hn) rfl (fun ls hl => k p e R s m args below meth c H locs cells slots ls Z F h1 h2 h3 h4 hP hS (k_has_put hl) hR)
theorem s_astore {q : Nat} {x : Nat} (i j : Nat) (hd : k_i M i j = some (pc, .astore q, 2)) (hn : Nat.blt q M.2.2.1 = true) (k : k_W g d M (pc + 2) (k_put q (.ref x) l) st u Q) : k_W g d M pc l (.ref x :: st) u Q := by
  intro p e R s m args below meth c H locs cells slots ls Z F h1 h2 h3 h4 hP hS hl hR
  have hx := F.1
  have hb := F.2.1
  have hown := F.2.2.2.1
  have hts := F.2.2.2.2.1
  have hK := F.2.2.2.2.2.1
  have hO := F.2.2.2.2.2.2.1
  have hZ := F.2.2.2.2.2.2.2.1
  have hap := F.2.2.2.2.2.2.2.2.1
  have ht := F.2.2.2.2.2.2.2.2.2.1
  have hNw := F.2.2.2.2.2.2.2.2.2.2
  exact lv_astore hx hb (k_i_dec ht hd) hl (Nat.blt_eq.mp hn) rfl (fun ls hl => k p e R s m args below meth c H locs cells slots ls Z F h1 h2 h3 h4 hP hS (k_has_put hl) hR)
theorem s_lstoren {q : Fin 4} {x : Int64} (i j : Nat) (hd : k_i M i j = some (pc, .lstore_n q, 1)) (hn : Nat.blt (q + 1) M.2.2.1 = true) (k : k_W g d M (pc + 1) (k_put2 q (.long x) l) st u Q) : k_W g d M pc l (.long x :: st) u Q := by
  intro p e R s m args below meth c H locs cells slots ls Z F h1 h2 h3 h4 hP hS hl hR
  have hx := F.1
  have hb := F.2.1
  have hown := F.2.2.2.1
  have hts := F.2.2.2.2.1
  have hK := F.2.2.2.2.2.1
  have hO := F.2.2.2.2.2.2.1
  have hZ := F.2.2.2.2.2.2.2.1
  have hap := F.2.2.2.2.2.2.2.2.1
  have ht := F.2.2.2.2.2.2.2.2.2.1
  have hNw := F.2.2.2.2.2.2.2.2.2.2
  exact lv_lstore_n hx hb (k_i_dec ht hd) rfl hl (Nat.blt_eq.mp hn) rfl (fun ls hl => k p e R s m args below meth c H locs cells slots ls Z F h1 h2 h3 h4 hP hS (k_has_put2 hl) hR)
theorem s_lstore {q : Nat} {x : Int64} (i j : Nat) (hd : k_i M i j = some (pc, .lstore q, 2)) (hn : Nat.blt (q + 1) M.2.2.1 = true) (k : k_W g d M (pc + 2) (k_put2 q (.long x) l) st u Q) : k_W g d M pc l (.long x :: st) u Q := by
  intro p e R s m args below meth c H locs cells slots ls Z F h1 h2 h3 h4 hP hS hl hR
  have hx := F.1
  have hb := F.2.1
  have hown := F.2.2.2.1
  have hts := F.2.2.2.2.1
  have hK := F.2.2.2.2.2.1
  have hO := F.2.2.2.2.2.2.1
  have hZ := F.2.2.2.2.2.2.2.1
  have hap := F.2.2.2.2.2.2.2.2.1
  have ht := F.2.2.2.2.2.2.2.2.2.1
  have hNw := F.2.2.2.2.2.2.2.2.2.2
  exact lv_lstore hx hb (k_i_dec ht hd) hl (Nat.blt_eq.mp hn) rfl (fun ls hl => k p e R s m args below meth c H locs cells slots ls Z F h1 h2 h3 h4 hP hS (k_has_put2 hl) hR)
theorem s_iinc {q : Nat} {n : Int} {x : Int32} (i j : Nat) (hd : k_i M i j = some (pc, .iinc q n, 3)) (hv : k_at l q = some (.int x)) (hn : Nat.blt q M.2.2.1 = true) (k : k_W g d M (pc + 3) (k_put q (.int (x + Int32.ofInt n)) l) st u Q) : k_W g d M pc l st u Q := by
  intro p e R s m args below meth c H locs cells slots ls Z F h1 h2 h3 h4 hP hS hl hR
  have hx := F.1
  have hb := F.2.1
  have hown := F.2.2.2.1
  have hts := F.2.2.2.2.1
  have hK := F.2.2.2.2.2.1
  have hO := F.2.2.2.2.2.2.1
  have hZ := F.2.2.2.2.2.2.2.1
  have hap := F.2.2.2.2.2.2.2.2.1
  have ht := F.2.2.2.2.2.2.2.2.2.1
  have hNw := F.2.2.2.2.2.2.2.2.2.2
  obtain ⟨t, ht1⟩ := List.getElem?_of_mem (List.mem_map.mpr ⟨(q, Value.int x), k_at_mem hv, rfl⟩ : (q, k_v g (.int x)) ∈ l.map fun q => (q.1, k_v g q.2))
  exact lv_iinc hx hb (k_i_dec ht hd) hl ht1 rfl (Nat.blt_eq.mp hn) rfl (fun ls hl => k p e R s m args below meth c H locs cells slots ls Z F h1 h2 h3 h4 hP hS (k_has_put hl) hR)
theorem s_iadd {x y : Int32} (i j : Nat) (hd : k_i M i j = some (pc, .iadd, 1))  (k : k_W g d M (pc + 1) l (.int (x + y) :: st) u Q) : k_W g d M pc l (.int y :: .int x :: st) u Q := by
  intro p e R s m args below meth c H locs cells slots ls Z F h1 h2 h3 h4 hP hS hl hR
  have hx := F.1
  have hb := F.2.1
  have hown := F.2.2.2.1
  have hts := F.2.2.2.2.1
  have hK := F.2.2.2.2.2.1
  have hO := F.2.2.2.2.2.2.1
  have hZ := F.2.2.2.2.2.2.2.1
  have hap := F.2.2.2.2.2.2.2.2.1
  have ht := F.2.2.2.2.2.2.2.2.2.1
  have hNw := F.2.2.2.2.2.2.2.2.2.2
  exact lv_iadd hx hb (k_i_dec ht hd) (k p e R s m args below meth c H locs cells slots ls Z F h1 h2 h3 h4 hP hS hl hR)
theorem s_isub {x y : Int32} (i j : Nat) (hd : k_i M i j = some (pc, .isub, 1))  (k : k_W g d M (pc + 1) l (.int (x - y) :: st) u Q) : k_W g d M pc l (.int y :: .int x :: st) u Q := by
  intro p e R s m args below meth c H locs cells slots ls Z F h1 h2 h3 h4 hP hS hl hR
  have hx := F.1
  have hb := F.2.1
  have hown := F.2.2.2.1
  have hts := F.2.2.2.2.1
  have hK := F.2.2.2.2.2.1
  have hO := F.2.2.2.2.2.2.1
  have hZ := F.2.2.2.2.2.2.2.1
  have hap := F.2.2.2.2.2.2.2.2.1
  have ht := F.2.2.2.2.2.2.2.2.2.1
  have hNw := F.2.2.2.2.2.2.2.2.2.2
  exact lv_isub hx hb (k_i_dec ht hd) (k p e R s m args below meth c H locs cells slots ls Z F h1 h2 h3 h4 hP hS hl hR)
theorem s_imul {x y : Int32} (i j : Nat) (hd : k_i M i j = some (pc, .imul, 1))  (k : k_W g d M (pc + 1) l (.int (x * y) :: st) u Q) : k_W g d M pc l (.int y :: .int x :: st) u Q := by
  intro p e R s m args below meth c H locs cells slots ls Z F h1 h2 h3 h4 hP hS hl hR
  have hx := F.1
  have hb := F.2.1
  have hown := F.2.2.2.1
  have hts := F.2.2.2.2.1
  have hK := F.2.2.2.2.2.1
  have hO := F.2.2.2.2.2.2.1
  have hZ := F.2.2.2.2.2.2.2.1
  have hap := F.2.2.2.2.2.2.2.2.1
  have ht := F.2.2.2.2.2.2.2.2.2.1
  have hNw := F.2.2.2.2.2.2.2.2.2.2
  exact lv_imul hx hb (k_i_dec ht hd) (k p e R s m args below meth c H locs cells slots ls Z F h1 h2 h3 h4 hP hS hl hR)
theorem s_iand {x y : Int32} (i j : Nat) (hd : k_i M i j = some (pc, .iand, 1))  (k : k_W g d M (pc + 1) l (.int (x &&& y) :: st) u Q) : k_W g d M pc l (.int y :: .int x :: st) u Q := by
  intro p e R s m args below meth c H locs cells slots ls Z F h1 h2 h3 h4 hP hS hl hR
  have hx := F.1
  have hb := F.2.1
  have hown := F.2.2.2.1
  have hts := F.2.2.2.2.1
  have hK := F.2.2.2.2.2.1
  have hO := F.2.2.2.2.2.2.1
  have hZ := F.2.2.2.2.2.2.2.1
  have hap := F.2.2.2.2.2.2.2.2.1
  have ht := F.2.2.2.2.2.2.2.2.2.1
  have hNw := F.2.2.2.2.2.2.2.2.2.2
  exact lv_iand hx hb (k_i_dec ht hd) (k p e R s m args below meth c H locs cells slots ls Z F h1 h2 h3 h4 hP hS hl hR)
theorem s_ior {x y : Int32} (i j : Nat) (hd : k_i M i j = some (pc, .ior, 1))  (k : k_W g d M (pc + 1) l (.int (x ||| y) :: st) u Q) : k_W g d M pc l (.int y :: .int x :: st) u Q := by
  intro p e R s m args below meth c H locs cells slots ls Z F h1 h2 h3 h4 hP hS hl hR
  have hx := F.1
  have hb := F.2.1
  have hown := F.2.2.2.1
  have hts := F.2.2.2.2.1
  have hK := F.2.2.2.2.2.1
  have hO := F.2.2.2.2.2.2.1
  have hZ := F.2.2.2.2.2.2.2.1
  have hap := F.2.2.2.2.2.2.2.2.1
  have ht := F.2.2.2.2.2.2.2.2.2.1
  have hNw := F.2.2.2.2.2.2.2.2.2.2
  exact lv_ior hx hb (k_i_dec ht hd) (k p e R s m args below meth c H locs cells slots ls Z F h1 h2 h3 h4 hP hS hl hR)
theorem s_ixor {x y : Int32} (i j : Nat) (hd : k_i M i j = some (pc, .ixor, 1))  (k : k_W g d M (pc + 1) l (.int (x ^^^ y) :: st) u Q) : k_W g d M pc l (.int y :: .int x :: st) u Q := by
  intro p e R s m args below meth c H locs cells slots ls Z F h1 h2 h3 h4 hP hS hl hR
  have hx := F.1
  have hb := F.2.1
  have hown := F.2.2.2.1
  have hts := F.2.2.2.2.1
  have hK := F.2.2.2.2.2.1
  have hO := F.2.2.2.2.2.2.1
  have hZ := F.2.2.2.2.2.2.2.1
  have hap := F.2.2.2.2.2.2.2.2.1
  have ht := F.2.2.2.2.2.2.2.2.2.1
  have hNw := F.2.2.2.2.2.2.2.2.2.2
  exact lv_ixor hx hb (k_i_dec ht hd) (k p e R s m args below meth c H locs cells slots ls Z F h1 h2 h3 h4 hP hS hl hR)
theorem s_ishl {x y : Int32} (i j : Nat) (hd : k_i M i j = some (pc, .ishl, 1))  (k : k_W g d M (pc + 1) l (.int (x <<< (y &&& 31)) :: st) u Q) : k_W g d M pc l (.int y :: .int x :: st) u Q := by
  intro p e R s m args below meth c H locs cells slots ls Z F h1 h2 h3 h4 hP hS hl hR
  have hx := F.1
  have hb := F.2.1
  have hown := F.2.2.2.1
  have hts := F.2.2.2.2.1
  have hK := F.2.2.2.2.2.1
  have hO := F.2.2.2.2.2.2.1
  have hZ := F.2.2.2.2.2.2.2.1
  have hap := F.2.2.2.2.2.2.2.2.1
  have ht := F.2.2.2.2.2.2.2.2.2.1
  have hNw := F.2.2.2.2.2.2.2.2.2.2
  exact lv_ishl hx hb (k_i_dec ht hd) (k p e R s m args below meth c H locs cells slots ls Z F h1 h2 h3 h4 hP hS hl hR)
theorem s_ishr {x y : Int32} (i j : Nat) (hd : k_i M i j = some (pc, .ishr, 1))  (k : k_W g d M (pc + 1) l (.int (x >>> (y &&& 31)) :: st) u Q) : k_W g d M pc l (.int y :: .int x :: st) u Q := by
  intro p e R s m args below meth c H locs cells slots ls Z F h1 h2 h3 h4 hP hS hl hR
  have hx := F.1
  have hb := F.2.1
  have hown := F.2.2.2.1
  have hts := F.2.2.2.2.1
  have hK := F.2.2.2.2.2.1
  have hO := F.2.2.2.2.2.2.1
  have hZ := F.2.2.2.2.2.2.2.1
  have hap := F.2.2.2.2.2.2.2.2.1
  have ht := F.2.2.2.2.2.2.2.2.2.1
  have hNw := F.2.2.2.2.2.2.2.2.2.2
  exact lv_ishr hx hb (k_i_dec ht hd) (k p e R s m args below meth c H locs cells slots ls Z F h1 h2 h3 h4 hP hS hl hR)
theorem s_iushr {x y : Int32} (i j : Nat) (hd : k_i M i j = some (pc, .iushr, 1))  (k : k_W g d M (pc + 1) l (.int ((x.toUInt32 >>> (y.toUInt32 &&& Int32.toUInt32 31)).toInt32) :: st) u Q) : k_W g d M pc l (.int y :: .int x :: st) u Q := by
  intro p e R s m args below meth c H locs cells slots ls Z F h1 h2 h3 h4 hP hS hl hR
  have hx := F.1
  have hb := F.2.1
  have hown := F.2.2.2.1
  have hts := F.2.2.2.2.1
  have hK := F.2.2.2.2.2.1
  have hO := F.2.2.2.2.2.2.1
  have hZ := F.2.2.2.2.2.2.2.1
  have hap := F.2.2.2.2.2.2.2.2.1
  have ht := F.2.2.2.2.2.2.2.2.2.1
  have hNw := F.2.2.2.2.2.2.2.2.2.2
  exact lv_iushr hx hb (k_i_dec ht hd) rfl (k p e R s m args below meth c H locs cells slots ls Z F h1 h2 h3 h4 hP hS hl hR)
theorem s_ineg {x : Int32} (i j : Nat) (hd : k_i M i j = some (pc, .ineg, 1))  (k : k_W g d M (pc + 1) l (.int (-x) :: st) u Q) : k_W g d M pc l (.int x :: st) u Q := by
  intro p e R s m args below meth c H locs cells slots ls Z F h1 h2 h3 h4 hP hS hl hR
  have hx := F.1
  have hb := F.2.1
  have hown := F.2.2.2.1
  have hts := F.2.2.2.2.1
  have hK := F.2.2.2.2.2.1
  have hO := F.2.2.2.2.2.2.1
  have hZ := F.2.2.2.2.2.2.2.1
  have hap := F.2.2.2.2.2.2.2.2.1
  have ht := F.2.2.2.2.2.2.2.2.2.1
  have hNw := F.2.2.2.2.2.2.2.2.2.2
  exact lv_ineg hx hb (k_i_dec ht hd) (k p e R s m args below meth c H locs cells slots ls Z F h1 h2 h3 h4 hP hS hl hR)
theorem s_idiv {x y : Int32} (i j : Nat) (hd : k_i M i j = some (pc, .idiv, 1)) (hne : ¬ y = 0) (k : k_W g d M (pc + 1) l (.int (x / y) :: st) u Q) : k_W g d M pc l (.int y :: .int x :: st) u Q := by
  intro p e R s m args below meth c H locs cells slots ls Z F h1 h2 h3 h4 hP hS hl hR
  have hx := F.1
  have hb := F.2.1
  have hown := F.2.2.2.1
  have hts := F.2.2.2.2.1
  have hK := F.2.2.2.2.2.1
  have hO := F.2.2.2.2.2.2.1
  have hZ := F.2.2.2.2.2.2.2.1
  have hap := F.2.2.2.2.2.2.2.2.1
  have ht := F.2.2.2.2.2.2.2.2.2.1
  have hNw := F.2.2.2.2.2.2.2.2.2.2
  exact lv_idiv hx hb (k_i_dec ht hd) hne (k p e R s m args below meth c H locs cells slots ls Z F h1 h2 h3 h4 hP hS hl hR)
theorem s_irem {x y : Int32} (i j : Nat) (hd : k_i M i j = some (pc, .irem, 1)) (hne : ¬ y = 0) (k : k_W g d M (pc + 1) l (.int (x % y) :: st) u Q) : k_W g d M pc l (.int y :: .int x :: st) u Q := by
  intro p e R s m args below meth c H locs cells slots ls Z F h1 h2 h3 h4 hP hS hl hR
  have hx := F.1
  have hb := F.2.1
  have hown := F.2.2.2.1
  have hts := F.2.2.2.2.1
  have hK := F.2.2.2.2.2.1
  have hO := F.2.2.2.2.2.2.1
  have hZ := F.2.2.2.2.2.2.2.1
  have hap := F.2.2.2.2.2.2.2.2.1
  have ht := F.2.2.2.2.2.2.2.2.2.1
  have hNw := F.2.2.2.2.2.2.2.2.2.2
  refine lv_irem hx hb (k_i_dec ht hd) hne ?_
  rw [irem_eq_mod]
  exact (k p e R s m args below meth c H locs cells slots ls Z F h1 h2 h3 h4 hP hS hl hR)
theorem s_ladd {x y : Int64} (i j : Nat) (hd : k_i M i j = some (pc, .ladd, 1))  (k : k_W g d M (pc + 1) l (.long (x + y) :: st) u Q) : k_W g d M pc l (.long y :: .long x :: st) u Q := by
  intro p e R s m args below meth c H locs cells slots ls Z F h1 h2 h3 h4 hP hS hl hR
  have hx := F.1
  have hb := F.2.1
  have hown := F.2.2.2.1
  have hts := F.2.2.2.2.1
  have hK := F.2.2.2.2.2.1
  have hO := F.2.2.2.2.2.2.1
  have hZ := F.2.2.2.2.2.2.2.1
  have hap := F.2.2.2.2.2.2.2.2.1
  have ht := F.2.2.2.2.2.2.2.2.2.1
  have hNw := F.2.2.2.2.2.2.2.2.2.2
  exact lv_ladd hx hb (k_i_dec ht hd) (k p e R s m args below meth c H locs cells slots ls Z F h1 h2 h3 h4 hP hS hl hR)
theorem s_land {x y : Int64} (i j : Nat) (hd : k_i M i j = some (pc, .land, 1))  (k : k_W g d M (pc + 1) l (.long (x &&& y) :: st) u Q) : k_W g d M pc l (.long y :: .long x :: st) u Q := by
  intro p e R s m args below meth c H locs cells slots ls Z F h1 h2 h3 h4 hP hS hl hR
  have hx := F.1
  have hb := F.2.1
  have hown := F.2.2.2.1
  have hts := F.2.2.2.2.1
  have hK := F.2.2.2.2.2.1
  have hO := F.2.2.2.2.2.2.1
  have hZ := F.2.2.2.2.2.2.2.1
  have hap := F.2.2.2.2.2.2.2.2.1
  have ht := F.2.2.2.2.2.2.2.2.2.1
  have hNw := F.2.2.2.2.2.2.2.2.2.2
  exact lv_land hx hb (k_i_dec ht hd) (k p e R s m args below meth c H locs cells slots ls Z F h1 h2 h3 h4 hP hS hl hR)
theorem s_lor {x y : Int64} (i j : Nat) (hd : k_i M i j = some (pc, .lor, 1))  (k : k_W g d M (pc + 1) l (.long (x ||| y) :: st) u Q) : k_W g d M pc l (.long y :: .long x :: st) u Q := by
  intro p e R s m args below meth c H locs cells slots ls Z F h1 h2 h3 h4 hP hS hl hR
  have hx := F.1
  have hb := F.2.1
  have hown := F.2.2.2.1
  have hts := F.2.2.2.2.1
  have hK := F.2.2.2.2.2.1
  have hO := F.2.2.2.2.2.2.1
  have hZ := F.2.2.2.2.2.2.2.1
  have hap := F.2.2.2.2.2.2.2.2.1
  have ht := F.2.2.2.2.2.2.2.2.2.1
  have hNw := F.2.2.2.2.2.2.2.2.2.2
  exact lv_lor hx hb (k_i_dec ht hd) (k p e R s m args below meth c H locs cells slots ls Z F h1 h2 h3 h4 hP hS hl hR)
theorem s_lsub {x y : Int64} (i j : Nat) (hd : k_i M i j = some (pc, .lsub, 1))  (k : k_W g d M (pc + 1) l (.long (x - y) :: st) u Q) : k_W g d M pc l (.long y :: .long x :: st) u Q := by
  intro p e R s m args below meth c H locs cells slots ls Z F h1 h2 h3 h4 hP hS hl hR
  have hx := F.1
  have hb := F.2.1
  have hown := F.2.2.2.1
  have hts := F.2.2.2.2.1
  have hK := F.2.2.2.2.2.1
  have hO := F.2.2.2.2.2.2.1
  have hZ := F.2.2.2.2.2.2.2.1
  have hap := F.2.2.2.2.2.2.2.2.1
  have ht := F.2.2.2.2.2.2.2.2.2.1
  have hNw := F.2.2.2.2.2.2.2.2.2.2
  exact lv_lsub hx hb (k_i_dec ht hd) (k p e R s m args below meth c H locs cells slots ls Z F h1 h2 h3 h4 hP hS hl hR)
theorem s_lmul {x y : Int64} (i j : Nat) (hd : k_i M i j = some (pc, .lmul, 1))  (k : k_W g d M (pc + 1) l (.long (x * y) :: st) u Q) : k_W g d M pc l (.long y :: .long x :: st) u Q := by
  intro p e R s m args below meth c H locs cells slots ls Z F h1 h2 h3 h4 hP hS hl hR
  have hx := F.1
  have hb := F.2.1
  have hown := F.2.2.2.1
  have hts := F.2.2.2.2.1
  have hK := F.2.2.2.2.2.1
  have hO := F.2.2.2.2.2.2.1
  have hZ := F.2.2.2.2.2.2.2.1
  have hap := F.2.2.2.2.2.2.2.2.1
  have ht := F.2.2.2.2.2.2.2.2.2.1
  have hNw := F.2.2.2.2.2.2.2.2.2.2
  exact lv_lmul hx hb (k_i_dec ht hd) (k p e R s m args below meth c H locs cells slots ls Z F h1 h2 h3 h4 hP hS hl hR)
theorem s_lshl {x : Int64} {y : Int32} (i j : Nat) (hd : k_i M i j = some (pc, .lshl, 1))  (k : k_W g d M (pc + 1) l (.long (x <<< (y.toInt64 &&& 63)) :: st) u Q) : k_W g d M pc l (.int y :: .long x :: st) u Q := by
  intro p e R s m args below meth c H locs cells slots ls Z F h1 h2 h3 h4 hP hS hl hR
  have hx := F.1
  have hb := F.2.1
  have hown := F.2.2.2.1
  have hts := F.2.2.2.2.1
  have hK := F.2.2.2.2.2.1
  have hO := F.2.2.2.2.2.2.1
  have hZ := F.2.2.2.2.2.2.2.1
  have hap := F.2.2.2.2.2.2.2.2.1
  have ht := F.2.2.2.2.2.2.2.2.2.1
  have hNw := F.2.2.2.2.2.2.2.2.2.2
  exact lv_lshl hx hb (k_i_dec ht hd) rfl (k p e R s m args below meth c H locs cells slots ls Z F h1 h2 h3 h4 hP hS hl hR)
theorem s_lcmp {x y : Int64} (i j : Nat) (hd : k_i M i j = some (pc, .lcmp, 1))  (k : k_W g d M (pc + 1) l (.int (lg_cmp x y) :: st) u Q) : k_W g d M pc l (.long y :: .long x :: st) u Q := by
  intro p e R s m args below meth c H locs cells slots ls Z F h1 h2 h3 h4 hP hS hl hR
  have hx := F.1
  have hb := F.2.1
  have hown := F.2.2.2.1
  have hts := F.2.2.2.2.1
  have hK := F.2.2.2.2.2.1
  have hO := F.2.2.2.2.2.2.1
  have hZ := F.2.2.2.2.2.2.2.1
  have hap := F.2.2.2.2.2.2.2.2.1
  have ht := F.2.2.2.2.2.2.2.2.2.1
  have hNw := F.2.2.2.2.2.2.2.2.2.2
  exact W.lcmp hx hb (k_i_dec ht hd) (k p e R s m args below meth c H locs cells slots ls Z F h1 h2 h3 h4 hP hS hl hR)
theorem s_i2l {x : Int32} (i j : Nat) (hd : k_i M i j = some (pc, .i2l, 1))  (k : k_W g d M (pc + 1) l (.long x.toInt64 :: st) u Q) : k_W g d M pc l (.int x :: st) u Q := by
  intro p e R s m args below meth c H locs cells slots ls Z F h1 h2 h3 h4 hP hS hl hR
  have hx := F.1
  have hb := F.2.1
  have hown := F.2.2.2.1
  have hts := F.2.2.2.2.1
  have hK := F.2.2.2.2.2.1
  have hO := F.2.2.2.2.2.2.1
  have hZ := F.2.2.2.2.2.2.2.1
  have hap := F.2.2.2.2.2.2.2.2.1
  have ht := F.2.2.2.2.2.2.2.2.2.1
  have hNw := F.2.2.2.2.2.2.2.2.2.2
  exact lv_i2l hx hb (k_i_dec ht hd) rfl (k p e R s m args below meth c H locs cells slots ls Z F h1 h2 h3 h4 hP hS hl hR)
theorem s_l2i {x : Int64} (i j : Nat) (hd : k_i M i j = some (pc, .l2i, 1))  (k : k_W g d M (pc + 1) l (.int x.toInt32 :: st) u Q) : k_W g d M pc l (.long x :: st) u Q := by
  intro p e R s m args below meth c H locs cells slots ls Z F h1 h2 h3 h4 hP hS hl hR
  have hx := F.1
  have hb := F.2.1
  have hown := F.2.2.2.1
  have hts := F.2.2.2.2.1
  have hK := F.2.2.2.2.2.1
  have hO := F.2.2.2.2.2.2.1
  have hZ := F.2.2.2.2.2.2.2.1
  have hap := F.2.2.2.2.2.2.2.2.1
  have ht := F.2.2.2.2.2.2.2.2.2.1
  have hNw := F.2.2.2.2.2.2.2.2.2.2
  exact lv_l2i hx hb (k_i_dec ht hd) rfl (k p e R s m args below meth c H locs cells slots ls Z F h1 h2 h3 h4 hP hS hl hR)
theorem s_i2b {x : Int32} (i j : Nat) (hd : k_i M i j = some (pc, .i2b, 1))  (k : k_W g d M (pc + 1) l (.int x.toInt8.toInt32 :: st) u Q) : k_W g d M pc l (.int x :: st) u Q := by
  intro p e R s m args below meth c H locs cells slots ls Z F h1 h2 h3 h4 hP hS hl hR
  have hx := F.1
  have hb := F.2.1
  have hown := F.2.2.2.1
  have hts := F.2.2.2.2.1
  have hK := F.2.2.2.2.2.1
  have hO := F.2.2.2.2.2.2.1
  have hZ := F.2.2.2.2.2.2.2.1
  have hap := F.2.2.2.2.2.2.2.2.1
  have ht := F.2.2.2.2.2.2.2.2.2.1
  have hNw := F.2.2.2.2.2.2.2.2.2.2
  exact lv_i2b hx hb (k_i_dec ht hd) rfl (k p e R s m args below meth c H locs cells slots ls Z F h1 h2 h3 h4 hP hS hl hR)
theorem s_i2s {x : Int32} (i j : Nat) (hd : k_i M i j = some (pc, .i2s, 1))  (k : k_W g d M (pc + 1) l (.int x.toInt16.toInt32 :: st) u Q) : k_W g d M pc l (.int x :: st) u Q := by
  intro p e R s m args below meth c H locs cells slots ls Z F h1 h2 h3 h4 hP hS hl hR
  have hx := F.1
  have hb := F.2.1
  have hown := F.2.2.2.1
  have hts := F.2.2.2.2.1
  have hK := F.2.2.2.2.2.1
  have hO := F.2.2.2.2.2.2.1
  have hZ := F.2.2.2.2.2.2.2.1
  have hap := F.2.2.2.2.2.2.2.2.1
  have ht := F.2.2.2.2.2.2.2.2.2.1
  have hNw := F.2.2.2.2.2.2.2.2.2.2
  exact lv_i2s hx hb (k_i_dec ht hd) rfl (k p e R s m args below meth c H locs cells slots ls Z F h1 h2 h3 h4 hP hS hl hR)
theorem s_dupi {x : Int32} (i j : Nat) (hd : k_i M i j = some (pc, .dup, 1))  (k : k_W g d M (pc + 1) l (.int x :: .int x :: st) u Q) : k_W g d M pc l (.int x :: st) u Q := by
  intro p e R s m args below meth c H locs cells slots ls Z F h1 h2 h3 h4 hP hS hl hR
  have hx := F.1
  have hb := F.2.1
  have hown := F.2.2.2.1
  have hts := F.2.2.2.2.1
  have hK := F.2.2.2.2.2.1
  have hO := F.2.2.2.2.2.2.1
  have hZ := F.2.2.2.2.2.2.2.1
  have hap := F.2.2.2.2.2.2.2.2.1
  have ht := F.2.2.2.2.2.2.2.2.2.1
  have hNw := F.2.2.2.2.2.2.2.2.2.2
  exact lv_dup hx hb (k_i_dec ht hd) rfl (k p e R s m args below meth c H locs cells slots ls Z F h1 h2 h3 h4 hP hS hl hR)
theorem s_popi {x : Int32} (i j : Nat) (hd : k_i M i j = some (pc, .pop, 1))  (k : k_W g d M (pc + 1) l (st) u Q) : k_W g d M pc l (.int x :: st) u Q := by
  intro p e R s m args below meth c H locs cells slots ls Z F h1 h2 h3 h4 hP hS hl hR
  have hx := F.1
  have hb := F.2.1
  have hown := F.2.2.2.1
  have hts := F.2.2.2.2.1
  have hK := F.2.2.2.2.2.1
  have hO := F.2.2.2.2.2.2.1
  have hZ := F.2.2.2.2.2.2.2.1
  have hap := F.2.2.2.2.2.2.2.2.1
  have ht := F.2.2.2.2.2.2.2.2.2.1
  have hNw := F.2.2.2.2.2.2.2.2.2.2
  exact lv_pop hx hb (k_i_dec ht hd) rfl (k p e R s m args below meth c H locs cells slots ls Z F h1 h2 h3 h4 hP hS hl hR)
theorem s_dupr {x : Nat} (i j : Nat) (hd : k_i M i j = some (pc, .dup, 1))  (k : k_W g d M (pc + 1) l (.ref x :: .ref x :: st) u Q) : k_W g d M pc l (.ref x :: st) u Q := by
  intro p e R s m args below meth c H locs cells slots ls Z F h1 h2 h3 h4 hP hS hl hR
  have hx := F.1
  have hb := F.2.1
  have hown := F.2.2.2.1
  have hts := F.2.2.2.2.1
  have hK := F.2.2.2.2.2.1
  have hO := F.2.2.2.2.2.2.1
  have hZ := F.2.2.2.2.2.2.2.1
  have hap := F.2.2.2.2.2.2.2.2.1
  have ht := F.2.2.2.2.2.2.2.2.2.1
  have hNw := F.2.2.2.2.2.2.2.2.2.2
  exact lv_dup hx hb (k_i_dec ht hd) rfl (k p e R s m args below meth c H locs cells slots ls Z F h1 h2 h3 h4 hP hS hl hR)
theorem s_popr {x : Nat} (i j : Nat) (hd : k_i M i j = some (pc, .pop, 1))  (k : k_W g d M (pc + 1) l (st) u Q) : k_W g d M pc l (.ref x :: st) u Q := by
  intro p e R s m args below meth c H locs cells slots ls Z F h1 h2 h3 h4 hP hS hl hR
  have hx := F.1
  have hb := F.2.1
  have hown := F.2.2.2.1
  have hts := F.2.2.2.2.1
  have hK := F.2.2.2.2.2.1
  have hO := F.2.2.2.2.2.2.1
  have hZ := F.2.2.2.2.2.2.2.1
  have hap := F.2.2.2.2.2.2.2.2.1
  have ht := F.2.2.2.2.2.2.2.2.2.1
  have hNw := F.2.2.2.2.2.2.2.2.2.2
  exact lv_pop hx hb (k_i_dec ht hd) rfl (k p e R s m args below meth c H locs cells slots ls Z F h1 h2 h3 h4 hP hS hl hR)
theorem s_pop2 {x : Int64} (i j : Nat) (hd : k_i M i j = some (pc, .pop2, 1))  (k : k_W g d M (pc + 1) l (st) u Q) : k_W g d M pc l (.long x :: st) u Q := by
  intro p e R s m args below meth c H locs cells slots ls Z F h1 h2 h3 h4 hP hS hl hR
  have hx := F.1
  have hb := F.2.1
  have hown := F.2.2.2.1
  have hts := F.2.2.2.2.1
  have hK := F.2.2.2.2.2.1
  have hO := F.2.2.2.2.2.2.1
  have hZ := F.2.2.2.2.2.2.2.1
  have hap := F.2.2.2.2.2.2.2.2.1
  have ht := F.2.2.2.2.2.2.2.2.2.1
  have hNw := F.2.2.2.2.2.2.2.2.2.2
  exact lv_pop2_2 hx hb (k_i_dec ht hd) rfl (k p e R s m args below meth c H locs cells slots ls Z F h1 h2 h3 h4 hP hS hl hR)
theorem s_dup2 {x : Int32} {a : Nat} (i j : Nat) (hd : k_i M i j = some (pc, .dup2, 1))  (k : k_W g d M (pc + 1) l (.int x :: .ref a :: .int x :: .ref a :: st) u Q) : k_W g d M pc l (.int x :: .ref a :: st) u Q := by
  intro p e R s m args below meth c H locs cells slots ls Z F h1 h2 h3 h4 hP hS hl hR
  have hx := F.1
  have hb := F.2.1
  have hown := F.2.2.2.1
  have hts := F.2.2.2.2.1
  have hK := F.2.2.2.2.2.1
  have hO := F.2.2.2.2.2.2.1
  have hZ := F.2.2.2.2.2.2.2.1
  have hap := F.2.2.2.2.2.2.2.2.1
  have ht := F.2.2.2.2.2.2.2.2.2.1
  have hNw := F.2.2.2.2.2.2.2.2.2.2
  exact lv_dup2_11 hx hb (k_i_dec ht hd) rfl rfl (k p e R s m args below meth c H locs cells slots ls Z F h1 h2 h3 h4 hP hS hl hR)
theorem s_if_eq {α : Type} {QQ : α → k_S → Prop} {A B : Option (α × k_S)} {x : Int32} {off : Int} (i j tgt : Nat) (hd : k_i M i j = some (pc, .ifCond .eq off, 3)) (hg : (pc : Int) + off = (tgt : Int)) (HH : k_sat (if x = 0 then A else B) QQ) (kt : x = 0 → k_sat A QQ → k_W g d M tgt l st u Q) (kf : ¬ x = 0 → k_sat B QQ → k_W g d M (pc + 3) l st u Q) : k_W g d M pc l (.int x :: st) u Q := by
  intro p e R s m args below meth c H locs cells slots ls Z F h1 h2 h3 h4 hP hS hl hR
  have hx := F.1
  have hb := F.2.1
  have hown := F.2.2.2.1
  have hts := F.2.2.2.2.1
  have hK := F.2.2.2.2.2.1
  have hO := F.2.2.2.2.2.2.1
  have hZ := F.2.2.2.2.2.2.2.1
  have hap := F.2.2.2.2.2.2.2.2.1
  have ht := F.2.2.2.2.2.2.2.2.2.1
  have hNw := F.2.2.2.2.2.2.2.2.2.2
  exact lv_if_eq hx hb (k_i_dec ht hd) hg (fun hc => kt hc (k_sat_pos HH hc) p e R s m args below meth c H locs cells slots ls Z F h1 h2 h3 h4 hP hS hl hR) (fun hc => kf hc (k_sat_neg HH hc) p e R s m args below meth c H locs cells slots ls Z F h1 h2 h3 h4 hP hS hl hR)
theorem s_if_ne {α : Type} {QQ : α → k_S → Prop} {A B : Option (α × k_S)} {x : Int32} {off : Int} (i j tgt : Nat) (hd : k_i M i j = some (pc, .ifCond .ne off, 3)) (hg : (pc : Int) + off = (tgt : Int)) (HH : k_sat (if x = 0 then B else A) QQ) (kt : ¬ x = 0 → k_sat A QQ → k_W g d M tgt l st u Q) (kf : x = 0 → k_sat B QQ → k_W g d M (pc + 3) l st u Q) : k_W g d M pc l (.int x :: st) u Q := by
  intro p e R s m args below meth c H locs cells slots ls Z F h1 h2 h3 h4 hP hS hl hR
  have hx := F.1
  have hb := F.2.1
  have hown := F.2.2.2.1
  have hts := F.2.2.2.2.1
  have hK := F.2.2.2.2.2.1
  have hO := F.2.2.2.2.2.2.1
  have hZ := F.2.2.2.2.2.2.2.1
  have hap := F.2.2.2.2.2.2.2.2.1
  have ht := F.2.2.2.2.2.2.2.2.2.1
  have hNw := F.2.2.2.2.2.2.2.2.2.2
  exact lv_if_ne hx hb (k_i_dec ht hd) hg (fun hc => kt hc (k_sat_neg HH hc) p e R s m args below meth c H locs cells slots ls Z F h1 h2 h3 h4 hP hS hl hR) (fun hc => kf hc (k_sat_pos HH hc) p e R s m args below meth c H locs cells slots ls Z F h1 h2 h3 h4 hP hS hl hR)
theorem s_if_lt {α : Type} {QQ : α → k_S → Prop} {A B : Option (α × k_S)} {x : Int32} {off : Int} (i j tgt : Nat) (hd : k_i M i j = some (pc, .ifCond .lt off, 3)) (hg : (pc : Int) + off = (tgt : Int)) (HH : k_sat (if x < 0 then A else B) QQ) (kt : x < 0 → k_sat A QQ → k_W g d M tgt l st u Q) (kf : ¬ x < 0 → k_sat B QQ → k_W g d M (pc + 3) l st u Q) : k_W g d M pc l (.int x :: st) u Q := by
  intro p e R s m args below meth c H locs cells slots ls Z F h1 h2 h3 h4 hP hS hl hR
  have hx := F.1
  have hb := F.2.1
  have hown := F.2.2.2.1
  have hts := F.2.2.2.2.1
  have hK := F.2.2.2.2.2.1
  have hO := F.2.2.2.2.2.2.1
  have hZ := F.2.2.2.2.2.2.2.1
  have hap := F.2.2.2.2.2.2.2.2.1
  have ht := F.2.2.2.2.2.2.2.2.2.1
  have hNw := F.2.2.2.2.2.2.2.2.2.2
  exact lv_if_lt hx hb (k_i_dec ht hd) hg (fun hc => kt hc (k_sat_pos HH hc) p e R s m args below meth c H locs cells slots ls Z F h1 h2 h3 h4 hP hS hl hR) (fun hc => kf hc (k_sat_neg HH hc) p e R s m args below meth c H locs cells slots ls Z F h1 h2 h3 h4 hP hS hl hR)
theorem s_if_ge {α : Type} {QQ : α → k_S → Prop} {A B : Option (α × k_S)} {x : Int32} {off : Int} (i j tgt : Nat) (hd : k_i M i j = some (pc, .ifCond .ge off, 3)) (hg : (pc : Int) + off = (tgt : Int)) (HH : k_sat (if 0 ≤ x then A else B) QQ) (kt : 0 ≤ x → k_sat A QQ → k_W g d M tgt l st u Q) (kf : ¬ 0 ≤ x → k_sat B QQ → k_W g d M (pc + 3) l st u Q) : k_W g d M pc l (.int x :: st) u Q := by
  intro p e R s m args below meth c H locs cells slots ls Z F h1 h2 h3 h4 hP hS hl hR
  have hx := F.1
  have hb := F.2.1
  have hown := F.2.2.2.1
  have hts := F.2.2.2.2.1
  have hK := F.2.2.2.2.2.1
  have hO := F.2.2.2.2.2.2.1
  have hZ := F.2.2.2.2.2.2.2.1
  have hap := F.2.2.2.2.2.2.2.2.1
  have ht := F.2.2.2.2.2.2.2.2.2.1
  have hNw := F.2.2.2.2.2.2.2.2.2.2
  exact lv_if_ge hx hb (k_i_dec ht hd) hg (fun hc => kt hc (k_sat_pos HH hc) p e R s m args below meth c H locs cells slots ls Z F h1 h2 h3 h4 hP hS hl hR) (fun hc => kf hc (k_sat_neg HH hc) p e R s m args below meth c H locs cells slots ls Z F h1 h2 h3 h4 hP hS hl hR)
theorem s_if_gt {α : Type} {QQ : α → k_S → Prop} {A B : Option (α × k_S)} {x : Int32} {off : Int} (i j tgt : Nat) (hd : k_i M i j = some (pc, .ifCond .gt off, 3)) (hg : (pc : Int) + off = (tgt : Int)) (HH : k_sat (if 0 < x then A else B) QQ) (kt : 0 < x → k_sat A QQ → k_W g d M tgt l st u Q) (kf : ¬ 0 < x → k_sat B QQ → k_W g d M (pc + 3) l st u Q) : k_W g d M pc l (.int x :: st) u Q := by
  intro p e R s m args below meth c H locs cells slots ls Z F h1 h2 h3 h4 hP hS hl hR
  have hx := F.1
  have hb := F.2.1
  have hown := F.2.2.2.1
  have hts := F.2.2.2.2.1
  have hK := F.2.2.2.2.2.1
  have hO := F.2.2.2.2.2.2.1
  have hZ := F.2.2.2.2.2.2.2.1
  have hap := F.2.2.2.2.2.2.2.2.1
  have ht := F.2.2.2.2.2.2.2.2.2.1
  have hNw := F.2.2.2.2.2.2.2.2.2.2
  exact lv_if_gt hx hb (k_i_dec ht hd) hg (fun hc => kt hc (k_sat_pos HH hc) p e R s m args below meth c H locs cells slots ls Z F h1 h2 h3 h4 hP hS hl hR) (fun hc => kf hc (k_sat_neg HH hc) p e R s m args below meth c H locs cells slots ls Z F h1 h2 h3 h4 hP hS hl hR)
theorem s_if_le {α : Type} {QQ : α → k_S → Prop} {A B : Option (α × k_S)} {x : Int32} {off : Int} (i j tgt : Nat) (hd : k_i M i j = some (pc, .ifCond .le off, 3)) (hg : (pc : Int) + off = (tgt : Int)) (HH : k_sat (if x ≤ 0 then A else B) QQ) (kt : x ≤ 0 → k_sat A QQ → k_W g d M tgt l st u Q) (kf : ¬ x ≤ 0 → k_sat B QQ → k_W g d M (pc + 3) l st u Q) : k_W g d M pc l (.int x :: st) u Q := by
  intro p e R s m args below meth c H locs cells slots ls Z F h1 h2 h3 h4 hP hS hl hR
  have hx := F.1
  have hb := F.2.1
  have hown := F.2.2.2.1
  have hts := F.2.2.2.2.1
  have hK := F.2.2.2.2.2.1
  have hO := F.2.2.2.2.2.2.1
  have hZ := F.2.2.2.2.2.2.2.1
  have hap := F.2.2.2.2.2.2.2.2.1
  have ht := F.2.2.2.2.2.2.2.2.2.1
  have hNw := F.2.2.2.2.2.2.2.2.2.2
  exact lv_if_le hx hb (k_i_dec ht hd) hg (fun hc => kt hc (k_sat_pos HH hc) p e R s m args below meth c H locs cells slots ls Z F h1 h2 h3 h4 hP hS hl hR) (fun hc => kf hc (k_sat_neg HH hc) p e R s m args below meth c H locs cells slots ls Z F h1 h2 h3 h4 hP hS hl hR)
theorem s_icmp_eq {α : Type} {QQ : α → k_S → Prop} {A B : Option (α × k_S)} {x y : Int32} {off : Int} (i j tgt : Nat) (hd : k_i M i j = some (pc, .if_icmp .eq off, 3)) (hg : (pc : Int) + off = (tgt : Int)) (HH : k_sat (if x = y then A else B) QQ) (kt : x = y → k_sat A QQ → k_W g d M tgt l st u Q) (kf : ¬ x = y → k_sat B QQ → k_W g d M (pc + 3) l st u Q) : k_W g d M pc l (.int y :: .int x :: st) u Q := by
  intro p e R s m args below meth c H locs cells slots ls Z F h1 h2 h3 h4 hP hS hl hR
  have hx := F.1
  have hb := F.2.1
  have hown := F.2.2.2.1
  have hts := F.2.2.2.2.1
  have hK := F.2.2.2.2.2.1
  have hO := F.2.2.2.2.2.2.1
  have hZ := F.2.2.2.2.2.2.2.1
  have hap := F.2.2.2.2.2.2.2.2.1
  have ht := F.2.2.2.2.2.2.2.2.2.1
  have hNw := F.2.2.2.2.2.2.2.2.2.2
  exact lv_icmp_eq hx hb (k_i_dec ht hd) hg (fun hc => kt hc (k_sat_pos HH hc) p e R s m args below meth c H locs cells slots ls Z F h1 h2 h3 h4 hP hS hl hR) (fun hc => kf hc (k_sat_neg HH hc) p e R s m args below meth c H locs cells slots ls Z F h1 h2 h3 h4 hP hS hl hR)
theorem s_icmp_ne {α : Type} {QQ : α → k_S → Prop} {A B : Option (α × k_S)} {x y : Int32} {off : Int} (i j tgt : Nat) (hd : k_i M i j = some (pc, .if_icmp .ne off, 3)) (hg : (pc : Int) + off = (tgt : Int)) (HH : k_sat (if x = y then B else A) QQ) (kt : ¬ x = y → k_sat A QQ → k_W g d M tgt l st u Q) (kf : x = y → k_sat B QQ → k_W g d M (pc + 3) l st u Q) : k_W g d M pc l (.int y :: .int x :: st) u Q := by
  intro p e R s m args below meth c H locs cells slots ls Z F h1 h2 h3 h4 hP hS hl hR
  have hx := F.1
  have hb := F.2.1
  have hown := F.2.2.2.1
  have hts := F.2.2.2.2.1
  have hK := F.2.2.2.2.2.1
  have hO := F.2.2.2.2.2.2.1
  have hZ := F.2.2.2.2.2.2.2.1
  have hap := F.2.2.2.2.2.2.2.2.1
  have ht := F.2.2.2.2.2.2.2.2.2.1
  have hNw := F.2.2.2.2.2.2.2.2.2.2
  exact lv_icmp_ne hx hb (k_i_dec ht hd) hg (fun hc => kt hc (k_sat_neg HH hc) p e R s m args below meth c H locs cells slots ls Z F h1 h2 h3 h4 hP hS hl hR) (fun hc => kf hc (k_sat_pos HH hc) p e R s m args below meth c H locs cells slots ls Z F h1 h2 h3 h4 hP hS hl hR)
theorem s_icmp_lt {α : Type} {QQ : α → k_S → Prop} {A B : Option (α × k_S)} {x y : Int32} {off : Int} (i j tgt : Nat) (hd : k_i M i j = some (pc, .if_icmp .lt off, 3)) (hg : (pc : Int) + off = (tgt : Int)) (HH : k_sat (if x < y then A else B) QQ) (kt : x < y → k_sat A QQ → k_W g d M tgt l st u Q) (kf : ¬ x < y → k_sat B QQ → k_W g d M (pc + 3) l st u Q) : k_W g d M pc l (.int y :: .int x :: st) u Q := by
  intro p e R s m args below meth c H locs cells slots ls Z F h1 h2 h3 h4 hP hS hl hR
  have hx := F.1
  have hb := F.2.1
  have hown := F.2.2.2.1
  have hts := F.2.2.2.2.1
  have hK := F.2.2.2.2.2.1
  have hO := F.2.2.2.2.2.2.1
  have hZ := F.2.2.2.2.2.2.2.1
  have hap := F.2.2.2.2.2.2.2.2.1
  have ht := F.2.2.2.2.2.2.2.2.2.1
  have hNw := F.2.2.2.2.2.2.2.2.2.2
  exact lv_icmp_lt hx hb (k_i_dec ht hd) hg (fun hc => kt hc (k_sat_pos HH hc) p e R s m args below meth c H locs cells slots ls Z F h1 h2 h3 h4 hP hS hl hR) (fun hc => kf hc (k_sat_neg HH hc) p e R s m args below meth c H locs cells slots ls Z F h1 h2 h3 h4 hP hS hl hR)
theorem s_icmp_ge {α : Type} {QQ : α → k_S → Prop} {A B : Option (α × k_S)} {x y : Int32} {off : Int} (i j tgt : Nat) (hd : k_i M i j = some (pc, .if_icmp .ge off, 3)) (hg : (pc : Int) + off = (tgt : Int)) (HH : k_sat (if y ≤ x then A else B) QQ) (kt : y ≤ x → k_sat A QQ → k_W g d M tgt l st u Q) (kf : ¬ y ≤ x → k_sat B QQ → k_W g d M (pc + 3) l st u Q) : k_W g d M pc l (.int y :: .int x :: st) u Q := by
  intro p e R s m args below meth c H locs cells slots ls Z F h1 h2 h3 h4 hP hS hl hR
  have hx := F.1
  have hb := F.2.1
  have hown := F.2.2.2.1
  have hts := F.2.2.2.2.1
  have hK := F.2.2.2.2.2.1
  have hO := F.2.2.2.2.2.2.1
  have hZ := F.2.2.2.2.2.2.2.1
  have hap := F.2.2.2.2.2.2.2.2.1
  have ht := F.2.2.2.2.2.2.2.2.2.1
  have hNw := F.2.2.2.2.2.2.2.2.2.2
  exact lv_icmp_ge hx hb (k_i_dec ht hd) hg (fun hc => kt hc (k_sat_pos HH hc) p e R s m args below meth c H locs cells slots ls Z F h1 h2 h3 h4 hP hS hl hR) (fun hc => kf hc (k_sat_neg HH hc) p e R s m args below meth c H locs cells slots ls Z F h1 h2 h3 h4 hP hS hl hR)
theorem s_icmp_gt {α : Type} {QQ : α → k_S → Prop} {A B : Option (α × k_S)} {x y : Int32} {off : Int} (i j tgt : Nat) (hd : k_i M i j = some (pc, .if_icmp .gt off, 3)) (hg : (pc : Int) + off = (tgt : Int)) (HH : k_sat (if y < x then A else B) QQ) (kt : y < x → k_sat A QQ → k_W g d M tgt l st u Q) (kf : ¬ y < x → k_sat B QQ → k_W g d M (pc + 3) l st u Q) : k_W g d M pc l (.int y :: .int x :: st) u Q := by
  intro p e R s m args below meth c H locs cells slots ls Z F h1 h2 h3 h4 hP hS hl hR
  have hx := F.1
  have hb := F.2.1
  have hown := F.2.2.2.1
  have hts := F.2.2.2.2.1
  have hK := F.2.2.2.2.2.1
  have hO := F.2.2.2.2.2.2.1
  have hZ := F.2.2.2.2.2.2.2.1
  have hap := F.2.2.2.2.2.2.2.2.1
  have ht := F.2.2.2.2.2.2.2.2.2.1
  have hNw := F.2.2.2.2.2.2.2.2.2.2
  exact lv_icmp_gt hx hb (k_i_dec ht hd) hg (fun hc => kt hc (k_sat_pos HH hc) p e R s m args below meth c H locs cells slots ls Z F h1 h2 h3 h4 hP hS hl hR) (fun hc => kf hc (k_sat_neg HH hc) p e R s m args below meth c H locs cells slots ls Z F h1 h2 h3 h4 hP hS hl hR)
theorem s_icmp_le {α : Type} {QQ : α → k_S → Prop} {A B : Option (α × k_S)} {x y : Int32} {off : Int} (i j tgt : Nat) (hd : k_i M i j = some (pc, .if_icmp .le off, 3)) (hg : (pc : Int) + off = (tgt : Int)) (HH : k_sat (if x ≤ y then A else B) QQ) (kt : x ≤ y → k_sat A QQ → k_W g d M tgt l st u Q) (kf : ¬ x ≤ y → k_sat B QQ → k_W g d M (pc + 3) l st u Q) : k_W g d M pc l (.int y :: .int x :: st) u Q := by
  intro p e R s m args below meth c H locs cells slots ls Z F h1 h2 h3 h4 hP hS hl hR
  have hx := F.1
  have hb := F.2.1
  have hown := F.2.2.2.1
  have hts := F.2.2.2.2.1
  have hK := F.2.2.2.2.2.1
  have hO := F.2.2.2.2.2.2.1
  have hZ := F.2.2.2.2.2.2.2.1
  have hap := F.2.2.2.2.2.2.2.2.1
  have ht := F.2.2.2.2.2.2.2.2.2.1
  have hNw := F.2.2.2.2.2.2.2.2.2.2
  exact lv_icmp_le hx hb (k_i_dec ht hd) hg (fun hc => kt hc (k_sat_pos HH hc) p e R s m args below meth c H locs cells slots ls Z F h1 h2 h3 h4 hP hS hl hR) (fun hc => kf hc (k_sat_neg HH hc) p e R s m args below meth c H locs cells slots ls Z F h1 h2 h3 h4 hP hS hl hR)
theorem s_goto {off : Int} (i j tgt : Nat) (hd : k_i M i j = some (pc, .goto off, 3)) (hg : (pc : Int) + off = (tgt : Int)) (k : k_W g d M tgt l st u Q) : k_W g d M pc l st u Q := by
  intro p e R s m args below meth c H locs cells slots ls Z F h1 h2 h3 h4 hP hS hl hR
  have hx := F.1
  have hb := F.2.1
  have hown := F.2.2.2.1
  have hts := F.2.2.2.2.1
  have hK := F.2.2.2.2.2.1
  have hO := F.2.2.2.2.2.2.1
  have hZ := F.2.2.2.2.2.2.2.1
  have hap := F.2.2.2.2.2.2.2.2.1
  have ht := F.2.2.2.2.2.2.2.2.2.1
  have hNw := F.2.2.2.2.2.2.2.2.2.2
  exact lv_goto hx hb (k_i_dec ht hd) hg (k p e R s m args below meth c H locs cells slots ls Z F h1 h2 h3 h4 hP hS hl hR)
theorem s_table {dflt lo hi : Int} {offs : Array Int} {len : Nat} {x : Int32} {off : Int} (i j tgt : Nat) (hd : k_i M i j = some (pc, .tableswitch dflt lo hi offs, len)) (a : Int32) (hxa : x = a) (ha1 : ¬ a.toInt < lo) (ha2 : ¬ hi < a.toInt) (ho : offs[(a.toInt - lo).toNat]? = some off) (hg : (pc : Int) + off = (tgt : Int)) (k : k_W g d M tgt l st u Q) : k_W g d M pc l (.int x :: st) u Q := by
  subst hxa
  intro p e R s m args below meth c H locs cells slots ls Z F h1 h2 h3 h4 hP hS hl hR
  have hx := F.1
  have hb := F.2.1
  have hown := F.2.2.2.1
  have hts := F.2.2.2.2.1
  have hK := F.2.2.2.2.2.1
  have hO := F.2.2.2.2.2.2.1
  have hZ := F.2.2.2.2.2.2.2.1
  have hap := F.2.2.2.2.2.2.2.2.1
  have ht := F.2.2.2.2.2.2.2.2.2.1
  have hNw := F.2.2.2.2.2.2.2.2.2.2
  exact lv_tableIn hx hb (k_i_dec ht hd) ha1 ha2 ho hg (k p e R s m args below meth c H locs cells slots ls Z F h1 h2 h3 h4 hP hS hl hR)
theorem s_tableOut {dflt lo hi : Int} {offs : Array Int} {len : Nat} {x : Int32} (i j tgt : Nat) (hd : k_i M i j = some (pc, .tableswitch dflt lo hi offs, len)) (h0 : x.toInt < lo ∨ hi < x.toInt) (hg : (pc : Int) + dflt = (tgt : Int)) (k : k_W g d M tgt l st u Q) : k_W g d M pc l (.int x :: st) u Q := by
  intro p e R s m args below meth c H locs cells slots ls Z F h1 h2 h3 h4 hP hS hl hR
  have hx := F.1
  have hb := F.2.1
  have hown := F.2.2.2.1
  have hts := F.2.2.2.2.1
  have hK := F.2.2.2.2.2.1
  have hO := F.2.2.2.2.2.2.1
  have hZ := F.2.2.2.2.2.2.2.1
  have hap := F.2.2.2.2.2.2.2.2.1
  have ht := F.2.2.2.2.2.2.2.2.2.1
  have hNw := F.2.2.2.2.2.2.2.2.2.2
  exact lv_tableOut hx hb (k_i_dec ht hd) h0 hg (k p e R s m args below meth c H locs cells slots ls Z F h1 h2 h3 h4 hP hS hl hR)
theorem s_lookup {dflt : Int} {ps : Array (Int × Int)} {len : Nat} {x : Int32} {off : Int} (i j tgt : Nat) (hd : k_i M i j = some (pc, .lookupswitch dflt ps, len)) (hp : (ps.toList.zip (ps.toList.drop 1)).all (fun (a, next) => a.1 < next.1) = true) (ho : Op.lookupswitch.offset ps.toList dflt x.toInt = off) (hg : (pc : Int) + off = (tgt : Int)) (k : k_W g d M tgt l st u Q) : k_W g d M pc l (.int x :: st) u Q := by
  intro p e R s m args below meth c H locs cells slots ls Z F h1 h2 h3 h4 hP hS hl hR
  have hx := F.1
  have hb := F.2.1
  have hown := F.2.2.2.1
  have hts := F.2.2.2.2.1
  have hK := F.2.2.2.2.2.1
  have hO := F.2.2.2.2.2.2.1
  have hZ := F.2.2.2.2.2.2.2.1
  have hap := F.2.2.2.2.2.2.2.2.1
  have ht := F.2.2.2.2.2.2.2.2.2.1
  have hNw := F.2.2.2.2.2.2.2.2.2.2
  exact lv_lookup hx hb (k_i_dec ht hd) hp ho hg (k p e R s m args below meth c H locs cells slots ls Z F h1 h2 h3 h4 hP hS hl hR)
end KR
end
section
theorem k_cls_ty : ∀ q ∈ vwCl, ∀ k, k < q.2.2 → parseFieldDescriptor (q.2.1 k).2.2.1 = some ((parseFieldDescriptor (q.2.1 k).2.2.1).getD .int) := by decide +kernel
theorem k_cls_nm : ∀ q ∈ vwCl, ∀ a, a < q.2.2 → ∀ b, b < q.2.2 → a ≠ b → (q.2.1 a).2.1 ≠ (q.2.1 b).2.1 := by decide +kernel
section KH
variable {g : k_G} {d : Nat} {M : k_M} {pc : Nat} {l : List (Nat × Value)} {st : List Value} {u : k_S} {Q : Option Value → k_S → Prop}
theorem k_obj {a ci : Nat} {fs : List (Option Nat)} (ha : k_nth k_lay a = some (.inl (ci, fs))) : (k_wd g u)[a]? = some (k_ad g a, .inr (ci, k_fs g u a 0 fs)) := by
  rw [k_nth_eq] at ha
  exact k_wd_get g u ha
theorem k_arr {a n : Nat} {ty : FieldType} (ha : k_nth k_lay a = some (.inr (ty, n, false))) : (k_wd g u)[a]? = some (k_ad g a, .inl (k_ca g a, n, .inl (u.2.1 a))) := by
  rw [k_nth_eq] at ha
  exact k_wd_get g u ha
theorem k_arl {a n : Nat} {ty : FieldType} (ha : k_nth k_lay a = some (.inr (ty, n, true))) : (k_wd g u)[a]? = some (k_ad g a, .inl (k_ca g a, n, .inr (.inl (u.2.2 a)))) := by
  rw [k_nth_eq] at ha
  exact k_wd_get g u ha
theorem k_ty {a n : Nat} {ty : FieldType} {b : Bool} (ha : k_nth k_lay a = some (.inr (ty, n, b))) : ∃ t0 : Nat, (k_tys g 0 k_lay)[t0]? = some (k_ca g a, ty) := by
  rw [k_nth_eq] at ha
  simpa using k_tys_get g k_lay 0 a ty n b ha
/-- a field that holds a cell -/
theorem s_getr {idx a ci f t : Nat} {fs : List (Option Nat)} {b : Bool} {C : String} {T : u_T} {N : Nat} (i j : Nat) (hd : k_i M i j = some (pc, .getfield idx, 3)) (hw : k_flw (M.1.cls, idx, ci, f, b) ∈ k_sel b) (ha : k_nth k_lay a = some (.inl (ci, fs))) (hf : k_nth fs f = some (some t)) (hc : k_nth vwCl ci = some (C, T, N)) (hN : Nat.blt f N = true) (k : k_W g d M (pc + 3) l (.ref t :: st) u Q) : k_W g d M pc l (.ref a :: st) u Q := by
  intro p e R s m args below meth c H locs cells slots ls Z F h1 h2 h3 h4 hP hS hl hR
  have hx := F.1
  have hb := F.2.1
  have hown := F.2.2.2.1
  have hts := F.2.2.2.2.1
  have hK := F.2.2.2.2.2.1
  have hO := F.2.2.2.2.2.2.1
  have hZ := F.2.2.2.2.2.2.2.1
  have hap := F.2.2.2.2.2.2.2.2.1
  have ht := F.2.2.2.2.2.2.2.2.2.1
  have hNw := F.2.2.2.2.2.2.2.2.2.2
  rw [k_nth_eq] at hc
  have hin : ∀ w ∈ u_ws C T N, w ∈ k_tbl := k_cls_in _ (List.mem_of_getElem? hc)
  have hv : (k_fs g u a 0 fs)[f]? = some (.ref (k_ad g t)) := by rw [k_fs_get, ← k_nth_eq, hf]; rfl
  cases b with
  | true =>
    simp only [k_flw, hc, if_true, k_sel] at hw
    have hw := va_Nw.use (A := args) rfl (hNw _ hw)
    exact va_getN hx hb hts hin hown hK hP a (k_obj ha) hc f (Nat.blt_eq.mp hN) hw (fun _ z => z) hv (k_i_dec ht hd) (k p e R s m args below meth c H locs cells slots ls Z F h1 h2 h3 h4 hP hS hl hR)
  | false =>
    simp only [k_flw, hc, Bool.false_eq_true, if_false, k_sel] at hw
    exact va_get hx hb hts hin hown hK hP a (k_obj ha) hc f (Nat.blt_eq.mp hN) (hts _ hw) (fun _ z => z) hv (k_i_dec ht hd) (k p e R s m args below meth c H locs cells slots ls Z F h1 h2 h3 h4 hP hS hl hR)
/-- a field that holds an int -/
theorem s_geti {idx a ci f : Nat} {fs : List (Option Nat)} {b : Bool} {C : String} {T : u_T} {N : Nat} (n i j : Nat) (hd : k_i M i j = some (pc, .getfield idx, 3)) (hw : k_flw (M.1.cls, idx, ci, f, b) ∈ k_sel b) (ha : k_nth k_lay a = some (.inl (ci, fs))) (hf : k_nth fs f = some none) (hc : k_nth vwCl ci = some (C, T, N)) (hN : Nat.blt f N = true) (hn : 100 * a + f = n) (k : k_W g d M (pc + 3) l (.int (u.1 n) :: st) u Q) : k_W g d M pc l (.ref a :: st) u Q := by
  subst hn
  intro p e R s m args below meth c H locs cells slots ls Z F h1 h2 h3 h4 hP hS hl hR
  have hx := F.1
  have hb := F.2.1
  have hown := F.2.2.2.1
  have hts := F.2.2.2.2.1
  have hK := F.2.2.2.2.2.1
  have hO := F.2.2.2.2.2.2.1
  have hZ := F.2.2.2.2.2.2.2.1
  have hap := F.2.2.2.2.2.2.2.2.1
  have ht := F.2.2.2.2.2.2.2.2.2.1
  have hNw := F.2.2.2.2.2.2.2.2.2.2
  rw [k_nth_eq] at hc
  have hin : ∀ w ∈ u_ws C T N, w ∈ k_tbl := k_cls_in _ (List.mem_of_getElem? hc)
  have hv : (k_fs g u a 0 fs)[f]? = some (.int (u.1 (100 * a + f))) := by rw [k_fs_get, ← k_nth_eq, hf]; simp
  cases b with
  | true =>
    simp only [k_flw, hc, if_true, k_sel] at hw
    have hw := va_Nw.use (A := args) rfl (hNw _ hw)
    exact va_getN hx hb hts hin hown hK hP a (k_obj ha) hc f (Nat.blt_eq.mp hN) hw (fun _ z => z) hv (k_i_dec ht hd) (k p e R s m args below meth c H locs cells slots ls Z F h1 h2 h3 h4 hP hS hl hR)
  | false =>
    simp only [k_flw, hc, Bool.false_eq_true, if_false, k_sel] at hw
    exact va_get hx hb hts hin hown hK hP a (k_obj ha) hc f (Nat.blt_eq.mp hN) (hts _ hw) (fun _ z => z) hv (k_i_dec ht hd) (k p e R s m args below meth c H locs cells slots ls Z F h1 h2 h3 h4 hP hS hl hR)
/-- an int is put into a field -/
theorem s_puti {α : Type} {QQ : α → k_S → Prop} {B : k_S → Option (α × k_S)} {idx a ci f : Nat} {fs : List (Option Nat)} {b : Bool} {C : String} {T : u_T} {N : Nat} {v : Int32} {ty : FieldType} (n i j : Nat) (hd : k_i M i j = some (pc, .putfield idx, 3)) (hw : k_flw (M.1.cls, idx, ci, f, b) ∈ k_sel b) (ha : k_nth k_lay a = some (.inl (ci, fs))) (hf : k_nth fs f = some none) (hc : k_nth vwCl ci = some (C, T, N)) (hN : Nat.blt f N = true) (hn : 100 * a + f = n) (hfin : (T f).2.2.2 = false) (hty : parseFieldDescriptor (T f).2.2.1 = some ty) (hnar : narrow ty (.int v) = .int v) (hfit : fits ty (.int v) = true) (HH : k_sat (k_let (k_wF u n v) B) QQ) (k : ∀ u', k_sat (B u') QQ → k_W g d M (pc + 3) l st u' Q) : k_W g d M pc l (.int v :: .ref a :: st) u Q := by
  subst hn
  intro p e R s m args below meth c H locs cells slots ls Z F h1 h2 h3 h4 hP hS hl hR
  have hx := F.1
  have hb := F.2.1
  have hown := F.2.2.2.1
  have hts := F.2.2.2.2.1
  have hK := F.2.2.2.2.2.1
  have hO := F.2.2.2.2.2.2.1
  have hZ := F.2.2.2.2.2.2.2.1
  have hap := F.2.2.2.2.2.2.2.2.1
  have ht := F.2.2.2.2.2.2.2.2.2.1
  have hNw := F.2.2.2.2.2.2.2.2.2.2
  rw [k_nth_eq] at hc
  have hin : ∀ w ∈ u_ws C T N, w ∈ k_tbl := k_cls_in _ (List.mem_of_getElem? hc)
  have hfl : f < (k_fs g u a 0 fs).length := by
    have := k_fs_get g u a fs 0 f
    rw [← k_nth_eq fs, hf] at this
    exact (List.getElem?_eq_some_iff.mp this).1
  have hset := k_wd_F g u v (by rw [← k_nth_eq]; exact ha) (by rw [← k_nth_eq]; exact hf)
  have kk : ∀ (H1 : Heap) (locs1 : List Loc), va_P (k_D g) vwCl ((k_wd g u).set a (k_ad g a, .inr (ci, (k_fs g u a 0 fs).set f (.int v)))) H1 → va_D (k_A g) ((k_wd g u).set a (k_ad g a, .inr (ci, (k_fs g u a 0 fs).set f (.int v)))) → va_S (k_A g) s.heap H1 locs1 → W p g.1 e R s m args below meth c H1 locs1 cells slots Z (F0 m (pc + 3) ls (st.map (k_v g))) := by
    intro H1 locs1 hP1 _ hS1
    rw [← hset] at hP1
    exact k _ HH p e R s m args below meth c H1 locs1 cells slots ls Z F h1 h2 h3 h4 hP1 hS1 hl hR
  cases b with
  | true =>
    simp only [k_flw, hc, if_true, k_sel] at hw
    have hw := va_Nw.use (A := args) rfl (hNw _ hw)
    exact va_putN hx hb hts hin _ (k_cls_ty _ (List.mem_of_getElem? hc)) (k_cls_nm _ (List.mem_of_getElem? hc)) hown hK hP (k_wd_D hap u) hS a (k_obj ha) hc f (Nat.blt_eq.mp hN) hw (fun _ z => z) hfin hty hnar hfit hfl (k_i_dec ht hd) kk
  | false =>
    simp only [k_flw, hc, Bool.false_eq_true, if_false, k_sel] at hw
    exact va_put hx hb hts hin _ (k_cls_ty _ (List.mem_of_getElem? hc)) (k_cls_nm _ (List.mem_of_getElem? hc)) hown hK hP (k_wd_D hap u) hS a (k_obj ha) hc f (Nat.blt_eq.mp hN) (hts _ hw) (fun _ z => z) hfin hty hnar hfit hfl (k_i_dec ht hd) kk
theorem s_alen {a n : Nat} {ty : FieldType} {b : Bool} (v : Int32) (i j : Nat) (hd : k_i M i j = some (pc, .arraylength, 1)) (ha : k_nth k_lay a = some (.inr (ty, n, b))) (hv : Int32.ofNat n = v) (k : k_W g d M (pc + 1) l (.int v :: st) u Q) : k_W g d M pc l (.ref a :: st) u Q := by
  intro p e R s m args below meth c H locs cells slots ls Z F h1 h2 h3 h4 hP hS hl hR
  have hx := F.1
  have hb := F.2.1
  have hown := F.2.2.2.1
  have hts := F.2.2.2.2.1
  have hK := F.2.2.2.2.2.1
  have hO := F.2.2.2.2.2.2.1
  have hZ := F.2.2.2.2.2.2.2.1
  have hap := F.2.2.2.2.2.2.2.2.1
  have ht := F.2.2.2.2.2.2.2.2.2.1
  have hNw := F.2.2.2.2.2.2.2.2.2.2
  obtain ⟨t0, h0⟩ := k_ty (g := g) ha
  cases b with
  | false => exact va_alen hx hb hK hP a t0 (k_arr ha) h0 hv (k_i_dec ht hd) (k p e R s m args below meth c H locs cells slots ls Z F h1 h2 h3 h4 hP hS hl hR)
  | true => exact va_alen hx hb hK hP a t0 (k_arl ha) h0 hv (k_i_dec ht hd) (k p e R s m args below meth c H locs cells slots ls Z F h1 h2 h3 h4 hP hS hl hR)
theorem s_olen {a n : Nat} {f : Nat → Int32} (v : Int32) (i j : Nat) (hd : k_i M i j = some (pc, .arraylength, 1)) (ha : k_st g a = some (n, f)) (hv : Int32.ofNat n = v) (k : k_W g d M (pc + 1) l (.int v :: st) u Q) : k_W g d M pc l (.ref a :: st) u Q := by
  intro p e R s m args below meth c H locs cells slots ls Z F h1 h2 h3 h4 hP hS hl hR
  have hx := F.1
  have hb := F.2.1
  have hown := F.2.2.2.1
  have hts := F.2.2.2.2.1
  have hK := F.2.2.2.2.2.1
  have hO := F.2.2.2.2.2.2.1
  have hZ := F.2.2.2.2.2.2.2.1
  have hap := F.2.2.2.2.2.2.2.2.1
  have ht := F.2.2.2.2.2.2.2.2.2.1
  have hNw := F.2.2.2.2.2.2.2.2.2.2
  exact va_tlen hx hb (hO a n f ha) hS hv (k_i_dec ht hd) (k p e R s m args below meth c H locs cells slots ls Z F h1 h2 h3 h4 hP hS hl hR)
theorem s_oald {α : Type} {QQ : α → k_S → Prop} {B : Option (α × k_S)} {a n : Nat} {f : Nat → Int32} {x : Int32} (i j : Nat) (hd : k_i M i j = some (pc, .iaload, 1)) (ha : k_st g a = some (n, f)) (HH : k_sat (k_ck x n B) QQ) (k : vp_in x n → k_sat B QQ → k_W g d M (pc + 1) l (.int (f x.toNatClampNeg) :: st) u Q) : k_W g d M pc l (.int x :: .ref a :: st) u Q := by
  intro p e R s m args below meth c H locs cells slots ls Z F h1 h2 h3 h4 hP hS hl hR
  have hx := F.1
  have hb := F.2.1
  have hown := F.2.2.2.1
  have hts := F.2.2.2.2.1
  have hK := F.2.2.2.2.2.1
  have hO := F.2.2.2.2.2.2.1
  have hZ := F.2.2.2.2.2.2.2.1
  have hap := F.2.2.2.2.2.2.2.2.1
  have ht := F.2.2.2.2.2.2.2.2.2.1
  have hNw := F.2.2.2.2.2.2.2.2.2.2
  obtain ⟨hin, hB⟩ := k_sat_ck HH
  exact va_ti hx hb (hO a n f ha) hS hin rfl (k_i_dec ht hd) (k hin hB p e R s m args below meth c H locs cells slots ls Z F h1 h2 h3 h4 hP hS hl hR)
theorem s_gets {idx a : Nat} {C nm : String} (i j n : Nat) (hd : k_i M i j = some (pc, .getstatic idx, 3)) (hs : k_nth k_sf n = some (C, nm, a)) (hw : Cond.fieldLink M.1.cls idx C nm "[I" ∈ k_tbl) (k : k_W g d M (pc + 3) l (.ref a :: st) u Q) : k_W g d M pc l st u Q := by
  intro p e R s m args below meth c H locs cells slots ls Z F h1 h2 h3 h4 hP hS hl hR
  have hx := F.1
  have hb := F.2.1
  have hown := F.2.2.2.1
  have hts := F.2.2.2.2.1
  have hK := F.2.2.2.2.2.1
  have hO := F.2.2.2.2.2.2.1
  have hZ := F.2.2.2.2.2.2.2.1
  have hap := F.2.2.2.2.2.2.2.2.1
  have ht := F.2.2.2.2.2.2.2.2.2.1
  have hNw := F.2.2.2.2.2.2.2.2.2.2
  rw [k_nth_eq] at hs
  exact va_gets hx hb (hZ _ (List.mem_of_getElem? hs)) hS hown (hts _ hw) (fun _ z => z) (k_i_dec ht hd) (k p e R s m args below meth c H locs cells slots ls Z F h1 h2 h3 h4 hP hS hl hR)
theorem s_iald {α : Type} {QQ : α → k_S → Prop} {B : Option (α × k_S)} {a n : Nat} {x : Int32} (i j : Nat) (hd : k_i M i j = some (pc, .iaload, 1)) (ha : k_nth k_lay a = some (.inr (.int, n, false))) (HH : k_sat (k_ck x n B) QQ) (k : vp_in x n → k_sat B QQ → k_W g d M (pc + 1) l (.int (u.2.1 a x.toNatClampNeg) :: st) u Q) : k_W g d M pc l (.int x :: .ref a :: st) u Q := by
  intro p e R s m args below meth c H locs cells slots ls Z F h1 h2 h3 h4 hP hS hl hR
  have hx := F.1
  have hb := F.2.1
  have hown := F.2.2.2.1
  have hts := F.2.2.2.2.1
  have hK := F.2.2.2.2.2.1
  have hO := F.2.2.2.2.2.2.1
  have hZ := F.2.2.2.2.2.2.2.1
  have hap := F.2.2.2.2.2.2.2.2.1
  have ht := F.2.2.2.2.2.2.2.2.2.1
  have hNw := F.2.2.2.2.2.2.2.2.2.2
  obtain ⟨hin, hB⟩ := k_sat_ck HH
  obtain ⟨t0, h0⟩ := k_ty (g := g) ha
  exact va_iald hx hb hK hP a t0 (k_arr ha) h0 hin (k_i_dec ht hd) (k hin hB p e R s m args below meth c H locs cells slots ls Z F h1 h2 h3 h4 hP hS hl hR)
theorem s_bald {α : Type} {QQ : α → k_S → Prop} {B : Option (α × k_S)} {a n : Nat} {x : Int32} (i j : Nat) (hd : k_i M i j = some (pc, .baload, 1)) (ha : k_nth k_lay a = some (.inr (.byte, n, false))) (HH : k_sat (k_ck x n B) QQ) (k : vp_in x n → k_sat B QQ → k_W g d M (pc + 1) l (.int (u.2.1 a x.toNatClampNeg) :: st) u Q) : k_W g d M pc l (.int x :: .ref a :: st) u Q := by
  intro p e R s m args below meth c H locs cells slots ls Z F h1 h2 h3 h4 hP hS hl hR
  have hx := F.1
  have hb := F.2.1
  have hown := F.2.2.2.1
  have hts := F.2.2.2.2.1
  have hK := F.2.2.2.2.2.1
  have hO := F.2.2.2.2.2.2.1
  have hZ := F.2.2.2.2.2.2.2.1
  have hap := F.2.2.2.2.2.2.2.2.1
  have ht := F.2.2.2.2.2.2.2.2.2.1
  have hNw := F.2.2.2.2.2.2.2.2.2.2
  obtain ⟨hin, hB⟩ := k_sat_ck HH
  obtain ⟨t0, h0⟩ := k_ty (g := g) ha
  exact va_bald hx hb hK hP a t0 (k_arr ha) h0 hin (k_i_dec ht hd) (k hin hB p e R s m args below meth c H locs cells slots ls Z F h1 h2 h3 h4 hP hS hl hR)
theorem s_zald {α : Type} {QQ : α → k_S → Prop} {B : Option (α × k_S)} {a n : Nat} {x : Int32} (i j : Nat) (hd : k_i M i j = some (pc, .baload, 1)) (ha : k_nth k_lay a = some (.inr (.boolean, n, false))) (HH : k_sat (k_ck x n B) QQ) (k : vp_in x n → k_sat B QQ → k_W g d M (pc + 1) l (.int (u.2.1 a x.toNatClampNeg) :: st) u Q) : k_W g d M pc l (.int x :: .ref a :: st) u Q := by
  intro p e R s m args below meth c H locs cells slots ls Z F h1 h2 h3 h4 hP hS hl hR
  have hx := F.1
  have hb := F.2.1
  have hown := F.2.2.2.1
  have hts := F.2.2.2.2.1
  have hK := F.2.2.2.2.2.1
  have hO := F.2.2.2.2.2.2.1
  have hZ := F.2.2.2.2.2.2.2.1
  have hap := F.2.2.2.2.2.2.2.2.1
  have ht := F.2.2.2.2.2.2.2.2.2.1
  have hNw := F.2.2.2.2.2.2.2.2.2.2
  obtain ⟨hin, hB⟩ := k_sat_ck HH
  obtain ⟨t0, h0⟩ := k_ty (g := g) ha
  exact va_zald hx hb hK hP a t0 (k_arr ha) h0 hin (k_i_dec ht hd) (k hin hB p e R s m args below meth c H locs cells slots ls Z F h1 h2 h3 h4 hP hS hl hR)
theorem s_sald {α : Type} {QQ : α → k_S → Prop} {B : Option (α × k_S)} {a n : Nat} {x : Int32} (i j : Nat) (hd : k_i M i j = some (pc, .saload, 1)) (ha : k_nth k_lay a = some (.inr (.short, n, false))) (HH : k_sat (k_ck x n B) QQ) (k : vp_in x n → k_sat B QQ → k_W g d M (pc + 1) l (.int (u.2.1 a x.toNatClampNeg) :: st) u Q) : k_W g d M pc l (.int x :: .ref a :: st) u Q := by
  intro p e R s m args below meth c H locs cells slots ls Z F h1 h2 h3 h4 hP hS hl hR
  have hx := F.1
  have hb := F.2.1
  have hown := F.2.2.2.1
  have hts := F.2.2.2.2.1
  have hK := F.2.2.2.2.2.1
  have hO := F.2.2.2.2.2.2.1
  have hZ := F.2.2.2.2.2.2.2.1
  have hap := F.2.2.2.2.2.2.2.2.1
  have ht := F.2.2.2.2.2.2.2.2.2.1
  have hNw := F.2.2.2.2.2.2.2.2.2.2
  obtain ⟨hin, hB⟩ := k_sat_ck HH
  obtain ⟨t0, h0⟩ := k_ty (g := g) ha
  exact va_sald hx hb hK hP a t0 (k_arr ha) h0 hin (k_i_dec ht hd) (k hin hB p e R s m args below meth c H locs cells slots ls Z F h1 h2 h3 h4 hP hS hl hR)
theorem s_lald {α : Type} {QQ : α → k_S → Prop} {B : Option (α × k_S)} {a n : Nat} {x : Int32} (i j : Nat) (hd : k_i M i j = some (pc, .laload, 1)) (ha : k_nth k_lay a = some (.inr (.long, n, true))) (HH : k_sat (k_ck x n B) QQ) (k : vp_in x n → k_sat B QQ → k_W g d M (pc + 1) l (.long (u.2.2 a x.toNatClampNeg) :: st) u Q) : k_W g d M pc l (.int x :: .ref a :: st) u Q := by
  intro p e R s m args below meth c H locs cells slots ls Z F h1 h2 h3 h4 hP hS hl hR
  have hx := F.1
  have hb := F.2.1
  have hown := F.2.2.2.1
  have hts := F.2.2.2.2.1
  have hK := F.2.2.2.2.2.1
  have hO := F.2.2.2.2.2.2.1
  have hZ := F.2.2.2.2.2.2.2.1
  have hap := F.2.2.2.2.2.2.2.2.1
  have ht := F.2.2.2.2.2.2.2.2.2.1
  have hNw := F.2.2.2.2.2.2.2.2.2.2
  obtain ⟨hin, hB⟩ := k_sat_ck HH
  obtain ⟨t0, h0⟩ := k_ty (g := g) ha
  exact va_lald hx hb hK hP a t0 (k_arl ha) h0 hin (k_i_dec ht hd) (k hin hB p e R s m args below meth c H locs cells slots ls Z F h1 h2 h3 h4 hP hS hl hR)
theorem s_iast {α : Type} {QQ : α → k_S → Prop} {B : k_S → Option (α × k_S)} {a n : Nat} {x : Int32} {v : Int32} (i j : Nat) (hd : k_i M i j = some (pc, .iastore, 1)) (ha : k_nth k_lay a = some (.inr (.int, n, false))) (HH : k_sat (k_ck x n (k_let (k_wA u a x.toNatClampNeg v) B)) QQ) (k : ∀ u', k_sat (B u') QQ → k_W g d M (pc + 1) l st u' Q) : k_W g d M pc l (.int v :: .int x :: .ref a :: st) u Q := by
  intro p e R s m args below meth c H locs cells slots ls Z F h1 h2 h3 h4 hP hS hl hR
  have hx := F.1
  have hb := F.2.1
  have hown := F.2.2.2.1
  have hts := F.2.2.2.2.1
  have hK := F.2.2.2.2.2.1
  have hO := F.2.2.2.2.2.2.1
  have hZ := F.2.2.2.2.2.2.2.1
  have hap := F.2.2.2.2.2.2.2.2.1
  have ht := F.2.2.2.2.2.2.2.2.2.1
  have hNw := F.2.2.2.2.2.2.2.2.2.2
  obtain ⟨hin, hB⟩ := k_sat_ck HH
  obtain ⟨t0, h0⟩ := k_ty (g := g) ha
  have hset := k_wd_A g u (k := a) x.toNatClampNeg v (by rw [← k_nth_eq]; exact ha)
  refine va_iast hx hb hK hP (k_wd_D hap u) hS a t0 (k_arr ha) h0 hin (k_i_dec ht hd) (fun H1 locs1 hP1 _ hS1 => ?_)
  have hP1 : va_P (k_D g) vwCl (k_wd g (k_wA u a x.toNatClampNeg v)) H1 := by rw [hset]; exact hP1
  exact k _ hB p e R s m args below meth c H1 locs1 cells slots ls Z F h1 h2 h3 h4 hP1 hS1 hl hR
theorem s_bast {α : Type} {QQ : α → k_S → Prop} {B : k_S → Option (α × k_S)} {a n : Nat} {x : Int32} {v : Int32} (i j : Nat) (hd : k_i M i j = some (pc, .bastore, 1)) (ha : k_nth k_lay a = some (.inr (.byte, n, false))) (HH : k_sat (k_ck x n (k_let (k_wA u a x.toNatClampNeg v.toInt8.toInt32) B)) QQ) (k : ∀ u', k_sat (B u') QQ → k_W g d M (pc + 1) l st u' Q) : k_W g d M pc l (.int v :: .int x :: .ref a :: st) u Q := by
  intro p e R s m args below meth c H locs cells slots ls Z F h1 h2 h3 h4 hP hS hl hR
  have hx := F.1
  have hb := F.2.1
  have hown := F.2.2.2.1
  have hts := F.2.2.2.2.1
  have hK := F.2.2.2.2.2.1
  have hO := F.2.2.2.2.2.2.1
  have hZ := F.2.2.2.2.2.2.2.1
  have hap := F.2.2.2.2.2.2.2.2.1
  have ht := F.2.2.2.2.2.2.2.2.2.1
  have hNw := F.2.2.2.2.2.2.2.2.2.2
  obtain ⟨hin, hB⟩ := k_sat_ck HH
  obtain ⟨t0, h0⟩ := k_ty (g := g) ha
  have hset := k_wd_A g u (k := a) x.toNatClampNeg v.toInt8.toInt32 (by rw [← k_nth_eq]; exact ha)
  refine va_bast hx hb hK hP (k_wd_D hap u) hS a t0 (k_arr ha) h0 hin (k_i_dec ht hd) (fun H1 locs1 hP1 _ hS1 => ?_)
  have hP1 : va_P (k_D g) vwCl (k_wd g (k_wA u a x.toNatClampNeg v.toInt8.toInt32)) H1 := by rw [hset]; exact hP1
  exact k _ hB p e R s m args below meth c H1 locs1 cells slots ls Z F h1 h2 h3 h4 hP1 hS1 hl hR
theorem s_zast {α : Type} {QQ : α → k_S → Prop} {B : k_S → Option (α × k_S)} {a n : Nat} {x : Int32} {v : Int32} (i j : Nat) (hd : k_i M i j = some (pc, .bastore, 1)) (ha : k_nth k_lay a = some (.inr (.boolean, n, false))) (HH : k_sat (k_ck x n (k_let (k_wA u a x.toNatClampNeg (v &&& 1)) B)) QQ) (k : ∀ u', k_sat (B u') QQ → k_W g d M (pc + 1) l st u' Q) : k_W g d M pc l (.int v :: .int x :: .ref a :: st) u Q := by
  intro p e R s m args below meth c H locs cells slots ls Z F h1 h2 h3 h4 hP hS hl hR
  have hx := F.1
  have hb := F.2.1
  have hown := F.2.2.2.1
  have hts := F.2.2.2.2.1
  have hK := F.2.2.2.2.2.1
  have hO := F.2.2.2.2.2.2.1
  have hZ := F.2.2.2.2.2.2.2.1
  have hap := F.2.2.2.2.2.2.2.2.1
  have ht := F.2.2.2.2.2.2.2.2.2.1
  have hNw := F.2.2.2.2.2.2.2.2.2.2
  obtain ⟨hin, hB⟩ := k_sat_ck HH
  obtain ⟨t0, h0⟩ := k_ty (g := g) ha
  have hset := k_wd_A g u (k := a) x.toNatClampNeg (v &&& 1) (by rw [← k_nth_eq]; exact ha)
  refine va_zast hx hb hK hP (k_wd_D hap u) hS a t0 (k_arr ha) h0 hin (k_i_dec ht hd) (fun H1 locs1 hP1 _ hS1 => ?_)
  have hP1 : va_P (k_D g) vwCl (k_wd g (k_wA u a x.toNatClampNeg (v &&& 1))) H1 := by rw [hset]; exact hP1
  exact k _ hB p e R s m args below meth c H1 locs1 cells slots ls Z F h1 h2 h3 h4 hP1 hS1 hl hR
theorem s_sast {α : Type} {QQ : α → k_S → Prop} {B : k_S → Option (α × k_S)} {a n : Nat} {x : Int32} {v : Int32} (i j : Nat) (hd : k_i M i j = some (pc, .sastore, 1)) (ha : k_nth k_lay a = some (.inr (.short, n, false))) (HH : k_sat (k_ck x n (k_let (k_wA u a x.toNatClampNeg v.toInt16.toInt32) B)) QQ) (k : ∀ u', k_sat (B u') QQ → k_W g d M (pc + 1) l st u' Q) : k_W g d M pc l (.int v :: .int x :: .ref a :: st) u Q := by
  intro p e R s m args below meth c H locs cells slots ls Z F h1 h2 h3 h4 hP hS hl hR
  have hx := F.1
  have hb := F.2.1
  have hown := F.2.2.2.1
  have hts := F.2.2.2.2.1
  have hK := F.2.2.2.2.2.1
  have hO := F.2.2.2.2.2.2.1
  have hZ := F.2.2.2.2.2.2.2.1
  have hap := F.2.2.2.2.2.2.2.2.1
  have ht := F.2.2.2.2.2.2.2.2.2.1
  have hNw := F.2.2.2.2.2.2.2.2.2.2
  obtain ⟨hin, hB⟩ := k_sat_ck HH
  obtain ⟨t0, h0⟩ := k_ty (g := g) ha
  have hset := k_wd_A g u (k := a) x.toNatClampNeg v.toInt16.toInt32 (by rw [← k_nth_eq]; exact ha)
  refine va_sast hx hb hK hP (k_wd_D hap u) hS a t0 (k_arr ha) h0 hin (k_i_dec ht hd) (fun H1 locs1 hP1 _ hS1 => ?_)
  have hP1 : va_P (k_D g) vwCl (k_wd g (k_wA u a x.toNatClampNeg v.toInt16.toInt32)) H1 := by rw [hset]; exact hP1
  exact k _ hB p e R s m args below meth c H1 locs1 cells slots ls Z F h1 h2 h3 h4 hP1 hS1 hl hR
theorem s_last {α : Type} {QQ : α → k_S → Prop} {B : k_S → Option (α × k_S)} {a n : Nat} {x : Int32} {v : Int64} (i j : Nat) (hd : k_i M i j = some (pc, .lastore, 1)) (ha : k_nth k_lay a = some (.inr (.long, n, true))) (HH : k_sat (k_ck x n (k_let (k_wL u a x.toNatClampNeg v) B)) QQ) (k : ∀ u', k_sat (B u') QQ → k_W g d M (pc + 1) l st u' Q) : k_W g d M pc l (.long v :: .int x :: .ref a :: st) u Q := by
  intro p e R s m args below meth c H locs cells slots ls Z F h1 h2 h3 h4 hP hS hl hR
  have hx := F.1
  have hb := F.2.1
  have hown := F.2.2.2.1
  have hts := F.2.2.2.2.1
  have hK := F.2.2.2.2.2.1
  have hO := F.2.2.2.2.2.2.1
  have hZ := F.2.2.2.2.2.2.2.1
  have hap := F.2.2.2.2.2.2.2.2.1
  have ht := F.2.2.2.2.2.2.2.2.2.1
  have hNw := F.2.2.2.2.2.2.2.2.2.2
  obtain ⟨hin, hB⟩ := k_sat_ck HH
  obtain ⟨t0, h0⟩ := k_ty (g := g) ha
  have hset := k_wd_L g u (k := a) x.toNatClampNeg v (by rw [← k_nth_eq]; exact ha)
  refine va_last hx hb hK hP (k_wd_D hap u) hS a t0 (k_arl ha) h0 hin (k_i_dec ht hd) (fun H1 locs1 hP1 _ hS1 => ?_)
  have hP1 : va_P (k_D g) vwCl (k_wd g (k_wL u a x.toNatClampNeg v)) H1 := by rw [hset]; exact hP1
  exact k _ hB p e R s m args below meth c H1 locs1 cells slots ls Z F h1 h2 h3 h4 hP1 hS1 hl hR
end KH
end
section
/-! contracts -/
def k_ent (i : Nat) : List Value → List (Nat × Value)
  | [] => []
  | v :: r => (i, v) :: k_ent (match v with | .long _ => i + 2 | .double _ => i + 2 | _ => i + 1) r
theorem k_ent_eq (g : k_G) : ∀ (vs : List Value) (i : Nat), lv_args i (vs.map (k_v g)) = (k_ent i vs).map fun q => (q.1, k_v g q.2)
  | [], i => rfl
  | v :: r, i => by
    simp only [List.map_cons, lv_args, k_ent, k_v_cat]
    rw [k_ent_eq g r]
    cases v <;> rfl
def k_Pc (g : k_G) (As : List Value) (u : k_S) : Array Value → State → Prop := fun v U =>
  v = (As.map (k_v g)).toArray ∧ va_P (k_D g) vwCl (k_wd g u) U.heap ∧ va_K (k_D g) vwCl (k_tys g 0 k_lay) U ∧ k_O g U U.heap ∧ k_Zs g U U.heap ∧ k_apart g ∧ k_Nw U
def k_Qc (g : k_G) (Q : Option Value → k_S → Prop) : Array Value → State → Outcome → State → Prop := fun _ st o t =>
  (∃ (r : Option Value) (u : k_S), o = .returned r ∧ Q r u ∧ va_P (k_D g) vwCl (k_wd g u) t.heap) ∧ va_F (k_A g) st t
abbrev k_rm (d : Nat) : Room := { frames := d, cells := 0, slots := 0, locals := 32 * d }
abbrev k_ws (M : k_M) : List Cond := Cond.code M.1 M.2.1 M.2.2.1 M.2.2.2.1 :: k_tbl
def k_OK (g : k_G) (d : Nat) (M : k_M) (As : List Value) (u : k_S) (Q : Option Value → k_S → Prop) : Prop :=
  Met g.1 M.1 (k_ws M) (k_rm d) (k_Pc g As u) (k_Qc g Q) 0 0 (k_A g)
theorem k_O.moved {g : k_G} {u U : State} {H : Heap} (hvm : u.vm.Alike U.vm) (h : k_O g u H) : k_O g U H := fun k n f hk => (h k n f hk).moved hvm
theorem k_Zs.moved {g : k_G} {u U : State} {H : Heap} (hvm : u.vm.Alike U.vm) (h : k_Zs g u H) : k_Zs g U H := fun e he => (h e he).moved hvm
theorem k_O.kept {g : k_G} {U : State} {H H1 : Heap} (h : k_O g U H) (hq : ∀ a : Nat, a < H.size → ¬ k_A g a → H1[a]? = H[a]?) : k_O g U H1 := fun k n f hk => (h k n f hk).kept hq
theorem k_Zs.kept {g : k_G} {U : State} {H H1 : Heap} (h : k_Zs g U H) (hq : ∀ a : Nat, a < H.size → ¬ k_A g a → H1[a]? = H[a]?) : k_Zs g U H1 := fun e he => (h e he).kept hq
theorem k_Pc.blind {g : k_G} {As : List Value} {u : k_S} : FrameBlind (k_Pc g As u) := by
  intro a U f mk h
  obtain ⟨h1, h2, h3, h4, h5, h6, h7⟩ := h
  exact ⟨h1, h2, va_K.moved (u := U) (U := U.calling f mk a) (Vm.Alike.refl U.vm) h3, k_O.moved (u := U) (U := U.calling f mk a) (Vm.Alike.refl U.vm) h4, k_Zs.moved (u := U) (U := U.calling f mk a) (Vm.Alike.refl U.vm) h5, h6, k_Nw.same (u := U) (U := U.calling f mk a) rfl h7⟩
theorem k_OK.ofW {g : k_G} {d : Nat} {M : k_M} {As : List Value} {u : k_S} {Q : Option Value → k_S → Prop} (hp : plainFor M.1 = true) (hM : k_tab M) (hn : Nat.ble (lg_sl (As.map (k_v g))).length M.2.2.1 = true) (k : k_W g d M 0 (k_ent 0 As) [] u Q) : k_OK g d M As u Q := by
  refine va_MetF (cc := M.2.1) (maxL := M.2.2.1) (ret := M.2.2.2.1) hp rfl ?_
  intro p e s m args below meth c s₁ B hml hv
  obtain ⟨rfl, hP, hK, hO, hZ, hap, hNw⟩ := hv
  have hts : ∀ w ∈ k_tbl, w.before (As.map (k_v g)).toArray s = true := fun w hw => atoms_spec (ws := k_ws M) B.pre w (List.mem_cons_of_mem _ hw)
  have hown : s.vm.findClass M.1.cls = some m.cls := findClass_of_methodNamed B.named
  have hlocks := B.notSynchronized
  have hr := B.returns
  have hx := B.exec
  have hb := B.bytes
  have hl := lv_entry (As.map (k_v g)) (n := M.2.2.1) (Nat.le_of_ble_eq_true hn)
  rw [lg_entry_eq]
  rw [k_ent_eq] at hl
  have hS : va_S (k_A g) s.heap s.heap [] := va_S.rf
  refine k p e _ s m _ below meth c s.heap [] 0 0 _ _ ⟨hx, hb, hml, hown, hts, hK, hO, hZ, hap, hM, hNw⟩ (Nat.le_refl d) (Nat.le_refl (32 * d)) (Nat.le_refl 0) (Nat.le_refl 0) hP hS hl ?_
  intro r u' H locs pc ls hq hP' hS' hri
  match r, hq, hri with
  | none, hq, hri =>
    exact W.vret hx hb (hr.trans hri.2) (fun t ht hW => ⟨⟨none, u', rfl, hq, by rw [ht]; exact hP'⟩, hS'.F ht⟩) hS'.2.2 hri.1
  | some (.int v), hq, hri =>
    obtain ⟨h1, ty, h2, h3⟩ := hri
    exact W.zret hx hb (hr.trans h2) h3 (fun t ht hW => ⟨⟨some (.int v), u', rfl, hq, by rw [ht]; exact hP'⟩, hS'.F ht⟩) hS'.2.2 h1
  | some (.long v), hq, hri =>
    exact W.lret hx hb (hr.trans hri.2) (fun t ht hW => ⟨⟨some (.long v), u', rfl, hq, by rw [ht]; exact hP'⟩, hS'.F ht⟩) hS'.2.2 hri.1
theorem k_good_tbl : ∀ w ∈ k_tbl, (w.onTables && w.keeps) = true ∨ ∃ ty, w = .arrayClass ty := fun _ hw => good_of_word (List.mem_filter.mp hw).2
theorem k_good {M : k_M} (h : Cond.code M.1 M.2.1 M.2.2.1 M.2.2.2.1 ∈ k_tbl) : GoodIn k_tbl (k_ws M) := by
  intro w hw
  rcases List.mem_cons.mp hw with rfl | hw
  · exact ⟨h, k_good_tbl _ h⟩
  · exact ⟨hw, k_good_tbl _ hw⟩
/-- what the tables say of a method: an instance's, a class's -/
def k_mv (M : k_M) (n : Nat) : Prop := Cond.code M.1 M.2.1 M.2.2.1 M.2.2.2.1 ∈ k_tbl ∧ Cond.initialized M.1.cls ∈ k_tbl ∧ Cond.instanceMethod M.1 ∈ k_tbl ∧ Cond.selects M.1.cls M.1 M.1 ∈ k_tbl ∧ (M.1.cls ≠ "java/lang/invoke/MethodHandle" ∧ M.1.cls ≠ "java/lang/invoke/VarHandle" ∧ (parseMethodDescriptor M.1.desc).map (fun d => d.parameters.length) = some n) ∧ M.2.2.1 ≤ 12
def k_ms (M : k_M) (n : Nat) : Prop := Cond.code M.1 M.2.1 M.2.2.1 M.2.2.2.1 ∈ k_tbl ∧ Cond.initialized M.1.cls ∈ k_tbl ∧ Cond.static M.1 ∈ k_tbl ∧ (M.1.cls ≠ "java/lang/invoke/MethodHandle" ∧ M.1.cls ≠ "java/lang/invoke/VarHandle" ∧ (parseMethodDescriptor M.1.desc).map (fun d => d.parameters.length) = some n) ∧ M.2.2.1 ≤ 12
section KC
variable {p : Program} {l : Launch} {e : Env} {R : Room} {s : State} {m : MethodId} {args : Array Value} {below : List Frame} {meth : Method} {c : Code} {H : Heap} {locs : List Loc} {cells slots : Nat} {Z : State → Prop}
theorem k_after {g : k_G} {Q1 : Option Value → k_S → Prop} {pc : Nat} {ls : Array Slot} {st0 rest : List Value} {a : Array Value} {H0 : Heap} (hr : va_Run p l e R s m args below meth c H locs cells slots 0 0 (F0 m pc ls st0) rest (k_Qc g Q1 a) (k_A g)) (hS : va_S (k_A g) H0 H locs)
    (kk : ∀ (r : Option Value) (u : k_S) (H1 : Heap) (locs1 : List Loc), Q1 r u → va_P (k_D g) vwCl (k_wd g u) H1 → va_S (k_A g) H0 H1 locs1 → W p l e R s m args below meth c H1 locs1 cells slots Z (F0 m (pc + 3) ls (r.toList ++ rest))) : W p l e R s m args below meth c H locs cells slots Z (F0 m pc ls st0) := by
  intro T hT X
  obtain ⟨v, st₀, t, T', L, h0, X', hL, e1, e2, ⟨⟨r, u, hv, hq, hP⟩, hz, hk⟩, st⟩ := hr T hT X
  have hv : v = r := by cases hv; rfl
  subst hv
  rw [h0] at hz hk
  obtain ⟨t2, a1, b1⟩ := kk v u T'.heap (locs ++ L) hq (by rw [e1]; exact hP)
    ⟨Nat.le_trans hS.1 (by rw [e1]; exact hz), fun q h1 h2 => by rw [e1, hk q (Nat.lt_of_lt_of_le h1 hS.1) h2]; exact hS.2.1 q h1 h2, fun q hq => by
      rcases List.mem_append.mp hq with h | h
      · exact hS.2.2 q h
      · exact hL q h⟩ T' rfl X'
  exact ⟨t2, st t2 a1, b1⟩
end KC
section KCC
variable {g : k_G} {d : Nat} {M : k_M} {pc : Nat} {l : List (Nat × Value)} {st : List Value} {u : k_S} {Q : Option Value → k_S → Prop}
theorem k_cat_map (g : k_G) (st : List Value) : ((st.map (k_v g)).map fun v => v.category).sum = (st.map fun v => v.category).sum := by
  rw [List.map_map]
  congr 1
  exact List.map_congr_left fun v _ => k_v_cat g v
/-- a call of an instance's method: by the plain link -/
theorem k_callv {M' : k_M} {As : List Value} {idx b ci n : Nat} {fs : List (Option Nat)} {T : u_T} {N d' : Nat} {Q1 : Option Value → k_S → Prop} (i j : Nat) (hd : k_i M i j = some (pc, .invokevirtual idx, 3)) (hl : Cond.methodLink M.1.cls idx M'.1 ∈ k_tbl) (hM : k_mv M' n) (hn : As.length = n) (hb : k_nth k_lay b = some (.inl (ci, fs))) (hc : k_nth vwCl ci = some (M'.1.cls, T, N)) (hdd : d' + 1 ≤ d) (hst : Nat.ble (st.map fun v => v.category).sum 8 = true) (hOK : k_OK g d' M' (.ref b :: As) u Q1) (k : ∀ r u', Q1 r u' → (∀ x, r = some x → k_v g x = x) → k_W g d M (pc + 3) l (r.toList ++ st) u' Q) (hpr : ∀ r u', Q1 r u' → ∀ x, r = some x → k_v g x = x) : k_W g d M pc l (As.reverse ++ .ref b :: st) u Q := by
  intro p e R s m args below meth c H locs cells slots ls Z F h1 h2 h3 h4 hP hS hl' hR
  have hx := F.1
  have hbb := F.2.1
  have hml := F.2.2.1
  have hown := F.2.2.2.1
  have hts := F.2.2.2.2.1
  have hK := F.2.2.2.2.2.1
  have hO := F.2.2.2.2.2.2.1
  have hZ := F.2.2.2.2.2.2.2.1
  have hap := F.2.2.2.2.2.2.2.2.1
  have ht := F.2.2.2.2.2.2.2.2.2.1
  have hNw := F.2.2.2.2.2.2.2.2.2.2
  obtain ⟨hcode, hini, hinst, hsel, hdd2, hmax⟩ := hM
  have cw : CallW R s args M.1.cls M'.1.cls idx M'.1 M'.2.1 M'.2.2.1 M'.2.2.2.1 (k_ws M') (k_rm d') 0 0 n :=
    ⟨callB_of n hts (k_good hcode) rfl rfl rfl (hts _ hini) (hts _ hl) hdd2 ⟨Nat.le_trans hdd h1, by show 8 + (M'.2.2.1 + 11) + 32 * d' ≤ R.locals; omega⟩, hts _ hinst, hts _ hsel⟩
  have hp : PreV s H M'.1.cls (k_ad g b) (k_Pc g (.ref b :: As) u) (As.map (k_v g)) := by
    refine ⟨k_Pc.blind, va_recv hK hP (by rw [← k_nth_eq]; exact hc) (k_obj hb), fun U hU hW => ⟨rfl, by rw [hU]; exact hP, va_K.moved hW.alike hK, ?_, ?_, hap, k_Nw.warm hW hNw⟩⟩
    · rw [hU]; exact (k_O.moved hW.alike hO).kept hS.2.1
    · rw [hU]; exact (k_Zs.moved hW.alike hZ).kept hS.2.1
  have hrun := va_runV (l := g.1) (below := below) (meth := meth) (locs := locs) (cells := cells) (slots := slots) (e := e) (g := F0 m pc ls ((As.reverse ++ .ref b :: st).map (k_v g))) (rest := st.map (k_v g)) ⟨hx, hbb, hml, hown, hts⟩ hOK cw hp rfl (by rw [List.length_map]; exact hn) hl'.1 (by rw [List.map_append, List.map_reverse]; rfl) (lv_room (by rw [k_cat_map]; exact Nat.le_of_ble_eq_true hst)) (k_i_dec ht hd) ⟨h3, h4⟩
  refine k_after hrun hS (fun r u' H1 locs1 hq hP1 hS1 => ?_)
  have e1 : r.toList ++ st.map (k_v g) = (r.toList ++ st).map (k_v g) := by
    cases r with
    | none => rfl
    | some x => simp [hpr (some x) u' hq x rfl]
  rw [e1]
  exact k r u' hq (hpr r u' hq) p e R s m args below meth c H1 locs1 cells slots ls Z F h1 h2 h3 h4 hP1 hS1 hl' hR
/-- a call of a class's method, by the plain link -/
theorem k_calls {M' : k_M} {As : List Value} {idx n d' : Nat} {Q1 : Option Value → k_S → Prop} (i j : Nat) (hd : k_i M i j = some (pc, .invokestatic idx, 3)) (hl : Cond.methodLink M.1.cls idx M'.1 ∈ k_tbl) (hM : k_ms M' n) (hn : As.length = n) (hdd : d' + 1 ≤ d) (hst : Nat.ble (st.map fun v => v.category).sum 8 = true) (hOK : k_OK g d' M' As u Q1) (k : ∀ r u', Q1 r u' → (∀ x, r = some x → k_v g x = x) → k_W g d M (pc + 3) l (r.toList ++ st) u' Q) (hpr : ∀ r u', Q1 r u' → ∀ x, r = some x → k_v g x = x) : k_W g d M pc l (As.reverse ++ st) u Q := by
  intro p e R s m args below meth c H locs cells slots ls Z F h1 h2 h3 h4 hP hS hl' hR
  have hx := F.1
  have hbb := F.2.1
  have hml := F.2.2.1
  have hown := F.2.2.2.1
  have hts := F.2.2.2.2.1
  have hK := F.2.2.2.2.2.1
  have hO := F.2.2.2.2.2.2.1
  have hZ := F.2.2.2.2.2.2.2.1
  have hap := F.2.2.2.2.2.2.2.2.1
  have ht := F.2.2.2.2.2.2.2.2.2.1
  have hNw := F.2.2.2.2.2.2.2.2.2.2
  obtain ⟨hcode, hini, hstat, hdd2, hmax⟩ := hM
  have cw : CallB R s args M.1.cls idx M'.1 M'.2.1 M'.2.2.1 M'.2.2.2.1 (k_ws M') (k_rm d') 0 0 n ∧ (Cond.static M'.1).before args s = true :=
    ⟨callB_of n hts (k_good hcode) rfl rfl rfl (hts _ hini) (hts _ hl) hdd2 ⟨Nat.le_trans hdd h1, by show 8 + (M'.2.2.1 + 11) + 32 * d' ≤ R.locals; omega⟩, hts _ hstat⟩
  have hp : PreS s H (k_Pc g As u) (As.map (k_v g)) := by
    refine ⟨k_Pc.blind, fun U hU hW => ⟨rfl, by rw [hU]; exact hP, va_K.moved hW.alike hK, ?_, ?_, hap, k_Nw.warm hW hNw⟩⟩
    · rw [hU]; exact (k_O.moved hW.alike hO).kept hS.2.1
    · rw [hU]; exact (k_Zs.moved hW.alike hZ).kept hS.2.1
  have hrun := va_runS (l := g.1) (below := below) (meth := meth) (locs := locs) (cells := cells) (slots := slots) (e := e) (g := F0 m pc ls ((As.reverse ++ st).map (k_v g))) (rest := st.map (k_v g)) ⟨hx, hbb, hml, hown, hts⟩ hOK cw hp rfl (by rw [List.length_map]; exact hn) hl'.1 (by rw [List.map_append, List.map_reverse]) (lv_room (by rw [k_cat_map]; exact Nat.le_of_ble_eq_true hst)) (k_i_dec ht hd) ⟨h3, h4⟩
  refine k_after hrun hS (fun r u' H1 locs1 hq hP1 hS1 => ?_)
  have e1 : r.toList ++ st.map (k_v g) = (r.toList ++ st).map (k_v g) := by
    cases r with
    | none => rfl
    | some x => simp [hpr (some x) u' hq x rfl]
  rw [e1]
  exact k r u' hq (hpr r u' hq) p e R s m args below meth c H1 locs1 cells slots ls Z F h1 h2 h3 h4 hP1 hS1 hl' hR
/-- the same, of a nest mate's private one -/
theorem k_callsN {M' : k_M} {As : List Value} {idx n d' : Nat} {Q1 : Option Value → k_S → Prop} (i j : Nat) (hd : k_i M i j = some (pc, .invokestatic idx, 3)) (hl : Cond.methodLinkNest M.1.cls idx M'.1 "WheelSkips" ∈ k_nest) (hM : k_ms M' n) (hn : As.length = n) (hdd : d' + 1 ≤ d) (hst : Nat.ble (st.map fun v => v.category).sum 8 = true) (hOK : k_OK g d' M' As u Q1) (k : ∀ r u', Q1 r u' → (∀ x, r = some x → k_v g x = x) → k_W g d M (pc + 3) l (r.toList ++ st) u' Q) (hpr : ∀ r u', Q1 r u' → ∀ x, r = some x → k_v g x = x) : k_W g d M pc l (As.reverse ++ st) u Q := by
  intro p e R s m args below meth c H locs cells slots ls Z F h1 h2 h3 h4 hP hS hl' hR
  have hx := F.1
  have hbb := F.2.1
  have hml := F.2.2.1
  have hown := F.2.2.2.1
  have hts := F.2.2.2.2.1
  have hK := F.2.2.2.2.2.1
  have hO := F.2.2.2.2.2.2.1
  have hZ := F.2.2.2.2.2.2.2.1
  have hap := F.2.2.2.2.2.2.2.2.1
  have ht := F.2.2.2.2.2.2.2.2.2.1
  have hNw := F.2.2.2.2.2.2.2.2.2.2
  obtain ⟨hcode, hini, hstat, hdd2, hmax⟩ := hM
  have cw : va_CN R s args M.1.cls idx M'.1 "WheelSkips" M'.2.1 M'.2.2.1 M'.2.2.2.1 (k_ws M') (k_rm d') 0 0 n ∧ (Cond.static M'.1).before args s = true ∧ True :=
    ⟨va_cnB n hts (k_good hcode) rfl rfl rfl (hNw _ hl) (hts _ hini) hdd2 ⟨Nat.le_trans hdd h1, by show 8 + (M'.2.2.1 + 11) + 32 * d' ≤ R.locals; omega⟩, hts _ hstat, trivial⟩
  have hp : PreS s H (k_Pc g As u) (As.map (k_v g)) := by
    refine ⟨k_Pc.blind, fun U hU hW => ⟨rfl, by rw [hU]; exact hP, va_K.moved hW.alike hK, ?_, ?_, hap, k_Nw.warm hW hNw⟩⟩
    · rw [hU]; exact (k_O.moved hW.alike hO).kept hS.2.1
    · rw [hU]; exact (k_Zs.moved hW.alike hZ).kept hS.2.1
  have hrun := va_runSN (l := g.1) (below := below) (meth := meth) (locs := locs) (cells := cells) (slots := slots) (e := e) (g := F0 m pc ls ((As.reverse ++ st).map (k_v g))) (rest := st.map (k_v g)) ⟨hx, hbb, hml, hown, hts⟩ hOK cw hp rfl (by rw [List.length_map]; exact hn) hl'.1 (by rw [List.map_append, List.map_reverse]) (lv_room (by rw [k_cat_map]; exact Nat.le_of_ble_eq_true hst)) (k_i_dec ht hd) ⟨h3, h4⟩
  refine k_after hrun hS (fun r u' H1 locs1 hq hP1 hS1 => ?_)
  have e1 : r.toList ++ st.map (k_v g) = (r.toList ++ st).map (k_v g) := by
    cases r with
    | none => rfl
    | some x => simp [hpr (some x) u' hq x rfl]
  rw [e1]
  exact k r u' hq (hpr r u' hq) p e R s m args below meth c H1 locs1 cells slots ls Z F h1 h2 h3 h4 hP1 hS1 hl' hR
/-! the end of a method, by its answer -/
theorem s_ret (i j : Nat) (hd : k_i M i j = some (pc, .return_, 1)) (hr : M.2.2.2.1 = none) (h : Q none u) : k_W g d M pc l [] u Q := by
  intro p e R s m args below meth c H locs cells slots ls Z F h1 h2 h3 h4 hP hS hl hR
  exact hR none u H locs pc ls h hP hS ⟨k_i_dec F.2.2.2.2.2.2.2.2.2.1 hd, hr⟩
theorem s_iret {x : Int32} (i j : Nat) (hd : k_i M i j = some (pc, .ireturn, 1)) (hr : M.2.2.2.1 = some .int) (h : Q (some (.int x)) u) : k_W g d M pc l [.int x] u Q := by
  intro p e R s m args below meth c H locs cells slots ls Z F h1 h2 h3 h4 hP hS hl hR
  exact hR (some (.int x)) u H locs pc ls h hP hS ⟨k_i_dec F.2.2.2.2.2.2.2.2.2.1 hd, .int, hr, rfl⟩
theorem s_zret {x : Int32} (i j : Nat) (hd : k_i M i j = some (pc, .ireturn, 1)) (hr : M.2.2.2.1 = some .boolean) (hx : x &&& 1 = x) (h : Q (some (.int x)) u) : k_W g d M pc l [.int x] u Q := by
  intro p e R s m args below meth c H locs cells slots ls Z F h1 h2 h3 h4 hP hS hl hR
  exact hR (some (.int x)) u H locs pc ls h hP hS ⟨k_i_dec F.2.2.2.2.2.2.2.2.2.1 hd, .boolean, hr, by show Value.int (x &&& 1) = Value.int x; rw [hx]⟩
theorem s_lret {x : Int64} (i j : Nat) (hd : k_i M i j = some (pc, .lreturn, 1)) (hr : M.2.2.2.1 = some .long) (h : Q (some (.long x)) u) : k_W g d M pc l [.long x] u Q := by
  intro p e R s m args below meth c H locs cells slots ls Z F h1 h2 h3 h4 hP hS hl hR
  exact hR (some (.long x)) u H locs pc ls h hP hS ⟨k_i_dec F.2.2.2.2.2.2.2.2.2.1 hd, hr⟩
end KCC
/-! answers by kind -/
def k_qi (P : Int32 → k_S → Prop) : Option Value → k_S → Prop := fun r u => ∃ x, r = some (.int x) ∧ P x u
def k_ql (P : Int64 → k_S → Prop) : Option Value → k_S → Prop := fun r u => ∃ x, r = some (.long x) ∧ P x u
def k_qv (P : Unit → k_S → Prop) : Option Value → k_S → Prop := fun r u => r = none ∧ P () u
theorem k_qi_pr {g : k_G} {P : Int32 → k_S → Prop} : ∀ r u', k_qi P r u' → ∀ x, r = some x → k_v g x = x := by
  intro r u' ⟨y, h, _⟩ x hx
  rw [h] at hx
  cases hx
  rfl
theorem k_ql_pr {g : k_G} {P : Int64 → k_S → Prop} : ∀ r u', k_ql P r u' → ∀ x, r = some x → k_v g x = x := by
  intro r u' ⟨y, h, _⟩ x hx
  rw [h] at hx
  cases hx
  rfl
theorem k_qv_pr {g : k_G} {P : Unit → k_S → Prop} : ∀ r u', k_qv P r u' → ∀ x, r = some x → k_v g x = x := by
  intro r u' ⟨h, _⟩ x hx
  rw [h] at hx
  cases hx
end
section
section KCR
variable {g : k_G} {d : Nat} {M : k_M} {pc : Nat} {l : List (Nat × Value)} {st : List Value} {u : k_S} {Q : Option Value → k_S → Prop}
theorem k_via {l' : List (Nat × Value)} (k : k_W g d M pc l' st u Q) (h : k_sub l l') : k_W g d M pc l st u Q := k_W.sub h k
theorem k_topi {α : Type} {QQ : α → k_S → Prop} {B : Int32 → Option (α × k_S)} {x : Int32} (HH : k_sat (k_let x B) QQ) (k : ∀ t, k_sat (B t) QQ → k_W g d M pc l (.int t :: st) u Q) : k_W g d M pc l (.int x :: st) u Q := k x HH
theorem k_topl {α : Type} {QQ : α → k_S → Prop} {B : Int64 → Option (α × k_S)} {x : Int64} (HH : k_sat (k_let x B) QQ) (k : ∀ t, k_sat (B t) QQ → k_W g d M pc l (.long t :: st) u Q) : k_W g d M pc l (.long x :: st) u Q := k x HH
theorem s_cvi0 {M' : k_M} {idx b ci : Nat} {fs : List (Option Nat)} {T : u_T} {N d' : Nat} {P : Int32 → k_S → Prop} (i j : Nat) (hd : k_i M i j = some (pc, .invokevirtual idx, 3)) (hl : Cond.methodLink M.1.cls idx M'.1 ∈ k_tbl) (hM : k_mv M' 0) (hb : k_nth k_lay b = some (.inl (ci, fs))) (hc : k_nth vwCl ci = some (M'.1.cls, T, N)) (hdd : d' + 1 ≤ d) (hst : Nat.ble (st.map fun v => v.category).sum 8 = true) (hOK : k_OK g d' M' (.ref b :: []) u (k_qi P)) (k : ∀ (x : Int32) (u' : k_S), P x u' → k_W g d M (pc + 3) l (.int x :: st) u' Q) : k_W g d M pc l (.ref b :: st) u Q :=
  k_callv (As := []) i j hd hl hM rfl hb hc hdd hst hOK (fun r u' hq _ => by obtain ⟨x, rfl, h⟩ := hq; exact k x u' h) k_qi_pr
theorem s_cvi1 {M' : k_M} {a0 : Value} {idx b ci : Nat} {fs : List (Option Nat)} {T : u_T} {N d' : Nat} {P : Int32 → k_S → Prop} (i j : Nat) (hd : k_i M i j = some (pc, .invokevirtual idx, 3)) (hl : Cond.methodLink M.1.cls idx M'.1 ∈ k_tbl) (hM : k_mv M' 1) (hb : k_nth k_lay b = some (.inl (ci, fs))) (hc : k_nth vwCl ci = some (M'.1.cls, T, N)) (hdd : d' + 1 ≤ d) (hst : Nat.ble (st.map fun v => v.category).sum 8 = true) (hOK : k_OK g d' M' (.ref b :: [a0]) u (k_qi P)) (k : ∀ (x : Int32) (u' : k_S), P x u' → k_W g d M (pc + 3) l (.int x :: st) u' Q) : k_W g d M pc l (a0 :: .ref b :: st) u Q :=
  k_callv (As := [a0]) i j hd hl hM rfl hb hc hdd hst hOK (fun r u' hq _ => by obtain ⟨x, rfl, h⟩ := hq; exact k x u' h) k_qi_pr
theorem s_csi1 {M' : k_M} {a0 : Value} {idx d' : Nat} {P : Int32 → k_S → Prop} (i j : Nat) (hd : k_i M i j = some (pc, .invokestatic idx, 3)) (hl : Cond.methodLink M.1.cls idx M'.1 ∈ k_tbl) (hM : k_ms M' 1) (hdd : d' + 1 ≤ d) (hst : Nat.ble (st.map fun v => v.category).sum 8 = true) (hOK : k_OK g d' M' [a0] u (k_qi P)) (k : ∀ (x : Int32) (u' : k_S), P x u' → k_W g d M (pc + 3) l (.int x :: st) u' Q) : k_W g d M pc l (a0 :: st) u Q :=
  k_calls (As := [a0]) i j hd hl hM rfl hdd hst hOK (fun r u' hq _ => by obtain ⟨x, rfl, h⟩ := hq; exact k x u' h) k_qi_pr
theorem s_csNi1 {M' : k_M} {a0 : Value} {idx d' : Nat} {P : Int32 → k_S → Prop} (i j : Nat) (hd : k_i M i j = some (pc, .invokestatic idx, 3)) (hl : Cond.methodLinkNest M.1.cls idx M'.1 "WheelSkips" ∈ k_nest) (hM : k_ms M' 1) (hdd : d' + 1 ≤ d) (hst : Nat.ble (st.map fun v => v.category).sum 8 = true) (hOK : k_OK g d' M' [a0] u (k_qi P)) (k : ∀ (x : Int32) (u' : k_S), P x u' → k_W g d M (pc + 3) l (.int x :: st) u' Q) : k_W g d M pc l (a0 :: st) u Q :=
  k_callsN (As := [a0]) i j hd hl hM rfl hdd hst hOK (fun r u' hq _ => by obtain ⟨x, rfl, h⟩ := hq; exact k x u' h) k_qi_pr
theorem s_cvi2 {M' : k_M} {a0 a1 : Value} {idx b ci : Nat} {fs : List (Option Nat)} {T : u_T} {N d' : Nat} {P : Int32 → k_S → Prop} (i j : Nat) (hd : k_i M i j = some (pc, .invokevirtual idx, 3)) (hl : Cond.methodLink M.1.cls idx M'.1 ∈ k_tbl) (hM : k_mv M' 2) (hb : k_nth k_lay b = some (.inl (ci, fs))) (hc : k_nth vwCl ci = some (M'.1.cls, T, N)) (hdd : d' + 1 ≤ d) (hst : Nat.ble (st.map fun v => v.category).sum 8 = true) (hOK : k_OK g d' M' (.ref b :: [a0, a1]) u (k_qi P)) (k : ∀ (x : Int32) (u' : k_S), P x u' → k_W g d M (pc + 3) l (.int x :: st) u' Q) : k_W g d M pc l (a1 :: a0 :: .ref b :: st) u Q :=
  k_callv (As := [a0, a1]) i j hd hl hM rfl hb hc hdd hst hOK (fun r u' hq _ => by obtain ⟨x, rfl, h⟩ := hq; exact k x u' h) k_qi_pr
theorem s_csi2 {M' : k_M} {a0 a1 : Value} {idx d' : Nat} {P : Int32 → k_S → Prop} (i j : Nat) (hd : k_i M i j = some (pc, .invokestatic idx, 3)) (hl : Cond.methodLink M.1.cls idx M'.1 ∈ k_tbl) (hM : k_ms M' 2) (hdd : d' + 1 ≤ d) (hst : Nat.ble (st.map fun v => v.category).sum 8 = true) (hOK : k_OK g d' M' [a0, a1] u (k_qi P)) (k : ∀ (x : Int32) (u' : k_S), P x u' → k_W g d M (pc + 3) l (.int x :: st) u' Q) : k_W g d M pc l (a1 :: a0 :: st) u Q :=
  k_calls (As := [a0, a1]) i j hd hl hM rfl hdd hst hOK (fun r u' hq _ => by obtain ⟨x, rfl, h⟩ := hq; exact k x u' h) k_qi_pr
theorem s_csNi2 {M' : k_M} {a0 a1 : Value} {idx d' : Nat} {P : Int32 → k_S → Prop} (i j : Nat) (hd : k_i M i j = some (pc, .invokestatic idx, 3)) (hl : Cond.methodLinkNest M.1.cls idx M'.1 "WheelSkips" ∈ k_nest) (hM : k_ms M' 2) (hdd : d' + 1 ≤ d) (hst : Nat.ble (st.map fun v => v.category).sum 8 = true) (hOK : k_OK g d' M' [a0, a1] u (k_qi P)) (k : ∀ (x : Int32) (u' : k_S), P x u' → k_W g d M (pc + 3) l (.int x :: st) u' Q) : k_W g d M pc l (a1 :: a0 :: st) u Q :=
  k_callsN (As := [a0, a1]) i j hd hl hM rfl hdd hst hOK (fun r u' hq _ => by obtain ⟨x, rfl, h⟩ := hq; exact k x u' h) k_qi_pr
theorem s_cvi3 {M' : k_M} {a0 a1 a2 : Value} {idx b ci : Nat} {fs : List (Option Nat)} {T : u_T} {N d' : Nat} {P : Int32 → k_S → Prop} (i j : Nat) (hd : k_i M i j = some (pc, .invokevirtual idx, 3)) (hl : Cond.methodLink M.1.cls idx M'.1 ∈ k_tbl) (hM : k_mv M' 3) (hb : k_nth k_lay b = some (.inl (ci, fs))) (hc : k_nth vwCl ci = some (M'.1.cls, T, N)) (hdd : d' + 1 ≤ d) (hst : Nat.ble (st.map fun v => v.category).sum 8 = true) (hOK : k_OK g d' M' (.ref b :: [a0, a1, a2]) u (k_qi P)) (k : ∀ (x : Int32) (u' : k_S), P x u' → k_W g d M (pc + 3) l (.int x :: st) u' Q) : k_W g d M pc l (a2 :: a1 :: a0 :: .ref b :: st) u Q :=
  k_callv (As := [a0, a1, a2]) i j hd hl hM rfl hb hc hdd hst hOK (fun r u' hq _ => by obtain ⟨x, rfl, h⟩ := hq; exact k x u' h) k_qi_pr
theorem s_csi3 {M' : k_M} {a0 a1 a2 : Value} {idx d' : Nat} {P : Int32 → k_S → Prop} (i j : Nat) (hd : k_i M i j = some (pc, .invokestatic idx, 3)) (hl : Cond.methodLink M.1.cls idx M'.1 ∈ k_tbl) (hM : k_ms M' 3) (hdd : d' + 1 ≤ d) (hst : Nat.ble (st.map fun v => v.category).sum 8 = true) (hOK : k_OK g d' M' [a0, a1, a2] u (k_qi P)) (k : ∀ (x : Int32) (u' : k_S), P x u' → k_W g d M (pc + 3) l (.int x :: st) u' Q) : k_W g d M pc l (a2 :: a1 :: a0 :: st) u Q :=
  k_calls (As := [a0, a1, a2]) i j hd hl hM rfl hdd hst hOK (fun r u' hq _ => by obtain ⟨x, rfl, h⟩ := hq; exact k x u' h) k_qi_pr
theorem s_cvi4 {M' : k_M} {a0 a1 a2 a3 : Value} {idx b ci : Nat} {fs : List (Option Nat)} {T : u_T} {N d' : Nat} {P : Int32 → k_S → Prop} (i j : Nat) (hd : k_i M i j = some (pc, .invokevirtual idx, 3)) (hl : Cond.methodLink M.1.cls idx M'.1 ∈ k_tbl) (hM : k_mv M' 4) (hb : k_nth k_lay b = some (.inl (ci, fs))) (hc : k_nth vwCl ci = some (M'.1.cls, T, N)) (hdd : d' + 1 ≤ d) (hst : Nat.ble (st.map fun v => v.category).sum 8 = true) (hOK : k_OK g d' M' (.ref b :: [a0, a1, a2, a3]) u (k_qi P)) (k : ∀ (x : Int32) (u' : k_S), P x u' → k_W g d M (pc + 3) l (.int x :: st) u' Q) : k_W g d M pc l (a3 :: a2 :: a1 :: a0 :: .ref b :: st) u Q :=
  k_callv (As := [a0, a1, a2, a3]) i j hd hl hM rfl hb hc hdd hst hOK (fun r u' hq _ => by obtain ⟨x, rfl, h⟩ := hq; exact k x u' h) k_qi_pr
theorem s_cvi5 {M' : k_M} {a0 a1 a2 a3 a4 : Value} {idx b ci : Nat} {fs : List (Option Nat)} {T : u_T} {N d' : Nat} {P : Int32 → k_S → Prop} (i j : Nat) (hd : k_i M i j = some (pc, .invokevirtual idx, 3)) (hl : Cond.methodLink M.1.cls idx M'.1 ∈ k_tbl) (hM : k_mv M' 5) (hb : k_nth k_lay b = some (.inl (ci, fs))) (hc : k_nth vwCl ci = some (M'.1.cls, T, N)) (hdd : d' + 1 ≤ d) (hst : Nat.ble (st.map fun v => v.category).sum 8 = true) (hOK : k_OK g d' M' (.ref b :: [a0, a1, a2, a3, a4]) u (k_qi P)) (k : ∀ (x : Int32) (u' : k_S), P x u' → k_W g d M (pc + 3) l (.int x :: st) u' Q) : k_W g d M pc l (a4 :: a3 :: a2 :: a1 :: a0 :: .ref b :: st) u Q :=
  k_callv (As := [a0, a1, a2, a3, a4]) i j hd hl hM rfl hb hc hdd hst hOK (fun r u' hq _ => by obtain ⟨x, rfl, h⟩ := hq; exact k x u' h) k_qi_pr
theorem s_cvl0 {M' : k_M} {idx b ci : Nat} {fs : List (Option Nat)} {T : u_T} {N d' : Nat} {P : Int64 → k_S → Prop} (i j : Nat) (hd : k_i M i j = some (pc, .invokevirtual idx, 3)) (hl : Cond.methodLink M.1.cls idx M'.1 ∈ k_tbl) (hM : k_mv M' 0) (hb : k_nth k_lay b = some (.inl (ci, fs))) (hc : k_nth vwCl ci = some (M'.1.cls, T, N)) (hdd : d' + 1 ≤ d) (hst : Nat.ble (st.map fun v => v.category).sum 8 = true) (hOK : k_OK g d' M' (.ref b :: []) u (k_ql P)) (k : ∀ (x : Int64) (u' : k_S), P x u' → k_W g d M (pc + 3) l (.long x :: st) u' Q) : k_W g d M pc l (.ref b :: st) u Q :=
  k_callv (As := []) i j hd hl hM rfl hb hc hdd hst hOK (fun r u' hq _ => by obtain ⟨x, rfl, h⟩ := hq; exact k x u' h) k_ql_pr
theorem s_cvl1 {M' : k_M} {a0 : Value} {idx b ci : Nat} {fs : List (Option Nat)} {T : u_T} {N d' : Nat} {P : Int64 → k_S → Prop} (i j : Nat) (hd : k_i M i j = some (pc, .invokevirtual idx, 3)) (hl : Cond.methodLink M.1.cls idx M'.1 ∈ k_tbl) (hM : k_mv M' 1) (hb : k_nth k_lay b = some (.inl (ci, fs))) (hc : k_nth vwCl ci = some (M'.1.cls, T, N)) (hdd : d' + 1 ≤ d) (hst : Nat.ble (st.map fun v => v.category).sum 8 = true) (hOK : k_OK g d' M' (.ref b :: [a0]) u (k_ql P)) (k : ∀ (x : Int64) (u' : k_S), P x u' → k_W g d M (pc + 3) l (.long x :: st) u' Q) : k_W g d M pc l (a0 :: .ref b :: st) u Q :=
  k_callv (As := [a0]) i j hd hl hM rfl hb hc hdd hst hOK (fun r u' hq _ => by obtain ⟨x, rfl, h⟩ := hq; exact k x u' h) k_ql_pr
theorem s_csl1 {M' : k_M} {a0 : Value} {idx d' : Nat} {P : Int64 → k_S → Prop} (i j : Nat) (hd : k_i M i j = some (pc, .invokestatic idx, 3)) (hl : Cond.methodLink M.1.cls idx M'.1 ∈ k_tbl) (hM : k_ms M' 1) (hdd : d' + 1 ≤ d) (hst : Nat.ble (st.map fun v => v.category).sum 8 = true) (hOK : k_OK g d' M' [a0] u (k_ql P)) (k : ∀ (x : Int64) (u' : k_S), P x u' → k_W g d M (pc + 3) l (.long x :: st) u' Q) : k_W g d M pc l (a0 :: st) u Q :=
  k_calls (As := [a0]) i j hd hl hM rfl hdd hst hOK (fun r u' hq _ => by obtain ⟨x, rfl, h⟩ := hq; exact k x u' h) k_ql_pr
theorem s_cvl2 {M' : k_M} {a0 a1 : Value} {idx b ci : Nat} {fs : List (Option Nat)} {T : u_T} {N d' : Nat} {P : Int64 → k_S → Prop} (i j : Nat) (hd : k_i M i j = some (pc, .invokevirtual idx, 3)) (hl : Cond.methodLink M.1.cls idx M'.1 ∈ k_tbl) (hM : k_mv M' 2) (hb : k_nth k_lay b = some (.inl (ci, fs))) (hc : k_nth vwCl ci = some (M'.1.cls, T, N)) (hdd : d' + 1 ≤ d) (hst : Nat.ble (st.map fun v => v.category).sum 8 = true) (hOK : k_OK g d' M' (.ref b :: [a0, a1]) u (k_ql P)) (k : ∀ (x : Int64) (u' : k_S), P x u' → k_W g d M (pc + 3) l (.long x :: st) u' Q) : k_W g d M pc l (a1 :: a0 :: .ref b :: st) u Q :=
  k_callv (As := [a0, a1]) i j hd hl hM rfl hb hc hdd hst hOK (fun r u' hq _ => by obtain ⟨x, rfl, h⟩ := hq; exact k x u' h) k_ql_pr
theorem s_csl2 {M' : k_M} {a0 a1 : Value} {idx d' : Nat} {P : Int64 → k_S → Prop} (i j : Nat) (hd : k_i M i j = some (pc, .invokestatic idx, 3)) (hl : Cond.methodLink M.1.cls idx M'.1 ∈ k_tbl) (hM : k_ms M' 2) (hdd : d' + 1 ≤ d) (hst : Nat.ble (st.map fun v => v.category).sum 8 = true) (hOK : k_OK g d' M' [a0, a1] u (k_ql P)) (k : ∀ (x : Int64) (u' : k_S), P x u' → k_W g d M (pc + 3) l (.long x :: st) u' Q) : k_W g d M pc l (a1 :: a0 :: st) u Q :=
  k_calls (As := [a0, a1]) i j hd hl hM rfl hdd hst hOK (fun r u' hq _ => by obtain ⟨x, rfl, h⟩ := hq; exact k x u' h) k_ql_pr
theorem s_cvl3 {M' : k_M} {a0 a1 a2 : Value} {idx b ci : Nat} {fs : List (Option Nat)} {T : u_T} {N d' : Nat} {P : Int64 → k_S → Prop} (i j : Nat) (hd : k_i M i j = some (pc, .invokevirtual idx, 3)) (hl : Cond.methodLink M.1.cls idx M'.1 ∈ k_tbl) (hM : k_mv M' 3) (hb : k_nth k_lay b = some (.inl (ci, fs))) (hc : k_nth vwCl ci = some (M'.1.cls, T, N)) (hdd : d' + 1 ≤ d) (hst : Nat.ble (st.map fun v => v.category).sum 8 = true) (hOK : k_OK g d' M' (.ref b :: [a0, a1, a2]) u (k_ql P)) (k : ∀ (x : Int64) (u' : k_S), P x u' → k_W g d M (pc + 3) l (.long x :: st) u' Q) : k_W g d M pc l (a2 :: a1 :: a0 :: .ref b :: st) u Q :=
  k_callv (As := [a0, a1, a2]) i j hd hl hM rfl hb hc hdd hst hOK (fun r u' hq _ => by obtain ⟨x, rfl, h⟩ := hq; exact k x u' h) k_ql_pr
theorem s_csl3 {M' : k_M} {a0 a1 a2 : Value} {idx d' : Nat} {P : Int64 → k_S → Prop} (i j : Nat) (hd : k_i M i j = some (pc, .invokestatic idx, 3)) (hl : Cond.methodLink M.1.cls idx M'.1 ∈ k_tbl) (hM : k_ms M' 3) (hdd : d' + 1 ≤ d) (hst : Nat.ble (st.map fun v => v.category).sum 8 = true) (hOK : k_OK g d' M' [a0, a1, a2] u (k_ql P)) (k : ∀ (x : Int64) (u' : k_S), P x u' → k_W g d M (pc + 3) l (.long x :: st) u' Q) : k_W g d M pc l (a2 :: a1 :: a0 :: st) u Q :=
  k_calls (As := [a0, a1, a2]) i j hd hl hM rfl hdd hst hOK (fun r u' hq _ => by obtain ⟨x, rfl, h⟩ := hq; exact k x u' h) k_ql_pr
theorem s_cvl4 {M' : k_M} {a0 a1 a2 a3 : Value} {idx b ci : Nat} {fs : List (Option Nat)} {T : u_T} {N d' : Nat} {P : Int64 → k_S → Prop} (i j : Nat) (hd : k_i M i j = some (pc, .invokevirtual idx, 3)) (hl : Cond.methodLink M.1.cls idx M'.1 ∈ k_tbl) (hM : k_mv M' 4) (hb : k_nth k_lay b = some (.inl (ci, fs))) (hc : k_nth vwCl ci = some (M'.1.cls, T, N)) (hdd : d' + 1 ≤ d) (hst : Nat.ble (st.map fun v => v.category).sum 8 = true) (hOK : k_OK g d' M' (.ref b :: [a0, a1, a2, a3]) u (k_ql P)) (k : ∀ (x : Int64) (u' : k_S), P x u' → k_W g d M (pc + 3) l (.long x :: st) u' Q) : k_W g d M pc l (a3 :: a2 :: a1 :: a0 :: .ref b :: st) u Q :=
  k_callv (As := [a0, a1, a2, a3]) i j hd hl hM rfl hb hc hdd hst hOK (fun r u' hq _ => by obtain ⟨x, rfl, h⟩ := hq; exact k x u' h) k_ql_pr
theorem s_cvl5 {M' : k_M} {a0 a1 a2 a3 a4 : Value} {idx b ci : Nat} {fs : List (Option Nat)} {T : u_T} {N d' : Nat} {P : Int64 → k_S → Prop} (i j : Nat) (hd : k_i M i j = some (pc, .invokevirtual idx, 3)) (hl : Cond.methodLink M.1.cls idx M'.1 ∈ k_tbl) (hM : k_mv M' 5) (hb : k_nth k_lay b = some (.inl (ci, fs))) (hc : k_nth vwCl ci = some (M'.1.cls, T, N)) (hdd : d' + 1 ≤ d) (hst : Nat.ble (st.map fun v => v.category).sum 8 = true) (hOK : k_OK g d' M' (.ref b :: [a0, a1, a2, a3, a4]) u (k_ql P)) (k : ∀ (x : Int64) (u' : k_S), P x u' → k_W g d M (pc + 3) l (.long x :: st) u' Q) : k_W g d M pc l (a4 :: a3 :: a2 :: a1 :: a0 :: .ref b :: st) u Q :=
  k_callv (As := [a0, a1, a2, a3, a4]) i j hd hl hM rfl hb hc hdd hst hOK (fun r u' hq _ => by obtain ⟨x, rfl, h⟩ := hq; exact k x u' h) k_ql_pr
theorem s_cvv0 {M' : k_M} {idx b ci : Nat} {fs : List (Option Nat)} {T : u_T} {N d' : Nat} {P : Unit → k_S → Prop} (i j : Nat) (hd : k_i M i j = some (pc, .invokevirtual idx, 3)) (hl : Cond.methodLink M.1.cls idx M'.1 ∈ k_tbl) (hM : k_mv M' 0) (hb : k_nth k_lay b = some (.inl (ci, fs))) (hc : k_nth vwCl ci = some (M'.1.cls, T, N)) (hdd : d' + 1 ≤ d) (hst : Nat.ble (st.map fun v => v.category).sum 8 = true) (hOK : k_OK g d' M' (.ref b :: []) u (k_qv P)) (k : ∀ (x : Unit) (u' : k_S), P x u' → k_W g d M (pc + 3) l st u' Q) : k_W g d M pc l (.ref b :: st) u Q :=
  k_callv (As := []) i j hd hl hM rfl hb hc hdd hst hOK (fun r u' hq _ => by obtain ⟨rfl, h⟩ := hq; exact k () u' h) k_qv_pr
theorem s_cvv1 {M' : k_M} {a0 : Value} {idx b ci : Nat} {fs : List (Option Nat)} {T : u_T} {N d' : Nat} {P : Unit → k_S → Prop} (i j : Nat) (hd : k_i M i j = some (pc, .invokevirtual idx, 3)) (hl : Cond.methodLink M.1.cls idx M'.1 ∈ k_tbl) (hM : k_mv M' 1) (hb : k_nth k_lay b = some (.inl (ci, fs))) (hc : k_nth vwCl ci = some (M'.1.cls, T, N)) (hdd : d' + 1 ≤ d) (hst : Nat.ble (st.map fun v => v.category).sum 8 = true) (hOK : k_OK g d' M' (.ref b :: [a0]) u (k_qv P)) (k : ∀ (x : Unit) (u' : k_S), P x u' → k_W g d M (pc + 3) l st u' Q) : k_W g d M pc l (a0 :: .ref b :: st) u Q :=
  k_callv (As := [a0]) i j hd hl hM rfl hb hc hdd hst hOK (fun r u' hq _ => by obtain ⟨rfl, h⟩ := hq; exact k () u' h) k_qv_pr
theorem s_csv1 {M' : k_M} {a0 : Value} {idx d' : Nat} {P : Unit → k_S → Prop} (i j : Nat) (hd : k_i M i j = some (pc, .invokestatic idx, 3)) (hl : Cond.methodLink M.1.cls idx M'.1 ∈ k_tbl) (hM : k_ms M' 1) (hdd : d' + 1 ≤ d) (hst : Nat.ble (st.map fun v => v.category).sum 8 = true) (hOK : k_OK g d' M' [a0] u (k_qv P)) (k : ∀ (x : Unit) (u' : k_S), P x u' → k_W g d M (pc + 3) l st u' Q) : k_W g d M pc l (a0 :: st) u Q :=
  k_calls (As := [a0]) i j hd hl hM rfl hdd hst hOK (fun r u' hq _ => by obtain ⟨rfl, h⟩ := hq; exact k () u' h) k_qv_pr
theorem s_cvv2 {M' : k_M} {a0 a1 : Value} {idx b ci : Nat} {fs : List (Option Nat)} {T : u_T} {N d' : Nat} {P : Unit → k_S → Prop} (i j : Nat) (hd : k_i M i j = some (pc, .invokevirtual idx, 3)) (hl : Cond.methodLink M.1.cls idx M'.1 ∈ k_tbl) (hM : k_mv M' 2) (hb : k_nth k_lay b = some (.inl (ci, fs))) (hc : k_nth vwCl ci = some (M'.1.cls, T, N)) (hdd : d' + 1 ≤ d) (hst : Nat.ble (st.map fun v => v.category).sum 8 = true) (hOK : k_OK g d' M' (.ref b :: [a0, a1]) u (k_qv P)) (k : ∀ (x : Unit) (u' : k_S), P x u' → k_W g d M (pc + 3) l st u' Q) : k_W g d M pc l (a1 :: a0 :: .ref b :: st) u Q :=
  k_callv (As := [a0, a1]) i j hd hl hM rfl hb hc hdd hst hOK (fun r u' hq _ => by obtain ⟨rfl, h⟩ := hq; exact k () u' h) k_qv_pr
theorem s_csv2 {M' : k_M} {a0 a1 : Value} {idx d' : Nat} {P : Unit → k_S → Prop} (i j : Nat) (hd : k_i M i j = some (pc, .invokestatic idx, 3)) (hl : Cond.methodLink M.1.cls idx M'.1 ∈ k_tbl) (hM : k_ms M' 2) (hdd : d' + 1 ≤ d) (hst : Nat.ble (st.map fun v => v.category).sum 8 = true) (hOK : k_OK g d' M' [a0, a1] u (k_qv P)) (k : ∀ (x : Unit) (u' : k_S), P x u' → k_W g d M (pc + 3) l st u' Q) : k_W g d M pc l (a1 :: a0 :: st) u Q :=
  k_calls (As := [a0, a1]) i j hd hl hM rfl hdd hst hOK (fun r u' hq _ => by obtain ⟨rfl, h⟩ := hq; exact k () u' h) k_qv_pr
theorem s_cvv3 {M' : k_M} {a0 a1 a2 : Value} {idx b ci : Nat} {fs : List (Option Nat)} {T : u_T} {N d' : Nat} {P : Unit → k_S → Prop} (i j : Nat) (hd : k_i M i j = some (pc, .invokevirtual idx, 3)) (hl : Cond.methodLink M.1.cls idx M'.1 ∈ k_tbl) (hM : k_mv M' 3) (hb : k_nth k_lay b = some (.inl (ci, fs))) (hc : k_nth vwCl ci = some (M'.1.cls, T, N)) (hdd : d' + 1 ≤ d) (hst : Nat.ble (st.map fun v => v.category).sum 8 = true) (hOK : k_OK g d' M' (.ref b :: [a0, a1, a2]) u (k_qv P)) (k : ∀ (x : Unit) (u' : k_S), P x u' → k_W g d M (pc + 3) l st u' Q) : k_W g d M pc l (a2 :: a1 :: a0 :: .ref b :: st) u Q :=
  k_callv (As := [a0, a1, a2]) i j hd hl hM rfl hb hc hdd hst hOK (fun r u' hq _ => by obtain ⟨rfl, h⟩ := hq; exact k () u' h) k_qv_pr
theorem s_csv3 {M' : k_M} {a0 a1 a2 : Value} {idx d' : Nat} {P : Unit → k_S → Prop} (i j : Nat) (hd : k_i M i j = some (pc, .invokestatic idx, 3)) (hl : Cond.methodLink M.1.cls idx M'.1 ∈ k_tbl) (hM : k_ms M' 3) (hdd : d' + 1 ≤ d) (hst : Nat.ble (st.map fun v => v.category).sum 8 = true) (hOK : k_OK g d' M' [a0, a1, a2] u (k_qv P)) (k : ∀ (x : Unit) (u' : k_S), P x u' → k_W g d M (pc + 3) l st u' Q) : k_W g d M pc l (a2 :: a1 :: a0 :: st) u Q :=
  k_calls (As := [a0, a1, a2]) i j hd hl hM rfl hdd hst hOK (fun r u' hq _ => by obtain ⟨rfl, h⟩ := hq; exact k () u' h) k_qv_pr
theorem s_cvv4 {M' : k_M} {a0 a1 a2 a3 : Value} {idx b ci : Nat} {fs : List (Option Nat)} {T : u_T} {N d' : Nat} {P : Unit → k_S → Prop} (i j : Nat) (hd : k_i M i j = some (pc, .invokevirtual idx, 3)) (hl : Cond.methodLink M.1.cls idx M'.1 ∈ k_tbl) (hM : k_mv M' 4) (hb : k_nth k_lay b = some (.inl (ci, fs))) (hc : k_nth vwCl ci = some (M'.1.cls, T, N)) (hdd : d' + 1 ≤ d) (hst : Nat.ble (st.map fun v => v.category).sum 8 = true) (hOK : k_OK g d' M' (.ref b :: [a0, a1, a2, a3]) u (k_qv P)) (k : ∀ (x : Unit) (u' : k_S), P x u' → k_W g d M (pc + 3) l st u' Q) : k_W g d M pc l (a3 :: a2 :: a1 :: a0 :: .ref b :: st) u Q :=
  k_callv (As := [a0, a1, a2, a3]) i j hd hl hM rfl hb hc hdd hst hOK (fun r u' hq _ => by obtain ⟨rfl, h⟩ := hq; exact k () u' h) k_qv_pr
theorem s_cvv5 {M' : k_M} {a0 a1 a2 a3 a4 : Value} {idx b ci : Nat} {fs : List (Option Nat)} {T : u_T} {N d' : Nat} {P : Unit → k_S → Prop} (i j : Nat) (hd : k_i M i j = some (pc, .invokevirtual idx, 3)) (hl : Cond.methodLink M.1.cls idx M'.1 ∈ k_tbl) (hM : k_mv M' 5) (hb : k_nth k_lay b = some (.inl (ci, fs))) (hc : k_nth vwCl ci = some (M'.1.cls, T, N)) (hdd : d' + 1 ≤ d) (hst : Nat.ble (st.map fun v => v.category).sum 8 = true) (hOK : k_OK g d' M' (.ref b :: [a0, a1, a2, a3, a4]) u (k_qv P)) (k : ∀ (x : Unit) (u' : k_S), P x u' → k_W g d M (pc + 3) l st u' Q) : k_W g d M pc l (a4 :: a3 :: a2 :: a1 :: a0 :: .ref b :: st) u Q :=
  k_callv (As := [a0, a1, a2, a3, a4]) i j hd hl hM rfl hb hc hdd hst hOK (fun r u' hq _ => by obtain ⟨rfl, h⟩ := hq; exact k () u' h) k_qv_pr
theorem k_sat_some {α : Type} {a : α} {w : k_S} {QQ : α → k_S → Prop} (h : k_sat (some (a, w)) QQ) : QQ a w := h
def k_zb {α : Type} (x : Int32) (o : Option α) : Option α := if x &&& 1 = x then o else none
theorem k_sat_zb {α : Type} {x : Int32} {o : Option (α × k_S)} {QQ : α → k_S → Prop} (h : k_sat (k_zb x o) QQ) : x &&& 1 = x ∧ k_sat o QQ := by
  unfold k_zb at h
  split at h
  · rename_i hx
    exact ⟨hx, h⟩
  · exact h.elim
def k_cs {A B γ : Type} (y : A ⊕ B) (f : A → γ) (h : B → γ) : γ := match y with
  | .inl a => f a
  | .inr b => h b
theorem k_sat_csr {A B α : Type} {y : B} {f : A → Option (α × k_S)} {h : B → Option (α × k_S)} {QQ : α → k_S → Prop} (hh : k_sat (k_cs (.inr y) f h) QQ) : k_sat (h y) QQ := hh
def k_FU : Nat := 4294967296
theorem k_z0 : (0 : Int32) &&& 1 = 0 := by decide
theorem k_z1 : (1 : Int32) &&& 1 = 1 := by decide
end KCR
theorem pfX0_has : plainFor MX0_has.1 = true := by decide +kernel
theorem vvX0_has : k_mv MX0_has 1 := ⟨k_in (lw_T3 (List.mem_of_getElem? (i := 91) (by decide +kernel))) rfl, k_in (lw_T0 (List.mem_of_getElem? (i := 11) (by decide +kernel))) rfl, k_in (lw_T3 (List.mem_of_getElem? (i := 89) (by decide +kernel))) rfl, k_in (lw_T3 (List.mem_of_getElem? (i := 90) (by decide +kernel))) rfl, ⟨by decide +kernel, by decide +kernel, by decide +kernel⟩, by decide +kernel⟩
theorem pfX0_add : plainFor MX0_add.1 = true := by decide +kernel
theorem vvX0_add : k_mv MX0_add 1 := ⟨k_in (lw_T3 (List.mem_of_getElem? (i := 79) (by decide +kernel))) rfl, k_in (lw_T0 (List.mem_of_getElem? (i := 11) (by decide +kernel))) rfl, k_in (lw_T3 (List.mem_of_getElem? (i := 77) (by decide +kernel))) rfl, k_in (lw_T3 (List.mem_of_getElem? (i := 78) (by decide +kernel))) rfl, ⟨by decide +kernel, by decide +kernel, by decide +kernel⟩, by decide +kernel⟩
theorem pfX0_kindOf : plainFor MX0_kindOf.1 = true := by decide +kernel
theorem vvX0_kindOf : k_mv MX0_kindOf 1 := ⟨k_in (lw_T3 (List.mem_of_getElem? (i := 103) (by decide +kernel))) rfl, k_in (lw_T0 (List.mem_of_getElem? (i := 11) (by decide +kernel))) rfl, k_in (lw_T3 (List.mem_of_getElem? (i := 101) (by decide +kernel))) rfl, k_in (lw_T3 (List.mem_of_getElem? (i := 102) (by decide +kernel))) rfl, ⟨by decide +kernel, by decide +kernel, by decide +kernel⟩, by decide +kernel⟩
theorem pfX0_isUnder : plainFor MX0_isUnder.1 = true := by decide +kernel
theorem vvX0_isUnder : k_mv MX0_isUnder 2 := ⟨k_in (lw_T3 (List.mem_of_getElem? (i := 182) (by decide +kernel))) rfl, k_in (lw_T0 (List.mem_of_getElem? (i := 11) (by decide +kernel))) rfl, k_in (lw_T3 (List.mem_of_getElem? (i := 180) (by decide +kernel))) rfl, k_in (lw_T3 (List.mem_of_getElem? (i := 181) (by decide +kernel))) rfl, ⟨by decide +kernel, by decide +kernel, by decide +kernel⟩, by decide +kernel⟩
theorem pfX0_forgetTrace : plainFor MX0_forgetTrace.1 = true := by decide +kernel
theorem vvX0_forgetTrace : k_mv MX0_forgetTrace 0 := ⟨k_in (lw_T3 (List.mem_of_getElem? (i := 87) (by decide +kernel))) rfl, k_in (lw_T0 (List.mem_of_getElem? (i := 11) (by decide +kernel))) rfl, k_in (lw_T3 (List.mem_of_getElem? (i := 85) (by decide +kernel))) rfl, k_in (lw_T3 (List.mem_of_getElem? (i := 86) (by decide +kernel))) rfl, ⟨by decide +kernel, by decide +kernel, by decide +kernel⟩, by decide +kernel⟩
theorem pfX0_tracedAt : plainFor MX0_tracedAt.1 = true := by decide +kernel
theorem vvX0_tracedAt : k_mv MX0_tracedAt 1 := ⟨k_in (lw_T3 (List.mem_of_getElem? (i := 126) (by decide +kernel))) rfl, k_in (lw_T0 (List.mem_of_getElem? (i := 11) (by decide +kernel))) rfl, k_in (lw_T3 (List.mem_of_getElem? (i := 124) (by decide +kernel))) rfl, k_in (lw_T3 (List.mem_of_getElem? (i := 125) (by decide +kernel))) rfl, ⟨by decide +kernel, by decide +kernel, by decide +kernel⟩, by decide +kernel⟩
theorem pfX0_perform : plainFor MX0_perform.1 = true := by decide +kernel
theorem vvX0_perform : k_mv MX0_perform 3 := ⟨k_in (lw_T3 (List.mem_of_getElem? (i := 95) (by decide +kernel))) rfl, k_in (lw_T0 (List.mem_of_getElem? (i := 11) (by decide +kernel))) rfl, k_in (lw_T3 (List.mem_of_getElem? (i := 93) (by decide +kernel))) rfl, k_in (lw_T3 (List.mem_of_getElem? (i := 94) (by decide +kernel))) rfl, ⟨by decide +kernel, by decide +kernel, by decide +kernel⟩, by decide +kernel⟩
theorem pfX0_call : plainFor MX0_call.1 = true := by decide +kernel
theorem vvX0_call : k_mv MX0_call 3 := ⟨k_in (lw_T3 (List.mem_of_getElem? (i := 99) (by decide +kernel))) rfl, k_in (lw_T0 (List.mem_of_getElem? (i := 11) (by decide +kernel))) rfl, k_in (lw_T3 (List.mem_of_getElem? (i := 98) (by decide +kernel))) rfl, k_in (List.mem_append_left _ (List.mem_of_getElem? (i := 23) (by decide +kernel))) rfl, ⟨by decide +kernel, by decide +kernel, by decide +kernel⟩, by decide +kernel⟩
theorem pfX0_above : plainFor MX0_above.1 = true := by decide +kernel
theorem vvX0_above : k_mv MX0_above 4 := ⟨k_in (lw_T3 (List.mem_of_getElem? (i := 118) (by decide +kernel))) rfl, k_in (lw_T0 (List.mem_of_getElem? (i := 11) (by decide +kernel))) rfl, k_in (lw_T3 (List.mem_of_getElem? (i := 117) (by decide +kernel))) rfl, k_in (List.mem_append_left _ (List.mem_of_getElem? (i := 25) (by decide +kernel))) rfl, ⟨by decide +kernel, by decide +kernel, by decide +kernel⟩, by decide +kernel⟩
theorem pfX0_bodyFor : plainFor MX0_bodyFor.1 = true := by decide +kernel
theorem vvX0_bodyFor : k_ms MX0_bodyFor 2 := ⟨k_in (lw_T3 (List.mem_of_getElem? (i := 106) (by decide +kernel))) rfl, k_in (lw_T0 (List.mem_of_getElem? (i := 11) (by decide +kernel))) rfl, k_in (lw_T3 (List.mem_of_getElem? (i := 105) (by decide +kernel))) rfl, ⟨by decide +kernel, by decide +kernel, by decide +kernel⟩, by decide +kernel⟩
theorem pfX0_run : plainFor MX0_run.1 = true := by decide +kernel
theorem vvX0_run : k_mv MX0_run 3 := ⟨k_in (lw_T3 (List.mem_of_getElem? (i := 114) (by decide +kernel))) rfl, k_in (lw_T0 (List.mem_of_getElem? (i := 11) (by decide +kernel))) rfl, k_in (lw_T3 (List.mem_of_getElem? (i := 113) (by decide +kernel))) rfl, k_in (List.mem_append_left _ (List.mem_of_getElem? (i := 24) (by decide +kernel))) rfl, ⟨by decide +kernel, by decide +kernel, by decide +kernel⟩, by decide +kernel⟩
theorem pfX1_wheelAt : plainFor MX1_wheelAt.1 = true := by decide +kernel
theorem vvX1_wheelAt : k_mv MX1_wheelAt 1 := ⟨k_in (lw_T1 (List.mem_of_getElem? (i := 206) (by decide +kernel))) rfl, k_in (lw_T0 (List.mem_of_getElem? (i := 10) (by decide +kernel))) rfl, k_in (lw_T1 (List.mem_of_getElem? (i := 204) (by decide +kernel))) rfl, k_in (lw_T1 (List.mem_of_getElem? (i := 205) (by decide +kernel))) rfl, ⟨by decide +kernel, by decide +kernel, by decide +kernel⟩, by decide +kernel⟩
theorem pfX1_placeAt : plainFor MX1_placeAt.1 = true := by decide +kernel
theorem vvX1_placeAt : k_mv MX1_placeAt 1 := ⟨k_in (lw_T1 (List.mem_of_getElem? (i := 210) (by decide +kernel))) rfl, k_in (lw_T0 (List.mem_of_getElem? (i := 10) (by decide +kernel))) rfl, k_in (lw_T1 (List.mem_of_getElem? (i := 208) (by decide +kernel))) rfl, k_in (lw_T1 (List.mem_of_getElem? (i := 209) (by decide +kernel))) rfl, ⟨by decide +kernel, by decide +kernel, by decide +kernel⟩, by decide +kernel⟩
theorem pfX1_beforeAt : plainFor MX1_beforeAt.1 = true := by decide +kernel
theorem vvX1_beforeAt : k_mv MX1_beforeAt 1 := ⟨k_in (lw_T1 (List.mem_of_getElem? (i := 214) (by decide +kernel))) rfl, k_in (lw_T0 (List.mem_of_getElem? (i := 10) (by decide +kernel))) rfl, k_in (lw_T1 (List.mem_of_getElem? (i := 212) (by decide +kernel))) rfl, k_in (lw_T1 (List.mem_of_getElem? (i := 213) (by decide +kernel))) rfl, ⟨by decide +kernel, by decide +kernel, by decide +kernel⟩, by decide +kernel⟩
theorem pfX1_afterAt : plainFor MX1_afterAt.1 = true := by decide +kernel
theorem vvX1_afterAt : k_mv MX1_afterAt 1 := ⟨k_in (lw_T1 (List.mem_of_getElem? (i := 218) (by decide +kernel))) rfl, k_in (lw_T0 (List.mem_of_getElem? (i := 10) (by decide +kernel))) rfl, k_in (lw_T1 (List.mem_of_getElem? (i := 216) (by decide +kernel))) rfl, k_in (lw_T1 (List.mem_of_getElem? (i := 217) (by decide +kernel))) rfl, ⟨by decide +kernel, by decide +kernel, by decide +kernel⟩, by decide +kernel⟩
theorem pfX1_add : plainFor MX1_add.1 = true := by decide +kernel
theorem vvX1_add : k_mv MX1_add 4 := ⟨k_in (lw_T1 (List.mem_of_getElem? (i := 198) (by decide +kernel))) rfl, k_in (lw_T0 (List.mem_of_getElem? (i := 10) (by decide +kernel))) rfl, k_in (lw_T1 (List.mem_of_getElem? (i := 196) (by decide +kernel))) rfl, k_in (lw_T1 (List.mem_of_getElem? (i := 197) (by decide +kernel))) rfl, ⟨by decide +kernel, by decide +kernel, by decide +kernel⟩, by decide +kernel⟩
theorem pfX1_dropOldest : plainFor MX1_dropOldest.1 = true := by decide +kernel
theorem vvX1_dropOldest : k_mv MX1_dropOldest 0 := ⟨k_in (lw_T1 (List.mem_of_getElem? (i := 202) (by decide +kernel))) rfl, k_in (lw_T0 (List.mem_of_getElem? (i := 10) (by decide +kernel))) rfl, k_in (lw_T1 (List.mem_of_getElem? (i := 201) (by decide +kernel))) rfl, k_in (List.mem_append_left _ (List.mem_of_getElem? (i := 11) (by decide +kernel))) rfl, ⟨by decide +kernel, by decide +kernel, by decide +kernel⟩, by decide +kernel⟩
theorem pfX1_write : plainFor MX1_write.1 = true := by decide +kernel
theorem vvX1_write : k_mv MX1_write 5 := ⟨k_in (lw_T1 (List.mem_of_getElem? (i := 222) (by decide +kernel))) rfl, k_in (lw_T0 (List.mem_of_getElem? (i := 10) (by decide +kernel))) rfl, k_in (lw_T1 (List.mem_of_getElem? (i := 221) (by decide +kernel))) rfl, k_in (List.mem_append_left _ (List.mem_of_getElem? (i := 12) (by decide +kernel))) rfl, ⟨by decide +kernel, by decide +kernel, by decide +kernel⟩, by decide +kernel⟩
theorem pfX2_firstWrong : plainFor MX2_firstWrong.1 = true := by decide +kernel
theorem vvX2_firstWrong : k_mv MX2_firstWrong 1 := ⟨k_in (lw_T2 (List.mem_of_getElem? (i := 220) (by decide +kernel))) rfl, k_in (lw_T0 (List.mem_of_getElem? (i := 9) (by decide +kernel))) rfl, k_in (lw_T2 (List.mem_of_getElem? (i := 218) (by decide +kernel))) rfl, k_in (lw_T2 (List.mem_of_getElem? (i := 219) (by decide +kernel))) rfl, ⟨by decide +kernel, by decide +kernel, by decide +kernel⟩, by decide +kernel⟩
theorem pfX2_fitting : plainFor MX2_fitting.1 = true := by decide +kernel
theorem vvX2_fitting : k_mv MX2_fitting 1 := ⟨k_in (lw_T3 (List.mem_of_getElem? (i := 0) (by decide +kernel))) rfl, k_in (lw_T0 (List.mem_of_getElem? (i := 9) (by decide +kernel))) rfl, k_in (lw_T2 (List.mem_of_getElem? (i := 238) (by decide +kernel))) rfl, k_in (lw_T2 (List.mem_of_getElem? (i := 239) (by decide +kernel))) rfl, ⟨by decide +kernel, by decide +kernel, by decide +kernel⟩, by decide +kernel⟩
theorem pfX2_tryBreaks : plainFor MX2_tryBreaks.1 = true := by decide +kernel
theorem vvX2_tryBreaks : k_mv MX2_tryBreaks 0 := ⟨k_in (lw_T3 (List.mem_of_getElem? (i := 23) (by decide +kernel))) rfl, k_in (lw_T0 (List.mem_of_getElem? (i := 9) (by decide +kernel))) rfl, k_in (lw_T3 (List.mem_of_getElem? (i := 21) (by decide +kernel))) rfl, k_in (lw_T3 (List.mem_of_getElem? (i := 22) (by decide +kernel))) rfl, ⟨by decide +kernel, by decide +kernel, by decide +kernel⟩, by decide +kernel⟩
theorem pfX2_fewestNights : plainFor MX2_fewestNights.1 = true := by decide +kernel
theorem vvX2_fewestNights : k_mv MX2_fewestNights 2 := ⟨k_in (lw_T3 (List.mem_of_getElem? (i := 33) (by decide +kernel))) rfl, k_in (lw_T0 (List.mem_of_getElem? (i := 9) (by decide +kernel))) rfl, k_in (lw_T3 (List.mem_of_getElem? (i := 31) (by decide +kernel))) rfl, k_in (lw_T3 (List.mem_of_getElem? (i := 32) (by decide +kernel))) rfl, ⟨by decide +kernel, by decide +kernel, by decide +kernel⟩, by decide +kernel⟩
theorem pfX2_watchLetters : plainFor MX2_watchLetters.1 = true := by decide +kernel
theorem vvX2_watchLetters : k_mv MX2_watchLetters 1 := ⟨k_in (lw_T3 (List.mem_of_getElem? (i := 38) (by decide +kernel))) rfl, k_in (lw_T0 (List.mem_of_getElem? (i := 9) (by decide +kernel))) rfl, k_in (lw_T3 (List.mem_of_getElem? (i := 37) (by decide +kernel))) rfl, k_in (List.mem_append_left _ (List.mem_of_getElem? (i := 19) (by decide +kernel))) rfl, ⟨by decide +kernel, by decide +kernel, by decide +kernel⟩, by decide +kernel⟩
theorem pfX2_compareLetters : plainFor MX2_compareLetters.1 = true := by decide +kernel
theorem vvX2_compareLetters : k_mv MX2_compareLetters 0 := ⟨k_in (lw_T3 (List.mem_of_getElem? (i := 42) (by decide +kernel))) rfl, k_in (lw_T0 (List.mem_of_getElem? (i := 9) (by decide +kernel))) rfl, k_in (lw_T3 (List.mem_of_getElem? (i := 41) (by decide +kernel))) rfl, k_in (List.mem_append_left _ (List.mem_of_getElem? (i := 20) (by decide +kernel))) rfl, ⟨by decide +kernel, by decide +kernel, by decide +kernel⟩, by decide +kernel⟩
theorem pfX2_tellApart : plainFor MX2_tellApart.1 = true := by decide +kernel
theorem vvX2_tellApart : k_mv MX2_tellApart 2 := ⟨k_in (lw_T3 (List.mem_of_getElem? (i := 46) (by decide +kernel))) rfl, k_in (lw_T0 (List.mem_of_getElem? (i := 9) (by decide +kernel))) rfl, k_in (lw_T3 (List.mem_of_getElem? (i := 45) (by decide +kernel))) rfl, k_in (List.mem_append_left _ (List.mem_of_getElem? (i := 21) (by decide +kernel))) rfl, ⟨by decide +kernel, by decide +kernel, by decide +kernel⟩, by decide +kernel⟩
theorem pfX3_takeFromTape : plainFor MX3_takeFromTape.1 = true := by decide +kernel
theorem vvX3_takeFromTape : k_mv MX3_takeFromTape 0 := ⟨k_in (lw_T1 (List.mem_of_getElem? (i := 117) (by decide +kernel))) rfl, k_in (lw_T0 (List.mem_of_getElem? (i := 4) (by decide +kernel))) rfl, k_in (lw_T1 (List.mem_of_getElem? (i := 115) (by decide +kernel))) rfl, k_in (lw_T1 (List.mem_of_getElem? (i := 116) (by decide +kernel))) rfl, ⟨by decide +kernel, by decide +kernel, by decide +kernel⟩, by decide +kernel⟩
theorem pfX3_valueAt : plainFor MX3_valueAt.1 = true := by decide +kernel
theorem vvX3_valueAt : k_mv MX3_valueAt 3 := ⟨k_in (lw_T2 (List.mem_of_getElem? (i := 33) (by decide +kernel))) rfl, k_in (lw_T0 (List.mem_of_getElem? (i := 4) (by decide +kernel))) rfl, k_in (lw_T2 (List.mem_of_getElem? (i := 31) (by decide +kernel))) rfl, k_in (lw_T2 (List.mem_of_getElem? (i := 32) (by decide +kernel))) rfl, ⟨by decide +kernel, by decide +kernel, by decide +kernel⟩, by decide +kernel⟩
theorem pfX3_resultOf : plainFor MX3_resultOf.1 = true := by decide +kernel
theorem vvX3_resultOf : k_mv MX3_resultOf 4 := ⟨k_in (lw_T2 (List.mem_of_getElem? (i := 48) (by decide +kernel))) rfl, k_in (lw_T0 (List.mem_of_getElem? (i := 4) (by decide +kernel))) rfl, k_in (lw_T2 (List.mem_of_getElem? (i := 47) (by decide +kernel))) rfl, k_in (List.mem_append_left _ (List.mem_of_getElem? (i := 16) (by decide +kernel))) rfl, ⟨by decide +kernel, by decide +kernel, by decide +kernel⟩, by decide +kernel⟩
theorem pfX3_push : plainFor MX3_push.1 = true := by decide +kernel
theorem vvX3_push : k_mv MX3_push 1 := ⟨k_in (lw_T2 (List.mem_of_getElem? (i := 44) (by decide +kernel))) rfl, k_in (lw_T0 (List.mem_of_getElem? (i := 4) (by decide +kernel))) rfl, k_in (lw_T2 (List.mem_of_getElem? (i := 43) (by decide +kernel))) rfl, k_in (List.mem_append_left _ (List.mem_of_getElem? (i := 15) (by decide +kernel))) rfl, ⟨by decide +kernel, by decide +kernel, by decide +kernel⟩, by decide +kernel⟩
theorem pfX3_pop : plainFor MX3_pop.1 = true := by decide +kernel
theorem vvX3_pop : k_mv MX3_pop 0 := ⟨k_in (lw_T2 (List.mem_of_getElem? (i := 37) (by decide +kernel))) rfl, k_in (lw_T0 (List.mem_of_getElem? (i := 4) (by decide +kernel))) rfl, k_in (lw_T2 (List.mem_of_getElem? (i := 36) (by decide +kernel))) rfl, k_in (List.mem_append_left _ (List.mem_of_getElem? (i := 14) (by decide +kernel))) rfl, ⟨by decide +kernel, by decide +kernel, by decide +kernel⟩, by decide +kernel⟩
theorem pfX4_stepAt : plainFor MX4_stepAt.1 = true := by decide +kernel
theorem vvX4_stepAt : k_mv MX4_stepAt 1 := ⟨k_in (lw_T1 (List.mem_of_getElem? (i := 173) (by decide +kernel))) rfl, k_in (lw_T0 (List.mem_of_getElem? (i := 5) (by decide +kernel))) rfl, k_in (lw_T1 (List.mem_of_getElem? (i := 171) (by decide +kernel))) rfl, k_in (lw_T1 (List.mem_of_getElem? (i := 172) (by decide +kernel))) rfl, ⟨by decide +kernel, by decide +kernel, by decide +kernel⟩, by decide +kernel⟩
theorem pfX4_readTape : plainFor MX4_readTape.1 = true := by decide +kernel
theorem vvX4_readTape : k_mv MX4_readTape 0 := ⟨k_in (lw_T1 (List.mem_of_getElem? (i := 121) (by decide +kernel))) rfl, k_in (lw_T0 (List.mem_of_getElem? (i := 5) (by decide +kernel))) rfl, k_in (lw_T1 (List.mem_of_getElem? (i := 119) (by decide +kernel))) rfl, k_in (lw_T1 (List.mem_of_getElem? (i := 120) (by decide +kernel))) rfl, ⟨by decide +kernel, by decide +kernel, by decide +kernel⟩, by decide +kernel⟩
theorem pfX4_lines : plainFor MX4_lines.1 = true := by decide +kernel
theorem vvX4_lines : k_mv MX4_lines 0 := ⟨k_in (lw_T1 (List.mem_of_getElem? (i := 125) (by decide +kernel))) rfl, k_in (lw_T0 (List.mem_of_getElem? (i := 5) (by decide +kernel))) rfl, k_in (lw_T1 (List.mem_of_getElem? (i := 124) (by decide +kernel))) rfl, k_in (List.mem_append_left _ (List.mem_of_getElem? (i := 0) (by decide +kernel))) rfl, ⟨by decide +kernel, by decide +kernel, by decide +kernel⟩, by decide +kernel⟩
theorem pfX4_line : plainFor MX4_line.1 = true := by decide +kernel
theorem vvX4_line : k_mv MX4_line 0 := ⟨k_in (lw_T1 (List.mem_of_getElem? (i := 129) (by decide +kernel))) rfl, k_in (lw_T0 (List.mem_of_getElem? (i := 5) (by decide +kernel))) rfl, k_in (lw_T1 (List.mem_of_getElem? (i := 128) (by decide +kernel))) rfl, k_in (List.mem_append_left _ (List.mem_of_getElem? (i := 1) (by decide +kernel))) rfl, ⟨by decide +kernel, by decide +kernel, by decide +kernel⟩, by decide +kernel⟩
theorem pfX4_either : plainFor MX4_either.1 = true := by decide +kernel
theorem vvX4_either : k_mv MX4_either 1 := ⟨k_in (lw_T1 (List.mem_of_getElem? (i := 133) (by decide +kernel))) rfl, k_in (lw_T0 (List.mem_of_getElem? (i := 5) (by decide +kernel))) rfl, k_in (lw_T1 (List.mem_of_getElem? (i := 132) (by decide +kernel))) rfl, k_in (List.mem_append_left _ (List.mem_of_getElem? (i := 2) (by decide +kernel))) rfl, ⟨by decide +kernel, by decide +kernel, by decide +kernel⟩, by decide +kernel⟩
theorem pfX4_both : plainFor MX4_both.1 = true := by decide +kernel
theorem vvX4_both : k_mv MX4_both 1 := ⟨k_in (lw_T1 (List.mem_of_getElem? (i := 137) (by decide +kernel))) rfl, k_in (lw_T0 (List.mem_of_getElem? (i := 5) (by decide +kernel))) rfl, k_in (lw_T1 (List.mem_of_getElem? (i := 136) (by decide +kernel))) rfl, k_in (List.mem_append_left _ (List.mem_of_getElem? (i := 3) (by decide +kernel))) rfl, ⟨by decide +kernel, by decide +kernel, by decide +kernel⟩, by decide +kernel⟩
theorem pfX4_compared : plainFor MX4_compared.1 = true := by decide +kernel
theorem vvX4_compared : k_mv MX4_compared 1 := ⟨k_in (lw_T1 (List.mem_of_getElem? (i := 141) (by decide +kernel))) rfl, k_in (lw_T0 (List.mem_of_getElem? (i := 5) (by decide +kernel))) rfl, k_in (lw_T1 (List.mem_of_getElem? (i := 140) (by decide +kernel))) rfl, k_in (List.mem_append_left _ (List.mem_of_getElem? (i := 4) (by decide +kernel))) rfl, ⟨by decide +kernel, by decide +kernel, by decide +kernel⟩, by decide +kernel⟩
theorem pfX4_summed : plainFor MX4_summed.1 = true := by decide +kernel
theorem vvX4_summed : k_mv MX4_summed 1 := ⟨k_in (lw_T1 (List.mem_of_getElem? (i := 145) (by decide +kernel))) rfl, k_in (lw_T0 (List.mem_of_getElem? (i := 5) (by decide +kernel))) rfl, k_in (lw_T1 (List.mem_of_getElem? (i := 144) (by decide +kernel))) rfl, k_in (List.mem_append_left _ (List.mem_of_getElem? (i := 5) (by decide +kernel))) rfl, ⟨by decide +kernel, by decide +kernel, by decide +kernel⟩, by decide +kernel⟩
theorem pfX4_multiplied : plainFor MX4_multiplied.1 = true := by decide +kernel
theorem vvX4_multiplied : k_mv MX4_multiplied 1 := ⟨k_in (lw_T1 (List.mem_of_getElem? (i := 149) (by decide +kernel))) rfl, k_in (lw_T0 (List.mem_of_getElem? (i := 5) (by decide +kernel))) rfl, k_in (lw_T1 (List.mem_of_getElem? (i := 148) (by decide +kernel))) rfl, k_in (List.mem_append_left _ (List.mem_of_getElem? (i := 6) (by decide +kernel))) rfl, ⟨by decide +kernel, by decide +kernel, by decide +kernel⟩, by decide +kernel⟩
theorem pfX4_single : plainFor MX4_single.1 = true := by decide +kernel
theorem vvX4_single : k_mv MX4_single 1 := ⟨k_in (lw_T1 (List.mem_of_getElem? (i := 153) (by decide +kernel))) rfl, k_in (lw_T0 (List.mem_of_getElem? (i := 5) (by decide +kernel))) rfl, k_in (lw_T1 (List.mem_of_getElem? (i := 152) (by decide +kernel))) rfl, k_in (List.mem_append_left _ (List.mem_of_getElem? (i := 7) (by decide +kernel))) rfl, ⟨by decide +kernel, by decide +kernel, by decide +kernel⟩, by decide +kernel⟩
theorem pfX4_number : plainFor MX4_number.1 = true := by decide +kernel
theorem vvX4_number : k_mv MX4_number 0 := ⟨k_in (lw_T1 (List.mem_of_getElem? (i := 161) (by decide +kernel))) rfl, k_in (lw_T0 (List.mem_of_getElem? (i := 5) (by decide +kernel))) rfl, k_in (lw_T1 (List.mem_of_getElem? (i := 160) (by decide +kernel))) rfl, k_in (List.mem_append_left _ (List.mem_of_getElem? (i := 8) (by decide +kernel))) rfl, ⟨by decide +kernel, by decide +kernel, by decide +kernel⟩, by decide +kernel⟩
theorem pfX4_passes : plainFor MX4_passes.1 = true := by decide +kernel
theorem vvX4_passes : k_mv MX4_passes 1 := ⟨k_in (lw_T1 (List.mem_of_getElem? (i := 169) (by decide +kernel))) rfl, k_in (lw_T0 (List.mem_of_getElem? (i := 5) (by decide +kernel))) rfl, k_in (lw_T1 (List.mem_of_getElem? (i := 168) (by decide +kernel))) rfl, k_in (List.mem_append_left _ (List.mem_of_getElem? (i := 10) (by decide +kernel))) rfl, ⟨by decide +kernel, by decide +kernel, by decide +kernel⟩, by decide +kernel⟩
theorem pfX4_add : plainFor MX4_add.1 = true := by decide +kernel
theorem vvX4_add : k_mv MX4_add 1 := ⟨k_in (lw_T1 (List.mem_of_getElem? (i := 165) (by decide +kernel))) rfl, k_in (lw_T0 (List.mem_of_getElem? (i := 5) (by decide +kernel))) rfl, k_in (lw_T1 (List.mem_of_getElem? (i := 164) (by decide +kernel))) rfl, k_in (List.mem_append_left _ (List.mem_of_getElem? (i := 9) (by decide +kernel))) rfl, ⟨by decide +kernel, by decide +kernel, by decide +kernel⟩, by decide +kernel⟩
theorem pfX4_isDigit : plainFor MX4_isDigit.1 = true := by decide +kernel
theorem vvX4_isDigit : k_ms MX4_isDigit 1 := ⟨k_in (lw_T1 (List.mem_of_getElem? (i := 157) (by decide +kernel))) rfl, k_in (lw_T0 (List.mem_of_getElem? (i := 5) (by decide +kernel))) rfl, k_in (lw_T1 (List.mem_of_getElem? (i := 156) (by decide +kernel))) rfl, ⟨by decide +kernel, by decide +kernel, by decide +kernel⟩, by decide +kernel⟩
theorem pfX5_placeOf : plainFor MX5_placeOf.1 = true := by decide +kernel
theorem vvX5_placeOf : k_mv MX5_placeOf 1 := ⟨k_in (lw_T2 (List.mem_of_getElem? (i := 9) (by decide +kernel))) rfl, k_in (lw_T0 (List.mem_of_getElem? (i := 7) (by decide +kernel))) rfl, k_in (lw_T2 (List.mem_of_getElem? (i := 7) (by decide +kernel))) rfl, k_in (lw_T2 (List.mem_of_getElem? (i := 8) (by decide +kernel))) rfl, ⟨by decide +kernel, by decide +kernel, by decide +kernel⟩, by decide +kernel⟩
theorem pfX5_waitsOf : plainFor MX5_waitsOf.1 = true := by decide +kernel
theorem vvX5_waitsOf : k_mv MX5_waitsOf 1 := ⟨k_in (lw_T2 (List.mem_of_getElem? (i := 13) (by decide +kernel))) rfl, k_in (lw_T0 (List.mem_of_getElem? (i := 7) (by decide +kernel))) rfl, k_in (lw_T2 (List.mem_of_getElem? (i := 11) (by decide +kernel))) rfl, k_in (lw_T2 (List.mem_of_getElem? (i := 12) (by decide +kernel))) rfl, ⟨by decide +kernel, by decide +kernel, by decide +kernel⟩, by decide +kernel⟩
theorem pfX5_stand : plainFor MX5_stand.1 = true := by decide +kernel
theorem vvX5_stand : k_mv MX5_stand 3 := ⟨k_in (lw_T2 (List.mem_of_getElem? (i := 59) (by decide +kernel))) rfl, k_in (lw_T0 (List.mem_of_getElem? (i := 7) (by decide +kernel))) rfl, k_in (lw_T2 (List.mem_of_getElem? (i := 57) (by decide +kernel))) rfl, k_in (lw_T2 (List.mem_of_getElem? (i := 58) (by decide +kernel))) rfl, ⟨by decide +kernel, by decide +kernel, by decide +kernel⟩, by decide +kernel⟩
theorem pfX5_become : plainFor MX5_become.1 = true := by decide +kernel
theorem vvX5_become : k_mv MX5_become 2 := ⟨k_in (lw_T2 (List.mem_of_getElem? (i := 76) (by decide +kernel))) rfl, k_in (lw_T0 (List.mem_of_getElem? (i := 7) (by decide +kernel))) rfl, k_in (lw_T2 (List.mem_of_getElem? (i := 74) (by decide +kernel))) rfl, k_in (lw_T2 (List.mem_of_getElem? (i := 75) (by decide +kernel))) rfl, ⟨by decide +kernel, by decide +kernel, by decide +kernel⟩, by decide +kernel⟩
theorem pfX5_standsAs : plainFor MX5_standsAs.1 = true := by decide +kernel
theorem vvX5_standsAs : k_mv MX5_standsAs 2 := ⟨k_in (lw_T2 (List.mem_of_getElem? (i := 143) (by decide +kernel))) rfl, k_in (lw_T0 (List.mem_of_getElem? (i := 7) (by decide +kernel))) rfl, k_in (lw_T2 (List.mem_of_getElem? (i := 141) (by decide +kernel))) rfl, k_in (lw_T2 (List.mem_of_getElem? (i := 142) (by decide +kernel))) rfl, ⟨by decide +kernel, by decide +kernel, by decide +kernel⟩, by decide +kernel⟩
theorem pfX6_think : plainFor MX6_think.1 = true := by decide +kernel
theorem vvX6_think : k_mv MX6_think 0 := ⟨k_in (lw_T2 (List.mem_of_getElem? (i := 72) (by decide +kernel))) rfl, k_in (lw_T0 (List.mem_of_getElem? (i := 6) (by decide +kernel))) rfl, k_in (lw_T2 (List.mem_of_getElem? (i := 70) (by decide +kernel))) rfl, k_in (lw_T2 (List.mem_of_getElem? (i := 71) (by decide +kernel))) rfl, ⟨by decide +kernel, by decide +kernel, by decide +kernel⟩, by decide +kernel⟩
theorem pfX6_pass : plainFor MX6_pass.1 = true := by decide +kernel
theorem vvX6_pass : k_mv MX6_pass 3 := ⟨k_in (lw_T2 (List.mem_of_getElem? (i := 22) (by decide +kernel))) rfl, k_in (lw_T0 (List.mem_of_getElem? (i := 6) (by decide +kernel))) rfl, k_in (lw_T2 (List.mem_of_getElem? (i := 20) (by decide +kernel))) rfl, k_in (lw_T2 (List.mem_of_getElem? (i := 21) (by decide +kernel))) rfl, ⟨by decide +kernel, by decide +kernel, by decide +kernel⟩, by decide +kernel⟩
theorem pfX6_pushed : plainFor MX6_pushed.1 = true := by decide +kernel
theorem vvX6_pushed : k_mv MX6_pushed 2 := ⟨k_in (lw_T2 (List.mem_of_getElem? (i := 26) (by decide +kernel))) rfl, k_in (lw_T0 (List.mem_of_getElem? (i := 6) (by decide +kernel))) rfl, k_in (lw_T2 (List.mem_of_getElem? (i := 25) (by decide +kernel))) rfl, k_in (List.mem_append_left _ (List.mem_of_getElem? (i := 13) (by decide +kernel))) rfl, ⟨by decide +kernel, by decide +kernel, by decide +kernel⟩, by decide +kernel⟩
theorem pfX6_dayOf : plainFor MX6_dayOf.1 = true := by decide +kernel
theorem vvX6_dayOf : k_mv MX6_dayOf 1 := ⟨k_in (lw_T2 (List.mem_of_getElem? (i := 87) (by decide +kernel))) rfl, k_in (lw_T0 (List.mem_of_getElem? (i := 6) (by decide +kernel))) rfl, k_in (lw_T2 (List.mem_of_getElem? (i := 85) (by decide +kernel))) rfl, k_in (lw_T2 (List.mem_of_getElem? (i := 86) (by decide +kernel))) rfl, ⟨by decide +kernel, by decide +kernel, by decide +kernel⟩, by decide +kernel⟩
theorem pfX6_timesOfDay : plainFor MX6_timesOfDay.1 = true := by decide +kernel
theorem vvX6_timesOfDay : k_mv MX6_timesOfDay 2 := ⟨k_in (lw_T2 (List.mem_of_getElem? (i := 95) (by decide +kernel))) rfl, k_in (lw_T0 (List.mem_of_getElem? (i := 6) (by decide +kernel))) rfl, k_in (lw_T2 (List.mem_of_getElem? (i := 93) (by decide +kernel))) rfl, k_in (lw_T2 (List.mem_of_getElem? (i := 94) (by decide +kernel))) rfl, ⟨by decide +kernel, by decide +kernel, by decide +kernel⟩, by decide +kernel⟩
theorem pfX6_unshown : plainFor MX6_unshown.1 = true := by decide +kernel
theorem vvX6_unshown : k_mv MX6_unshown 2 := ⟨k_in (lw_T2 (List.mem_of_getElem? (i := 106) (by decide +kernel))) rfl, k_in (lw_T0 (List.mem_of_getElem? (i := 6) (by decide +kernel))) rfl, k_in (lw_T2 (List.mem_of_getElem? (i := 104) (by decide +kernel))) rfl, k_in (lw_T2 (List.mem_of_getElem? (i := 105) (by decide +kernel))) rfl, ⟨by decide +kernel, by decide +kernel, by decide +kernel⟩, by decide +kernel⟩
theorem pfX6_markShown : plainFor MX6_markShown.1 = true := by decide +kernel
theorem vvX6_markShown : k_mv MX6_markShown 0 := ⟨k_in (lw_T2 (List.mem_of_getElem? (i := 110) (by decide +kernel))) rfl, k_in (lw_T0 (List.mem_of_getElem? (i := 6) (by decide +kernel))) rfl, k_in (lw_T2 (List.mem_of_getElem? (i := 109) (by decide +kernel))) rfl, k_in (List.mem_append_left _ (List.mem_of_getElem? (i := 17) (by decide +kernel))) rfl, ⟨by decide +kernel, by decide +kernel, by decide +kernel⟩, by decide +kernel⟩
theorem pfX6_timesAt : plainFor MX6_timesAt.1 = true := by decide +kernel
theorem vvX6_timesAt : k_mv MX6_timesAt 4 := ⟨k_in (lw_T2 (List.mem_of_getElem? (i := 122) (by decide +kernel))) rfl, k_in (lw_T0 (List.mem_of_getElem? (i := 6) (by decide +kernel))) rfl, k_in (lw_T2 (List.mem_of_getElem? (i := 120) (by decide +kernel))) rfl, k_in (lw_T2 (List.mem_of_getElem? (i := 121) (by decide +kernel))) rfl, ⟨by decide +kernel, by decide +kernel, by decide +kernel⟩, by decide +kernel⟩
theorem pfX6_firstOfBoth : plainFor MX6_firstOfBoth.1 = true := by decide +kernel
theorem vvX6_firstOfBoth : k_mv MX6_firstOfBoth 3 := ⟨k_in (lw_T2 (List.mem_of_getElem? (i := 130) (by decide +kernel))) rfl, k_in (lw_T0 (List.mem_of_getElem? (i := 6) (by decide +kernel))) rfl, k_in (lw_T2 (List.mem_of_getElem? (i := 128) (by decide +kernel))) rfl, k_in (lw_T2 (List.mem_of_getElem? (i := 129) (by decide +kernel))) rfl, ⟨by decide +kernel, by decide +kernel, by decide +kernel⟩, by decide +kernel⟩
theorem pfX6_firstAsNow : plainFor MX6_firstAsNow.1 = true := by decide +kernel
theorem vvX6_firstAsNow : k_mv MX6_firstAsNow 1 := ⟨k_in (lw_T2 (List.mem_of_getElem? (i := 139) (by decide +kernel))) rfl, k_in (lw_T0 (List.mem_of_getElem? (i := 6) (by decide +kernel))) rfl, k_in (lw_T2 (List.mem_of_getElem? (i := 137) (by decide +kernel))) rfl, k_in (lw_T2 (List.mem_of_getElem? (i := 138) (by decide +kernel))) rfl, ⟨by decide +kernel, by decide +kernel, by decide +kernel⟩, by decide +kernel⟩
theorem pfX6_nightsTo : plainFor MX6_nightsTo.1 = true := by decide +kernel
theorem vvX6_nightsTo : k_mv MX6_nightsTo 3 := ⟨k_in (lw_T2 (List.mem_of_getElem? (i := 151) (by decide +kernel))) rfl, k_in (lw_T0 (List.mem_of_getElem? (i := 6) (by decide +kernel))) rfl, k_in (lw_T2 (List.mem_of_getElem? (i := 149) (by decide +kernel))) rfl, k_in (lw_T2 (List.mem_of_getElem? (i := 150) (by decide +kernel))) rfl, ⟨by decide +kernel, by decide +kernel, by decide +kernel⟩, by decide +kernel⟩
theorem pfX6_wrongDays : plainFor MX6_wrongDays.1 = true := by decide +kernel
theorem vvX6_wrongDays : k_mv MX6_wrongDays 1 := ⟨k_in (lw_T2 (List.mem_of_getElem? (i := 159) (by decide +kernel))) rfl, k_in (lw_T0 (List.mem_of_getElem? (i := 6) (by decide +kernel))) rfl, k_in (lw_T2 (List.mem_of_getElem? (i := 157) (by decide +kernel))) rfl, k_in (lw_T2 (List.mem_of_getElem? (i := 158) (by decide +kernel))) rfl, ⟨by decide +kernel, by decide +kernel, by decide +kernel⟩, by decide +kernel⟩
theorem pfX6_nearest : plainFor MX6_nearest.1 = true := by decide +kernel
theorem vvX6_nearest : k_mv MX6_nearest 2 := ⟨k_in (lw_T2 (List.mem_of_getElem? (i := 163) (by decide +kernel))) rfl, k_in (lw_T0 (List.mem_of_getElem? (i := 6) (by decide +kernel))) rfl, k_in (lw_T2 (List.mem_of_getElem? (i := 161) (by decide +kernel))) rfl, k_in (lw_T2 (List.mem_of_getElem? (i := 162) (by decide +kernel))) rfl, ⟨by decide +kernel, by decide +kernel, by decide +kernel⟩, by decide +kernel⟩
theorem pfX7_nightOf : plainFor MX7_nightOf.1 = true := by decide +kernel
theorem vvX7_nightOf : k_mv MX7_nightOf 1 := ⟨k_in (lw_T2 (List.mem_of_getElem? (i := 182) (by decide +kernel))) rfl, k_in (lw_T0 (List.mem_of_getElem? (i := 8) (by decide +kernel))) rfl, k_in (lw_T2 (List.mem_of_getElem? (i := 180) (by decide +kernel))) rfl, k_in (lw_T2 (List.mem_of_getElem? (i := 181) (by decide +kernel))) rfl, ⟨by decide +kernel, by decide +kernel, by decide +kernel⟩, by decide +kernel⟩
theorem pfX7_placeOf : plainFor MX7_placeOf.1 = true := by decide +kernel
theorem vvX7_placeOf : k_mv MX7_placeOf 1 := ⟨k_in (lw_T2 (List.mem_of_getElem? (i := 232) (by decide +kernel))) rfl, k_in (lw_T0 (List.mem_of_getElem? (i := 8) (by decide +kernel))) rfl, k_in (lw_T2 (List.mem_of_getElem? (i := 230) (by decide +kernel))) rfl, k_in (lw_T2 (List.mem_of_getElem? (i := 231) (by decide +kernel))) rfl, ⟨by decide +kernel, by decide +kernel, by decide +kernel⟩, by decide +kernel⟩
theorem pfX7_inOrder : plainFor MX7_inOrder.1 = true := by decide +kernel
theorem vvX7_inOrder : k_mv MX7_inOrder 1 := ⟨k_in (lw_T2 (List.mem_of_getElem? (i := 225) (by decide +kernel))) rfl, k_in (lw_T0 (List.mem_of_getElem? (i := 8) (by decide +kernel))) rfl, k_in (lw_T2 (List.mem_of_getElem? (i := 223) (by decide +kernel))) rfl, k_in (lw_T2 (List.mem_of_getElem? (i := 224) (by decide +kernel))) rfl, ⟨by decide +kernel, by decide +kernel, by decide +kernel⟩, by decide +kernel⟩
theorem pfX7_add : plainFor MX7_add.1 = true := by decide +kernel
theorem vvX7_add : k_mv MX7_add 2 := ⟨k_in (lw_T2 (List.mem_of_getElem? (i := 178) (by decide +kernel))) rfl, k_in (lw_T0 (List.mem_of_getElem? (i := 8) (by decide +kernel))) rfl, k_in (lw_T2 (List.mem_of_getElem? (i := 176) (by decide +kernel))) rfl, k_in (lw_T2 (List.mem_of_getElem? (i := 177) (by decide +kernel))) rfl, ⟨by decide +kernel, by decide +kernel, by decide +kernel⟩, by decide +kernel⟩
theorem pfX8_has : plainFor MX8_has.1 = true := by decide +kernel
theorem vvX8_has : k_mv MX8_has 1 := ⟨k_in (lw_T2 (List.mem_of_getElem? (i := 190) (by decide +kernel))) rfl, k_in (lw_T0 (List.mem_of_getElem? (i := 12) (by decide +kernel))) rfl, k_in (lw_T2 (List.mem_of_getElem? (i := 188) (by decide +kernel))) rfl, k_in (lw_T2 (List.mem_of_getElem? (i := 189) (by decide +kernel))) rfl, ⟨by decide +kernel, by decide +kernel, by decide +kernel⟩, by decide +kernel⟩
theorem pfX8_heldBy : plainFor MX8_heldBy.1 = true := by decide +kernel
theorem vvX8_heldBy : k_mv MX8_heldBy 1 := ⟨k_in (lw_T2 (List.mem_of_getElem? (i := 194) (by decide +kernel))) rfl, k_in (lw_T0 (List.mem_of_getElem? (i := 12) (by decide +kernel))) rfl, k_in (lw_T2 (List.mem_of_getElem? (i := 192) (by decide +kernel))) rfl, k_in (lw_T2 (List.mem_of_getElem? (i := 193) (by decide +kernel))) rfl, ⟨by decide +kernel, by decide +kernel, by decide +kernel⟩, by decide +kernel⟩
theorem pfX8_sizeOf : plainFor MX8_sizeOf.1 = true := by decide +kernel
theorem vvX8_sizeOf : k_mv MX8_sizeOf 1 := ⟨k_in (lw_T2 (List.mem_of_getElem? (i := 204) (by decide +kernel))) rfl, k_in (lw_T0 (List.mem_of_getElem? (i := 12) (by decide +kernel))) rfl, k_in (lw_T2 (List.mem_of_getElem? (i := 202) (by decide +kernel))) rfl, k_in (lw_T2 (List.mem_of_getElem? (i := 203) (by decide +kernel))) rfl, ⟨by decide +kernel, by decide +kernel, by decide +kernel⟩, by decide +kernel⟩
theorem pfX8_hold : plainFor MX8_hold.1 = true := by decide +kernel
theorem vvX8_hold : k_mv MX8_hold 3 := ⟨k_in (lw_T3 (List.mem_of_getElem? (i := 134) (by decide +kernel))) rfl, k_in (lw_T0 (List.mem_of_getElem? (i := 12) (by decide +kernel))) rfl, k_in (lw_T3 (List.mem_of_getElem? (i := 132) (by decide +kernel))) rfl, k_in (lw_T3 (List.mem_of_getElem? (i := 133) (by decide +kernel))) rfl, ⟨by decide +kernel, by decide +kernel, by decide +kernel⟩, by decide +kernel⟩
theorem pfX8_hasElement : plainFor MX8_hasElement.1 = true := by decide +kernel
theorem vvX8_hasElement : k_mv MX8_hasElement 2 := ⟨k_in (lw_T2 (List.mem_of_getElem? (i := 199) (by decide +kernel))) rfl, k_in (lw_T0 (List.mem_of_getElem? (i := 12) (by decide +kernel))) rfl, k_in (lw_T2 (List.mem_of_getElem? (i := 197) (by decide +kernel))) rfl, k_in (lw_T2 (List.mem_of_getElem? (i := 198) (by decide +kernel))) rfl, ⟨by decide +kernel, by decide +kernel, by decide +kernel⟩, by decide +kernel⟩
theorem pfX8_refusalAt : plainFor MX8_refusalAt.1 = true := by decide +kernel
theorem vvX8_refusalAt : k_mv MX8_refusalAt 2 := ⟨k_in (lw_T3 (List.mem_of_getElem? (i := 146) (by decide +kernel))) rfl, k_in (lw_T0 (List.mem_of_getElem? (i := 12) (by decide +kernel))) rfl, k_in (lw_T3 (List.mem_of_getElem? (i := 144) (by decide +kernel))) rfl, k_in (lw_T3 (List.mem_of_getElem? (i := 145) (by decide +kernel))) rfl, ⟨by decide +kernel, by decide +kernel, by decide +kernel⟩, by decide +kernel⟩
theorem pfX8_hasPart : plainFor MX8_hasPart.1 = true := by decide +kernel
theorem vvX8_hasPart : k_mv MX8_hasPart 3 := ⟨k_in (lw_T3 (List.mem_of_getElem? (i := 166) (by decide +kernel))) rfl, k_in (lw_T0 (List.mem_of_getElem? (i := 12) (by decide +kernel))) rfl, k_in (lw_T3 (List.mem_of_getElem? (i := 164) (by decide +kernel))) rfl, k_in (lw_T3 (List.mem_of_getElem? (i := 165) (by decide +kernel))) rfl, ⟨by decide +kernel, by decide +kernel, by decide +kernel⟩, by decide +kernel⟩
theorem pfX8_valueAt : plainFor MX8_valueAt.1 = true := by decide +kernel
theorem vvX8_valueAt : k_mv MX8_valueAt 2 := ⟨k_in (lw_T2 (List.mem_of_getElem? (i := 208) (by decide +kernel))) rfl, k_in (lw_T0 (List.mem_of_getElem? (i := 12) (by decide +kernel))) rfl, k_in (lw_T2 (List.mem_of_getElem? (i := 206) (by decide +kernel))) rfl, k_in (lw_T2 (List.mem_of_getElem? (i := 207) (by decide +kernel))) rfl, ⟨by decide +kernel, by decide +kernel, by decide +kernel⟩, by decide +kernel⟩
theorem pfX8_write : plainFor MX8_write.1 = true := by decide +kernel
theorem vvX8_write : k_mv MX8_write 3 := ⟨k_in (lw_T3 (List.mem_of_getElem? (i := 150) (by decide +kernel))) rfl, k_in (lw_T0 (List.mem_of_getElem? (i := 12) (by decide +kernel))) rfl, k_in (lw_T3 (List.mem_of_getElem? (i := 148) (by decide +kernel))) rfl, k_in (lw_T3 (List.mem_of_getElem? (i := 149) (by decide +kernel))) rfl, ⟨by decide +kernel, by decide +kernel, by decide +kernel⟩, by decide +kernel⟩
theorem pfX8_lowest : plainFor MX8_lowest.1 = true := by decide +kernel
theorem vvX8_lowest : k_ms MX8_lowest 2 := ⟨k_in (lw_T3 (List.mem_of_getElem? (i := 153) (by decide +kernel))) rfl, k_in (lw_T0 (List.mem_of_getElem? (i := 12) (by decide +kernel))) rfl, k_in (lw_T3 (List.mem_of_getElem? (i := 152) (by decide +kernel))) rfl, ⟨by decide +kernel, by decide +kernel, by decide +kernel⟩, by decide +kernel⟩
theorem pfX8_move : plainFor MX8_move.1 = true := by decide +kernel
theorem vvX8_move : k_mv MX8_move 5 := ⟨k_in (lw_T3 (List.mem_of_getElem? (i := 170) (by decide +kernel))) rfl, k_in (lw_T0 (List.mem_of_getElem? (i := 12) (by decide +kernel))) rfl, k_in (lw_T3 (List.mem_of_getElem? (i := 168) (by decide +kernel))) rfl, k_in (lw_T3 (List.mem_of_getElem? (i := 169) (by decide +kernel))) rfl, ⟨by decide +kernel, by decide +kernel, by decide +kernel⟩, by decide +kernel⟩
theorem pfX9_append : plainFor MX9_append.1 = true := by decide +kernel
theorem vvX9_append : k_mv MX9_append 1 := ⟨k_in (lw_T1 (List.mem_of_getElem? (i := 86) (by decide +kernel))) rfl, k_in (lw_T0 (List.mem_of_getElem? (i := 2) (by decide +kernel))) rfl, k_in (lw_T1 (List.mem_of_getElem? (i := 84) (by decide +kernel))) rfl, k_in (lw_T1 (List.mem_of_getElem? (i := 85) (by decide +kernel))) rfl, ⟨by decide +kernel, by decide +kernel, by decide +kernel⟩, by decide +kernel⟩
theorem pfX9_at : plainFor MX9_at.1 = true := by decide +kernel
theorem vvX9_at : k_mv MX9_at 1 := ⟨k_in (lw_T1 (List.mem_of_getElem? (i := 98) (by decide +kernel))) rfl, k_in (lw_T0 (List.mem_of_getElem? (i := 2) (by decide +kernel))) rfl, k_in (lw_T1 (List.mem_of_getElem? (i := 96) (by decide +kernel))) rfl, k_in (lw_T1 (List.mem_of_getElem? (i := 97) (by decide +kernel))) rfl, ⟨by decide +kernel, by decide +kernel, by decide +kernel⟩, by decide +kernel⟩
theorem pfX10_has : plainFor MX10_has.1 = true := by decide +kernel
theorem vvX10_has : k_mv MX10_has 1 := ⟨k_in (lw_T1 (List.mem_of_getElem? (i := 186) (by decide +kernel))) rfl, k_in (lw_T0 (List.mem_of_getElem? (i := 3) (by decide +kernel))) rfl, k_in (lw_T1 (List.mem_of_getElem? (i := 184) (by decide +kernel))) rfl, k_in (lw_T1 (List.mem_of_getElem? (i := 185) (by decide +kernel))) rfl, ⟨by decide +kernel, by decide +kernel, by decide +kernel⟩, by decide +kernel⟩
theorem pfX10_hasPlace : plainFor MX10_hasPlace.1 = true := by decide +kernel
theorem vvX10_hasPlace : k_mv MX10_hasPlace 2 := ⟨k_in (lw_T1 (List.mem_of_getElem? (i := 230) (by decide +kernel))) rfl, k_in (lw_T0 (List.mem_of_getElem? (i := 3) (by decide +kernel))) rfl, k_in (lw_T1 (List.mem_of_getElem? (i := 228) (by decide +kernel))) rfl, k_in (lw_T1 (List.mem_of_getElem? (i := 229) (by decide +kernel))) rfl, ⟨by decide +kernel, by decide +kernel, by decide +kernel⟩, by decide +kernel⟩
theorem pfX10_sizeOf : plainFor MX10_sizeOf.1 = true := by decide +kernel
theorem vvX10_sizeOf : k_mv MX10_sizeOf 1 := ⟨k_in (lw_T2 (List.mem_of_getElem? (i := 5) (by decide +kernel))) rfl, k_in (lw_T0 (List.mem_of_getElem? (i := 3) (by decide +kernel))) rfl, k_in (lw_T2 (List.mem_of_getElem? (i := 3) (by decide +kernel))) rfl, k_in (lw_T2 (List.mem_of_getElem? (i := 4) (by decide +kernel))) rfl, ⟨by decide +kernel, by decide +kernel, by decide +kernel⟩, by decide +kernel⟩
theorem pfX10_breakOf : plainFor MX10_breakOf.1 = true := by decide +kernel
theorem vvX10_breakOf : k_mv MX10_breakOf 1 := ⟨k_in (lw_T1 (List.mem_of_getElem? (i := 190) (by decide +kernel))) rfl, k_in (lw_T0 (List.mem_of_getElem? (i := 3) (by decide +kernel))) rfl, k_in (lw_T1 (List.mem_of_getElem? (i := 188) (by decide +kernel))) rfl, k_in (lw_T1 (List.mem_of_getElem? (i := 189) (by decide +kernel))) rfl, ⟨by decide +kernel, by decide +kernel, by decide +kernel⟩, by decide +kernel⟩
theorem pfX10_setBreak : plainFor MX10_setBreak.1 = true := by decide +kernel
theorem vvX10_setBreak : k_mv MX10_setBreak 2 := ⟨k_in (lw_T1 (List.mem_of_getElem? (i := 194) (by decide +kernel))) rfl, k_in (lw_T0 (List.mem_of_getElem? (i := 3) (by decide +kernel))) rfl, k_in (lw_T1 (List.mem_of_getElem? (i := 192) (by decide +kernel))) rfl, k_in (lw_T1 (List.mem_of_getElem? (i := 193) (by decide +kernel))) rfl, ⟨by decide +kernel, by decide +kernel, by decide +kernel⟩, by decide +kernel⟩
theorem pfX10_letterAt : plainFor MX10_letterAt.1 = true := by decide +kernel
theorem vvX10_letterAt : k_mv MX10_letterAt 2 := ⟨k_in (lw_T1 (List.mem_of_getElem? (i := 236) (by decide +kernel))) rfl, k_in (lw_T0 (List.mem_of_getElem? (i := 3) (by decide +kernel))) rfl, k_in (lw_T1 (List.mem_of_getElem? (i := 234) (by decide +kernel))) rfl, k_in (lw_T1 (List.mem_of_getElem? (i := 235) (by decide +kernel))) rfl, ⟨by decide +kernel, by decide +kernel, by decide +kernel⟩, by decide +kernel⟩
theorem pfX10_setLetter : plainFor MX10_setLetter.1 = true := by decide +kernel
theorem vvX10_setLetter : k_mv MX10_setLetter 3 := ⟨k_in (lw_T1 (List.mem_of_getElem? (i := 109) (by decide +kernel))) rfl, k_in (lw_T0 (List.mem_of_getElem? (i := 3) (by decide +kernel))) rfl, k_in (lw_T1 (List.mem_of_getElem? (i := 107) (by decide +kernel))) rfl, k_in (lw_T1 (List.mem_of_getElem? (i := 108) (by decide +kernel))) rfl, ⟨by decide +kernel, by decide +kernel, by decide +kernel⟩, by decide +kernel⟩
theorem pfX10_faultOf : plainFor MX10_faultOf.1 = true := by decide +kernel
theorem vvX10_faultOf : k_mv MX10_faultOf 1 := ⟨k_in (lw_T1 (List.mem_of_getElem? (i := 94) (by decide +kernel))) rfl, k_in (lw_T0 (List.mem_of_getElem? (i := 3) (by decide +kernel))) rfl, k_in (lw_T1 (List.mem_of_getElem? (i := 92) (by decide +kernel))) rfl, k_in (lw_T1 (List.mem_of_getElem? (i := 93) (by decide +kernel))) rfl, ⟨by decide +kernel, by decide +kernel, by decide +kernel⟩, by decide +kernel⟩
theorem pfX10_cutFrom : plainFor MX10_cutFrom.1 = true := by decide +kernel
theorem vvX10_cutFrom : k_mv MX10_cutFrom 1 := ⟨k_in (lw_T1 (List.mem_of_getElem? (i := 105) (by decide +kernel))) rfl, k_in (lw_T0 (List.mem_of_getElem? (i := 3) (by decide +kernel))) rfl, k_in (lw_T1 (List.mem_of_getElem? (i := 103) (by decide +kernel))) rfl, k_in (lw_T1 (List.mem_of_getElem? (i := 104) (by decide +kernel))) rfl, ⟨by decide +kernel, by decide +kernel, by decide +kernel⟩, by decide +kernel⟩
theorem pfX11_feed : plainFor MX11_feed.1 = true := by decide +kernel
theorem vvX11_feed : k_mv MX11_feed 1 := ⟨k_in (lw_T1 (List.mem_of_getElem? (i := 82) (by decide +kernel))) rfl, k_in (lw_T0 (List.mem_of_getElem? (i := 1) (by decide +kernel))) rfl, k_in (lw_T1 (List.mem_of_getElem? (i := 80) (by decide +kernel))) rfl, k_in (lw_T1 (List.mem_of_getElem? (i := 81) (by decide +kernel))) rfl, ⟨by decide +kernel, by decide +kernel, by decide +kernel⟩, by decide +kernel⟩
theorem pfX11_wheel : plainFor MX11_wheel.1 = true := by decide +kernel
theorem vvX11_wheel : k_mv MX11_wheel 0 := ⟨k_in (lw_T1 (List.mem_of_getElem? (i := 90) (by decide +kernel))) rfl, k_in (lw_T0 (List.mem_of_getElem? (i := 1) (by decide +kernel))) rfl, k_in (lw_T1 (List.mem_of_getElem? (i := 88) (by decide +kernel))) rfl, k_in (lw_T1 (List.mem_of_getElem? (i := 89) (by decide +kernel))) rfl, ⟨by decide +kernel, by decide +kernel, by decide +kernel⟩, by decide +kernel⟩
theorem pfX11_law : plainFor MX11_law.1 = true := by decide +kernel
theorem vvX11_law : k_mv MX11_law 0 := ⟨k_in (lw_T1 (List.mem_of_getElem? (i := 113) (by decide +kernel))) rfl, k_in (lw_T0 (List.mem_of_getElem? (i := 1) (by decide +kernel))) rfl, k_in (lw_T1 (List.mem_of_getElem? (i := 111) (by decide +kernel))) rfl, k_in (lw_T1 (List.mem_of_getElem? (i := 112) (by decide +kernel))) rfl, ⟨by decide +kernel, by decide +kernel, by decide +kernel⟩, by decide +kernel⟩
theorem pfX11_set : plainFor MX11_set.1 = true := by decide +kernel
theorem vvX11_set : k_mv MX11_set 2 := ⟨k_in (lw_T1 (List.mem_of_getElem? (i := 177) (by decide +kernel))) rfl, k_in (lw_T0 (List.mem_of_getElem? (i := 1) (by decide +kernel))) rfl, k_in (lw_T1 (List.mem_of_getElem? (i := 175) (by decide +kernel))) rfl, k_in (lw_T1 (List.mem_of_getElem? (i := 176) (by decide +kernel))) rfl, ⟨by decide +kernel, by decide +kernel, by decide +kernel⟩, by decide +kernel⟩
theorem pfX11_broke : plainFor MX11_broke.1 = true := by decide +kernel
theorem vvX11_broke : k_mv MX11_broke 2 := ⟨k_in (lw_T1 (List.mem_of_getElem? (i := 182) (by decide +kernel))) rfl, k_in (lw_T0 (List.mem_of_getElem? (i := 1) (by decide +kernel))) rfl, k_in (lw_T1 (List.mem_of_getElem? (i := 180) (by decide +kernel))) rfl, k_in (lw_T1 (List.mem_of_getElem? (i := 181) (by decide +kernel))) rfl, ⟨by decide +kernel, by decide +kernel, by decide +kernel⟩, by decide +kernel⟩
theorem pfX11_tooth : plainFor MX11_tooth.1 = true := by decide +kernel
theorem vvX11_tooth : k_mv MX11_tooth 3 := ⟨k_in (lw_T1 (List.mem_of_getElem? (i := 226) (by decide +kernel))) rfl, k_in (lw_T0 (List.mem_of_getElem? (i := 1) (by decide +kernel))) rfl, k_in (lw_T1 (List.mem_of_getElem? (i := 224) (by decide +kernel))) rfl, k_in (lw_T1 (List.mem_of_getElem? (i := 225) (by decide +kernel))) rfl, ⟨by decide +kernel, by decide +kernel, by decide +kernel⟩, by decide +kernel⟩
theorem pfX11_of : plainFor MX11_of.1 = true := by decide +kernel
theorem vvX11_of : k_mv MX11_of 2 := ⟨k_in (lw_T2 (List.mem_of_getElem? (i := 1) (by decide +kernel))) rfl, k_in (lw_T0 (List.mem_of_getElem? (i := 1) (by decide +kernel))) rfl, k_in (lw_T1 (List.mem_of_getElem? (i := 239) (by decide +kernel))) rfl, k_in (lw_T2 (List.mem_of_getElem? (i := 0) (by decide +kernel))) rfl, ⟨by decide +kernel, by decide +kernel, by decide +kernel⟩, by decide +kernel⟩
theorem pfX11_on : plainFor MX11_on.1 = true := by decide +kernel
theorem vvX11_on : k_mv MX11_on 1 := ⟨k_in (lw_T2 (List.mem_of_getElem? (i := 17) (by decide +kernel))) rfl, k_in (lw_T0 (List.mem_of_getElem? (i := 1) (by decide +kernel))) rfl, k_in (lw_T2 (List.mem_of_getElem? (i := 15) (by decide +kernel))) rfl, k_in (lw_T2 (List.mem_of_getElem? (i := 16) (by decide +kernel))) rfl, ⟨by decide +kernel, by decide +kernel, by decide +kernel⟩, by decide +kernel⟩
theorem pfX11_lay : plainFor MX11_lay.1 = true := by decide +kernel
theorem vvX11_lay : k_mv MX11_lay 2 := ⟨k_in (lw_T2 (List.mem_of_getElem? (i := 63) (by decide +kernel))) rfl, k_in (lw_T0 (List.mem_of_getElem? (i := 1) (by decide +kernel))) rfl, k_in (lw_T2 (List.mem_of_getElem? (i := 61) (by decide +kernel))) rfl, k_in (lw_T2 (List.mem_of_getElem? (i := 62) (by decide +kernel))) rfl, ⟨by decide +kernel, by decide +kernel, by decide +kernel⟩, by decide +kernel⟩
theorem pfX11_shows : plainFor MX11_shows.1 = true := by decide +kernel
theorem vvX11_shows : k_mv MX11_shows 2 := ⟨k_in (lw_T2 (List.mem_of_getElem? (i := 68) (by decide +kernel))) rfl, k_in (lw_T0 (List.mem_of_getElem? (i := 1) (by decide +kernel))) rfl, k_in (lw_T2 (List.mem_of_getElem? (i := 66) (by decide +kernel))) rfl, k_in (lw_T2 (List.mem_of_getElem? (i := 67) (by decide +kernel))) rfl, ⟨by decide +kernel, by decide +kernel, by decide +kernel⟩, by decide +kernel⟩
theorem pfX11_day : plainFor MX11_day.1 = true := by decide +kernel
theorem vvX11_day : k_mv MX11_day 0 := ⟨k_in (lw_T2 (List.mem_of_getElem? (i := 83) (by decide +kernel))) rfl, k_in (lw_T0 (List.mem_of_getElem? (i := 1) (by decide +kernel))) rfl, k_in (lw_T2 (List.mem_of_getElem? (i := 81) (by decide +kernel))) rfl, k_in (lw_T2 (List.mem_of_getElem? (i := 82) (by decide +kernel))) rfl, ⟨by decide +kernel, by decide +kernel, by decide +kernel⟩, by decide +kernel⟩
theorem pfX11_often : plainFor MX11_often.1 = true := by decide +kernel
theorem vvX11_often : k_mv MX11_often 2 := ⟨k_in (lw_T2 (List.mem_of_getElem? (i := 91) (by decide +kernel))) rfl, k_in (lw_T0 (List.mem_of_getElem? (i := 1) (by decide +kernel))) rfl, k_in (lw_T2 (List.mem_of_getElem? (i := 89) (by decide +kernel))) rfl, k_in (lw_T2 (List.mem_of_getElem? (i := 90) (by decide +kernel))) rfl, ⟨by decide +kernel, by decide +kernel, by decide +kernel⟩, by decide +kernel⟩
theorem pfX11_never : plainFor MX11_never.1 = true := by decide +kernel
theorem vvX11_never : k_mv MX11_never 2 := ⟨k_in (lw_T2 (List.mem_of_getElem? (i := 102) (by decide +kernel))) rfl, k_in (lw_T0 (List.mem_of_getElem? (i := 1) (by decide +kernel))) rfl, k_in (lw_T2 (List.mem_of_getElem? (i := 100) (by decide +kernel))) rfl, k_in (lw_T2 (List.mem_of_getElem? (i := 101) (by decide +kernel))) rfl, ⟨by decide +kernel, by decide +kernel, by decide +kernel⟩, by decide +kernel⟩
theorem pfX11_meets : plainFor MX11_meets.1 = true := by decide +kernel
theorem vvX11_meets : k_mv MX11_meets 3 := ⟨k_in (lw_T2 (List.mem_of_getElem? (i := 114) (by decide +kernel))) rfl, k_in (lw_T0 (List.mem_of_getElem? (i := 1) (by decide +kernel))) rfl, k_in (lw_T2 (List.mem_of_getElem? (i := 112) (by decide +kernel))) rfl, k_in (lw_T2 (List.mem_of_getElem? (i := 113) (by decide +kernel))) rfl, ⟨by decide +kernel, by decide +kernel, by decide +kernel⟩, by decide +kernel⟩
theorem pfX11_two : plainFor MX11_two.1 = true := by decide +kernel
theorem vvX11_two : k_mv MX11_two 3 := ⟨k_in (lw_T2 (List.mem_of_getElem? (i := 126) (by decide +kernel))) rfl, k_in (lw_T0 (List.mem_of_getElem? (i := 1) (by decide +kernel))) rfl, k_in (lw_T2 (List.mem_of_getElem? (i := 124) (by decide +kernel))) rfl, k_in (lw_T2 (List.mem_of_getElem? (i := 125) (by decide +kernel))) rfl, ⟨by decide +kernel, by decide +kernel, by decide +kernel⟩, by decide +kernel⟩
theorem pfX11_round : plainFor MX11_round.1 = true := by decide +kernel
theorem vvX11_round : k_mv MX11_round 1 := ⟨k_in (lw_T2 (List.mem_of_getElem? (i := 135) (by decide +kernel))) rfl, k_in (lw_T0 (List.mem_of_getElem? (i := 1) (by decide +kernel))) rfl, k_in (lw_T2 (List.mem_of_getElem? (i := 133) (by decide +kernel))) rfl, k_in (lw_T2 (List.mem_of_getElem? (i := 134) (by decide +kernel))) rfl, ⟨by decide +kernel, by decide +kernel, by decide +kernel⟩, by decide +kernel⟩
theorem pfX11_truth : plainFor MX11_truth.1 = true := by decide +kernel
theorem vvX11_truth : k_mv MX11_truth 1 := ⟨k_in (lw_T2 (List.mem_of_getElem? (i := 147) (by decide +kernel))) rfl, k_in (lw_T0 (List.mem_of_getElem? (i := 1) (by decide +kernel))) rfl, k_in (lw_T2 (List.mem_of_getElem? (i := 145) (by decide +kernel))) rfl, k_in (lw_T2 (List.mem_of_getElem? (i := 146) (by decide +kernel))) rfl, ⟨by decide +kernel, by decide +kernel, by decide +kernel⟩, by decide +kernel⟩
theorem pfX11_near : plainFor MX11_near.1 = true := by decide +kernel
theorem vvX11_near : k_mv MX11_near 2 := ⟨k_in (lw_T2 (List.mem_of_getElem? (i := 155) (by decide +kernel))) rfl, k_in (lw_T0 (List.mem_of_getElem? (i := 1) (by decide +kernel))) rfl, k_in (lw_T2 (List.mem_of_getElem? (i := 153) (by decide +kernel))) rfl, k_in (lw_T2 (List.mem_of_getElem? (i := 154) (by decide +kernel))) rfl, ⟨by decide +kernel, by decide +kernel, by decide +kernel⟩, by decide +kernel⟩
theorem pfX11_record : plainFor MX11_record.1 = true := by decide +kernel
theorem vvX11_record : k_mv MX11_record 2 := ⟨k_in (lw_T2 (List.mem_of_getElem? (i := 171) (by decide +kernel))) rfl, k_in (lw_T0 (List.mem_of_getElem? (i := 1) (by decide +kernel))) rfl, k_in (lw_T2 (List.mem_of_getElem? (i := 169) (by decide +kernel))) rfl, k_in (lw_T2 (List.mem_of_getElem? (i := 170) (by decide +kernel))) rfl, ⟨by decide +kernel, by decide +kernel, by decide +kernel⟩, by decide +kernel⟩
theorem pfX11_records : plainFor MX11_records.1 = true := by decide +kernel
theorem vvX11_records : k_mv MX11_records 3 := ⟨k_in (lw_T2 (List.mem_of_getElem? (i := 186) (by decide +kernel))) rfl, k_in (lw_T0 (List.mem_of_getElem? (i := 1) (by decide +kernel))) rfl, k_in (lw_T2 (List.mem_of_getElem? (i := 184) (by decide +kernel))) rfl, k_in (lw_T2 (List.mem_of_getElem? (i := 185) (by decide +kernel))) rfl, ⟨by decide +kernel, by decide +kernel, by decide +kernel⟩, by decide +kernel⟩
theorem pfX11_clear : plainFor MX11_clear.1 = true := by decide +kernel
theorem vvX11_clear : k_mv MX11_clear 0 := ⟨k_in (lw_T2 (List.mem_of_getElem? (i := 212) (by decide +kernel))) rfl, k_in (lw_T0 (List.mem_of_getElem? (i := 1) (by decide +kernel))) rfl, k_in (lw_T2 (List.mem_of_getElem? (i := 210) (by decide +kernel))) rfl, k_in (lw_T2 (List.mem_of_getElem? (i := 211) (by decide +kernel))) rfl, ⟨by decide +kernel, by decide +kernel, by decide +kernel⟩, by decide +kernel⟩
theorem pfX11_judge : plainFor MX11_judge.1 = true := by decide +kernel
theorem vvX11_judge : k_mv MX11_judge 0 := ⟨k_in (lw_T2 (List.mem_of_getElem? (i := 216) (by decide +kernel))) rfl, k_in (lw_T0 (List.mem_of_getElem? (i := 1) (by decide +kernel))) rfl, k_in (lw_T2 (List.mem_of_getElem? (i := 214) (by decide +kernel))) rfl, k_in (lw_T2 (List.mem_of_getElem? (i := 215) (by decide +kernel))) rfl, ⟨by decide +kernel, by decide +kernel, by decide +kernel⟩, by decide +kernel⟩
theorem pfX11_fits : plainFor MX11_fits.1 = true := by decide +kernel
theorem vvX11_fits : k_mv MX11_fits 1 := ⟨k_in (lw_T2 (List.mem_of_getElem? (i := 236) (by decide +kernel))) rfl, k_in (lw_T0 (List.mem_of_getElem? (i := 1) (by decide +kernel))) rfl, k_in (lw_T2 (List.mem_of_getElem? (i := 234) (by decide +kernel))) rfl, k_in (lw_T2 (List.mem_of_getElem? (i := 235) (by decide +kernel))) rfl, ⟨by decide +kernel, by decide +kernel, by decide +kernel⟩, by decide +kernel⟩
theorem pfX11_sure : plainFor MX11_sure.1 = true := by decide +kernel
theorem vvX11_sure : k_mv MX11_sure 1 := ⟨k_in (lw_T3 (List.mem_of_getElem? (i := 9) (by decide +kernel))) rfl, k_in (lw_T0 (List.mem_of_getElem? (i := 1) (by decide +kernel))) rfl, k_in (lw_T3 (List.mem_of_getElem? (i := 7) (by decide +kernel))) rfl, k_in (lw_T3 (List.mem_of_getElem? (i := 8) (by decide +kernel))) rfl, ⟨by decide +kernel, by decide +kernel, by decide +kernel⟩, by decide +kernel⟩
theorem pfX11_when : plainFor MX11_when.1 = true := by decide +kernel
theorem vvX11_when : k_mv MX11_when 1 := ⟨k_in (lw_T3 (List.mem_of_getElem? (i := 19) (by decide +kernel))) rfl, k_in (lw_T0 (List.mem_of_getElem? (i := 1) (by decide +kernel))) rfl, k_in (lw_T3 (List.mem_of_getElem? (i := 17) (by decide +kernel))) rfl, k_in (lw_T3 (List.mem_of_getElem? (i := 18) (by decide +kernel))) rfl, ⟨by decide +kernel, by decide +kernel, by decide +kernel⟩, by decide +kernel⟩
theorem pfX11_watch : plainFor MX11_watch.1 = true := by decide +kernel
theorem vvX11_watch : k_mv MX11_watch 1 := ⟨k_in (lw_T3 (List.mem_of_getElem? (i := 29) (by decide +kernel))) rfl, k_in (lw_T0 (List.mem_of_getElem? (i := 1) (by decide +kernel))) rfl, k_in (lw_T3 (List.mem_of_getElem? (i := 27) (by decide +kernel))) rfl, k_in (lw_T3 (List.mem_of_getElem? (i := 28) (by decide +kernel))) rfl, ⟨by decide +kernel, by decide +kernel, by decide +kernel⟩, by decide +kernel⟩
theorem pfX11_image : plainFor MX11_image.1 = true := by decide +kernel
theorem vvX11_image : k_mv MX11_image 0 := ⟨k_in (lw_T3 (List.mem_of_getElem? (i := 50) (by decide +kernel))) rfl, k_in (lw_T0 (List.mem_of_getElem? (i := 1) (by decide +kernel))) rfl, k_in (lw_T3 (List.mem_of_getElem? (i := 48) (by decide +kernel))) rfl, k_in (lw_T3 (List.mem_of_getElem? (i := 49) (by decide +kernel))) rfl, ⟨by decide +kernel, by decide +kernel, by decide +kernel⟩, by decide +kernel⟩
theorem pfX11_back : plainFor MX11_back.1 = true := by decide +kernel
theorem vvX11_back : k_mv MX11_back 0 := ⟨k_in (lw_T3 (List.mem_of_getElem? (i := 55) (by decide +kernel))) rfl, k_in (lw_T0 (List.mem_of_getElem? (i := 1) (by decide +kernel))) rfl, k_in (lw_T3 (List.mem_of_getElem? (i := 53) (by decide +kernel))) rfl, k_in (lw_T3 (List.mem_of_getElem? (i := 54) (by decide +kernel))) rfl, ⟨by decide +kernel, by decide +kernel, by decide +kernel⟩, by decide +kernel⟩
theorem pfX11_undo : plainFor MX11_undo.1 = true := by decide +kernel
theorem vvX11_undo : k_mv MX11_undo 0 := ⟨k_in (lw_T3 (List.mem_of_getElem? (i := 59) (by decide +kernel))) rfl, k_in (lw_T0 (List.mem_of_getElem? (i := 1) (by decide +kernel))) rfl, k_in (lw_T3 (List.mem_of_getElem? (i := 57) (by decide +kernel))) rfl, k_in (lw_T3 (List.mem_of_getElem? (i := 58) (by decide +kernel))) rfl, ⟨by decide +kernel, by decide +kernel, by decide +kernel⟩, by decide +kernel⟩
theorem pfX11_redo : plainFor MX11_redo.1 = true := by decide +kernel
theorem vvX11_redo : k_mv MX11_redo 0 := ⟨k_in (lw_T3 (List.mem_of_getElem? (i := 70) (by decide +kernel))) rfl, k_in (lw_T0 (List.mem_of_getElem? (i := 1) (by decide +kernel))) rfl, k_in (lw_T3 (List.mem_of_getElem? (i := 68) (by decide +kernel))) rfl, k_in (lw_T3 (List.mem_of_getElem? (i := 69) (by decide +kernel))) rfl, ⟨by decide +kernel, by decide +kernel, by decide +kernel⟩, by decide +kernel⟩
theorem pfX11_body : plainFor MX11_body.1 = true := by decide +kernel
theorem vvX11_body : k_mv MX11_body 1 := ⟨k_in (lw_T3 (List.mem_of_getElem? (i := 75) (by decide +kernel))) rfl, k_in (lw_T0 (List.mem_of_getElem? (i := 1) (by decide +kernel))) rfl, k_in (lw_T3 (List.mem_of_getElem? (i := 73) (by decide +kernel))) rfl, k_in (lw_T3 (List.mem_of_getElem? (i := 74) (by decide +kernel))) rfl, ⟨by decide +kernel, by decide +kernel, by decide +kernel⟩, by decide +kernel⟩
theorem pfX11_act : plainFor MX11_act.1 = true := by decide +kernel
theorem vvX11_act : k_mv MX11_act 3 := ⟨k_in (lw_T3 (List.mem_of_getElem? (i := 83) (by decide +kernel))) rfl, k_in (lw_T0 (List.mem_of_getElem? (i := 1) (by decide +kernel))) rfl, k_in (lw_T3 (List.mem_of_getElem? (i := 81) (by decide +kernel))) rfl, k_in (lw_T3 (List.mem_of_getElem? (i := 82) (by decide +kernel))) rfl, ⟨by decide +kernel, by decide +kernel, by decide +kernel⟩, by decide +kernel⟩
theorem pfX11_trace : plainFor MX11_trace.1 = true := by decide +kernel
theorem vvX11_trace : k_mv MX11_trace 1 := ⟨k_in (lw_T3 (List.mem_of_getElem? (i := 122) (by decide +kernel))) rfl, k_in (lw_T0 (List.mem_of_getElem? (i := 1) (by decide +kernel))) rfl, k_in (lw_T3 (List.mem_of_getElem? (i := 120) (by decide +kernel))) rfl, k_in (lw_T3 (List.mem_of_getElem? (i := 121) (by decide +kernel))) rfl, ⟨by decide +kernel, by decide +kernel, by decide +kernel⟩, by decide +kernel⟩
theorem pfX11_keep : plainFor MX11_keep.1 = true := by decide +kernel
theorem vvX11_keep : k_mv MX11_keep 2 := ⟨k_in (lw_T3 (List.mem_of_getElem? (i := 130) (by decide +kernel))) rfl, k_in (lw_T0 (List.mem_of_getElem? (i := 1) (by decide +kernel))) rfl, k_in (lw_T3 (List.mem_of_getElem? (i := 128) (by decide +kernel))) rfl, k_in (lw_T3 (List.mem_of_getElem? (i := 129) (by decide +kernel))) rfl, ⟨by decide +kernel, by decide +kernel, by decide +kernel⟩, by decide +kernel⟩
theorem pfX11_row : plainFor MX11_row.1 = true := by decide +kernel
theorem vvX11_row : k_mv MX11_row 3 := ⟨k_in (lw_T3 (List.mem_of_getElem? (i := 138) (by decide +kernel))) rfl, k_in (lw_T0 (List.mem_of_getElem? (i := 1) (by decide +kernel))) rfl, k_in (lw_T3 (List.mem_of_getElem? (i := 136) (by decide +kernel))) rfl, k_in (lw_T3 (List.mem_of_getElem? (i := 137) (by decide +kernel))) rfl, ⟨by decide +kernel, by decide +kernel, by decide +kernel⟩, by decide +kernel⟩
theorem pfX11_put : plainFor MX11_put.1 = true := by decide +kernel
theorem vvX11_put : k_mv MX11_put 3 := ⟨k_in (lw_T3 (List.mem_of_getElem? (i := 142) (by decide +kernel))) rfl, k_in (lw_T0 (List.mem_of_getElem? (i := 1) (by decide +kernel))) rfl, k_in (lw_T3 (List.mem_of_getElem? (i := 140) (by decide +kernel))) rfl, k_in (lw_T3 (List.mem_of_getElem? (i := 141) (by decide +kernel))) rfl, ⟨by decide +kernel, by decide +kernel, by decide +kernel⟩, by decide +kernel⟩
theorem pfX11_element : plainFor MX11_element.1 = true := by decide +kernel
theorem vvX11_element : k_mv MX11_element 2 := ⟨k_in (lw_T3 (List.mem_of_getElem? (i := 157) (by decide +kernel))) rfl, k_in (lw_T0 (List.mem_of_getElem? (i := 1) (by decide +kernel))) rfl, k_in (lw_T3 (List.mem_of_getElem? (i := 155) (by decide +kernel))) rfl, k_in (lw_T3 (List.mem_of_getElem? (i := 156) (by decide +kernel))) rfl, ⟨by decide +kernel, by decide +kernel, by decide +kernel⟩, by decide +kernel⟩
theorem pfX11_shift : plainFor MX11_shift.1 = true := by decide +kernel
theorem vvX11_shift : k_mv MX11_shift 5 := ⟨k_in (lw_T3 (List.mem_of_getElem? (i := 162) (by decide +kernel))) rfl, k_in (lw_T0 (List.mem_of_getElem? (i := 1) (by decide +kernel))) rfl, k_in (lw_T3 (List.mem_of_getElem? (i := 160) (by decide +kernel))) rfl, k_in (lw_T3 (List.mem_of_getElem? (i := 161) (by decide +kernel))) rfl, ⟨by decide +kernel, by decide +kernel, by decide +kernel⟩, by decide +kernel⟩
theorem pfX11_taken : plainFor MX11_taken.1 = true := by decide +kernel
theorem vvX11_taken : k_mv MX11_taken 2 := ⟨k_in (lw_T3 (List.mem_of_getElem? (i := 176) (by decide +kernel))) rfl, k_in (lw_T0 (List.mem_of_getElem? (i := 1) (by decide +kernel))) rfl, k_in (lw_T3 (List.mem_of_getElem? (i := 174) (by decide +kernel))) rfl, k_in (lw_T3 (List.mem_of_getElem? (i := 175) (by decide +kernel))) rfl, ⟨by decide +kernel, by decide +kernel, by decide +kernel⟩, by decide +kernel⟩
theorem pfX11_count : plainFor MX11_count.1 = true := by decide +kernel
theorem vvX11_count : k_mv MX11_count 1 := ⟨k_in (lw_T3 (List.mem_of_getElem? (i := 186) (by decide +kernel))) rfl, k_in (lw_T0 (List.mem_of_getElem? (i := 1) (by decide +kernel))) rfl, k_in (lw_T3 (List.mem_of_getElem? (i := 184) (by decide +kernel))) rfl, k_in (lw_T3 (List.mem_of_getElem? (i := 185) (by decide +kernel))) rfl, ⟨by decide +kernel, by decide +kernel, by decide +kernel⟩, by decide +kernel⟩
theorem pfX11_isSpot : plainFor MX11_isSpot.1 = true := by decide +kernel
theorem vvX11_isSpot : k_mv MX11_isSpot 1 := ⟨k_in (lw_T2 (List.mem_of_getElem? (i := 118) (by decide +kernel))) rfl, k_in (lw_T0 (List.mem_of_getElem? (i := 1) (by decide +kernel))) rfl, k_in (lw_T2 (List.mem_of_getElem? (i := 117) (by decide +kernel))) rfl, k_in (List.mem_append_left _ (List.mem_of_getElem? (i := 18) (by decide +kernel))) rfl, ⟨by decide +kernel, by decide +kernel, by decide +kernel⟩, by decide +kernel⟩
theorem pfX11_apply : plainFor MX11_apply.1 = true := by decide +kernel
theorem vvX11_apply : k_mv MX11_apply 2 := ⟨k_in (lw_T3 (List.mem_of_getElem? (i := 64) (by decide +kernel))) rfl, k_in (lw_T0 (List.mem_of_getElem? (i := 1) (by decide +kernel))) rfl, k_in (lw_T3 (List.mem_of_getElem? (i := 63) (by decide +kernel))) rfl, k_in (List.mem_append_left _ (List.mem_of_getElem? (i := 22) (by decide +kernel))) rfl, ⟨by decide +kernel, by decide +kernel, by decide +kernel⟩, by decide +kernel⟩
theorem pfX11_isRecord : plainFor MX11_isRecord.1 = true := by decide +kernel
theorem vvX11_isRecord : k_ms MX11_isRecord 2 := ⟨k_in (lw_T2 (List.mem_of_getElem? (i := 174) (by decide +kernel))) rfl, k_in (lw_T0 (List.mem_of_getElem? (i := 1) (by decide +kernel))) rfl, k_in (lw_T2 (List.mem_of_getElem? (i := 173) (by decide +kernel))) rfl, ⟨by decide +kernel, by decide +kernel, by decide +kernel⟩, by decide +kernel⟩
theorem pfX11_isTooth : plainFor MX11_isTooth.1 = true := by decide +kernel
theorem vvX11_isTooth : k_ms MX11_isTooth 1 := ⟨k_in (lw_T1 (List.mem_of_getElem? (i := 101) (by decide +kernel))) rfl, k_in (lw_T0 (List.mem_of_getElem? (i := 1) (by decide +kernel))) rfl, k_in (lw_T1 (List.mem_of_getElem? (i := 100) (by decide +kernel))) rfl, ⟨by decide +kernel, by decide +kernel, by decide +kernel⟩, by decide +kernel⟩
theorem pfX11_left : plainFor MX11_left.1 = true := by decide +kernel
theorem vvX11_left : k_ms MX11_left 2 := ⟨k_in (lw_T2 (List.mem_of_getElem? (i := 52) (by decide +kernel))) rfl, k_in (lw_T0 (List.mem_of_getElem? (i := 1) (by decide +kernel))) rfl, k_in (lw_T2 (List.mem_of_getElem? (i := 51) (by decide +kernel))) rfl, ⟨by decide +kernel, by decide +kernel, by decide +kernel⟩, by decide +kernel⟩
theorem pfX12_in : plainFor MX12_in.1 = true := by decide +kernel
theorem vvX12_in : k_ms MX12_in 3 := ⟨k_in (lw_T4 (List.mem_of_getElem? (i := 121) (by decide +kernel))) rfl, k_in (lw_T0 (List.mem_of_getElem? (i := 13) (by decide +kernel))) rfl, k_in (lw_T4 (List.mem_of_getElem? (i := 120) (by decide +kernel))) rfl, ⟨by decide +kernel, by decide +kernel, by decide +kernel⟩, by decide +kernel⟩
theorem pfX12_feed : plainFor MX12_feed.1 = true := by decide +kernel
theorem vvX12_feed : k_mv MX12_feed 1 := ⟨k_in (lw_T4 (List.mem_of_getElem? (i := 118) (by decide +kernel))) rfl, k_in (lw_T0 (List.mem_of_getElem? (i := 13) (by decide +kernel))) rfl, k_in (lw_T4 (List.mem_of_getElem? (i := 116) (by decide +kernel))) rfl, k_in (lw_T4 (List.mem_of_getElem? (i := 117) (by decide +kernel))) rfl, ⟨by decide +kernel, by decide +kernel, by decide +kernel⟩, by decide +kernel⟩
theorem pfX12_isWheel : plainFor MX12_isWheel.1 = true := by decide +kernel
theorem vvX12_isWheel : k_mv MX12_isWheel 1 := ⟨k_in (lw_T4 (List.mem_of_getElem? (i := 212) (by decide +kernel))) rfl, k_in (lw_T0 (List.mem_of_getElem? (i := 13) (by decide +kernel))) rfl, k_in (lw_T4 (List.mem_of_getElem? (i := 211) (by decide +kernel))) rfl, k_in (List.mem_append_left _ (List.mem_of_getElem? (i := 40) (by decide +kernel))) rfl, ⟨by decide +kernel, by decide +kernel, by decide +kernel⟩, by decide +kernel⟩
theorem pfX12_isTooth : plainFor MX12_isTooth.1 = true := by decide +kernel
theorem vvX12_isTooth : k_ms MX12_isTooth 1 := ⟨k_in (lw_T4 (List.mem_of_getElem? (i := 128) (by decide +kernel))) rfl, k_in (lw_T0 (List.mem_of_getElem? (i := 13) (by decide +kernel))) rfl, k_in (lw_T4 (List.mem_of_getElem? (i := 127) (by decide +kernel))) rfl, ⟨by decide +kernel, by decide +kernel, by decide +kernel⟩, by decide +kernel⟩
theorem pfX12_wheel : plainFor MX12_wheel.1 = true := by decide +kernel
theorem vvX12_wheel : k_mv MX12_wheel 0 := ⟨k_in (lw_T4 (List.mem_of_getElem? (i := 125) (by decide +kernel))) rfl, k_in (lw_T0 (List.mem_of_getElem? (i := 13) (by decide +kernel))) rfl, k_in (lw_T4 (List.mem_of_getElem? (i := 123) (by decide +kernel))) rfl, k_in (lw_T4 (List.mem_of_getElem? (i := 124) (by decide +kernel))) rfl, ⟨by decide +kernel, by decide +kernel, by decide +kernel⟩, by decide +kernel⟩
theorem pfX12_look : plainFor MX12_look.1 = true := by decide +kernel
theorem vvX12_look : k_mv MX12_look 0 := ⟨k_in (lw_T4 (List.mem_of_getElem? (i := 168) (by decide +kernel))) rfl, k_in (lw_T0 (List.mem_of_getElem? (i := 13) (by decide +kernel))) rfl, k_in (lw_T4 (List.mem_of_getElem? (i := 167) (by decide +kernel))) rfl, k_in (List.mem_append_left _ (List.mem_of_getElem? (i := 34) (by decide +kernel))) rfl, ⟨by decide +kernel, by decide +kernel, by decide +kernel⟩, by decide +kernel⟩
theorem pfX12_wrong : plainFor MX12_wrong.1 = true := by decide +kernel
theorem vvX12_wrong : k_mv MX12_wrong 0 := ⟨k_in (lw_T4 (List.mem_of_getElem? (i := 183) (by decide +kernel))) rfl, k_in (lw_T0 (List.mem_of_getElem? (i := 13) (by decide +kernel))) rfl, k_in (lw_T4 (List.mem_of_getElem? (i := 182) (by decide +kernel))) rfl, k_in (List.mem_append_left _ (List.mem_of_getElem? (i := 37) (by decide +kernel))) rfl, ⟨by decide +kernel, by decide +kernel, by decide +kernel⟩, by decide +kernel⟩
theorem pfX12_addStep : plainFor MX12_addStep.1 = true := by decide +kernel
theorem vvX12_addStep : k_mv MX12_addStep 2 := ⟨k_in (lw_T4 (List.mem_of_getElem? (i := 175) (by decide +kernel))) rfl, k_in (lw_T0 (List.mem_of_getElem? (i := 13) (by decide +kernel))) rfl, k_in (lw_T4 (List.mem_of_getElem? (i := 174) (by decide +kernel))) rfl, k_in (List.mem_append_left _ (List.mem_of_getElem? (i := 35) (by decide +kernel))) rfl, ⟨by decide +kernel, by decide +kernel, by decide +kernel⟩, by decide +kernel⟩
theorem pfX12_nameOf : plainFor MX12_nameOf.1 = true := by decide +kernel
theorem vvX12_nameOf : k_ms MX12_nameOf 1 := ⟨k_in (lw_T4 (List.mem_of_getElem? (i := 171) (by decide +kernel))) rfl, k_in (lw_T0 (List.mem_of_getElem? (i := 13) (by decide +kernel))) rfl, k_in (lw_T4 (List.mem_of_getElem? (i := 170) (by decide +kernel))) rfl, ⟨by decide +kernel, by decide +kernel, by decide +kernel⟩, by decide +kernel⟩
theorem pfX12_opens : plainFor MX12_opens.1 = true := by decide +kernel
theorem vvX12_opens : k_mv MX12_opens 0 := ⟨k_in (lw_T4 (List.mem_of_getElem? (i := 179) (by decide +kernel))) rfl, k_in (lw_T0 (List.mem_of_getElem? (i := 13) (by decide +kernel))) rfl, k_in (lw_T4 (List.mem_of_getElem? (i := 178) (by decide +kernel))) rfl, k_in (List.mem_append_left _ (List.mem_of_getElem? (i := 36) (by decide +kernel))) rfl, ⟨by decide +kernel, by decide +kernel, by decide +kernel⟩, by decide +kernel⟩
theorem pfX12_figure : plainFor MX12_figure.1 = true := by decide +kernel
theorem vvX12_figure : k_mv MX12_figure 0 := ⟨k_in (lw_T4 (List.mem_of_getElem? (i := 187) (by decide +kernel))) rfl, k_in (lw_T0 (List.mem_of_getElem? (i := 13) (by decide +kernel))) rfl, k_in (lw_T4 (List.mem_of_getElem? (i := 186) (by decide +kernel))) rfl, k_in (List.mem_append_left _ (List.mem_of_getElem? (i := 38) (by decide +kernel))) rfl, ⟨by decide +kernel, by decide +kernel, by decide +kernel⟩, by decide +kernel⟩
theorem pfX12_operand : plainFor MX12_operand.1 = true := by decide +kernel
theorem vvX12_operand : k_mv MX12_operand 0 := ⟨k_in (lw_T4 (List.mem_of_getElem? (i := 164) (by decide +kernel))) rfl, k_in (lw_T0 (List.mem_of_getElem? (i := 13) (by decide +kernel))) rfl, k_in (lw_T4 (List.mem_of_getElem? (i := 163) (by decide +kernel))) rfl, k_in (List.mem_append_left _ (List.mem_of_getElem? (i := 33) (by decide +kernel))) rfl, ⟨by decide +kernel, by decide +kernel, by decide +kernel⟩, by decide +kernel⟩
theorem pfX12_product : plainFor MX12_product.1 = true := by decide +kernel
theorem vvX12_product : k_mv MX12_product 0 := ⟨k_in (lw_T4 (List.mem_of_getElem? (i := 160) (by decide +kernel))) rfl, k_in (lw_T0 (List.mem_of_getElem? (i := 13) (by decide +kernel))) rfl, k_in (lw_T4 (List.mem_of_getElem? (i := 159) (by decide +kernel))) rfl, k_in (List.mem_append_left _ (List.mem_of_getElem? (i := 32) (by decide +kernel))) rfl, ⟨by decide +kernel, by decide +kernel, by decide +kernel⟩, by decide +kernel⟩
theorem pfX12_sum : plainFor MX12_sum.1 = true := by decide +kernel
theorem vvX12_sum : k_mv MX12_sum 0 := ⟨k_in (lw_T4 (List.mem_of_getElem? (i := 156) (by decide +kernel))) rfl, k_in (lw_T0 (List.mem_of_getElem? (i := 13) (by decide +kernel))) rfl, k_in (lw_T4 (List.mem_of_getElem? (i := 155) (by decide +kernel))) rfl, k_in (List.mem_append_left _ (List.mem_of_getElem? (i := 31) (by decide +kernel))) rfl, ⟨by decide +kernel, by decide +kernel, by decide +kernel⟩, by decide +kernel⟩
theorem pfX12_compared : plainFor MX12_compared.1 = true := by decide +kernel
theorem vvX12_compared : k_mv MX12_compared 0 := ⟨k_in (lw_T4 (List.mem_of_getElem? (i := 152) (by decide +kernel))) rfl, k_in (lw_T0 (List.mem_of_getElem? (i := 13) (by decide +kernel))) rfl, k_in (lw_T4 (List.mem_of_getElem? (i := 151) (by decide +kernel))) rfl, k_in (List.mem_append_left _ (List.mem_of_getElem? (i := 30) (by decide +kernel))) rfl, ⟨by decide +kernel, by decide +kernel, by decide +kernel⟩, by decide +kernel⟩
theorem pfX12_both : plainFor MX12_both.1 = true := by decide +kernel
theorem vvX12_both : k_mv MX12_both 0 := ⟨k_in (lw_T4 (List.mem_of_getElem? (i := 148) (by decide +kernel))) rfl, k_in (lw_T0 (List.mem_of_getElem? (i := 13) (by decide +kernel))) rfl, k_in (lw_T4 (List.mem_of_getElem? (i := 147) (by decide +kernel))) rfl, k_in (List.mem_append_left _ (List.mem_of_getElem? (i := 29) (by decide +kernel))) rfl, ⟨by decide +kernel, by decide +kernel, by decide +kernel⟩, by decide +kernel⟩
theorem pfX12_either : plainFor MX12_either.1 = true := by decide +kernel
theorem vvX12_either : k_mv MX12_either 0 := ⟨k_in (lw_T4 (List.mem_of_getElem? (i := 144) (by decide +kernel))) rfl, k_in (lw_T0 (List.mem_of_getElem? (i := 13) (by decide +kernel))) rfl, k_in (lw_T4 (List.mem_of_getElem? (i := 143) (by decide +kernel))) rfl, k_in (List.mem_append_left _ (List.mem_of_getElem? (i := 28) (by decide +kernel))) rfl, ⟨by decide +kernel, by decide +kernel, by decide +kernel⟩, by decide +kernel⟩
theorem pfX12_line : plainFor MX12_line.1 = true := by decide +kernel
theorem vvX12_line : k_mv MX12_line 0 := ⟨k_in (lw_T4 (List.mem_of_getElem? (i := 140) (by decide +kernel))) rfl, k_in (lw_T0 (List.mem_of_getElem? (i := 13) (by decide +kernel))) rfl, k_in (lw_T4 (List.mem_of_getElem? (i := 139) (by decide +kernel))) rfl, k_in (List.mem_append_left _ (List.mem_of_getElem? (i := 27) (by decide +kernel))) rfl, ⟨by decide +kernel, by decide +kernel, by decide +kernel⟩, by decide +kernel⟩
theorem pfX12_readText : plainFor MX12_readText.1 = true := by decide +kernel
theorem vvX12_readText : k_mv MX12_readText 1 := ⟨k_in (lw_T4 (List.mem_of_getElem? (i := 136) (by decide +kernel))) rfl, k_in (lw_T0 (List.mem_of_getElem? (i := 13) (by decide +kernel))) rfl, k_in (lw_T4 (List.mem_of_getElem? (i := 135) (by decide +kernel))) rfl, k_in (List.mem_append_left _ (List.mem_of_getElem? (i := 26) (by decide +kernel))) rfl, ⟨by decide +kernel, by decide +kernel, by decide +kernel⟩, by decide +kernel⟩
theorem pfX12_twoOf : plainFor MX12_twoOf.1 = true := by decide +kernel
theorem vvX12_twoOf : k_ms MX12_twoOf 3 := ⟨k_in (lw_T5 (List.mem_of_getElem? (i := 17) (by decide +kernel))) rfl, k_in (lw_T0 (List.mem_of_getElem? (i := 13) (by decide +kernel))) rfl, k_in (lw_T5 (List.mem_of_getElem? (i := 16) (by decide +kernel))) rfl, ⟨by decide +kernel, by decide +kernel, by decide +kernel⟩, by decide +kernel⟩
theorem pfX12_worked : plainFor MX12_worked.1 = true := by decide +kernel
theorem vvX12_worked : k_mv MX12_worked 3 := ⟨k_in (lw_T5 (List.mem_of_getElem? (i := 14) (by decide +kernel))) rfl, k_in (lw_T0 (List.mem_of_getElem? (i := 13) (by decide +kernel))) rfl, k_in (lw_T5 (List.mem_of_getElem? (i := 13) (by decide +kernel))) rfl, k_in (List.mem_append_left _ (List.mem_of_getElem? (i := 47) (by decide +kernel))) rfl, ⟨by decide +kernel, by decide +kernel, by decide +kernel⟩, by decide +kernel⟩
theorem pfX12_gives : plainFor MX12_gives.1 = true := by decide +kernel
theorem vvX12_gives : k_mv MX12_gives 1 := ⟨k_in (lw_T5 (List.mem_of_getElem? (i := 10) (by decide +kernel))) rfl, k_in (lw_T0 (List.mem_of_getElem? (i := 13) (by decide +kernel))) rfl, k_in (lw_T5 (List.mem_of_getElem? (i := 9) (by decide +kernel))) rfl, k_in (List.mem_append_left _ (List.mem_of_getElem? (i := 46) (by decide +kernel))) rfl, ⟨by decide +kernel, by decide +kernel, by decide +kernel⟩, by decide +kernel⟩
theorem pfX12_law : plainFor MX12_law.1 = true := by decide +kernel
theorem vvX12_law : k_mv MX12_law 0 := ⟨k_in (lw_T4 (List.mem_of_getElem? (i := 132) (by decide +kernel))) rfl, k_in (lw_T0 (List.mem_of_getElem? (i := 13) (by decide +kernel))) rfl, k_in (lw_T4 (List.mem_of_getElem? (i := 130) (by decide +kernel))) rfl, k_in (lw_T4 (List.mem_of_getElem? (i := 131) (by decide +kernel))) rfl, ⟨by decide +kernel, by decide +kernel, by decide +kernel⟩, by decide +kernel⟩
theorem pfX12_isCold : plainFor MX12_isCold.1 = true := by decide +kernel
theorem vvX12_isCold : k_mv MX12_isCold 1 := ⟨k_in (lw_T5 (List.mem_of_getElem? (i := 5) (by decide +kernel))) rfl, k_in (lw_T0 (List.mem_of_getElem? (i := 13) (by decide +kernel))) rfl, k_in (lw_T5 (List.mem_of_getElem? (i := 4) (by decide +kernel))) rfl, k_in (List.mem_append_left _ (List.mem_of_getElem? (i := 45) (by decide +kernel))) rfl, ⟨by decide +kernel, by decide +kernel, by decide +kernel⟩, by decide +kernel⟩
theorem pfX12_set : plainFor MX12_set.1 = true := by decide +kernel
theorem vvX12_set : k_mv MX12_set 2 := ⟨k_in (lw_T4 (List.mem_of_getElem? (i := 191) (by decide +kernel))) rfl, k_in (lw_T0 (List.mem_of_getElem? (i := 13) (by decide +kernel))) rfl, k_in (lw_T4 (List.mem_of_getElem? (i := 189) (by decide +kernel))) rfl, k_in (lw_T4 (List.mem_of_getElem? (i := 190) (by decide +kernel))) rfl, ⟨by decide +kernel, by decide +kernel, by decide +kernel⟩, by decide +kernel⟩
theorem pfX12_valueAt : plainFor MX12_valueAt.1 = true := by decide +kernel
theorem vvX12_valueAt : k_mv MX12_valueAt 2 := ⟨k_in (lw_T4 (List.mem_of_getElem? (i := 220) (by decide +kernel))) rfl, k_in (lw_T0 (List.mem_of_getElem? (i := 13) (by decide +kernel))) rfl, k_in (lw_T4 (List.mem_of_getElem? (i := 219) (by decide +kernel))) rfl, k_in (List.mem_append_left _ (List.mem_of_getElem? (i := 42) (by decide +kernel))) rfl, ⟨by decide +kernel, by decide +kernel, by decide +kernel⟩, by decide +kernel⟩
theorem pfX12_lays : plainFor MX12_lays.1 = true := by decide +kernel
theorem vvX12_lays : k_mv MX12_lays 3 := ⟨k_in (lw_T4 (List.mem_of_getElem? (i := 200) (by decide +kernel))) rfl, k_in (lw_T0 (List.mem_of_getElem? (i := 13) (by decide +kernel))) rfl, k_in (lw_T4 (List.mem_of_getElem? (i := 199) (by decide +kernel))) rfl, k_in (List.mem_append_left _ (List.mem_of_getElem? (i := 39) (by decide +kernel))) rfl, ⟨by decide +kernel, by decide +kernel, by decide +kernel⟩, by decide +kernel⟩
theorem pfX12_changes : plainFor MX12_changes.1 = true := by decide +kernel
theorem vvX12_changes : k_mv MX12_changes 3 := ⟨k_in (lw_T4 (List.mem_of_getElem? (i := 216) (by decide +kernel))) rfl, k_in (lw_T0 (List.mem_of_getElem? (i := 13) (by decide +kernel))) rfl, k_in (lw_T4 (List.mem_of_getElem? (i := 215) (by decide +kernel))) rfl, k_in (List.mem_append_left _ (List.mem_of_getElem? (i := 41) (by decide +kernel))) rfl, ⟨by decide +kernel, by decide +kernel, by decide +kernel⟩, by decide +kernel⟩
theorem pfX12_undo : plainFor MX12_undo.1 = true := by decide +kernel
theorem vvX12_undo : k_mv MX12_undo 0 := ⟨k_in (lw_T4 (List.mem_of_getElem? (i := 196) (by decide +kernel))) rfl, k_in (lw_T0 (List.mem_of_getElem? (i := 13) (by decide +kernel))) rfl, k_in (lw_T4 (List.mem_of_getElem? (i := 194) (by decide +kernel))) rfl, k_in (lw_T4 (List.mem_of_getElem? (i := 195) (by decide +kernel))) rfl, ⟨by decide +kernel, by decide +kernel, by decide +kernel⟩, by decide +kernel⟩
theorem pfX12_redo : plainFor MX12_redo.1 = true := by decide +kernel
theorem vvX12_redo : k_mv MX12_redo 0 := ⟨k_in (lw_T4 (List.mem_of_getElem? (i := 204) (by decide +kernel))) rfl, k_in (lw_T0 (List.mem_of_getElem? (i := 13) (by decide +kernel))) rfl, k_in (lw_T4 (List.mem_of_getElem? (i := 202) (by decide +kernel))) rfl, k_in (lw_T4 (List.mem_of_getElem? (i := 203) (by decide +kernel))) rfl, ⟨by decide +kernel, by decide +kernel, by decide +kernel⟩, by decide +kernel⟩
theorem pfX12_broke : plainFor MX12_broke.1 = true := by decide +kernel
theorem vvX12_broke : k_mv MX12_broke 2 := ⟨k_in (lw_T4 (List.mem_of_getElem? (i := 208) (by decide +kernel))) rfl, k_in (lw_T0 (List.mem_of_getElem? (i := 13) (by decide +kernel))) rfl, k_in (lw_T4 (List.mem_of_getElem? (i := 206) (by decide +kernel))) rfl, k_in (lw_T4 (List.mem_of_getElem? (i := 207) (by decide +kernel))) rfl, ⟨by decide +kernel, by decide +kernel, by decide +kernel⟩, by decide +kernel⟩
theorem pfX12_tooth : plainFor MX12_tooth.1 = true := by decide +kernel
theorem vvX12_tooth : k_mv MX12_tooth 3 := ⟨k_in (lw_T4 (List.mem_of_getElem? (i := 224) (by decide +kernel))) rfl, k_in (lw_T0 (List.mem_of_getElem? (i := 13) (by decide +kernel))) rfl, k_in (lw_T4 (List.mem_of_getElem? (i := 222) (by decide +kernel))) rfl, k_in (lw_T4 (List.mem_of_getElem? (i := 223) (by decide +kernel))) rfl, ⟨by decide +kernel, by decide +kernel, by decide +kernel⟩, by decide +kernel⟩
theorem pfX12_of : plainFor MX12_of.1 = true := by decide +kernel
theorem vvX12_of : k_mv MX12_of 2 := ⟨k_in (lw_T4 (List.mem_of_getElem? (i := 228) (by decide +kernel))) rfl, k_in (lw_T0 (List.mem_of_getElem? (i := 13) (by decide +kernel))) rfl, k_in (lw_T4 (List.mem_of_getElem? (i := 226) (by decide +kernel))) rfl, k_in (lw_T4 (List.mem_of_getElem? (i := 227) (by decide +kernel))) rfl, ⟨by decide +kernel, by decide +kernel, by decide +kernel⟩, by decide +kernel⟩
theorem pfX12_step : plainFor MX12_step.1 = true := by decide +kernel
theorem vvX12_step : k_mv MX12_step 1 := ⟨k_in (lw_T5 (List.mem_of_getElem? (i := 1) (by decide +kernel))) rfl, k_in (lw_T0 (List.mem_of_getElem? (i := 13) (by decide +kernel))) rfl, k_in (lw_T5 (List.mem_of_getElem? (i := 0) (by decide +kernel))) rfl, k_in (List.mem_append_left _ (List.mem_of_getElem? (i := 44) (by decide +kernel))) rfl, ⟨by decide +kernel, by decide +kernel, by decide +kernel⟩, by decide +kernel⟩
theorem pfX12_goOn : plainFor MX12_goOn.1 = true := by decide +kernel
theorem vvX12_goOn : k_mv MX12_goOn 0 := ⟨k_in (lw_T4 (List.mem_of_getElem? (i := 237) (by decide +kernel))) rfl, k_in (lw_T0 (List.mem_of_getElem? (i := 13) (by decide +kernel))) rfl, k_in (lw_T4 (List.mem_of_getElem? (i := 236) (by decide +kernel))) rfl, k_in (List.mem_append_left _ (List.mem_of_getElem? (i := 43) (by decide +kernel))) rfl, ⟨by decide +kernel, by decide +kernel, by decide +kernel⟩, by decide +kernel⟩
theorem pfX12_keepNow : plainFor MX12_keepNow.1 = true := by decide +kernel
theorem vvX12_keepNow : k_mv MX12_keepNow 0 := ⟨k_in (lw_T5 (List.mem_of_getElem? (i := 29) (by decide +kernel))) rfl, k_in (lw_T0 (List.mem_of_getElem? (i := 13) (by decide +kernel))) rfl, k_in (lw_T5 (List.mem_of_getElem? (i := 28) (by decide +kernel))) rfl, k_in (List.mem_append_left _ (List.mem_of_getElem? (i := 48) (by decide +kernel))) rfl, ⟨by decide +kernel, by decide +kernel, by decide +kernel⟩, by decide +kernel⟩
theorem pfX12_layBack : plainFor MX12_layBack.1 = true := by decide +kernel
theorem vvX12_layBack : k_mv MX12_layBack 0 := ⟨k_in (lw_T5 (List.mem_of_getElem? (i := 33) (by decide +kernel))) rfl, k_in (lw_T0 (List.mem_of_getElem? (i := 13) (by decide +kernel))) rfl, k_in (lw_T5 (List.mem_of_getElem? (i := 32) (by decide +kernel))) rfl, k_in (List.mem_append_left _ (List.mem_of_getElem? (i := 49) (by decide +kernel))) rfl, ⟨by decide +kernel, by decide +kernel, by decide +kernel⟩, by decide +kernel⟩
theorem pfX12_on : plainFor MX12_on.1 = true := by decide +kernel
theorem vvX12_on : k_mv MX12_on 1 := ⟨k_in (lw_T4 (List.mem_of_getElem? (i := 232) (by decide +kernel))) rfl, k_in (lw_T0 (List.mem_of_getElem? (i := 13) (by decide +kernel))) rfl, k_in (lw_T4 (List.mem_of_getElem? (i := 230) (by decide +kernel))) rfl, k_in (lw_T4 (List.mem_of_getElem? (i := 231) (by decide +kernel))) rfl, ⟨by decide +kernel, by decide +kernel, by decide +kernel⟩, by decide +kernel⟩
theorem pfX12_lay : plainFor MX12_lay.1 = true := by decide +kernel
theorem vvX12_lay : k_mv MX12_lay 2 := ⟨k_in (lw_T5 (List.mem_of_getElem? (i := 21) (by decide +kernel))) rfl, k_in (lw_T0 (List.mem_of_getElem? (i := 13) (by decide +kernel))) rfl, k_in (lw_T5 (List.mem_of_getElem? (i := 19) (by decide +kernel))) rfl, k_in (lw_T5 (List.mem_of_getElem? (i := 20) (by decide +kernel))) rfl, ⟨by decide +kernel, by decide +kernel, by decide +kernel⟩, by decide +kernel⟩
theorem pfX12_shows : plainFor MX12_shows.1 = true := by decide +kernel
theorem vvX12_shows : k_mv MX12_shows 2 := ⟨k_in (lw_T5 (List.mem_of_getElem? (i := 25) (by decide +kernel))) rfl, k_in (lw_T0 (List.mem_of_getElem? (i := 13) (by decide +kernel))) rfl, k_in (lw_T5 (List.mem_of_getElem? (i := 23) (by decide +kernel))) rfl, k_in (lw_T5 (List.mem_of_getElem? (i := 24) (by decide +kernel))) rfl, ⟨by decide +kernel, by decide +kernel, by decide +kernel⟩, by decide +kernel⟩
theorem pfX12_day : plainFor MX12_day.1 = true := by decide +kernel
theorem vvX12_day : k_mv MX12_day 0 := ⟨k_in (lw_T5 (List.mem_of_getElem? (i := 37) (by decide +kernel))) rfl, k_in (lw_T0 (List.mem_of_getElem? (i := 13) (by decide +kernel))) rfl, k_in (lw_T5 (List.mem_of_getElem? (i := 35) (by decide +kernel))) rfl, k_in (lw_T5 (List.mem_of_getElem? (i := 36) (by decide +kernel))) rfl, ⟨by decide +kernel, by decide +kernel, by decide +kernel⟩, by decide +kernel⟩
theorem pfX12_often : plainFor MX12_often.1 = true := by decide +kernel
theorem vvX12_often : k_mv MX12_often 2 := ⟨k_in (lw_T5 (List.mem_of_getElem? (i := 41) (by decide +kernel))) rfl, k_in (lw_T0 (List.mem_of_getElem? (i := 13) (by decide +kernel))) rfl, k_in (lw_T5 (List.mem_of_getElem? (i := 39) (by decide +kernel))) rfl, k_in (lw_T5 (List.mem_of_getElem? (i := 40) (by decide +kernel))) rfl, ⟨by decide +kernel, by decide +kernel, by decide +kernel⟩, by decide +kernel⟩
theorem pfX12_never : plainFor MX12_never.1 = true := by decide +kernel
theorem vvX12_never : k_mv MX12_never 2 := ⟨k_in (lw_T5 (List.mem_of_getElem? (i := 45) (by decide +kernel))) rfl, k_in (lw_T0 (List.mem_of_getElem? (i := 13) (by decide +kernel))) rfl, k_in (lw_T5 (List.mem_of_getElem? (i := 43) (by decide +kernel))) rfl, k_in (lw_T5 (List.mem_of_getElem? (i := 44) (by decide +kernel))) rfl, ⟨by decide +kernel, by decide +kernel, by decide +kernel⟩, by decide +kernel⟩
theorem pfX12_isSpot : plainFor MX12_isSpot.1 = true := by decide +kernel
theorem vvX12_isSpot : k_mv MX12_isSpot 1 := ⟨k_in (lw_T5 (List.mem_of_getElem? (i := 53) (by decide +kernel))) rfl, k_in (lw_T0 (List.mem_of_getElem? (i := 13) (by decide +kernel))) rfl, k_in (lw_T5 (List.mem_of_getElem? (i := 52) (by decide +kernel))) rfl, k_in (List.mem_append_left _ (List.mem_of_getElem? (i := 50) (by decide +kernel))) rfl, ⟨by decide +kernel, by decide +kernel, by decide +kernel⟩, by decide +kernel⟩
theorem pfX12_meets : plainFor MX12_meets.1 = true := by decide +kernel
theorem vvX12_meets : k_mv MX12_meets 3 := ⟨k_in (lw_T5 (List.mem_of_getElem? (i := 49) (by decide +kernel))) rfl, k_in (lw_T0 (List.mem_of_getElem? (i := 13) (by decide +kernel))) rfl, k_in (lw_T5 (List.mem_of_getElem? (i := 47) (by decide +kernel))) rfl, k_in (lw_T5 (List.mem_of_getElem? (i := 48) (by decide +kernel))) rfl, ⟨by decide +kernel, by decide +kernel, by decide +kernel⟩, by decide +kernel⟩
theorem pfX12_two : plainFor MX12_two.1 = true := by decide +kernel
theorem vvX12_two : k_mv MX12_two 3 := ⟨k_in (lw_T5 (List.mem_of_getElem? (i := 57) (by decide +kernel))) rfl, k_in (lw_T0 (List.mem_of_getElem? (i := 13) (by decide +kernel))) rfl, k_in (lw_T5 (List.mem_of_getElem? (i := 55) (by decide +kernel))) rfl, k_in (lw_T5 (List.mem_of_getElem? (i := 56) (by decide +kernel))) rfl, ⟨by decide +kernel, by decide +kernel, by decide +kernel⟩, by decide +kernel⟩
theorem pfX12_isAsWas : plainFor MX12_isAsWas.1 = true := by decide +kernel
theorem vvX12_isAsWas : k_mv MX12_isAsWas 0 := ⟨k_in (lw_T5 (List.mem_of_getElem? (i := 65) (by decide +kernel))) rfl, k_in (lw_T0 (List.mem_of_getElem? (i := 13) (by decide +kernel))) rfl, k_in (lw_T5 (List.mem_of_getElem? (i := 64) (by decide +kernel))) rfl, k_in (List.mem_append_left _ (List.mem_of_getElem? (i := 51) (by decide +kernel))) rfl, ⟨by decide +kernel, by decide +kernel, by decide +kernel⟩, by decide +kernel⟩
theorem pfX12_round : plainFor MX12_round.1 = true := by decide +kernel
theorem vvX12_round : k_mv MX12_round 1 := ⟨k_in (lw_T5 (List.mem_of_getElem? (i := 61) (by decide +kernel))) rfl, k_in (lw_T0 (List.mem_of_getElem? (i := 13) (by decide +kernel))) rfl, k_in (lw_T5 (List.mem_of_getElem? (i := 59) (by decide +kernel))) rfl, k_in (lw_T5 (List.mem_of_getElem? (i := 60) (by decide +kernel))) rfl, ⟨by decide +kernel, by decide +kernel, by decide +kernel⟩, by decide +kernel⟩
theorem pfX12_truth : plainFor MX12_truth.1 = true := by decide +kernel
theorem vvX12_truth : k_mv MX12_truth 1 := ⟨k_in (lw_T5 (List.mem_of_getElem? (i := 69) (by decide +kernel))) rfl, k_in (lw_T0 (List.mem_of_getElem? (i := 13) (by decide +kernel))) rfl, k_in (lw_T5 (List.mem_of_getElem? (i := 67) (by decide +kernel))) rfl, k_in (lw_T5 (List.mem_of_getElem? (i := 68) (by decide +kernel))) rfl, ⟨by decide +kernel, by decide +kernel, by decide +kernel⟩, by decide +kernel⟩
theorem pfX12_wrongIn : plainFor MX12_wrongIn.1 = true := by decide +kernel
theorem vvX12_wrongIn : k_mv MX12_wrongIn 1 := ⟨k_in (lw_T5 (List.mem_of_getElem? (i := 77) (by decide +kernel))) rfl, k_in (lw_T0 (List.mem_of_getElem? (i := 13) (by decide +kernel))) rfl, k_in (lw_T5 (List.mem_of_getElem? (i := 76) (by decide +kernel))) rfl, k_in (List.mem_append_left _ (List.mem_of_getElem? (i := 52) (by decide +kernel))) rfl, ⟨by decide +kernel, by decide +kernel, by decide +kernel⟩, by decide +kernel⟩
theorem pfX12_near : plainFor MX12_near.1 = true := by decide +kernel
theorem vvX12_near : k_mv MX12_near 2 := ⟨k_in (lw_T5 (List.mem_of_getElem? (i := 73) (by decide +kernel))) rfl, k_in (lw_T0 (List.mem_of_getElem? (i := 13) (by decide +kernel))) rfl, k_in (lw_T5 (List.mem_of_getElem? (i := 71) (by decide +kernel))) rfl, k_in (lw_T5 (List.mem_of_getElem? (i := 72) (by decide +kernel))) rfl, ⟨by decide +kernel, by decide +kernel, by decide +kernel⟩, by decide +kernel⟩
theorem pfX12_isRecord : plainFor MX12_isRecord.1 = true := by decide +kernel
theorem vvX12_isRecord : k_ms MX12_isRecord 2 := ⟨k_in (lw_T5 (List.mem_of_getElem? (i := 84) (by decide +kernel))) rfl, k_in (lw_T0 (List.mem_of_getElem? (i := 13) (by decide +kernel))) rfl, k_in (lw_T5 (List.mem_of_getElem? (i := 83) (by decide +kernel))) rfl, ⟨by decide +kernel, by decide +kernel, by decide +kernel⟩, by decide +kernel⟩
theorem pfX12_addRecord : plainFor MX12_addRecord.1 = true := by decide +kernel
theorem vvX12_addRecord : k_mv MX12_addRecord 2 := ⟨k_in (lw_T5 (List.mem_of_getElem? (i := 88) (by decide +kernel))) rfl, k_in (lw_T0 (List.mem_of_getElem? (i := 13) (by decide +kernel))) rfl, k_in (lw_T5 (List.mem_of_getElem? (i := 87) (by decide +kernel))) rfl, k_in (List.mem_append_left _ (List.mem_of_getElem? (i := 53) (by decide +kernel))) rfl, ⟨by decide +kernel, by decide +kernel, by decide +kernel⟩, by decide +kernel⟩
theorem pfX12_record : plainFor MX12_record.1 = true := by decide +kernel
theorem vvX12_record : k_mv MX12_record 2 := ⟨k_in (lw_T5 (List.mem_of_getElem? (i := 81) (by decide +kernel))) rfl, k_in (lw_T0 (List.mem_of_getElem? (i := 13) (by decide +kernel))) rfl, k_in (lw_T5 (List.mem_of_getElem? (i := 79) (by decide +kernel))) rfl, k_in (lw_T5 (List.mem_of_getElem? (i := 80) (by decide +kernel))) rfl, ⟨by decide +kernel, by decide +kernel, by decide +kernel⟩, by decide +kernel⟩
theorem pfX12_records : plainFor MX12_records.1 = true := by decide +kernel
theorem vvX12_records : k_mv MX12_records 3 := ⟨k_in (lw_T5 (List.mem_of_getElem? (i := 92) (by decide +kernel))) rfl, k_in (lw_T0 (List.mem_of_getElem? (i := 13) (by decide +kernel))) rfl, k_in (lw_T5 (List.mem_of_getElem? (i := 90) (by decide +kernel))) rfl, k_in (lw_T5 (List.mem_of_getElem? (i := 91) (by decide +kernel))) rfl, ⟨by decide +kernel, by decide +kernel, by decide +kernel⟩, by decide +kernel⟩
theorem pfX12_clear : plainFor MX12_clear.1 = true := by decide +kernel
theorem vvX12_clear : k_mv MX12_clear 0 := ⟨k_in (lw_T5 (List.mem_of_getElem? (i := 99) (by decide +kernel))) rfl, k_in (lw_T0 (List.mem_of_getElem? (i := 13) (by decide +kernel))) rfl, k_in (lw_T5 (List.mem_of_getElem? (i := 97) (by decide +kernel))) rfl, k_in (lw_T5 (List.mem_of_getElem? (i := 98) (by decide +kernel))) rfl, ⟨by decide +kernel, by decide +kernel, by decide +kernel⟩, by decide +kernel⟩
theorem pfX12_firstWrong : plainFor MX12_firstWrong.1 = true := by decide +kernel
theorem vvX12_firstWrong : k_mv MX12_firstWrong 0 := ⟨k_in (lw_T5 (List.mem_of_getElem? (i := 107) (by decide +kernel))) rfl, k_in (lw_T0 (List.mem_of_getElem? (i := 13) (by decide +kernel))) rfl, k_in (lw_T5 (List.mem_of_getElem? (i := 106) (by decide +kernel))) rfl, k_in (List.mem_append_left _ (List.mem_of_getElem? (i := 54) (by decide +kernel))) rfl, ⟨by decide +kernel, by decide +kernel, by decide +kernel⟩, by decide +kernel⟩
theorem pfX12_judge : plainFor MX12_judge.1 = true := by decide +kernel
theorem vvX12_judge : k_mv MX12_judge 0 := ⟨k_in (lw_T5 (List.mem_of_getElem? (i := 103) (by decide +kernel))) rfl, k_in (lw_T0 (List.mem_of_getElem? (i := 13) (by decide +kernel))) rfl, k_in (lw_T5 (List.mem_of_getElem? (i := 101) (by decide +kernel))) rfl, k_in (lw_T5 (List.mem_of_getElem? (i := 102) (by decide +kernel))) rfl, ⟨by decide +kernel, by decide +kernel, by decide +kernel⟩, by decide +kernel⟩
theorem pfX12_fitting : plainFor MX12_fitting.1 = true := by decide +kernel
theorem vvX12_fitting : k_mv MX12_fitting 1 := ⟨k_in (lw_T5 (List.mem_of_getElem? (i := 115) (by decide +kernel))) rfl, k_in (lw_T0 (List.mem_of_getElem? (i := 13) (by decide +kernel))) rfl, k_in (lw_T5 (List.mem_of_getElem? (i := 114) (by decide +kernel))) rfl, k_in (List.mem_append_left _ (List.mem_of_getElem? (i := 55) (by decide +kernel))) rfl, ⟨by decide +kernel, by decide +kernel, by decide +kernel⟩, by decide +kernel⟩
theorem pfX12_fits : plainFor MX12_fits.1 = true := by decide +kernel
theorem vvX12_fits : k_mv MX12_fits 1 := ⟨k_in (lw_T5 (List.mem_of_getElem? (i := 111) (by decide +kernel))) rfl, k_in (lw_T0 (List.mem_of_getElem? (i := 13) (by decide +kernel))) rfl, k_in (lw_T5 (List.mem_of_getElem? (i := 109) (by decide +kernel))) rfl, k_in (lw_T5 (List.mem_of_getElem? (i := 110) (by decide +kernel))) rfl, ⟨by decide +kernel, by decide +kernel, by decide +kernel⟩, by decide +kernel⟩
theorem pfX12_bitsOf : plainFor MX12_bitsOf.1 = true := by decide +kernel
theorem vvX12_bitsOf : k_ms MX12_bitsOf 1 := ⟨k_in (lw_T5 (List.mem_of_getElem? (i := 122) (by decide +kernel))) rfl, k_in (lw_T0 (List.mem_of_getElem? (i := 13) (by decide +kernel))) rfl, k_in (lw_T5 (List.mem_of_getElem? (i := 121) (by decide +kernel))) rfl, ⟨by decide +kernel, by decide +kernel, by decide +kernel⟩, by decide +kernel⟩
theorem pfX12_sure : plainFor MX12_sure.1 = true := by decide +kernel
theorem vvX12_sure : k_mv MX12_sure 1 := ⟨k_in (lw_T5 (List.mem_of_getElem? (i := 119) (by decide +kernel))) rfl, k_in (lw_T0 (List.mem_of_getElem? (i := 13) (by decide +kernel))) rfl, k_in (lw_T5 (List.mem_of_getElem? (i := 117) (by decide +kernel))) rfl, k_in (lw_T5 (List.mem_of_getElem? (i := 118) (by decide +kernel))) rfl, ⟨by decide +kernel, by decide +kernel, by decide +kernel⟩, by decide +kernel⟩
theorem pfX12_when : plainFor MX12_when.1 = true := by decide +kernel
theorem vvX12_when : k_mv MX12_when 1 := ⟨k_in (lw_T5 (List.mem_of_getElem? (i := 126) (by decide +kernel))) rfl, k_in (lw_T0 (List.mem_of_getElem? (i := 13) (by decide +kernel))) rfl, k_in (lw_T5 (List.mem_of_getElem? (i := 124) (by decide +kernel))) rfl, k_in (lw_T5 (List.mem_of_getElem? (i := 125) (by decide +kernel))) rfl, ⟨by decide +kernel, by decide +kernel, by decide +kernel⟩, by decide +kernel⟩
theorem pfX12_doesPart : plainFor MX12_doesPart.1 = true := by decide +kernel
theorem vvX12_doesPart : k_mv MX12_doesPart 2 := ⟨k_in (lw_T5 (List.mem_of_getElem? (i := 134) (by decide +kernel))) rfl, k_in (lw_T0 (List.mem_of_getElem? (i := 13) (by decide +kernel))) rfl, k_in (lw_T5 (List.mem_of_getElem? (i := 133) (by decide +kernel))) rfl, k_in (List.mem_append_left _ (List.mem_of_getElem? (i := 56) (by decide +kernel))) rfl, ⟨by decide +kernel, by decide +kernel, by decide +kernel⟩, by decide +kernel⟩
theorem pfX12_watch : plainFor MX12_watch.1 = true := by decide +kernel
theorem vvX12_watch : k_mv MX12_watch 1 := ⟨k_in (lw_T5 (List.mem_of_getElem? (i := 130) (by decide +kernel))) rfl, k_in (lw_T0 (List.mem_of_getElem? (i := 13) (by decide +kernel))) rfl, k_in (lw_T5 (List.mem_of_getElem? (i := 128) (by decide +kernel))) rfl, k_in (lw_T5 (List.mem_of_getElem? (i := 129) (by decide +kernel))) rfl, ⟨by decide +kernel, by decide +kernel, by decide +kernel⟩, by decide +kernel⟩
theorem pfX12_image : plainFor MX12_image.1 = true := by decide +kernel
theorem vvX12_image : k_mv MX12_image 0 := ⟨k_in (lw_T5 (List.mem_of_getElem? (i := 138) (by decide +kernel))) rfl, k_in (lw_T0 (List.mem_of_getElem? (i := 13) (by decide +kernel))) rfl, k_in (lw_T5 (List.mem_of_getElem? (i := 136) (by decide +kernel))) rfl, k_in (lw_T5 (List.mem_of_getElem? (i := 137) (by decide +kernel))) rfl, ⟨by decide +kernel, by decide +kernel, by decide +kernel⟩, by decide +kernel⟩
theorem pfX12_back : plainFor MX12_back.1 = true := by decide +kernel
theorem vvX12_back : k_mv MX12_back 0 := ⟨k_in (lw_T5 (List.mem_of_getElem? (i := 142) (by decide +kernel))) rfl, k_in (lw_T0 (List.mem_of_getElem? (i := 13) (by decide +kernel))) rfl, k_in (lw_T5 (List.mem_of_getElem? (i := 140) (by decide +kernel))) rfl, k_in (lw_T5 (List.mem_of_getElem? (i := 141) (by decide +kernel))) rfl, ⟨by decide +kernel, by decide +kernel, by decide +kernel⟩, by decide +kernel⟩
theorem pfX12_isBody : plainFor MX12_isBody.1 = true := by decide +kernel
theorem vvX12_isBody : k_mv MX12_isBody 1 := ⟨k_in (lw_T5 (List.mem_of_getElem? (i := 158) (by decide +kernel))) rfl, k_in (lw_T0 (List.mem_of_getElem? (i := 13) (by decide +kernel))) rfl, k_in (lw_T5 (List.mem_of_getElem? (i := 157) (by decide +kernel))) rfl, k_in (List.mem_append_left _ (List.mem_of_getElem? (i := 57) (by decide +kernel))) rfl, ⟨by decide +kernel, by decide +kernel, by decide +kernel⟩, by decide +kernel⟩
theorem pfX12_ran : plainFor MX12_ran.1 = true := by decide +kernel
theorem vvX12_ran : k_mv MX12_ran 1 := ⟨k_in (lw_T5 (List.mem_of_getElem? (i := 169) (by decide +kernel))) rfl, k_in (lw_T0 (List.mem_of_getElem? (i := 13) (by decide +kernel))) rfl, k_in (lw_T5 (List.mem_of_getElem? (i := 168) (by decide +kernel))) rfl, k_in (List.mem_append_left _ (List.mem_of_getElem? (i := 59) (by decide +kernel))) rfl, ⟨by decide +kernel, by decide +kernel, by decide +kernel⟩, by decide +kernel⟩
theorem pfX12_trace : plainFor MX12_trace.1 = true := by decide +kernel
theorem vvX12_trace : k_mv MX12_trace 1 := ⟨k_in (lw_T5 (List.mem_of_getElem? (i := 146) (by decide +kernel))) rfl, k_in (lw_T0 (List.mem_of_getElem? (i := 13) (by decide +kernel))) rfl, k_in (lw_T5 (List.mem_of_getElem? (i := 144) (by decide +kernel))) rfl, k_in (lw_T5 (List.mem_of_getElem? (i := 145) (by decide +kernel))) rfl, ⟨by decide +kernel, by decide +kernel, by decide +kernel⟩, by decide +kernel⟩
theorem pfX12_body : plainFor MX12_body.1 = true := by decide +kernel
theorem vvX12_body : k_mv MX12_body 1 := ⟨k_in (lw_T5 (List.mem_of_getElem? (i := 150) (by decide +kernel))) rfl, k_in (lw_T0 (List.mem_of_getElem? (i := 13) (by decide +kernel))) rfl, k_in (lw_T5 (List.mem_of_getElem? (i := 148) (by decide +kernel))) rfl, k_in (lw_T5 (List.mem_of_getElem? (i := 149) (by decide +kernel))) rfl, ⟨by decide +kernel, by decide +kernel, by decide +kernel⟩, by decide +kernel⟩
theorem pfX12_isUnder : plainFor MX12_isUnder.1 = true := by decide +kernel
theorem vvX12_isUnder : k_ms MX12_isUnder 2 := ⟨k_in (lw_T5 (List.mem_of_getElem? (i := 165) (by decide +kernel))) rfl, k_in (lw_T0 (List.mem_of_getElem? (i := 13) (by decide +kernel))) rfl, k_in (lw_T5 (List.mem_of_getElem? (i := 164) (by decide +kernel))) rfl, ⟨by decide +kernel, by decide +kernel, by decide +kernel⟩, by decide +kernel⟩
theorem pfX12_plainTurns : plainFor MX12_plainTurns.1 = true := by decide +kernel
theorem vvX12_plainTurns : k_mv MX12_plainTurns 2 := ⟨k_in (lw_T5 (List.mem_of_getElem? (i := 173) (by decide +kernel))) rfl, k_in (lw_T0 (List.mem_of_getElem? (i := 13) (by decide +kernel))) rfl, k_in (lw_T5 (List.mem_of_getElem? (i := 172) (by decide +kernel))) rfl, k_in (List.mem_append_left _ (List.mem_of_getElem? (i := 60) (by decide +kernel))) rfl, ⟨by decide +kernel, by decide +kernel, by decide +kernel⟩, by decide +kernel⟩
theorem pfX12_toldTurns : plainFor MX12_toldTurns.1 = true := by decide +kernel
theorem vvX12_toldTurns : k_mv MX12_toldTurns 2 := ⟨k_in (lw_T5 (List.mem_of_getElem? (i := 177) (by decide +kernel))) rfl, k_in (lw_T0 (List.mem_of_getElem? (i := 13) (by decide +kernel))) rfl, k_in (lw_T5 (List.mem_of_getElem? (i := 176) (by decide +kernel))) rfl, k_in (List.mem_append_left _ (List.mem_of_getElem? (i := 61) (by decide +kernel))) rfl, ⟨by decide +kernel, by decide +kernel, by decide +kernel⟩, by decide +kernel⟩
theorem pfX12_turning : plainFor MX12_turning.1 = true := by decide +kernel
theorem vvX12_turning : k_mv MX12_turning 2 := ⟨k_in (lw_T5 (List.mem_of_getElem? (i := 162) (by decide +kernel))) rfl, k_in (lw_T0 (List.mem_of_getElem? (i := 13) (by decide +kernel))) rfl, k_in (lw_T5 (List.mem_of_getElem? (i := 161) (by decide +kernel))) rfl, k_in (List.mem_append_left _ (List.mem_of_getElem? (i := 58) (by decide +kernel))) rfl, ⟨by decide +kernel, by decide +kernel, by decide +kernel⟩, by decide +kernel⟩
theorem pfX12_plainShows : plainFor MX12_plainShows.1 = true := by decide +kernel
theorem vvX12_plainShows : k_mv MX12_plainShows 2 := ⟨k_in (lw_T5 (List.mem_of_getElem? (i := 189) (by decide +kernel))) rfl, k_in (lw_T0 (List.mem_of_getElem? (i := 13) (by decide +kernel))) rfl, k_in (lw_T5 (List.mem_of_getElem? (i := 188) (by decide +kernel))) rfl, k_in (List.mem_append_left _ (List.mem_of_getElem? (i := 64) (by decide +kernel))) rfl, ⟨by decide +kernel, by decide +kernel, by decide +kernel⟩, by decide +kernel⟩
theorem pfX12_skipShows : plainFor MX12_skipShows.1 = true := by decide +kernel
theorem vvX12_skipShows : k_mv MX12_skipShows 2 := ⟨k_in (lw_T5 (List.mem_of_getElem? (i := 185) (by decide +kernel))) rfl, k_in (lw_T0 (List.mem_of_getElem? (i := 13) (by decide +kernel))) rfl, k_in (lw_T5 (List.mem_of_getElem? (i := 184) (by decide +kernel))) rfl, k_in (List.mem_append_left _ (List.mem_of_getElem? (i := 63) (by decide +kernel))) rfl, ⟨by decide +kernel, by decide +kernel, by decide +kernel⟩, by decide +kernel⟩
theorem pfX12_showing : plainFor MX12_showing.1 = true := by decide +kernel
theorem vvX12_showing : k_mv MX12_showing 2 := ⟨k_in (lw_T5 (List.mem_of_getElem? (i := 181) (by decide +kernel))) rfl, k_in (lw_T0 (List.mem_of_getElem? (i := 13) (by decide +kernel))) rfl, k_in (lw_T5 (List.mem_of_getElem? (i := 180) (by decide +kernel))) rfl, k_in (List.mem_append_left _ (List.mem_of_getElem? (i := 62) (by decide +kernel))) rfl, ⟨by decide +kernel, by decide +kernel, by decide +kernel⟩, by decide +kernel⟩
theorem pfX12_plainWaits : plainFor MX12_plainWaits.1 = true := by decide +kernel
theorem vvX12_plainWaits : k_mv MX12_plainWaits 2 := ⟨k_in (lw_T5 (List.mem_of_getElem? (i := 197) (by decide +kernel))) rfl, k_in (lw_T0 (List.mem_of_getElem? (i := 13) (by decide +kernel))) rfl, k_in (lw_T5 (List.mem_of_getElem? (i := 196) (by decide +kernel))) rfl, k_in (List.mem_append_left _ (List.mem_of_getElem? (i := 66) (by decide +kernel))) rfl, ⟨by decide +kernel, by decide +kernel, by decide +kernel⟩, by decide +kernel⟩
theorem pfX12_waiting : plainFor MX12_waiting.1 = true := by decide +kernel
theorem vvX12_waiting : k_mv MX12_waiting 2 := ⟨k_in (lw_T5 (List.mem_of_getElem? (i := 193) (by decide +kernel))) rfl, k_in (lw_T0 (List.mem_of_getElem? (i := 13) (by decide +kernel))) rfl, k_in (lw_T5 (List.mem_of_getElem? (i := 192) (by decide +kernel))) rfl, k_in (List.mem_append_left _ (List.mem_of_getElem? (i := 65) (by decide +kernel))) rfl, ⟨by decide +kernel, by decide +kernel, by decide +kernel⟩, by decide +kernel⟩
theorem pfX12_plainTells : plainFor MX12_plainTells.1 = true := by decide +kernel
theorem vvX12_plainTells : k_mv MX12_plainTells 2 := ⟨k_in (lw_T5 (List.mem_of_getElem? (i := 209) (by decide +kernel))) rfl, k_in (lw_T0 (List.mem_of_getElem? (i := 13) (by decide +kernel))) rfl, k_in (lw_T5 (List.mem_of_getElem? (i := 208) (by decide +kernel))) rfl, k_in (List.mem_append_left _ (List.mem_of_getElem? (i := 69) (by decide +kernel))) rfl, ⟨by decide +kernel, by decide +kernel, by decide +kernel⟩, by decide +kernel⟩
theorem pfX12_frostTells : plainFor MX12_frostTells.1 = true := by decide +kernel
theorem vvX12_frostTells : k_mv MX12_frostTells 2 := ⟨k_in (lw_T5 (List.mem_of_getElem? (i := 205) (by decide +kernel))) rfl, k_in (lw_T0 (List.mem_of_getElem? (i := 13) (by decide +kernel))) rfl, k_in (lw_T5 (List.mem_of_getElem? (i := 204) (by decide +kernel))) rfl, k_in (List.mem_append_left _ (List.mem_of_getElem? (i := 68) (by decide +kernel))) rfl, ⟨by decide +kernel, by decide +kernel, by decide +kernel⟩, by decide +kernel⟩
theorem pfX12_telling : plainFor MX12_telling.1 = true := by decide +kernel
theorem vvX12_telling : k_mv MX12_telling 2 := ⟨k_in (lw_T5 (List.mem_of_getElem? (i := 201) (by decide +kernel))) rfl, k_in (lw_T0 (List.mem_of_getElem? (i := 13) (by decide +kernel))) rfl, k_in (lw_T5 (List.mem_of_getElem? (i := 200) (by decide +kernel))) rfl, k_in (List.mem_append_left _ (List.mem_of_getElem? (i := 67) (by decide +kernel))) rfl, ⟨by decide +kernel, by decide +kernel, by decide +kernel⟩, by decide +kernel⟩
theorem pfX12_act : plainFor MX12_act.1 = true := by decide +kernel
theorem vvX12_act : k_mv MX12_act 3 := ⟨k_in (lw_T5 (List.mem_of_getElem? (i := 154) (by decide +kernel))) rfl, k_in (lw_T0 (List.mem_of_getElem? (i := 13) (by decide +kernel))) rfl, k_in (lw_T5 (List.mem_of_getElem? (i := 152) (by decide +kernel))) rfl, k_in (lw_T5 (List.mem_of_getElem? (i := 153) (by decide +kernel))) rfl, ⟨by decide +kernel, by decide +kernel, by decide +kernel⟩, by decide +kernel⟩
theorem pfX12_count : plainFor MX12_count.1 = true := by decide +kernel
theorem vvX12_count : k_mv MX12_count 1 := ⟨k_in (lw_T5 (List.mem_of_getElem? (i := 213) (by decide +kernel))) rfl, k_in (lw_T0 (List.mem_of_getElem? (i := 13) (by decide +kernel))) rfl, k_in (lw_T5 (List.mem_of_getElem? (i := 211) (by decide +kernel))) rfl, k_in (lw_T5 (List.mem_of_getElem? (i := 212) (by decide +kernel))) rfl, ⟨by decide +kernel, by decide +kernel, by decide +kernel⟩, by decide +kernel⟩
theorem pfX12_isShelf : plainFor MX12_isShelf.1 = true := by decide +kernel
theorem vvX12_isShelf : k_ms MX12_isShelf 1 := ⟨k_in (lw_T5 (List.mem_of_getElem? (i := 95) (by decide +kernel))) rfl, k_in (lw_T0 (List.mem_of_getElem? (i := 13) (by decide +kernel))) rfl, k_in (lw_T5 (List.mem_of_getElem? (i := 94) (by decide +kernel))) rfl, ⟨by decide +kernel, by decide +kernel, by decide +kernel⟩, by decide +kernel⟩
theorem pfX12_keep : plainFor MX12_keep.1 = true := by decide +kernel
theorem vvX12_keep : k_mv MX12_keep 2 := ⟨k_in (lw_T5 (List.mem_of_getElem? (i := 217) (by decide +kernel))) rfl, k_in (lw_T0 (List.mem_of_getElem? (i := 13) (by decide +kernel))) rfl, k_in (lw_T5 (List.mem_of_getElem? (i := 215) (by decide +kernel))) rfl, k_in (lw_T5 (List.mem_of_getElem? (i := 216) (by decide +kernel))) rfl, ⟨by decide +kernel, by decide +kernel, by decide +kernel⟩, by decide +kernel⟩
theorem pfX12_row : plainFor MX12_row.1 = true := by decide +kernel
theorem vvX12_row : k_mv MX12_row 3 := ⟨k_in (lw_T5 (List.mem_of_getElem? (i := 221) (by decide +kernel))) rfl, k_in (lw_T0 (List.mem_of_getElem? (i := 13) (by decide +kernel))) rfl, k_in (lw_T5 (List.mem_of_getElem? (i := 219) (by decide +kernel))) rfl, k_in (lw_T5 (List.mem_of_getElem? (i := 220) (by decide +kernel))) rfl, ⟨by decide +kernel, by decide +kernel, by decide +kernel⟩, by decide +kernel⟩
theorem pfX12_whyNoPlace : plainFor MX12_whyNoPlace.1 = true := by decide +kernel
theorem vvX12_whyNoPlace : k_mv MX12_whyNoPlace 2 := ⟨k_in (lw_T5 (List.mem_of_getElem? (i := 229) (by decide +kernel))) rfl, k_in (lw_T0 (List.mem_of_getElem? (i := 13) (by decide +kernel))) rfl, k_in (lw_T5 (List.mem_of_getElem? (i := 228) (by decide +kernel))) rfl, k_in (List.mem_append_left _ (List.mem_of_getElem? (i := 70) (by decide +kernel))) rfl, ⟨by decide +kernel, by decide +kernel, by decide +kernel⟩, by decide +kernel⟩
theorem pfX12_put : plainFor MX12_put.1 = true := by decide +kernel
theorem vvX12_put : k_mv MX12_put 3 := ⟨k_in (lw_T5 (List.mem_of_getElem? (i := 225) (by decide +kernel))) rfl, k_in (lw_T0 (List.mem_of_getElem? (i := 13) (by decide +kernel))) rfl, k_in (lw_T5 (List.mem_of_getElem? (i := 223) (by decide +kernel))) rfl, k_in (lw_T5 (List.mem_of_getElem? (i := 224) (by decide +kernel))) rfl, ⟨by decide +kernel, by decide +kernel, by decide +kernel⟩, by decide +kernel⟩
theorem pfX12_element : plainFor MX12_element.1 = true := by decide +kernel
theorem vvX12_element : k_mv MX12_element 2 := ⟨k_in (lw_T5 (List.mem_of_getElem? (i := 233) (by decide +kernel))) rfl, k_in (lw_T0 (List.mem_of_getElem? (i := 13) (by decide +kernel))) rfl, k_in (lw_T5 (List.mem_of_getElem? (i := 231) (by decide +kernel))) rfl, k_in (lw_T5 (List.mem_of_getElem? (i := 232) (by decide +kernel))) rfl, ⟨by decide +kernel, by decide +kernel, by decide +kernel⟩, by decide +kernel⟩
theorem pfX12_shift : plainFor MX12_shift.1 = true := by decide +kernel
theorem vvX12_shift : k_mv MX12_shift 5 := ⟨k_in (lw_T5 (List.mem_of_getElem? (i := 238) (by decide +kernel))) rfl, k_in (lw_T0 (List.mem_of_getElem? (i := 13) (by decide +kernel))) rfl, k_in (lw_T5 (List.mem_of_getElem? (i := 236) (by decide +kernel))) rfl, k_in (lw_T5 (List.mem_of_getElem? (i := 237) (by decide +kernel))) rfl, ⟨by decide +kernel, by decide +kernel, by decide +kernel⟩, by decide +kernel⟩
theorem pfX12_taken : plainFor MX12_taken.1 = true := by decide +kernel
theorem vvX12_taken : k_mv MX12_taken 2 := ⟨k_in (lw_T6 (List.mem_of_getElem? (i := 2) (by decide +kernel))) rfl, k_in (lw_T0 (List.mem_of_getElem? (i := 13) (by decide +kernel))) rfl, k_in (lw_T6 (List.mem_of_getElem? (i := 0) (by decide +kernel))) rfl, k_in (lw_T6 (List.mem_of_getElem? (i := 1) (by decide +kernel))) rfl, ⟨by decide +kernel, by decide +kernel, by decide +kernel⟩, by decide +kernel⟩
theorem pfJ6_bitCount_0f7a4 : plainFor MJ6_bitCount_0f7a4.1 = true := by decide +kernel
theorem vvJ6_bitCount_0f7a4 : k_ms MJ6_bitCount_0f7a4 1 := ⟨k_in (lw_T3 (List.mem_of_getElem? (i := 12) (by decide +kernel))) rfl, k_in (lw_T0 (List.mem_of_getElem? (i := 15) (by decide +kernel))) rfl, k_in (lw_T3 (List.mem_of_getElem? (i := 11) (by decide +kernel))) rfl, ⟨by decide +kernel, by decide +kernel, by decide +kernel⟩, by decide +kernel⟩
theorem pfJ9_max_7cf53 : plainFor MJ9_max_7cf53.1 = true := by decide +kernel
theorem vvJ9_max_7cf53 : k_ms MJ9_max_7cf53 2 := ⟨k_in (lw_T2 (List.mem_of_getElem? (i := 40) (by decide +kernel))) rfl, k_in (lw_T0 (List.mem_of_getElem? (i := 14) (by decide +kernel))) rfl, k_in (lw_T2 (List.mem_of_getElem? (i := 39) (by decide +kernel))) rfl, ⟨by decide +kernel, by decide +kernel, by decide +kernel⟩, by decide +kernel⟩
theorem k_ib_m124 : (Int8.ofInt (-124)).toInt32 = (-124) := by decide +kernel
theorem k_ib_m100 : (Int8.ofInt (-100)).toInt32 = (-100) := by decide +kernel
theorem k_ib_m59 : (Int8.ofInt (-59)).toInt32 = (-59) := by decide +kernel
theorem k_ib_m38 : (Int8.ofInt (-38)).toInt32 = (-38) := by decide +kernel
theorem k_ib_m14 : (Int8.ofInt (-14)).toInt32 = (-14) := by decide +kernel
theorem k_ib_m13 : (Int8.ofInt (-13)).toInt32 = (-13) := by decide +kernel
theorem k_ib_m12 : (Int8.ofInt (-12)).toInt32 = (-12) := by decide +kernel
theorem k_ib_m11 : (Int8.ofInt (-11)).toInt32 = (-11) := by decide +kernel
theorem k_ib_m5 : (Int8.ofInt (-5)).toInt32 = (-5) := by decide +kernel
theorem k_ib_m3 : (Int8.ofInt (-3)).toInt32 = (-3) := by decide +kernel
theorem k_ib_m2 : (Int8.ofInt (-2)).toInt32 = (-2) := by decide +kernel
theorem k_ib_6 : (Int8.ofInt 6).toInt32 = 6 := by decide +kernel
theorem k_ib_7 : (Int8.ofInt 7).toInt32 = 7 := by decide +kernel
theorem k_ib_8 : (Int8.ofInt 8).toInt32 = 8 := by decide +kernel
theorem k_ib_9 : (Int8.ofInt 9).toInt32 = 9 := by decide +kernel
theorem k_ib_10 : (Int8.ofInt 10).toInt32 = 10 := by decide +kernel
theorem k_ib_11 : (Int8.ofInt 11).toInt32 = 11 := by decide +kernel
theorem k_ib_16 : (Int8.ofInt 16).toInt32 = 16 := by decide +kernel
theorem k_ib_20 : (Int8.ofInt 20).toInt32 = 20 := by decide +kernel
theorem k_ib_24 : (Int8.ofInt 24).toInt32 = 24 := by decide +kernel
theorem k_ib_30 : (Int8.ofInt 30).toInt32 = 30 := by decide +kernel
theorem k_ib_32 : (Int8.ofInt 32).toInt32 = 32 := by decide +kernel
theorem k_ib_33 : (Int8.ofInt 33).toInt32 = 33 := by decide +kernel
theorem k_ib_37 : (Int8.ofInt 37).toInt32 = 37 := by decide +kernel
theorem k_ib_38 : (Int8.ofInt 38).toInt32 = 38 := by decide +kernel
theorem k_ib_39 : (Int8.ofInt 39).toInt32 = 39 := by decide +kernel
theorem k_ib_40 : (Int8.ofInt 40).toInt32 = 40 := by decide +kernel
theorem k_ib_41 : (Int8.ofInt 41).toInt32 = 41 := by decide +kernel
theorem k_ib_42 : (Int8.ofInt 42).toInt32 = 42 := by decide +kernel
theorem k_ib_43 : (Int8.ofInt 43).toInt32 = 43 := by decide +kernel
theorem k_ib_45 : (Int8.ofInt 45).toInt32 = 45 := by decide +kernel
theorem k_ib_47 : (Int8.ofInt 47).toInt32 = 47 := by decide +kernel
theorem k_ib_48 : (Int8.ofInt 48).toInt32 = 48 := by decide +kernel
theorem k_ib_49 : (Int8.ofInt 49).toInt32 = 49 := by decide +kernel
theorem k_ib_50 : (Int8.ofInt 50).toInt32 = 50 := by decide +kernel
theorem k_ib_57 : (Int8.ofInt 57).toInt32 = 57 := by decide +kernel
theorem k_ib_59 : (Int8.ofInt 59).toInt32 = 59 := by decide +kernel
theorem k_ib_60 : (Int8.ofInt 60).toInt32 = 60 := by decide +kernel
theorem k_ib_61 : (Int8.ofInt 61).toInt32 = 61 := by decide +kernel
theorem k_ib_62 : (Int8.ofInt 62).toInt32 = 62 := by decide +kernel
theorem k_ib_63 : (Int8.ofInt 63).toInt32 = 63 := by decide +kernel
theorem k_ib_70 : (Int8.ofInt 70).toInt32 = 70 := by decide +kernel
theorem k_ib_80 : (Int8.ofInt 80).toInt32 = 80 := by decide +kernel
theorem k_ib_81 : (Int8.ofInt 81).toInt32 = 81 := by decide +kernel
theorem k_ib_98 : (Int8.ofInt 98).toInt32 = 98 := by decide +kernel
theorem k_ib_99 : (Int8.ofInt 99).toInt32 = 99 := by decide +kernel
theorem k_ib_100 : (Int8.ofInt 100).toInt32 = 100 := by decide +kernel
theorem k_ib_102 : (Int8.ofInt 102).toInt32 = 102 := by decide +kernel
theorem k_ib_107 : (Int8.ofInt 107).toInt32 = 107 := by decide +kernel
theorem k_ib_112 : (Int8.ofInt 112).toInt32 = 112 := by decide +kernel
theorem k_ib_115 : (Int8.ofInt 115).toInt32 = 115 := by decide +kernel
theorem k_ib_116 : (Int8.ofInt 116).toInt32 = 116 := by decide +kernel
theorem k_ib_119 : (Int8.ofInt 119).toInt32 = 119 := by decide +kernel
theorem k_ib_120 : (Int8.ofInt 120).toInt32 = 120 := by decide +kernel
theorem k_ib_122 : (Int8.ofInt 122).toInt32 = 122 := by decide +kernel
theorem k_ib_124 : (Int8.ofInt 124).toInt32 = 124 := by decide +kernel
theorem k_ic_m1 : Int32.ofInt (-1) = (-1) := by decide +kernel
theorem k_ic_0 : Int32.ofInt 0 = 0 := by decide +kernel
theorem k_ic_1 : Int32.ofInt 1 = 1 := by decide +kernel
theorem k_ic_2 : Int32.ofInt 2 = 2 := by decide +kernel
theorem k_ic_3 : Int32.ofInt 3 = 3 := by decide +kernel
theorem k_ic_4 : Int32.ofInt 4 = 4 := by decide +kernel
theorem k_ic_5 : Int32.ofInt 5 = 5 := by decide +kernel
theorem k_is_130 : (Int16.ofInt 130).toInt32 = 130 := by decide +kernel
theorem k_is_255 : (Int16.ofInt 255).toInt32 = 255 := by decide +kernel
theorem k_is_400 : (Int16.ofInt 400).toInt32 = 400 := by decide +kernel
theorem k_is_1000 : (Int16.ofInt 1000).toInt32 = 1000 := by decide +kernel
theorem k_is_1024 : (Int16.ofInt 1024).toInt32 = 1024 := by decide +kernel
theorem k_is_2000 : (Int16.ofInt 2000).toInt32 = 2000 := by decide +kernel
theorem k_is_5000 : (Int16.ofInt 5000).toInt32 = 5000 := by decide +kernel
theorem k_is_9999 : (Int16.ofInt 9999).toInt32 = 9999 := by decide +kernel
theorem k_is_10000 : (Int16.ofInt 10000).toInt32 = 10000 := by decide +kernel
theorem k_is_20000 : (Int16.ofInt 20000).toInt32 = 20000 := by decide +kernel
theorem k_lc_0 : Int64.ofNat ((0 : Fin 2) : Nat) = 0 := by decide +kernel
theorem k_lc_1 : Int64.ofNat ((1 : Fin 2) : Nat) = 1 := by decide +kernel
theorem k_ln_3 : Int32.ofNat 3 = 3 := by decide +kernel
theorem k_ln_4 : Int32.ofNat 4 = 4 := by decide +kernel
theorem k_ln_6 : Int32.ofNat 6 = 6 := by decide +kernel
theorem k_ln_8 : Int32.ofNat 8 = 8 := by decide +kernel
theorem k_ln_16 : Int32.ofNat 16 = 16 := by decide +kernel
theorem k_ln_24 : Int32.ofNat 24 = 24 := by decide +kernel
theorem k_ln_32 : Int32.ofNat 32 = 32 := by decide +kernel
theorem k_ln_40 : Int32.ofNat 40 = 40 := by decide +kernel
theorem k_ln_50 : Int32.ofNat 50 = 50 := by decide +kernel
theorem k_ln_120 : Int32.ofNat 120 = 120 := by decide +kernel
theorem k_ln_128 : Int32.ofNat 128 = 128 := by decide +kernel
theorem k_ln_160 : Int32.ofNat 160 = 160 := by decide +kernel
theorem k_ln_360 : Int32.ofNat 360 = 360 := by decide +kernel
theorem k_nz_4 : ¬ (4 : Int32) = 0 := by decide +kernel
theorem k_nz_10 : ¬ (10 : Int32) = 0 := by decide +kernel
theorem k_nz_100 : ¬ (100 : Int32) = 0 := by decide +kernel
end
section
def f_Tape_append  (p1 : Int32) (u : k_S) : Option (Unit × k_S) :=
  if (u.1 101) < 0 then some ((), u) else if (u.1 101) < 120 then k_ck (u.1 101) 120 (k_let (k_wA u 2 (u.1 101).toNatClampNeg (p1)) (fun u1 => k_let (k_wF u1 101 ((u1.1 101) + 1)) (fun u2 => some ((), u2)))) else some ((), u)
def f_W_feed  (p1 : Int32) (u : k_S) : Option (Int32 × k_S) :=
  if p1 < 0 then some ((-1), u) else if p1 ≤ 255 then if (u.1 101) < 120 then k_bind (f_Tape_append p1 u) (fun _ u1 => some (u1.1 101, u1)) else some ((-3), u) else some ((-1), u)
def f_R_in  (p0 : Int32) (p1 : Int32) (p2 : Int32) (u : k_S) : Option (Int32 × k_S) :=
  if p0 < p1 then some (0, u) else if p2 < p0 then some (0, u) else some (1, u)
def f_R_feed  (p1 : Int32) (u : k_S) : Option (Int32 × k_S) :=
  k_bind (f_R_in p1 0 255 u) (fun r2 u1 => if r2 = 0 then some ((-1), u1) else if (u1.1 4202) = 120 then some ((-3), u1) else k_ck (u1.1 4202) 120 (k_let (k_wA u1 43 (u1.1 4202).toNatClampNeg (((p1).toInt8.toInt32).toInt8.toInt32)) (fun u3 => k_let (k_wF u3 4202 ((u3.1 4202) + 1)) (fun u4 => some (u4.1 4202, u4)))))
def f_Tape_at  (p1 : Int32) (u : k_S) : Option (Int32 × k_S) :=
  if p1 < 0 then some ((-1), u) else if (u.1 101) ≤ p1 then some ((-1), u) else if 120 ≤ p1 then some ((-1), u) else k_ck (p1) 120 (some (u.2.1 2 (p1).toNatClampNeg, u))
def f_W_isTooth  (p0 : Int32) (u : k_S) : Option (Int32 × k_S) :=
  if p0 = 119 then some (1, u) else if p0 = 115 then some (1, u) else if p0 = 102 then some (1, u) else if p0 = 98 then some (1, u) else if p0 < 49 then some (0, u) else if 57 < p0 then some (0, u) else some (1, u)
def f_Wheels_faultOf_Tape_B2  (v2 : Int32) (u : k_S) : Option (((Int32) ⊕ (Int32 ⊕ Unit)) × k_S) :=
  if (u.1 101) ≤ v2 then some (.inr (.inr ()), u) else if 40 ≤ v2 then some (.inr (.inl v2), u) else k_bind (f_Tape_at v2 u) (fun r2 u1 => k_bind (f_W_isTooth r2 u1) (fun r4 u3 => if r4 = 0 then some (.inr (.inl v2), u3) else some (.inl (v2 + Int32.ofInt 1), u3)))
def f_Wheels_faultOf_Tape   (u : k_S) : Option (Int32 × k_S) :=
  k_bind (k_itr (fun (x : (Int32)) u => f_Wheels_faultOf_Tape_B2  x u) k_FU 0 u) (fun y6 u5 => k_cs y6 (fun r7 => some (r7, u5)) (fun y6 => if 2 ≤ (u5.1 101) then some ((-1), u5) else some (u5.1 101, u5)))
def f_Wheels_setLetter  (p1 : Int32) (p2 : Int32) (p3 : Int32) (u : k_S) : Option (Unit × k_S) :=
  k_let ((40 * p1) + p2) (fun t1 => if t1 < 0 then some ((), u) else if 160 ≤ t1 then some ((), u) else k_ck (t1) 160 (k_let (k_wA u 4 (t1).toNatClampNeg (p3)) (fun u2 => some ((), u2))))
def f_Wheels_cutFrom_Tape_B23  (v2 : Int32) (v3 : Int32) (u : k_S) : Option (((Int32) ⊕ Unit) × k_S) :=
  if (u.1 101) ≤ v3 then some (.inr (), u) else if 40 ≤ v3 then some (.inr (), u) else k_bind (f_Tape_at v3 u) (fun r3 u2 => k_bind (f_Wheels_setLetter v2 v3 r3 u2) (fun _ u4 => some (.inl (v3 + Int32.ofInt 1), u4)))
def f_Wheels_cutFrom_Tape_J54  (v2 : Int32) (u : k_S) : Option (Int32 × k_S) :=
  k_ck (v2) 4 (k_let (k_wA u 5 (v2).toNatClampNeg (u.1 101)) (fun u7 => k_let (k_wF u7 303 ((u7.1 303) + 1)) (fun u8 => some (v2, u8))))
def f_Wheels_cutFrom_Tape   (u : k_S) : Option (Int32 × k_S) :=
  k_let (u.1 303) (fun t1 => if t1 < 0 then some ((-3), u) else if t1 < 4 then k_bind (k_itr (fun (x : (Int32)) u => f_Wheels_cutFrom_Tape_B23  t1 x u) k_FU 0 u) (fun y6 u5 => f_Wheels_cutFrom_Tape_J54  t1 u5) else some ((-3), u))
def f_W_wheel_J49  (s0 : Int32) (u : k_S) : Option (Int32 × k_S) :=
  k_let (k_wF u 101 (0)) (fun u3 => some (s0, u3))
def f_W_wheel   (u : k_S) : Option (Int32 × k_S) :=
  if (u.1 303) < 4 then k_bind (f_Wheels_faultOf_Tape  u) (fun r2 u1 => if r2 = (-1) then k_bind (f_Wheels_cutFrom_Tape  u1) (fun r5 u4 => f_W_wheel_J49  r5 u4) else f_W_wheel_J49  ((-100) - r2) u1) else some ((-3), u)
def f_R_isTooth  (p0 : Int32) (u : k_S) : Option (Int32 × k_S) :=
  if p0 = 119 then some (1, u) else if p0 = 115 then some (1, u) else if p0 = 102 then some (1, u) else if p0 = 98 then some (1, u) else k_bind (f_R_in p0 49 57 u) (fun r2 u1 => if r2 = 0 then some (0, u1) else some (1, u1))
def f_R_wheel_B13  (v1 : Int32) (u : k_S) : Option (((Int32) ⊕ (Int32)) × k_S) :=
  if (u.1 4202) ≤ v1 then some (.inr v1, u) else if 40 ≤ v1 then some (.inr v1, u) else k_ck (v1) 120 (k_bind (f_R_isTooth (u.2.1 43 (v1).toNatClampNeg) u) (fun r2 u1 => if r2 = 0 then some (.inr v1, u1) else some (.inl (v1 + Int32.ofInt 1), u1)))
def f_R_wheel_B66  (v1 : Int32) (v2 : Int32) (v3 : Int32) (u : k_S) : Option (((Int32) ⊕ Unit) × k_S) :=
  if v1 ≤ v3 then some (.inr (), u) else k_ck (v3) 120 (k_ck ((40 * (u.1 4203)) + v3) 160 (k_let (k_wA u 44 ((40 * (u.1 4203)) + v3).toNatClampNeg (u.2.1 43 (v3).toNatClampNeg)) (fun u5 => some (.inl (v3 + Int32.ofInt 1), u5))))
def f_R_wheel_J63  (v1 : Int32) (s0 : Int32) (u : k_S) : Option (Int32 × k_S) :=
  k_bind (k_itr (fun (x : (Int32)) u => f_R_wheel_B66  v1 s0 x u) k_FU 0 u) (fun y7 u6 => k_let (k_wF u6 4202 (0)) (fun u8 => if s0 = 0 then some ((-100) - v1, u8) else k_ck (u8.1 4203) 4 (k_let (k_wA u8 45 (u8.1 4203).toNatClampNeg (v1)) (fun u9 => k_ck (u9.1 4203) 4 (k_let (k_wA u9 46 (u9.1 4203).toNatClampNeg (0)) (fun u10 => k_ck (u10.1 4203) 4 (k_let (k_wA u10 47 (u10.1 4203).toNatClampNeg (0)) (fun u11 => k_ck (u11.1 4203) 4 (k_let (k_wA u11 48 (u11.1 4203).toNatClampNeg (0)) (fun u12 => k_let (k_wF u12 4203 ((u12.1 4203) + 1)) (fun u13 => some ((u13.1 4203) - 1, u13))))))))))))
def f_R_wheel_J62  (v1 : Int32) (u : k_S) : Option (Int32 × k_S) :=
  f_R_wheel_J63  v1 0 u
def f_R_wheel_J45  (v1 : Int32) (u : k_S) : Option (Int32 × k_S) :=
  if v1 = (u.1 4202) then if v1 < 2 then f_R_wheel_J62  v1 u else f_R_wheel_J63  v1 1 u else f_R_wheel_J62  v1 u
def f_R_wheel   (u : k_S) : Option (Int32 × k_S) :=
  if (u.1 4203) = 4 then some ((-3), u) else k_bind (k_itr (fun (x : (Int32)) u => f_R_wheel_B13  x u) k_FU 0 u) (fun y4 u3 => f_R_wheel_J45  y4 u3)
def f_Reader_add  (p1 : Int32) (u : k_S) : Option (Unit × k_S) :=
  if (u.1 1002) < 0 then some ((), u) else if (u.1 1002) < 128 then k_ck (u.1 1002) 128 (k_let (k_wA u 11 (u.1 1002).toNatClampNeg (p1)) (fun u1 => k_let (k_wF u1 1002 ((u1.1 1002) + 1)) (fun u2 => some ((), u2)))) else some ((), u)
def f_Reader_multiplied_J50 (rc : Int32 → k_S → Option (Int32 × k_S)) (v1 : Int32) (v2 : Int32) (v3 : Int32) (u : k_S) : Option (((Int32) ⊕ (Int32 ⊕ Unit)) × k_S) :=
  k_let (k_wF u 1003 ((u.1 1003) + 1)) (fun u5 => k_bind (rc v1 u5) (fun r7 u6 => if r7 = 0 then some (.inr (.inl 0), u6) else k_bind (f_Reader_add (-v3) u6) (fun _ u8 => some (.inl (v2 + Int32.ofInt 1), u8))))
def f_Reader_multiplied_B12 (rc : Int32 → k_S → Option (Int32 × k_S)) (v1 : Int32) (v2 : Int32) (u : k_S) : Option (((Int32) ⊕ (Int32 ⊕ Unit)) × k_S) :=
  if 120 ≤ v2 then some (.inr (.inr ()), u) else k_bind (f_Tape_at (u.1 1003) u) (fun r4 u3 => if r4 = 42 then f_Reader_multiplied_J50 rc v1 v2 r4 u3 else if r4 = 47 then f_Reader_multiplied_J50 rc v1 v2 r4 u3 else if r4 = 37 then f_Reader_multiplied_J50 rc v1 v2 r4 u3 else some (.inr (.inl 1), u3))
def f_Reader_multiplied (rc : Int32 → k_S → Option (Int32 × k_S)) (p1 : Int32) (u : k_S) : Option (Int32 × k_S) :=
  k_bind (rc p1 u) (fun r2 u1 => if r2 = 0 then some (0, u1) else k_bind (k_itr (fun (x : (Int32)) u => f_Reader_multiplied_B12 rc p1 x u) k_FU 0 u1) (fun y10 u9 => k_cs y10 (fun r11 => some (r11, u9)) (fun y10 => some (1, u9))))
def f_Reader_summed_J44 (rc : Int32 → k_S → Option (Int32 × k_S)) (v1 : Int32) (v2 : Int32) (v3 : Int32) (u : k_S) : Option (((Int32) ⊕ (Int32 ⊕ Unit)) × k_S) :=
  k_let (k_wF u 1003 ((u.1 1003) + 1)) (fun u5 => k_bind (f_Reader_multiplied rc v1 u5) (fun r7 u6 => if r7 = 0 then some (.inr (.inl 0), u6) else k_bind (f_Reader_add (-v3) u6) (fun _ u8 => some (.inl (v2 + Int32.ofInt 1), u8))))
def f_Reader_summed_B12 (rc : Int32 → k_S → Option (Int32 × k_S)) (v1 : Int32) (v2 : Int32) (u : k_S) : Option (((Int32) ⊕ (Int32 ⊕ Unit)) × k_S) :=
  if 120 ≤ v2 then some (.inr (.inr ()), u) else k_bind (f_Tape_at (u.1 1003) u) (fun r4 u3 => if r4 = 43 then f_Reader_summed_J44 rc v1 v2 r4 u3 else if r4 = 45 then f_Reader_summed_J44 rc v1 v2 r4 u3 else some (.inr (.inl 1), u3))
def f_Reader_summed (rc : Int32 → k_S → Option (Int32 × k_S)) (p1 : Int32) (u : k_S) : Option (Int32 × k_S) :=
  k_bind (f_Reader_multiplied rc p1 u) (fun r2 u1 => if r2 = 0 then some (0, u1) else k_bind (k_itr (fun (x : (Int32)) u => f_Reader_summed_B12 rc p1 x u) k_FU 0 u1) (fun y10 u9 => k_cs y10 (fun r11 => some (r11, u9)) (fun y10 => some (1, u9))))
def f_Reader_compared_J42 (rc : Int32 → k_S → Option (Int32 × k_S)) (v1 : Int32) (v2 : Int32) (u : k_S) : Option (Int32 × k_S) :=
  k_let (k_wF u 1003 ((u.1 1003) + 1)) (fun u5 => k_bind (f_Reader_summed rc v1 u5) (fun r7 u6 => if r7 = 0 then some (0, u6) else k_bind (f_Reader_add (-v2) u6) (fun _ u8 => some (1, u8))))
def f_Reader_compared (rc : Int32 → k_S → Option (Int32 × k_S)) (p1 : Int32) (u : k_S) : Option (Int32 × k_S) :=
  k_bind (f_Reader_summed rc p1 u) (fun r2 u1 => if r2 = 0 then some (0, u1) else k_bind (f_Tape_at (u1.1 1003) u1) (fun r4 u3 => if r4 = 60 then f_Reader_compared_J42 rc p1 r4 u3 else if r4 = 61 then f_Reader_compared_J42 rc p1 r4 u3 else if r4 = 62 then f_Reader_compared_J42 rc p1 r4 u3 else some (1, u3)))
def f_Reader_passes  (p1 : Int32) (u : k_S) : Option (Int32 × k_S) :=
  k_bind (f_Tape_at (u.1 1003) u) (fun r2 u1 => if r2 = p1 then k_let (k_wF u1 1003 ((u1.1 1003) + 1)) (fun u3 => some (1, u3)) else some (0, u1))
def f_Reader_both_B12 (rc : Int32 → k_S → Option (Int32 × k_S)) (v1 : Int32) (v2 : Int32) (u : k_S) : Option (((Int32) ⊕ (Int32 ⊕ Unit)) × k_S) :=
  if 120 ≤ v2 then some (.inr (.inr ()), u) else k_bind (f_Reader_passes 38 u) (fun r4 u3 => if r4 = 0 then some (.inr (.inr ()), u3) else k_bind (f_Reader_compared rc v1 u3) (fun r6 u5 => if r6 = 0 then some (.inr (.inl 0), u5) else k_bind (f_Reader_add (-38) u5) (fun _ u7 => some (.inl (v2 + Int32.ofInt 1), u7))))
def f_Reader_both (rc : Int32 → k_S → Option (Int32 × k_S)) (p1 : Int32) (u : k_S) : Option (Int32 × k_S) :=
  k_bind (f_Reader_compared rc p1 u) (fun r2 u1 => if r2 = 0 then some (0, u1) else k_bind (k_itr (fun (x : (Int32)) u => f_Reader_both_B12 rc p1 x u) k_FU 0 u1) (fun y9 u8 => k_cs y9 (fun r10 => some (r10, u8)) (fun y9 => some (1, u8))))
def f_Reader_either_B12 (rc : Int32 → k_S → Option (Int32 × k_S)) (v1 : Int32) (v2 : Int32) (u : k_S) : Option (((Int32) ⊕ (Int32 ⊕ Unit)) × k_S) :=
  if 120 ≤ v2 then some (.inr (.inr ()), u) else k_bind (f_Reader_passes 124 u) (fun r4 u3 => if r4 = 0 then some (.inr (.inr ()), u3) else k_bind (f_Reader_both rc v1 u3) (fun r6 u5 => if r6 = 0 then some (.inr (.inl 0), u5) else k_bind (f_Reader_add (-124) u5) (fun _ u7 => some (.inl (v2 + Int32.ofInt 1), u7))))
def f_Reader_either (rc : Int32 → k_S → Option (Int32 × k_S)) (p1 : Int32) (u : k_S) : Option (Int32 × k_S) :=
  k_bind (f_Reader_both rc p1 u) (fun r2 u1 => if r2 = 0 then some (0, u1) else k_bind (k_itr (fun (x : (Int32)) u => f_Reader_either_B12 rc p1 x u) k_FU 0 u1) (fun y9 u8 => k_cs y9 (fun r10 => some (r10, u8)) (fun y9 => some (1, u8))))
def f_Reader_isDigit  (p0 : Int32) (u : k_S) : Option (Int32 × k_S) :=
  if p0 < 48 then some (0, u) else if 57 < p0 then some (0, u) else some (1, u)
def f_Reader_number_B4  (v1 : Int32) (v2 : Int32) (u : k_S) : Option (((Int32 × Int32) ⊕ (Int32)) × k_S) :=
  if 4 ≤ v2 then some (.inr v1, u) else k_bind (f_Tape_at (u.1 1003) u) (fun r2 u1 => k_bind (f_Reader_isDigit r2 u1) (fun r4 u3 => if r4 = 0 then some (.inr v1, u3) else k_bind (f_Tape_at (u3.1 1003) u3) (fun r6 u5 => k_let (((10 * v1) + r6) - 48) (fun t7 => k_let (k_wF u5 1003 ((u5.1 1003) + 1)) (fun u8 => some (.inl (t7, v2 + Int32.ofInt 1), u8))))))
def f_Reader_number_J62  (v1 : Int32) (u : k_S) : Option (Unit × k_S) :=
  k_bind (f_Reader_add v1 u) (fun _ u11 => some ((), u11))
def f_Reader_number   (u : k_S) : Option (Unit × k_S) :=
  k_bind (k_itr (fun (x : (Int32 × Int32)) u => f_Reader_number_B4  x.1 x.2 u) k_FU (0, 0) u) (fun y10 u9 => f_Reader_number_J62  y10 u9)
def f_Reader_single_J49 (rc : Int32 → k_S → Option (Int32 × k_S)) (v2 : Int32) (u : k_S) : Option (Int32 × k_S) :=
  k_let (k_wF u 1003 ((u.1 1003) + 1)) (fun u5 => k_bind (f_Reader_add (-v2) u5) (fun _ u6 => some (1, u6)))
def f_Reader_single_J161 (rc : Int32 → k_S → Option (Int32 × k_S)) (s1 : Int32) (u : k_S) : Option (Int32 × k_S) :=
  k_bind (f_Reader_add s1 u) (fun _ u10 => some (1, u10))
def f_Reader_single_J87 (rc : Int32 → k_S → Option (Int32 × k_S)) (v1 : Int32) (v2 : Int32) (u : k_S) : Option (Int32 × k_S) :=
  if v1 < 6 then k_let (k_wF u 1003 ((u.1 1003) + 1)) (fun u7 => if v2 = 40 then k_bind (f_Reader_either rc (v1 + 1) u7) (fun r12 u11 => if r12 = 0 then some (0, u11) else k_bind (f_Reader_passes 41 u11) (fun r14 u13 => if r14 = 0 then some (0, u13) else some (1, u13))) else k_bind (rc (v1 + 1) u7) (fun r9 u8 => if r9 = 0 then some (0, u8) else if v2 = 45 then f_Reader_single_J161 rc (-1) u8 else f_Reader_single_J161 rc (-v2) u8)) else some (0, u)
def f_Reader_single (rc : Int32 → k_S → Option (Int32 × k_S)) (p1 : Int32) (u : k_S) : Option (Int32 × k_S) :=
  k_bind (f_Tape_at (u.1 1003) u) (fun r2 u1 => k_bind (f_Reader_isDigit r2 u1) (fun r4 u3 => if r4 = 0 then if r2 = 116 then f_Reader_single_J49 rc r2 u3 else if r2 = 112 then f_Reader_single_J49 rc r2 u3 else if r2 = 107 then f_Reader_single_J49 rc r2 u3 else if r2 = 122 then f_Reader_single_J49 rc r2 u3 else if r2 = 40 then f_Reader_single_J87 rc p1 r2 u3 else if r2 = 33 then f_Reader_single_J87 rc p1 r2 u3 else if r2 = 45 then f_Reader_single_J87 rc p1 r2 u3 else some (0, u3) else k_bind (f_Reader_number  u3) (fun _ u15 => some (1, u15))))
def f_Reader_single_rec : Nat → Int32 → k_S → Option (Int32 × k_S)
  | 0, _, _ => none
  | n + 1, a0, w => f_Reader_single (f_Reader_single_rec n) a0 w
def d_Reader_single : Nat → Nat
  | 0 => 0
  | n + 1 => d_Reader_single n + 7
def f_Reader_line   (u : k_S) : Option (Int32 × k_S) :=
  k_bind (f_Reader_either (f_Reader_single_rec 8) 0 u) (fun r2 u1 => if r2 = 0 then some (0, u1) else k_bind (f_Reader_passes 63 u1) (fun r4 u3 => if r4 = 0 then k_bind (f_Reader_add (-59) u3) (fun _ u5 => some (1, u5)) else k_let (u3.1 1002) (fun t6 => k_bind (f_Reader_add 10000 u3) (fun _ u7 => k_bind (f_Reader_either (f_Reader_single_rec 8) 0 u7) (fun r9 u8 => if r9 = 0 then some (0, u8) else k_bind (f_Reader_add (-59) u8) (fun _ u10 => if 128 ≤ t6 then some (1, u10) else k_ck (t6) 128 (k_let (k_wA u10 11 (t6).toNatClampNeg (10000 + (u10.1 1002))) (fun u11 => some (1, u11)))))))))
def f_Reader_lines_B11  (v1 : Int32) (u : k_S) : Option (((Int32) ⊕ (Int32 ⊕ Unit)) × k_S) :=
  if 120 ≤ v1 then some (.inr (.inr ()), u) else k_bind (f_Reader_passes 59 u) (fun r4 u3 => if r4 = 0 then some (.inr (.inr ()), u3) else k_bind (f_Reader_line  u3) (fun r6 u5 => if r6 = 0 then some (.inr (.inl 0), u5) else some (.inl (v1 + Int32.ofInt 1), u5)))
def f_Reader_lines   (u : k_S) : Option (Int32 × k_S) :=
  k_bind (f_Reader_line  u) (fun r2 u1 => if r2 = 0 then some (0, u1) else k_bind (k_itr (fun (x : (Int32)) u => f_Reader_lines_B11  x u) k_FU 0 u1) (fun y8 u7 => k_cs y8 (fun r9 => some (r9, u7)) (fun y8 => some (1, u7))))
def f_Reader_readTape   (u : k_S) : Option (Int32 × k_S) :=
  k_let (k_wF u 1003 (0)) (fun u1 => k_let (k_wF u1 1002 (0)) (fun u2 => k_bind (f_Reader_lines  u2) (fun r4 u3 => if r4 = 0 then some (u3.1 1003, u3) else if (u3.1 1003) = (u3.1 101) then some ((-1), u3) else some (u3.1 1003, u3))))
def f_Reader_stepAt  (p1 : Int32) (u : k_S) : Option (Int32 × k_S) :=
  if p1 < 0 then some (0, u) else if 128 ≤ p1 then some (0, u) else k_ck (p1) 128 (some (u.2.1 11 (p1).toNatClampNeg, u))
def f_Law_takeFromTape_B28  (v2 : Int32) (u : k_S) : Option (((Int32) ⊕ Unit) × k_S) :=
  if (u.1 703) ≤ v2 then some (.inr (), u) else if 128 ≤ v2 then some (.inr (), u) else k_bind (f_Reader_stepAt v2 u) (fun r5 u4 => k_ck (v2) 128 (k_let (k_wA u4 8 (v2).toNatClampNeg (r5)) (fun u6 => some (.inl (v2 + Int32.ofInt 1), u6))))
def f_Law_takeFromTape   (u : k_S) : Option (Int32 × k_S) :=
  k_bind (f_Reader_readTape  u) (fun r2 u1 => if r2 = (-1) then k_let (k_wF u1 703 (u1.1 1002)) (fun u3 => k_bind (k_itr (fun (x : (Int32)) u => f_Law_takeFromTape_B28  x u) k_FU 0 u3) (fun y8 u7 => some ((-1), u7))) else some (r2, u1))
def f_W_law   (u : k_S) : Option (Int32 × k_S) :=
  k_bind (f_Law_takeFromTape  u) (fun r2 u1 => k_let (k_wF u1 101 (0)) (fun u3 => if r2 = (-1) then some (1, u3) else some ((-100) - r2, u3)))
def f_R_look   (u : k_S) : Option (Int32 × k_S) :=
  if (u.1 4202) ≤ (u.1 4212) then some ((-1), u) else k_ck (u.1 4212) 120 (some (u.2.1 43 (u.1 4212).toNatClampNeg, u))
def f_R_addStep  (p1 : Int32) (p2 : Int32) (u : k_S) : Option (Unit × k_S) :=
  k_ck (130 + (u.1 4215)) 260 (k_let (k_wA u 49 (130 + (u.1 4215)).toNatClampNeg (((p1).toInt8.toInt32).toInt8.toInt32)) (fun u1 => k_ck (130 + (u1.1 4215)) 260 (k_let (k_wA u1 50 (130 + (u1.1 4215)).toNatClampNeg (p2)) (fun u2 => k_let (k_wF u2 4215 ((u2.1 4215) + 1)) (fun u3 => some ((), u3))))))
def f_R_product_J38 (rc : k_S → Option (Unit × k_S))  (u : k_S) : Option ((Unit ⊕ Unit) × k_S) :=
  k_bind (f_R_look  u) (fun r5 u4 => k_let (k_wF u4 4212 ((u4.1 4212) + 1)) (fun u6 => k_bind (rc  u6) (fun _ u7 => k_bind (f_R_addStep r5 0 u7) (fun _ u8 => some (.inl (), u8)))))
def f_R_product_B4 (rc : k_S → Option (Unit × k_S))  (u : k_S) : Option ((Unit ⊕ Unit) × k_S) :=
  if 0 ≤ (u.1 4213) then some (.inr (), u) else k_bind (f_R_look  u) (fun r3 u2 => if r3 = 42 then f_R_product_J38 rc  u2 else k_bind (f_R_look  u2) (fun r10 u9 => if r10 = 47 then f_R_product_J38 rc  u9 else k_bind (f_R_look  u9) (fun r12 u11 => if r12 = 37 then f_R_product_J38 rc  u11 else some (.inr (), u11))))
def f_R_product (rc : k_S → Option (Unit × k_S))  (u : k_S) : Option (Unit × k_S) :=
  k_bind (rc  u) (fun _ u1 => k_bind (k_itr (fun (x : Unit) u => f_R_product_B4 rc  u) k_FU () u1) (fun y14 u13 => some ((), u13)))
def f_R_sum_J29 (rc : k_S → Option (Unit × k_S))  (u : k_S) : Option ((Unit ⊕ Unit) × k_S) :=
  k_bind (f_R_look  u) (fun r5 u4 => k_let (k_wF u4 4212 ((u4.1 4212) + 1)) (fun u6 => k_bind (f_R_product rc  u6) (fun _ u7 => k_bind (f_R_addStep r5 0 u7) (fun _ u8 => some (.inl (), u8)))))
def f_R_sum_B4 (rc : k_S → Option (Unit × k_S))  (u : k_S) : Option ((Unit ⊕ Unit) × k_S) :=
  if 0 ≤ (u.1 4213) then some (.inr (), u) else k_bind (f_R_look  u) (fun r3 u2 => if r3 = 43 then f_R_sum_J29 rc  u2 else k_bind (f_R_look  u2) (fun r10 u9 => if r10 = 45 then f_R_sum_J29 rc  u9 else some (.inr (), u9)))
def f_R_sum (rc : k_S → Option (Unit × k_S))  (u : k_S) : Option (Unit × k_S) :=
  k_bind (f_R_product rc  u) (fun _ u1 => k_bind (k_itr (fun (x : Unit) u => f_R_sum_B4 rc  u) k_FU () u1) (fun y12 u11 => some ((), u11)))
def f_R_compared_J35 (rc : k_S → Option (Unit × k_S)) (v1 : Int32) (u : k_S) : Option (Unit × k_S) :=
  k_let (k_wF u 4212 ((u.1 4212) + 1)) (fun u4 => k_bind (f_R_sum rc  u4) (fun _ u5 => k_bind (f_R_addStep v1 0 u5) (fun _ u6 => some ((), u6))))
def f_R_compared (rc : k_S → Option (Unit × k_S))  (u : k_S) : Option (Unit × k_S) :=
  k_bind (f_R_sum rc  u) (fun _ u1 => k_bind (f_R_look  u1) (fun r3 u2 => if 0 ≤ (u2.1 4213) then some ((), u2) else if r3 = 60 then f_R_compared_J35 rc r3 u2 else if r3 = 61 then f_R_compared_J35 rc r3 u2 else if r3 = 62 then f_R_compared_J35 rc r3 u2 else some ((), u2)))
def f_R_both_B4 (rc : k_S → Option (Unit × k_S))  (u : k_S) : Option ((Unit ⊕ Unit) × k_S) :=
  if 0 ≤ (u.1 4213) then some (.inr (), u) else k_bind (f_R_look  u) (fun r3 u2 => if r3 = 38 then k_let (k_wF u2 4212 ((u2.1 4212) + 1)) (fun u4 => k_bind (f_R_compared rc  u4) (fun _ u5 => k_bind (f_R_addStep 38 0 u5) (fun _ u6 => some (.inl (), u6)))) else some (.inr (), u2))
def f_R_both (rc : k_S → Option (Unit × k_S))  (u : k_S) : Option (Unit × k_S) :=
  k_bind (f_R_compared rc  u) (fun _ u1 => k_bind (k_itr (fun (x : Unit) u => f_R_both_B4 rc  u) k_FU () u1) (fun y8 u7 => some ((), u7)))
def f_R_either_B4 (rc : k_S → Option (Unit × k_S))  (u : k_S) : Option ((Unit ⊕ Unit) × k_S) :=
  if 0 ≤ (u.1 4213) then some (.inr (), u) else k_bind (f_R_look  u) (fun r3 u2 => if r3 = 124 then k_let (k_wF u2 4212 ((u2.1 4212) + 1)) (fun u4 => k_bind (f_R_both rc  u4) (fun _ u5 => k_bind (f_R_addStep 124 0 u5) (fun _ u6 => some (.inl (), u6)))) else some (.inr (), u2))
def f_R_either (rc : k_S → Option (Unit × k_S))  (u : k_S) : Option (Unit × k_S) :=
  k_bind (f_R_both rc  u) (fun _ u1 => k_bind (k_itr (fun (x : Unit) u => f_R_either_B4 rc  u) k_FU () u1) (fun y8 u7 => some ((), u7)))
def f_R_nameOf  (p0 : Int32) (u : k_S) : Option (Int32 × k_S) :=
  if p0 = 107 then some (2, u) else if p0 = 112 then some (1, u) else if p0 = 116 then some (0, u) else if p0 = 122 then some (3, u) else some ((-1), u)
def f_R_wrong   (u : k_S) : Option (Unit × k_S) :=
  if 0 ≤ (u.1 4213) then some ((), u) else k_let (k_wF u 4213 (u.1 4212)) (fun u1 => some ((), u1))
def f_R_opens   (u : k_S) : Option (Int32 × k_S) :=
  if (u.1 4214) = 6 then k_bind (f_R_wrong  u) (fun _ u3 => some (0, u3)) else k_let (k_wF u 4214 ((u.1 4214) + 1)) (fun u1 => k_let (k_wF u1 4212 ((u1.1 4212) + 1)) (fun u2 => some (1, u2)))
def f_R_figure_B4  (v1 : Int32) (v2 : Int32) (u : k_S) : Option (((Int32 × Int32) ⊕ (Int32 × Int32)) × k_S) :=
  if 4 ≤ v2 then some (.inr (v1, v2), u) else k_bind (f_R_look  u) (fun r2 u1 => k_bind (f_R_in r2 48 57 u1) (fun r4 u3 => if r4 = 0 then some (.inr (v1, v2), u3) else k_bind (f_R_look  u3) (fun r6 u5 => k_let (((10 * v1) + r6) - 48) (fun t7 => k_let (k_wF u5 4212 ((u5.1 4212) + 1)) (fun u8 => some (.inl (t7, v2 + Int32.ofInt 1), u8))))))
def f_R_figure_J74  (v1 : Int32) (u : k_S) : Option (Unit × k_S) :=
  k_bind (f_R_addStep 1 v1 u) (fun _ u12 => some ((), u12))
def f_R_figure_J70  (v1 : Int32) (u : k_S) : Option (Unit × k_S) :=
  k_bind (f_R_wrong  u) (fun _ u11 => f_R_figure_J74  v1 u11)
def f_R_figure_J52  (v1 : Int32) (v2 : Int32) (u : k_S) : Option (Unit × k_S) :=
  if v2 = 0 then f_R_figure_J70  v1 u else k_bind (f_R_look  u) (fun r14 u13 => k_bind (f_R_in r14 48 57 u13) (fun r16 u15 => if r16 = 0 then f_R_figure_J74  v1 u15 else f_R_figure_J70  v1 u15))
def f_R_figure   (u : k_S) : Option (Unit × k_S) :=
  k_bind (k_itr (fun (x : (Int32 × Int32)) u => f_R_figure_B4  x.1 x.2 u) k_FU (0, 0) u) (fun y10 u9 => f_R_figure_J52  y10.1 y10.2 u9)
def f_R_operand_J80 (rc : k_S → Option (Unit × k_S)) (s1 : Int32) (u : k_S) : Option (Unit × k_S) :=
  k_bind (f_R_addStep s1 0 u) (fun _ u9 => some ((), u9))
def f_R_operand_J46 (rc : k_S → Option (Unit × k_S)) (v1 : Int32) (u : k_S) : Option (Unit × k_S) :=
  k_bind (f_R_opens  u) (fun r6 u5 => if r6 = 0 then some ((), u5) else k_bind (rc  u5) (fun _ u7 => k_let (k_wF u7 4214 ((u7.1 4214) - 1)) (fun u8 => if v1 = 33 then f_R_operand_J80 rc 3 u8 else f_R_operand_J80 rc 4 u8)))
def f_R_operand (rc : k_S → Option (Unit × k_S))  (u : k_S) : Option (Unit × k_S) :=
  k_bind (f_R_look  u) (fun r2 u1 => k_bind (f_R_nameOf r2 u1) (fun r4 u3 => if r4 < 0 then if r2 = 33 then f_R_operand_J46 rc r2 u3 else if r2 = 45 then f_R_operand_J46 rc r2 u3 else if r2 = 40 then k_bind (f_R_opens  u3) (fun r12 u11 => if r12 = 0 then some ((), u11) else k_bind (f_R_either rc  u11) (fun _ u13 => if (u13.1 4213) < 0 then k_bind (f_R_look  u13) (fun r15 u14 => if r15 = 41 then k_let (k_wF u14 4212 ((u14.1 4212) + 1)) (fun u16 => k_let (k_wF u16 4214 ((u16.1 4214) - 1)) (fun u17 => some ((), u17))) else k_bind (f_R_wrong  u14) (fun _ u18 => some ((), u18))) else some ((), u13))) else k_bind (f_R_figure  u3) (fun _ u10 => some ((), u10)) else k_bind (f_R_nameOf r2 u3) (fun r20 u19 => k_bind (f_R_addStep 2 r20 u19) (fun _ u21 => k_let (k_wF u21 4212 ((u21.1 4212) + 1)) (fun u22 => some ((), u22))))))
def f_R_operand_rec : Nat → k_S → Option (Unit × k_S)
  | 0, _ => none
  | n + 1, w => f_R_operand (f_R_operand_rec n)  w
def d_R_operand : Nat → Nat
  | 0 => 0
  | n + 1 => d_R_operand n + 7
def f_R_line_J66  (v1 : Int32) (u : k_S) : Option (Unit × k_S) :=
  k_ck (v1) 122 (k_let (k_wA u 53 (v1).toNatClampNeg (((u.1 4215).toInt16.toInt32).toInt16.toInt32)) (fun u4 => k_ck (1) 2 (k_ck (1) 2 (k_let (k_wA u4 51 (1 : Int32).toNatClampNeg ((u4.2.1 51 (1 : Int32).toNatClampNeg) + 1)) (fun u5 => some ((), u5))))))
def f_R_line   (u : k_S) : Option (Unit × k_S) :=
  k_ck (1) 2 (k_let (61 + (u.2.1 51 (1 : Int32).toNatClampNeg)) (fun t1 => k_ck (t1) 122 (k_let (k_wA u 52 (t1).toNatClampNeg (((u.1 4215).toInt16.toInt32).toInt16.toInt32)) (fun u2 => k_bind (f_R_either (f_R_operand_rec 8)  u2) (fun _ u3 => if 0 ≤ (u3.1 4213) then f_R_line_J66  t1 u3 else k_bind (f_R_look  u3) (fun r7 u6 => if r7 = 63 then k_let (k_wF u6 4212 ((u6.1 4212) + 1)) (fun u8 => k_ck (t1) 122 (k_let (k_wA u8 52 (t1).toNatClampNeg (((u8.1 4215).toInt16.toInt32).toInt16.toInt32)) (fun u9 => k_bind (f_R_either (f_R_operand_rec 8)  u9) (fun _ u10 => f_R_line_J66  t1 u10)))) else f_R_line_J66  t1 u6))))))
def f_R_readText_B31  (v1 : Int32) (u : k_S) : Option ((Unit ⊕ Unit) × k_S) :=
  if 0 ≤ (u.1 4213) then some (.inr (), u) else k_bind (f_R_look  u) (fun r8 u7 => if r8 = 59 then k_let (k_wF u7 4212 ((u7.1 4212) + 1)) (fun u9 => k_bind (f_R_line  u9) (fun _ u10 => some (.inl (), u10))) else some (.inr (), u7))
def f_R_readText_B105  (v1 : Int32) (v2 : Int32) (u : k_S) : Option (((Int32) ⊕ Unit) × k_S) :=
  if (u.1 4215) ≤ v2 then some (.inr (), u) else k_ck (130 + v2) 260 (k_ck ((130 * v1) + v2) 260 (k_let (k_wA u 49 ((130 * v1) + v2).toNatClampNeg ((u.2.1 49 (130 + v2).toNatClampNeg).toInt8.toInt32)) (fun u14 => k_ck (130 + v2) 260 (k_ck ((130 * v1) + v2) 260 (k_let (k_wA u14 50 ((130 * v1) + v2).toNatClampNeg (u14.2.1 50 (130 + v2).toNatClampNeg)) (fun u15 => some (.inl (v2 + Int32.ofInt 1), u15)))))))
def f_R_readText_B177  (v1 : Int32) (v2 : Int32) (u : k_S) : Option (((Int32) ⊕ Unit) × k_S) :=
  k_ck (v1) 2 (if (u.2.1 51 (v1).toNatClampNeg) ≤ v2 then some (.inr (), u) else k_ck (61 + v2) 122 (k_ck ((61 * v1) + v2) 122 (k_let (k_wA u 52 ((61 * v1) + v2).toNatClampNeg ((u.2.1 52 (61 + v2).toNatClampNeg).toInt16.toInt32)) (fun u19 => k_ck (61 + v2) 122 (k_ck ((61 * v1) + v2) 122 (k_let (k_wA u19 53 ((61 * v1) + v2).toNatClampNeg ((u19.2.1 53 (61 + v2).toNatClampNeg).toInt16.toInt32)) (fun u20 => some (.inl (v2 + Int32.ofInt 1), u20))))))))
def f_R_readText_J86  (v1 : Int32) (u : k_S) : Option (Int32 × k_S) :=
  k_let (k_wF u 4202 (0)) (fun u13 => if (u13.1 4213) < 0 then k_bind (k_itr (fun (x : (Int32)) u => f_R_readText_B105  v1 x u) k_FU 0 u13) (fun y17 u16 => k_ck (1) 2 (k_ck (v1) 2 (k_let (k_wA u16 51 (v1).toNatClampNeg (u16.2.1 51 (1 : Int32).toNatClampNeg)) (fun u18 => k_bind (k_itr (fun (x : (Int32)) u => f_R_readText_B177  v1 x u) k_FU 0 u18) (fun y22 u21 => some ((-1), u21)))))) else some (u13.1 4213, u13))
def f_R_readText_J64  (v1 : Int32) (u : k_S) : Option (Int32 × k_S) :=
  if 0 ≤ (u.1 4213) then f_R_readText_J86  v1 u else if (u.1 4202) ≤ (u.1 4212) then f_R_readText_J86  v1 u else k_bind (f_R_wrong  u) (fun _ u23 => f_R_readText_J86  v1 u23)
def f_R_readText  (p1 : Int32) (u : k_S) : Option (Int32 × k_S) :=
  k_let (k_wF u 4212 (0)) (fun u1 => k_let (k_wF u1 4213 ((-1))) (fun u2 => k_let (k_wF u2 4214 (0)) (fun u3 => k_let (k_wF u3 4215 (0)) (fun u4 => k_ck (1) 2 (k_let (k_wA u4 51 (1 : Int32).toNatClampNeg (0)) (fun u5 => k_bind (f_R_line  u5) (fun _ u6 => k_bind (k_itr (fun (x : Unit) u => f_R_readText_B31  p1 u) k_FU () u6) (fun y12 u11 => f_R_readText_J64  p1 u11))))))))
def f_R_law   (u : k_S) : Option (Int32 × k_S) :=
  k_bind (f_R_readText 0 u) (fun r2 u1 => if r2 < 0 then k_let (k_wF u1 4223 (1)) (fun u3 => some (1, u3)) else some ((-100) - r2, u1))
def f_W_set_J33  (v1 : Int32) (v2 : Int32) (u : k_S) : Option (Int32 × k_S) :=
  if v1 = 1 then k_let (u.1 705) (fun t1 => k_let (k_wF u 705 (v2)) (fun u2 => some (t1, u2))) else some ((-2000000000), u)
def f_W_set  (p1 : Int32) (p2 : Int32) (u : k_S) : Option (Int32 × k_S) :=
  if p1 = 0 then if p2 < 1 then f_W_set_J33  p1 p2 u else if 9 < p2 then f_W_set_J33  p1 p2 u else k_let (u.1 1205) (fun t3 => k_let (k_wF u 1205 (p2)) (fun u4 => some (t3, u4))) else f_W_set_J33  p1 p2 u
def f_R_set_J26  (v1 : Int32) (v2 : Int32) (u : k_S) : Option (Int32 × k_S) :=
  if v1 = 1 then k_let (u.1 4211) (fun t1 => k_let (k_wF u 4211 (v2)) (fun u2 => some (t1, u2))) else some ((-2000000000), u)
def f_R_set  (p1 : Int32) (p2 : Int32) (u : k_S) : Option (Int32 × k_S) :=
  if p1 = 0 then k_bind (f_R_in p2 1 9 u) (fun r4 u3 => if r4 = 0 then f_R_set_J26  p1 p2 u3 else k_let (u3.1 4210) (fun t5 => k_let (k_wF u3 4210 (p2)) (fun u6 => some (t5, u6)))) else f_R_set_J26  p1 p2 u
def f_Wheels_has  (p1 : Int32) (u : k_S) : Option (Int32 × k_S) :=
  if p1 < 0 then some (0, u) else if (u.1 303) ≤ p1 then some (0, u) else if 4 ≤ p1 then some (0, u) else some (1, u)
def f_Wheels_breakOf  (p1 : Int32) (u : k_S) : Option (Int32 × k_S) :=
  if p1 < 0 then some (0, u) else if 4 ≤ p1 then some (0, u) else k_ck (p1) 4 (some (u.2.1 6 (p1).toNatClampNeg, u))
def f_Wheels_setBreak  (p1 : Int32) (p2 : Int32) (u : k_S) : Option (Unit × k_S) :=
  if p1 < 0 then some ((), u) else if 4 ≤ p1 then some ((), u) else k_ck (p1) 4 (k_let (k_wA u 6 (p1).toNatClampNeg (p2)) (fun u1 => some ((), u1)))
def f_Changes_write  (p1 : Int32) (p2 : Int32) (p3 : Int32) (p4 : Int32) (p5 : Int32) (u : k_S) : Option (Unit × k_S) :=
  if p1 < 0 then some ((), u) else if 40 ≤ p1 then some ((), u) else if p1 < 40 then if 40 ≤ p1 then some ((), u) else if p1 < 40 then k_ck (p1) 40 (k_let (k_wA u 31 (p1).toNatClampNeg (p2)) (fun u1 => k_ck (p1) 40 (k_let (k_wA u1 32 (p1).toNatClampNeg (p3)) (fun u2 => k_ck (p1) 40 (k_let (k_wA u2 33 (p1).toNatClampNeg (p4)) (fun u3 => k_ck (p1) 40 (k_let (k_wA u3 34 (p1).toNatClampNeg (p5)) (fun u4 => some ((), u4))))))))) else some ((), u) else some ((), u)
def f_Changes_wheelAt  (p1 : Int32) (u : k_S) : Option (Int32 × k_S) :=
  if p1 < 0 then some ((-1), u) else if 40 ≤ p1 then some ((-1), u) else k_ck (p1) 40 (some (u.2.1 31 (p1).toNatClampNeg, u))
def f_Changes_placeAt  (p1 : Int32) (u : k_S) : Option (Int32 × k_S) :=
  if p1 < 0 then some ((-1), u) else if 40 ≤ p1 then some ((-1), u) else k_ck (p1) 40 (some (u.2.1 32 (p1).toNatClampNeg, u))
def f_Changes_beforeAt  (p1 : Int32) (u : k_S) : Option (Int32 × k_S) :=
  if p1 < 0 then some (0, u) else if 40 ≤ p1 then some (0, u) else k_ck (p1) 40 (some (u.2.1 33 (p1).toNatClampNeg, u))
def f_Changes_afterAt  (p1 : Int32) (u : k_S) : Option (Int32 × k_S) :=
  if p1 < 0 then some (0, u) else if 40 ≤ p1 then some (0, u) else k_ck (p1) 40 (some (u.2.1 34 (p1).toNatClampNeg, u))
def f_Changes_dropOldest_B2  (v1 : Int32) (u : k_S) : Option (((Int32) ⊕ Unit) × k_S) :=
  if 40 ≤ v1 then some (.inr (), u) else k_bind (f_Changes_wheelAt v1 u) (fun r2 u1 => k_bind (f_Changes_placeAt v1 u1) (fun r4 u3 => k_bind (f_Changes_beforeAt v1 u3) (fun r6 u5 => k_bind (f_Changes_afterAt v1 u5) (fun r8 u7 => k_bind (f_Changes_write (v1 - 1) r2 r4 r6 r8 u7) (fun _ u9 => some (.inl (v1 + Int32.ofInt 1), u9))))))
def f_Changes_dropOldest   (u : k_S) : Option (Unit × k_S) :=
  k_bind (k_itr (fun (x : (Int32)) u => f_Changes_dropOldest_B2  x u) k_FU 1 u) (fun y11 u10 => k_let (k_wF u10 3004 (39)) (fun u12 => some ((), u12)))
def f_Changes_add_J20  (v1 : Int32) (v2 : Int32) (v3 : Int32) (v4 : Int32) (u : k_S) : Option (Unit × k_S) :=
  k_bind (f_Changes_write (u.1 3004) v1 v2 v3 v4 u) (fun _ u1 => k_let (k_wF u1 3004 ((u1.1 3004) + 1)) (fun u2 => k_let (k_wF u2 3005 (u2.1 3004)) (fun u3 => some ((), u3))))
def f_Changes_add  (p1 : Int32) (p2 : Int32) (p3 : Int32) (p4 : Int32) (u : k_S) : Option (Unit × k_S) :=
  if p3 = p4 then some ((), u) else if (u.1 3004) < 40 then f_Changes_add_J20  p1 p2 p3 p4 u else k_bind (f_Changes_dropOldest  u) (fun _ u4 => f_Changes_add_J20  p1 p2 p3 p4 u4)
def f_W_broke  (p1 : Int32) (p2 : Int32) (u : k_S) : Option (Int32 × k_S) :=
  k_bind (f_Wheels_has p1 u) (fun r2 u1 => if r2 = 0 then some ((-1), u1) else if p2 < 0 then some ((-1), u1) else if p2 ≤ 9999 then k_bind (f_Wheels_breakOf p1 u1) (fun r4 u3 => k_bind (f_Wheels_setBreak p1 p2 u3) (fun _ u5 => k_bind (f_Changes_add p1 (-1) r4 p2 u5) (fun _ u6 => some (r4, u6)))) else some ((-1), u1))
def f_R_isWheel  (p1 : Int32) (u : k_S) : Option (Int32 × k_S) :=
  k_bind (f_R_in p1 0 ((u.1 4203) - 1) u) (fun r2 u1 => k_zb r2 (some (r2, u1)))
def f_R_valueAt  (p1 : Int32) (p2 : Int32) (u : k_S) : Option (Int32 × k_S) :=
  if p1 = 0 then k_ck (p2) 160 (some (u.2.1 44 (p2).toNatClampNeg, u)) else k_ck (p2) 4 (some (u.2.1 48 (p2).toNatClampNeg, u))
def f_R_lays  (p1 : Int32) (p2 : Int32) (p3 : Int32) (u : k_S) : Option (Unit × k_S) :=
  if p1 = 0 then k_ck (p2) 160 (k_let (k_wA u 44 (p2).toNatClampNeg (p3)) (fun u2 => some ((), u2))) else k_ck (p2) 4 (k_let (k_wA u 48 (p2).toNatClampNeg (p3)) (fun u1 => some ((), u1)))
def f_R_changes_J121  (v1 : Int32) (v2 : Int32) (v3 : Int32) (v4 : Int32) (u : k_S) : Option (Int32 × k_S) :=
  k_ck (u.1 4224) 40 (k_let (k_wA u 56 (u.1 4224).toNatClampNeg (v1)) (fun u4 => k_ck (u4.1 4224) 40 (k_let (k_wA u4 57 (u4.1 4224).toNatClampNeg (v2)) (fun u5 => k_ck (u5.1 4224) 40 (k_let (k_wA u5 58 (u5.1 4224).toNatClampNeg (v4)) (fun u6 => k_ck (u6.1 4224) 40 (k_let (k_wA u6 59 (u6.1 4224).toNatClampNeg (v3)) (fun u7 => k_let (k_wF u7 4224 ((u7.1 4224) + 1)) (fun u8 => k_bind (f_R_lays v1 v2 v3 u8) (fun _ u9 => some (v4, u9)))))))))))
def f_R_changes_B34  (v1 : Int32) (v2 : Int32) (v3 : Int32) (v4 : Int32) (v5 : Int32) (u : k_S) : Option (((Int32) ⊕ Unit) × k_S) :=
  if 40 ≤ v5 then some (.inr (), u) else k_ck (v5) 40 (k_ck (v5 - 1) 40 (k_let (k_wA u 56 (v5 - 1).toNatClampNeg (u.2.1 56 (v5).toNatClampNeg)) (fun u10 => k_ck (v5) 40 (k_ck (v5 - 1) 40 (k_let (k_wA u10 57 (v5 - 1).toNatClampNeg (u10.2.1 57 (v5).toNatClampNeg)) (fun u11 => k_ck (v5) 40 (k_ck (v5 - 1) 40 (k_let (k_wA u11 58 (v5 - 1).toNatClampNeg (u11.2.1 58 (v5).toNatClampNeg)) (fun u12 => k_ck (v5) 40 (k_ck (v5 - 1) 40 (k_let (k_wA u12 59 (v5 - 1).toNatClampNeg (u12.2.1 59 (v5).toNatClampNeg)) (fun u13 => some (.inl (v5 + Int32.ofInt 1), u13)))))))))))))
def f_R_changes  (p1 : Int32) (p2 : Int32) (p3 : Int32) (u : k_S) : Option (Int32 × k_S) :=
  k_bind (f_R_valueAt p1 p2 u) (fun r2 u1 => if r2 = p3 then some (r2, u1) else k_let (k_wF u1 4225 (0)) (fun u3 => if (u3.1 4224) = 40 then k_bind (k_itr (fun (x : (Int32)) u => f_R_changes_B34  p1 p2 p3 r2 x u) k_FU 1 u3) (fun y15 u14 => k_let (k_wF u14 4224 ((u14.1 4224) - 1)) (fun u16 => f_R_changes_J121  p1 p2 p3 r2 u16)) else f_R_changes_J121  p1 p2 p3 r2 u3))
def f_R_broke  (p1 : Int32) (p2 : Int32) (u : k_S) : Option (Int32 × k_S) :=
  k_bind (f_R_isWheel p1 u) (fun r2 u1 => if r2 = 0 then some ((-1), u1) else k_bind (f_R_in p2 0 9999 u1) (fun r4 u3 => if r4 = 0 then some ((-1), u3) else k_bind (f_R_changes 1 p1 p2 u3) (fun r6 u5 => some (r6, u5))))
def f_Wheels_hasPlace  (p1 : Int32) (p2 : Int32) (u : k_S) : Option (Int32 × k_S) :=
  k_bind (f_Wheels_has p1 u) (fun r2 u1 => if r2 = 0 then some (0, u1) else if p2 < 0 then some (0, u1) else k_ck (p1) 4 (if (u1.2.1 5 (p1).toNatClampNeg) ≤ p2 then some (0, u1) else some (1, u1)))
def f_Wheels_letterAt  (p1 : Int32) (p2 : Int32) (u : k_S) : Option (Int32 × k_S) :=
  k_let ((40 * p1) + p2) (fun t1 => if t1 < 0 then some (0, u) else if 160 ≤ t1 then some (0, u) else k_ck (t1) 160 (some (u.2.1 4 (t1).toNatClampNeg, u)))
def f_W_tooth  (p1 : Int32) (p2 : Int32) (p3 : Int32) (u : k_S) : Option (Int32 × k_S) :=
  k_bind (f_Wheels_hasPlace p1 p2 u) (fun r2 u1 => if r2 = 0 then some ((-1), u1) else k_bind (f_W_isTooth p3 u1) (fun r4 u3 => if r4 = 0 then some ((-1), u3) else k_bind (f_Wheels_letterAt p1 p2 u3) (fun r6 u5 => k_bind (f_Wheels_setLetter p1 p2 p3 u5) (fun _ u7 => k_bind (f_Changes_add p1 p2 r6 p3 u7) (fun _ u8 => some (r6, u8))))))
def f_R_tooth  (p1 : Int32) (p2 : Int32) (p3 : Int32) (u : k_S) : Option (Int32 × k_S) :=
  k_bind (f_R_isWheel p1 u) (fun r2 u1 => if r2 = 0 then some ((-1), u1) else k_ck (p1) 4 (k_bind (f_R_in p2 0 ((u1.2.1 45 (p1).toNatClampNeg) - 1) u1) (fun r4 u3 => if r4 = 0 then some ((-1), u3) else k_bind (f_R_isTooth p3 u3) (fun r6 u5 => if r6 = 0 then some ((-1), u5) else k_bind (f_R_changes 0 ((40 * p1) + p2) p3 u5) (fun r8 u7 => some (r8, u7))))))
def f_Wheels_sizeOf  (p1 : Int32) (u : k_S) : Option (Int32 × k_S) :=
  if p1 < 0 then some (0, u) else if 4 ≤ p1 then some (0, u) else k_ck (p1) 4 (some (u.2.1 5 (p1).toNatClampNeg, u))
def f_Now_placeOf  (p1 : Int32) (u : k_S) : Option (Int32 × k_S) :=
  if p1 < 0 then some (0, u) else if 4 ≤ p1 then some (0, u) else k_ck (p1) 4 (some (u.2.1 15 (p1).toNatClampNeg, u))
def f_Now_waitsOf  (p1 : Int32) (u : k_S) : Option (Int32 × k_S) :=
  if p1 < 0 then some (0, u) else if 4 ≤ p1 then some (0, u) else k_ck (p1) 4 (some (u.2.1 16 (p1).toNatClampNeg, u))
def f_W_of  (p1 : Int32) (p2 : Int32) (u : k_S) : Option (Int32 × k_S) :=
  k_bind (f_Wheels_has p1 u) (fun r2 u1 => if r2 = 0 then some ((-1), u1) else if p2 = 0 then k_bind (f_Wheels_sizeOf p1 u1) (fun r4 u3 => some (r4, u3)) else if p2 = 1 then k_bind (f_Now_placeOf p1 u1) (fun r6 u5 => some (r6, u5)) else if p2 = 2 then k_bind (f_Now_waitsOf p1 u1) (fun r8 u7 => some (r8, u7)) else if p2 = 3 then k_bind (f_Wheels_breakOf p1 u1) (fun r10 u9 => some (r10, u9)) else if p2 < 100 then some ((-1), u1) else k_bind (f_Wheels_hasPlace p1 (p2 - 100) u1) (fun r12 u11 => if r12 = 0 then some ((-1), u11) else k_bind (f_Wheels_letterAt p1 (p2 - 100) u11) (fun r14 u13 => some (r14, u13))))
def f_R_of  (p1 : Int32) (p2 : Int32) (u : k_S) : Option (Int32 × k_S) :=
  k_bind (f_R_isWheel p1 u) (fun r2 u1 => if r2 = 0 then some ((-1), u1) else k_ck (p1) 4 (k_bind (f_R_in p2 100 (99 + (u1.2.1 45 (p1).toNatClampNeg)) u1) (fun r4 u3 => if r4 = 0 then if p2 = 0 then k_ck (p1) 4 (some (u3.2.1 45 (p1).toNatClampNeg, u3)) else if p2 = 1 then k_ck (p1) 4 (some (u3.2.1 46 (p1).toNatClampNeg, u3)) else if p2 = 2 then k_ck (p1) 4 (some (u3.2.1 47 (p1).toNatClampNeg, u3)) else if p2 = 3 then k_ck (p1) 4 (some (u3.2.1 48 (p1).toNatClampNeg, u3)) else some ((-1), u3) else k_ck (((40 * p1) + p2) - 100) 160 (some (u3.2.1 44 (((40 * p1) + p2) - 100).toNatClampNeg, u3)))))
def f_Now_stand  (p1 : Int32) (p2 : Int32) (p3 : Int32) (u : k_S) : Option (Unit × k_S) :=
  if p1 < 0 then some ((), u) else if 4 ≤ p1 then some ((), u) else if p1 < 4 then k_ck (p1) 4 (k_let (k_wA u 15 (p1).toNatClampNeg (p2)) (fun u1 => k_ck (p1) 4 (k_let (k_wA u1 16 (p1).toNatClampNeg (p3)) (fun u2 => some ((), u2))))) else some ((), u)
def f_W_left  (p0 : Int32) (p1 : Int32) (u : k_S) : Option (Int32 × k_S) :=
  if p1 = 0 then some (0, u) else k_nz (p1) (some (p0 % p1, u))
def f_Law_pop   (u : k_S) : Option (Int32 × k_S) :=
  if (u.1 704) ≤ 0 then some (0, u) else if (u.1 704) ≤ 128 then k_let (k_wF u 704 ((u.1 704) - 1)) (fun u1 => k_ck (u1.1 704) 128 (some (u1.2.1 9 (u1.1 704).toNatClampNeg, u1))) else some (0, u)
def f_Law_resultOf  (p1 : Int32) (p2 : Int32) (p3 : Int32) (p4 : Int32) (u : k_S) : Option (Int32 × k_S) :=
  if p1 = (-122) then some (((((p2 * 1103515245) + (u.1 705)).toUInt32 >>> ((8 : Int32).toUInt32 &&& Int32.toUInt32 31)).toInt32) % 10, u) else if p1 = (-116) then some (p2, u) else if p1 = (-112) then some (p3, u) else if p1 = (-107) then some (p4, u) else if p1 = (-33) then k_bind (f_Law_pop  u) (fun r2 u1 => if r2 = 0 then some (1, u1) else some (0, u1)) else if p1 = (-1) then k_bind (f_Law_pop  u) (fun r4 u3 => some (-r4, u3)) else k_bind (f_Law_pop  u) (fun r6 u5 => k_bind (f_Law_pop  u5) (fun r8 u7 => if p1 = (-124) then if r8 = 0 then if r6 = 0 then some (0, u7) else some (1, u7) else some (1, u7) else if p1 = (-62) then if r8 ≤ r6 then some (0, u7) else some (1, u7) else if p1 = (-61) then if r8 = r6 then some (1, u7) else some (0, u7) else if p1 = (-60) then if r6 ≤ r8 then some (0, u7) else some (1, u7) else if p1 = (-47) then if r6 = 0 then some (0, u7) else k_nz (r6) (some (r8 / r6, u7)) else if p1 = (-45) then some (r8 - r6, u7) else if p1 = (-43) then some (r8 + r6, u7) else if p1 = (-42) then some (r8 * r6, u7) else if p1 = (-38) then if r8 = 0 then some (0, u7) else if r6 = 0 then some (0, u7) else some (1, u7) else if p1 = (-37) then k_bind (f_W_left r8 r6 u7) (fun r10 u9 => some (r10, u9)) else some (0, u7)))
def f_Law_push  (p1 : Int32) (u : k_S) : Option (Unit × k_S) :=
  if (u.1 704) < 0 then some ((), u) else if (u.1 704) < 128 then k_ck (u.1 704) 128 (k_let (k_wA u 9 (u.1 704).toNatClampNeg (p1)) (fun u1 => k_let (k_wF u1 704 ((u1.1 704) + 1)) (fun u2 => some ((), u2)))) else some ((), u)
def f_J_max  (p0 : Int32) (p1 : Int32) (u : k_S) : Option (Int32 × k_S) :=
  if p0 < p1 then some (p1, u) else some (p0, u)
def f_Law_valueAt_B8  (v1 : Int32) (v2 : Int32) (v3 : Int32) (v4 : Int32) (u : k_S) : Option (((Int32) ⊕ (Int32 ⊕ Unit)) × k_S) :=
  if (u.1 703) ≤ v4 then some (.inr (.inl 0), u) else if 128 ≤ v4 then some (.inr (.inl 0), u) else k_ck (v4) 128 (k_let (u.2.1 8 (v4).toNatClampNeg) (fun t2 => if t2 = (-59) then some (.inr (.inr ()), u) else if t2 < 10000 then if t2 < 0 then k_bind (f_Law_resultOf t2 v1 v2 v3 u) (fun r4 u3 => k_bind (f_Law_push r4 u3) (fun _ u5 => some (.inl (v4 + Int32.ofInt 1), u5))) else k_bind (f_Law_push t2 u) (fun _ u6 => some (.inl (v4 + Int32.ofInt 1), u6)) else k_bind (f_Law_pop  u) (fun r8 u7 => if r8 = 0 then k_bind (f_J_max v4 ((t2 - 10000) - 1) u7) (fun r10 u9 => some (.inl (r10 + Int32.ofInt 1), u9)) else some (.inl (v4 + Int32.ofInt 1), u7))))
def f_Law_valueAt  (p1 : Int32) (p2 : Int32) (p3 : Int32) (u : k_S) : Option (Int32 × k_S) :=
  k_let (k_wF u 704 (0)) (fun u1 => k_bind (k_itr (fun (x : (Int32)) u => f_Law_valueAt_B8  p1 p2 p3 x u) k_FU 0 u1) (fun y12 u11 => k_cs y12 (fun r15 => some (r15, u11)) (fun y12 => k_bind (f_Law_pop  u11) (fun r14 u13 => some (r14, u13)))))
def f_Nights_pushed_Now_J209  (v4 : Int32) (v8 : Int32) (s1 : Int32) (s2 : Int32) (u : k_S) : Option (Int32 × k_S) :=
  k_bind (f_Now_stand s1 s2 v4 u) (fun _ u9 => k_zb v8 (some (v8, u9)))
def f_Nights_pushed_Now_J184  (v2 : Int32) (v3 : Int32) (v4 : Int32) (v6 : Int32) (v7 : Int32) (s0 : Int32) (u : k_S) : Option (Int32 × k_S) :=
  if s0 = 0 then f_Nights_pushed_Now_J209  v4 s0 v2 (v3 + v6) u else k_bind (f_W_left (v3 + v6) v7 u) (fun r11 u10 => f_Nights_pushed_Now_J209  v4 s0 v2 r11 u10)
def f_Nights_pushed_Now_J160  (v2 : Int32) (v3 : Int32) (v4 : Int32) (v6 : Int32) (u : k_S) : Option (Int32 × k_S) :=
  k_bind (f_Wheels_sizeOf v2 u) (fun r8 u7 => if (v3 + v6) < r8 then f_Nights_pushed_Now_J184  v2 v3 v4 v6 r8 0 u7 else f_Nights_pushed_Now_J184  v2 v3 v4 v6 r8 1 u7)
def f_Nights_pushed_Now_J158  (v2 : Int32) (v3 : Int32) (v6 : Int32) (s0 : Int32) (u : k_S) : Option (Int32 × k_S) :=
  f_Nights_pushed_Now_J160  v2 v3 s0 v6 u
def f_Nights_pushed_Now_J143  (v2 : Int32) (v3 : Int32) (v4 : Int32) (s0 : Int32) (u : k_S) : Option (Int32 × k_S) :=
  if s0 = 0 then f_Nights_pushed_Now_J158  v2 v3 s0 (v4 + 1) u else f_Nights_pushed_Now_J158  v2 v3 s0 0 u
def f_Nights_pushed_Now_J68  (v2 : Int32) (v3 : Int32) (v4 : Int32) (s0 : Int32) (u : k_S) : Option (Int32 × k_S) :=
  f_Nights_pushed_Now_J160  v2 v3 v4 s0 u
def f_Nights_pushed_Now  (p2 : Int32) (u : k_S) : Option (Int32 × k_S) :=
  k_bind (f_Now_placeOf p2 u) (fun r2 u1 => k_bind (f_Now_waitsOf p2 u1) (fun r4 u3 => k_bind (f_Wheels_letterAt p2 r2 u3) (fun r6 u5 => if r6 = 115 then f_Nights_pushed_Now_J160  p2 r2 r4 2 u5 else if r6 = 102 then k_bind (f_Law_valueAt (u5.1 1402) r2 p2 u5) (fun r16 u15 => if r16 = 0 then f_Nights_pushed_Now_J68  p2 r2 r4 1 u15 else f_Nights_pushed_Now_J68  p2 r2 r4 0 u15) else if r6 = 98 then k_bind (f_Wheels_breakOf p2 u5) (fun r13 u12 => if (u5.1 1402) < r13 then f_Nights_pushed_Now_J160  p2 r2 r4 1 u12 else if p2 = 0 then if (u12.1 1206) = (-1) then k_let (k_wF u12 1206 (u12.1 1402)) (fun u14 => f_Nights_pushed_Now_J160  p2 r2 r4 2 u14) else f_Nights_pushed_Now_J160  p2 r2 r4 2 u12 else f_Nights_pushed_Now_J160  p2 r2 r4 2 u12) else if r6 = 119 then f_Nights_pushed_Now_J160  p2 r2 r4 1 u5 else if (r6 - 48) ≤ r4 then f_Nights_pushed_Now_J143  p2 r2 r4 1 u5 else f_Nights_pushed_Now_J143  p2 r2 r4 0 u5)))
def f_Nights_pass_Now_B25  (v2 : Int32) (v3 : Int32) (v4 : Int32) (v5 : Int32) (v6 : Int32) (u : k_S) : Option (((Int32 × Int32) ⊕ Unit) × k_S) :=
  if v5 = 0 then some (.inr (), u) else if v3 ≤ v6 then some (.inr (), u) else if (u.1 303) ≤ v6 then some (.inr (), u) else k_bind (f_Nights_pushed_Now v6 u) (fun r3 u2 => some (.inl (r3, v6 + Int32.ofInt 1), u2))
def f_Nights_pass_Now_B3  (v2 : Int32) (v3 : Int32) (v4 : Int32) (u : k_S) : Option (((Int32) ⊕ Unit) × k_S) :=
  if v2 ≤ v4 then some (.inr (), u) else k_let (k_wF u 1402 ((u.1 1402) + 1)) (fun u1 => k_bind (k_itr (fun (x : (Int32 × Int32)) u => f_Nights_pass_Now_B25  v2 v3 v4 x.1 x.2 u) k_FU (1, 0) u1) (fun y5 u4 => some (.inl (v4 + Int32.ofInt 1), u4)))
def f_Nights_pass_Now  (p2 : Int32) (p3 : Int32) (u : k_S) : Option (Unit × k_S) :=
  k_bind (k_itr (fun (x : (Int32)) u => f_Nights_pass_Now_B3  p2 p3 x u) k_FU 0 u) (fun y7 u6 => some ((), u6))
def f_W_on  (p1 : Int32) (u : k_S) : Option (Int32 × k_S) :=
  if p1 < 1 then some ((-1), u) else if p1 ≤ 2000 then if (u.1 1402) ≤ (1000000 - p1) then k_bind (f_Nights_pass_Now p1 (u.1 303) u) (fun _ u1 => some (u1.1 1402, u1)) else some ((-3), u) else some ((-1), u)
def f_R_twoOf  (p0 : Int32) (p1 : Int32) (p2 : Int32) (u : k_S) : Option (Int32 × k_S) :=
  if p0 = 37 then if p2 = 0 then some (0, u) else if p2 = (-1) then some (0, u) else k_nz (p2) (some (p1 % p2, u)) else if p0 = 38 then if p1 = 0 then some (0, u) else if p2 = 0 then some (0, u) else some (1, u) else if p0 = 39 then if p1 = 0 then if p2 = 0 then some (0, u) else some (1, u) else some (1, u) else if p0 = 40 then if p1 = 0 then if p2 = 0 then some (0, u) else some (1, u) else some (1, u) else if p0 = 41 then if p1 = 0 then if p2 = 0 then some (0, u) else some (1, u) else some (1, u) else if p0 = 42 then some (p1 * p2, u) else if p0 = 43 then some (p1 + p2, u) else if p0 = 44 then if p1 = 0 then if p2 = 0 then some (0, u) else some (1, u) else some (1, u) else if p0 = 45 then some (p1 - p2, u) else if p0 = 46 then if p1 = 0 then if p2 = 0 then some (0, u) else some (1, u) else some (1, u) else if p0 = 47 then if p2 = 0 then some (0, u) else if p2 = (-1) then some (-p1, u) else k_nz (p2) (some (p1 / p2, u)) else if p0 = 48 then if p1 = 0 then if p2 = 0 then some (0, u) else some (1, u) else some (1, u) else if p0 = 49 then if p1 = 0 then if p2 = 0 then some (0, u) else some (1, u) else some (1, u) else if p0 = 50 then if p1 = 0 then if p2 = 0 then some (0, u) else some (1, u) else some (1, u) else if p0 = 51 then if p1 = 0 then if p2 = 0 then some (0, u) else some (1, u) else some (1, u) else if p0 = 52 then if p1 = 0 then if p2 = 0 then some (0, u) else some (1, u) else some (1, u) else if p0 = 53 then if p1 = 0 then if p2 = 0 then some (0, u) else some (1, u) else some (1, u) else if p0 = 54 then if p1 = 0 then if p2 = 0 then some (0, u) else some (1, u) else some (1, u) else if p0 = 55 then if p1 = 0 then if p2 = 0 then some (0, u) else some (1, u) else some (1, u) else if p0 = 56 then if p1 = 0 then if p2 = 0 then some (0, u) else some (1, u) else some (1, u) else if p0 = 57 then if p1 = 0 then if p2 = 0 then some (0, u) else some (1, u) else some (1, u) else if p0 = 58 then if p1 = 0 then if p2 = 0 then some (0, u) else some (1, u) else some (1, u) else if p0 = 59 then if p1 = 0 then if p2 = 0 then some (0, u) else some (1, u) else some (1, u) else if p0 = 60 then if p2 ≤ p1 then some (0, u) else some (1, u) else if p0 = 61 then if p1 = p2 then some (1, u) else some (0, u) else if p0 = 62 then if p1 ≤ p2 then some (0, u) else some (1, u) else if p1 = 0 then if p2 = 0 then some (0, u) else some (1, u) else some (1, u)
def f_R_worked_J45  (v1 : Int32) (v3 : Int32) (v4 : Int32) (v5 : Int32) (v6 : Int32) (u : k_S) : Option (((Int32 × Int32) ⊕ Unit) × k_S) :=
  if v6 = 1 then k_ck (v5) 260 (k_ck (v4) 130 (k_let (k_wA u 55 (v4).toNatClampNeg (u.2.1 50 (v5).toNatClampNeg)) (fun u4 => some (.inl (v4 + Int32.ofInt 1, v5 + Int32.ofInt 1), u4)))) else k_ck (v5) 260 (k_ck (u.2.1 50 (v5).toNatClampNeg) 4 (k_ck (v4) 130 (k_let (k_wA u 55 (v4).toNatClampNeg (u.2.1 54 (u.2.1 50 (v5).toNatClampNeg).toNatClampNeg)) (fun u3 => some (.inl (v4 + Int32.ofInt 1, v5 + Int32.ofInt 1), u3)))))
def f_R_worked_B12  (v1 : Int32) (v3 : Int32) (v4 : Int32) (v5 : Int32) (u : k_S) : Option (((Int32 × Int32) ⊕ Unit) × k_S) :=
  if ((130 * v1) + v3) ≤ v5 then some (.inr (), u) else k_ck (v5) 260 (k_let (u.2.1 49 (v5).toNatClampNeg) (fun t2 => if t2 = 1 then f_R_worked_J45  v1 v3 v4 v5 t2 u else if t2 = 2 then f_R_worked_J45  v1 v3 v4 v5 t2 u else if t2 = 3 then k_ck (v4 - 1) 130 (if (u.2.1 55 (v4 - 1).toNatClampNeg) = 0 then k_ck (v4 - 1) 130 (k_let (k_wA u 55 (v4 - 1).toNatClampNeg (1)) (fun u10 => some (.inl (v4, v5 + Int32.ofInt 1), u10))) else k_ck (v4 - 1) 130 (k_let (k_wA u 55 (v4 - 1).toNatClampNeg (0)) (fun u9 => some (.inl (v4, v5 + Int32.ofInt 1), u9)))) else if t2 = 4 then k_ck (v4 - 1) 130 (k_ck (v4 - 1) 130 (k_let (k_wA u 55 (v4 - 1).toNatClampNeg (-(u.2.1 55 (v4 - 1).toNatClampNeg))) (fun u8 => some (.inl (v4, v5 + Int32.ofInt 1), u8)))) else k_ck ((v4 + Int32.ofInt (-1)) - 1) 130 (k_ck (v4 + Int32.ofInt (-1)) 130 (k_bind (f_R_twoOf t2 (u.2.1 55 ((v4 + Int32.ofInt (-1)) - 1).toNatClampNeg) (u.2.1 55 (v4 + Int32.ofInt (-1)).toNatClampNeg) u) (fun r6 u5 => k_ck ((v4 + Int32.ofInt (-1)) - 1) 130 (k_let (k_wA u5 55 ((v4 + Int32.ofInt (-1)) - 1).toNatClampNeg (r6)) (fun u7 => some (.inl (v4 + Int32.ofInt (-1), v5 + Int32.ofInt 1), u7))))))))
def f_R_worked  (p1 : Int32) (p2 : Int32) (p3 : Int32) (u : k_S) : Option (Int32 × k_S) :=
  k_let ((130 * p1) + p2) (fun t1 => k_bind (k_itr (fun (x : (Int32 × Int32)) u => f_R_worked_B12  p1 p3 x.1 x.2 u) k_FU (0, t1) u) (fun y12 u11 => k_ck (0) 130 (some (u11.2.1 55 (0 : Int32).toNatClampNeg, u11))))
def f_R_gives_B7  (v1 : Int32) (v2 : Int32) (v3 : Int32) (u : k_S) : Option (((Int32 × Int32) ⊕ (Int32 ⊕ (Int32))) × k_S) :=
  k_ck (v1) 2 (if ((61 * v1) + (u.2.1 51 (v1).toNatClampNeg)) ≤ v3 then some (.inr (.inl 0), u) else k_ck (v3) 122 (if (u.2.1 52 (v3).toNatClampNeg) = v2 then some (.inr (.inr v3), u) else k_ck (v3) 122 (k_bind (f_R_worked v1 v2 (u.2.1 52 (v3).toNatClampNeg) u) (fun r3 u2 => if r3 = 0 then k_ck (v3) 122 (k_let (u2.2.1 53 (v3).toNatClampNeg) (fun t4 => some (.inl (t4, v3 + Int32.ofInt 1), u2))) else some (.inr (.inr v3), u2)))))
def f_R_gives_J47  (v1 : Int32) (v3 : Int32) (u : k_S) : Option (Int32 × k_S) :=
  k_ck (v3) 122 (k_ck (v3) 122 (k_bind (f_R_worked v1 (u.2.1 52 (v3).toNatClampNeg) (u.2.1 53 (v3).toNatClampNeg) u) (fun r8 u7 => some (r8, u7))))
def f_R_gives  (p1 : Int32) (u : k_S) : Option (Int32 × k_S) :=
  k_let (61 * p1) (fun t1 => k_bind (k_itr (fun (x : (Int32 × Int32)) u => f_R_gives_B7  p1 x.1 x.2 u) k_FU (0, t1) u) (fun y6 u5 => k_cs y6 (fun r9 => some (r9, u5)) (fun y6 => f_R_gives_J47  p1 y6 u5)))
def f_R_isCold  (p1 : Int32) (u : k_S) : Option (Int32 × k_S) :=
  if (u.1 4223) = 0 then some (0, u) else k_ck (0) 4 (k_let (k_wA u 54 (0 : Int32).toNatClampNeg (u.1 4209)) (fun u1 => k_ck (p1) 4 (k_ck (1) 4 (k_let (k_wA u1 54 (1 : Int32).toNatClampNeg (u1.2.1 46 (p1).toNatClampNeg)) (fun u2 => k_ck (2) 4 (k_let (k_wA u2 54 (2 : Int32).toNatClampNeg (p1)) (fun u3 => k_ck (3) 4 (k_let (k_wA u3 54 (3 : Int32).toNatClampNeg ((((((u3.1 4209) * 1103515245) + (u3.1 4211)).toUInt32 >>> ((8 : Int32).toUInt32 &&& Int32.toUInt32 31)).toInt32) % 10)) (fun u4 => k_bind (f_R_gives 0 u4) (fun r6 u5 => if r6 = 0 then some (0, u5) else some (1, u5)))))))))))
def f_R_step  (p1 : Int32) (u : k_S) : Option (Int32 × k_S) :=
  k_ck (p1) 4 (k_ck ((40 * p1) + (u.2.1 46 (p1).toNatClampNeg)) 160 (k_let (u.2.1 44 ((40 * p1) + (u.2.1 46 (p1).toNatClampNeg)).toNatClampNeg) (fun t1 => if t1 = 98 then k_ck (p1) 4 (if (u.2.1 48 (p1).toNatClampNeg) ≤ (u.1 4209) then some (2, u) else some (1, u)) else if t1 = 102 then k_bind (f_R_isCold p1 u) (fun r3 u2 => if r3 = 0 then some (1, u2) else some (0, u2)) else if t1 = 115 then some (2, u) else if t1 = 119 then some (1, u) else k_ck (p1) 4 (if (t1 - 48) ≤ (u.2.1 47 (p1).toNatClampNeg) then k_ck (p1) 4 (k_let (k_wA u 47 (p1).toNatClampNeg (0)) (fun u4 => some (1, u4))) else k_ck (p1) 4 (k_ck (p1) 4 (k_let (k_wA u 47 (p1).toNatClampNeg ((u.2.1 47 (p1).toNatClampNeg) + 1)) (fun u5 => some (0, u5))))))))
def f_R_goOn_J70  (v1 : Int32) (v3 : Int32) (s1 : Int32) (s2 : Int32) (u : k_S) : Option (((Int32) ⊕ Unit) × k_S) :=
  k_ck (s1) 4 (k_let (k_wA u 46 (s1).toNatClampNeg (s2)) (fun u5 => if v3 = 0 then k_let (u5.1 4203) (fun t6 => some (.inl t6, u5)) else k_let (v1 + 1) (fun t7 => some (.inl t7, u5))))
def f_R_goOn_J48  (v1 : Int32) (v2 : Int32) (s0 : Int32) (u : k_S) : Option (((Int32) ⊕ Unit) × k_S) :=
  if s0 = 0 then f_R_goOn_J70  v1 s0 v1 v2 u else k_ck (v1) 4 (f_R_goOn_J70  v1 s0 v1 (v2 - (u.2.1 45 (v1).toNatClampNeg)) u)
def f_R_goOn_B12  (v1 : Int32) (u : k_S) : Option (((Int32) ⊕ Unit) × k_S) :=
  if (u.1 4203) ≤ v1 then some (.inr (), u) else k_ck (v1) 4 (k_bind (f_R_step v1 u) (fun r3 u2 => k_let ((u.2.1 46 (v1).toNatClampNeg) + r3) (fun t4 => k_ck (v1) 4 (if t4 < (u2.2.1 45 (v1).toNatClampNeg) then f_R_goOn_J48  v1 t4 0 u2 else f_R_goOn_J48  v1 t4 1 u2))))
def f_R_goOn   (u : k_S) : Option (Unit × k_S) :=
  k_let (k_wF u 4209 ((u.1 4209) + 1)) (fun u1 => k_bind (k_itr (fun (x : (Int32)) u => f_R_goOn_B12  x u) k_FU 0 u1) (fun y9 u8 => some ((), u8)))
def f_R_on_B29  (v1 : Int32) (v2 : Int32) (u : k_S) : Option (((Int32) ⊕ Unit) × k_S) :=
  if v1 ≤ v2 then some (.inr (), u) else k_bind (f_R_goOn  u) (fun _ u3 => some (.inl (v2 + Int32.ofInt 1), u3))
def f_R_on  (p1 : Int32) (u : k_S) : Option (Int32 × k_S) :=
  k_bind (f_R_in p1 1 2000 u) (fun r2 u1 => if r2 = 0 then some ((-1), u1) else if ((u1.1 4209) + p1) ≤ 1000000 then k_bind (k_itr (fun (x : (Int32)) u => f_R_on_B29  p1 x u) k_FU 0 u1) (fun y5 u4 => some (u4.1 4209, u4)) else some ((-3), u1))
def f_W_lay  (p1 : Int32) (p2 : Int32) (u : k_S) : Option (Int32 × k_S) :=
  k_bind (f_Wheels_hasPlace p1 p2 u) (fun r2 u1 => if r2 = 0 then some ((-1), u1) else k_bind (f_Now_placeOf p1 u1) (fun r4 u3 => k_bind (f_Now_stand p1 p2 0 u3) (fun _ u5 => some (r4, u5))))
def f_R_lay  (p1 : Int32) (p2 : Int32) (u : k_S) : Option (Int32 × k_S) :=
  k_bind (f_R_isWheel p1 u) (fun r2 u1 => if r2 = 0 then some ((-1), u1) else k_ck (p1) 4 (k_bind (f_R_in p2 0 ((u1.2.1 45 (p1).toNatClampNeg) - 1) u1) (fun r4 u3 => if r4 = 0 then some ((-1), u3) else k_ck (p1) 4 (k_let (u3.2.1 46 (p1).toNatClampNeg) (fun t5 => k_ck (p1) 4 (k_let (k_wA u3 46 (p1).toNatClampNeg (p2)) (fun u6 => k_ck (p1) 4 (k_let (k_wA u6 47 (p1).toNatClampNeg (0)) (fun u7 => some (t5, u7))))))))))
def f_Thought_stand  (p1 : Int32) (p2 : Int32) (p3 : Int32) (u : k_S) : Option (Unit × k_S) :=
  if p1 < 0 then some ((), u) else if 4 ≤ p1 then some ((), u) else if p1 < 4 then k_ck (p1) 4 (k_let (k_wA u 18 (p1).toNatClampNeg (p2)) (fun u1 => k_ck (p1) 4 (k_let (k_wA u1 19 (p1).toNatClampNeg (p3)) (fun u2 => some ((), u2))))) else some ((), u)
def f_Thought_become_Now_B10  (v2 : Int32) (v3 : Int32) (u : k_S) : Option (((Int32) ⊕ Unit) × k_S) :=
  if v2 ≤ v3 then some (.inr (), u) else if 4 ≤ v3 then some (.inr (), u) else k_bind (f_Now_placeOf v3 u) (fun r3 u2 => k_bind (f_Now_waitsOf v3 u2) (fun r5 u4 => k_bind (f_Thought_stand v3 r3 r5 u4) (fun _ u6 => some (.inl (v3 + Int32.ofInt 1), u6))))
def f_Thought_become_Now  (p2 : Int32) (u : k_S) : Option (Unit × k_S) :=
  k_let (k_wF u 1702 (u.1 1402)) (fun u1 => k_bind (k_itr (fun (x : (Int32)) u => f_Thought_become_Now_B10  p2 x u) k_FU 0 u1) (fun y8 u7 => some ((), u7)))
def f_Nights_think   (u : k_S) : Option (Unit × k_S) :=
  k_bind (f_Thought_become_Now (u.1 303) u) (fun _ u1 => some ((), u1))
def f_Thought_placeOf  (p1 : Int32) (u : k_S) : Option (Int32 × k_S) :=
  if p1 < 0 then some (0, u) else if 4 ≤ p1 then some (0, u) else k_ck (p1) 4 (some (u.2.1 18 (p1).toNatClampNeg, u))
def f_Thought_waitsOf  (p1 : Int32) (u : k_S) : Option (Int32 × k_S) :=
  if p1 < 0 then some (0, u) else if 4 ≤ p1 then some (0, u) else k_ck (p1) 4 (some (u.2.1 19 (p1).toNatClampNeg, u))
def f_Nights_pushed_Thought_J209  (v4 : Int32) (v8 : Int32) (s1 : Int32) (s2 : Int32) (u : k_S) : Option (Int32 × k_S) :=
  k_bind (f_Thought_stand s1 s2 v4 u) (fun _ u9 => k_zb v8 (some (v8, u9)))
def f_Nights_pushed_Thought_J184  (v2 : Int32) (v3 : Int32) (v4 : Int32) (v6 : Int32) (v7 : Int32) (s0 : Int32) (u : k_S) : Option (Int32 × k_S) :=
  if s0 = 0 then f_Nights_pushed_Thought_J209  v4 s0 v2 (v3 + v6) u else k_bind (f_W_left (v3 + v6) v7 u) (fun r11 u10 => f_Nights_pushed_Thought_J209  v4 s0 v2 r11 u10)
def f_Nights_pushed_Thought_J160  (v2 : Int32) (v3 : Int32) (v4 : Int32) (v6 : Int32) (u : k_S) : Option (Int32 × k_S) :=
  k_bind (f_Wheels_sizeOf v2 u) (fun r8 u7 => if (v3 + v6) < r8 then f_Nights_pushed_Thought_J184  v2 v3 v4 v6 r8 0 u7 else f_Nights_pushed_Thought_J184  v2 v3 v4 v6 r8 1 u7)
def f_Nights_pushed_Thought_J158  (v2 : Int32) (v3 : Int32) (v6 : Int32) (s0 : Int32) (u : k_S) : Option (Int32 × k_S) :=
  f_Nights_pushed_Thought_J160  v2 v3 s0 v6 u
def f_Nights_pushed_Thought_J143  (v2 : Int32) (v3 : Int32) (v4 : Int32) (s0 : Int32) (u : k_S) : Option (Int32 × k_S) :=
  if s0 = 0 then f_Nights_pushed_Thought_J158  v2 v3 s0 (v4 + 1) u else f_Nights_pushed_Thought_J158  v2 v3 s0 0 u
def f_Nights_pushed_Thought_J68  (v2 : Int32) (v3 : Int32) (v4 : Int32) (s0 : Int32) (u : k_S) : Option (Int32 × k_S) :=
  f_Nights_pushed_Thought_J160  v2 v3 v4 s0 u
def f_Nights_pushed_Thought  (p2 : Int32) (u : k_S) : Option (Int32 × k_S) :=
  k_bind (f_Thought_placeOf p2 u) (fun r2 u1 => k_bind (f_Thought_waitsOf p2 u1) (fun r4 u3 => k_bind (f_Wheels_letterAt p2 r2 u3) (fun r6 u5 => if r6 = 115 then f_Nights_pushed_Thought_J160  p2 r2 r4 2 u5 else if r6 = 102 then k_bind (f_Law_valueAt (u5.1 1702) r2 p2 u5) (fun r16 u15 => if r16 = 0 then f_Nights_pushed_Thought_J68  p2 r2 r4 1 u15 else f_Nights_pushed_Thought_J68  p2 r2 r4 0 u15) else if r6 = 98 then k_bind (f_Wheels_breakOf p2 u5) (fun r13 u12 => if (u5.1 1702) < r13 then f_Nights_pushed_Thought_J160  p2 r2 r4 1 u12 else if p2 = 0 then if (u12.1 1206) = (-1) then k_let (k_wF u12 1206 (u12.1 1702)) (fun u14 => f_Nights_pushed_Thought_J160  p2 r2 r4 2 u14) else f_Nights_pushed_Thought_J160  p2 r2 r4 2 u12 else f_Nights_pushed_Thought_J160  p2 r2 r4 2 u12) else if r6 = 119 then f_Nights_pushed_Thought_J160  p2 r2 r4 1 u5 else if (r6 - 48) ≤ r4 then f_Nights_pushed_Thought_J143  p2 r2 r4 1 u5 else f_Nights_pushed_Thought_J143  p2 r2 r4 0 u5)))
def f_Nights_pass_Thought_B25  (v2 : Int32) (v3 : Int32) (v4 : Int32) (v5 : Int32) (v6 : Int32) (u : k_S) : Option (((Int32 × Int32) ⊕ Unit) × k_S) :=
  if v5 = 0 then some (.inr (), u) else if v3 ≤ v6 then some (.inr (), u) else if (u.1 303) ≤ v6 then some (.inr (), u) else k_bind (f_Nights_pushed_Thought v6 u) (fun r3 u2 => some (.inl (r3, v6 + Int32.ofInt 1), u2))
def f_Nights_pass_Thought_B3  (v2 : Int32) (v3 : Int32) (v4 : Int32) (u : k_S) : Option (((Int32) ⊕ Unit) × k_S) :=
  if v2 ≤ v4 then some (.inr (), u) else k_let (k_wF u 1702 ((u.1 1702) + 1)) (fun u1 => k_bind (k_itr (fun (x : (Int32 × Int32)) u => f_Nights_pass_Thought_B25  v2 v3 v4 x.1 x.2 u) k_FU (1, 0) u1) (fun y5 u4 => some (.inl (v4 + Int32.ofInt 1), u4)))
def f_Nights_pass_Thought  (p2 : Int32) (p3 : Int32) (u : k_S) : Option (Unit × k_S) :=
  k_bind (k_itr (fun (x : (Int32)) u => f_Nights_pass_Thought_B3  p2 p3 x u) k_FU 0 u) (fun y7 u6 => some ((), u6))
def f_W_shows  (p1 : Int32) (p2 : Int32) (u : k_S) : Option (Int32 × k_S) :=
  k_bind (f_Wheels_has p1 u) (fun r2 u1 => if r2 = 0 then some ((-1), u1) else if p2 < 0 then some ((-1), u1) else if p2 ≤ 20000 then k_bind (f_Nights_think  u1) (fun _ u3 => k_bind (f_Nights_pass_Thought p2 (p1 + 1) u3) (fun _ u4 => k_bind (f_Thought_placeOf p1 u4) (fun r6 u5 => some (r6, u5)))) else some ((-1), u1))
def f_R_keepNow_B10  (v1 : Int32) (u : k_S) : Option (((Int32) ⊕ Unit) × k_S) :=
  if 4 ≤ v1 then some (.inr (), u) else k_ck (v1) 4 (k_ck (v1) 4 (k_let (k_wA u 60 (v1).toNatClampNeg (u.2.1 46 (v1).toNatClampNeg)) (fun u2 => k_ck (v1) 4 (k_ck (v1) 4 (k_let (k_wA u2 61 (v1).toNatClampNeg (u2.2.1 47 (v1).toNatClampNeg)) (fun u3 => some (.inl (v1 + Int32.ofInt 1), u3)))))))
def f_R_keepNow   (u : k_S) : Option (Unit × k_S) :=
  k_let (k_wF u 4230 (u.1 4209)) (fun u1 => k_bind (k_itr (fun (x : (Int32)) u => f_R_keepNow_B10  x u) k_FU 0 u1) (fun y5 u4 => some ((), u4)))
def f_R_layBack_B10  (v1 : Int32) (u : k_S) : Option (((Int32) ⊕ Unit) × k_S) :=
  if 4 ≤ v1 then some (.inr (), u) else k_ck (v1) 4 (k_ck (v1) 4 (k_let (k_wA u 46 (v1).toNatClampNeg (u.2.1 60 (v1).toNatClampNeg)) (fun u2 => k_ck (v1) 4 (k_ck (v1) 4 (k_let (k_wA u2 47 (v1).toNatClampNeg (u2.2.1 61 (v1).toNatClampNeg)) (fun u3 => some (.inl (v1 + Int32.ofInt 1), u3)))))))
def f_R_layBack   (u : k_S) : Option (Unit × k_S) :=
  k_let (k_wF u 4209 (u.1 4230)) (fun u1 => k_bind (k_itr (fun (x : (Int32)) u => f_R_layBack_B10  x u) k_FU 0 u1) (fun y5 u4 => some ((), u4)))
def f_R_shows_B27  (v1 : Int32) (v2 : Int32) (v3 : Int32) (u : k_S) : Option (((Int32) ⊕ Unit) × k_S) :=
  if v2 ≤ v3 then some (.inr (), u) else k_bind (f_R_goOn  u) (fun _ u6 => some (.inl (v3 + Int32.ofInt 1), u6))
def f_R_shows  (p1 : Int32) (p2 : Int32) (u : k_S) : Option (Int32 × k_S) :=
  k_bind (f_R_isWheel p1 u) (fun r2 u1 => if r2 = 0 then some ((-1), u1) else k_bind (f_R_in p2 0 20000 u1) (fun r4 u3 => if r4 = 0 then some ((-1), u3) else k_bind (f_R_keepNow  u3) (fun _ u5 => k_bind (k_itr (fun (x : (Int32)) u => f_R_shows_B27  p1 p2 x u) k_FU 0 u5) (fun y8 u7 => k_ck (p1) 4 (k_let (u7.2.1 46 (p1).toNatClampNeg) (fun t9 => k_bind (f_R_layBack  u7) (fun _ u10 => some (t9, u10))))))))
def f_Nights_dayOf  (p1 : Int32) (u : k_S) : Option (Int32 × k_S) :=
  k_bind (f_W_left p1 (u.1 1205) u) (fun r2 u1 => some (r2, u1))
def f_W_day   (u : k_S) : Option (Int32 × k_S) :=
  if (u.1 303) = 0 then some ((-5), u) else k_bind (f_Now_placeOf 0 u) (fun r2 u1 => k_bind (f_Nights_dayOf r2 u1) (fun r4 u3 => some (r4, u3)))
def f_R_day   (u : k_S) : Option (Int32 × k_S) :=
  if (u.1 4203) = 0 then some ((-5), u) else k_ck (0) 4 (k_nz (u.1 4210) (some ((u.2.1 46 (0 : Int32).toNatClampNeg) % (u.1 4210), u)))
def f_Nights_timesOfDay_B9  (v1 : Int32) (v2 : Int32) (v3 : Int32) (v4 : Int32) (u : k_S) : Option (((Int32 × Int32) ⊕ (Int32)) × k_S) :=
  if v2 ≤ v4 then some (.inr v3, u) else k_bind (f_Nights_pass_Thought 1 1 u) (fun _ u2 => k_bind (f_Thought_placeOf 0 u2) (fun r4 u3 => k_bind (f_Nights_dayOf r4 u3) (fun r6 u5 => if r6 = v1 then some (.inl (v3 + Int32.ofInt 1, v4 + Int32.ofInt 1), u5) else some (.inl (v3, v4 + Int32.ofInt 1), u5))))
def f_Nights_timesOfDay  (p1 : Int32) (p2 : Int32) (u : k_S) : Option (Int32 × k_S) :=
  k_bind (f_Nights_think  u) (fun _ u1 => k_bind (k_itr (fun (x : (Int32 × Int32)) u => f_Nights_timesOfDay_B9  p1 p2 x.1 x.2 u) k_FU (0, 0) u1) (fun y8 u7 => some (y8, u7)))
def f_W_often  (p1 : Int32) (p2 : Int32) (u : k_S) : Option (Int32 × k_S) :=
  if p2 < 1 then some ((-1), u) else if 2000 < p2 then some ((-1), u) else if p1 < 0 then some ((-1), u) else if p1 < (u.1 1205) then if (u.1 303) = 0 then some ((-5), u) else k_bind (f_Nights_timesOfDay p1 p2 u) (fun r2 u1 => some (r2, u1)) else some ((-1), u)
def f_R_often_B46  (v1 : Int32) (v2 : Int32) (v3 : Int32) (v4 : Int32) (u : k_S) : Option (((Int32 × Int32) ⊕ (Int32)) × k_S) :=
  if v2 ≤ v4 then some (.inr v3, u) else k_bind (f_R_goOn  u) (fun _ u6 => k_ck (0) 4 (k_nz (u6.1 4210) (if ((u6.2.1 46 (0 : Int32).toNatClampNeg) % (u6.1 4210)) = v1 then some (.inl (v3 + Int32.ofInt 1, v4 + Int32.ofInt 1), u6) else some (.inl (v3, v4 + Int32.ofInt 1), u6))))
def f_R_often  (p1 : Int32) (p2 : Int32) (u : k_S) : Option (Int32 × k_S) :=
  k_bind (f_R_in p1 0 ((u.1 4210) - 1) u) (fun r2 u1 => if r2 = 0 then some ((-1), u1) else k_bind (f_R_in p2 1 2000 u1) (fun r4 u3 => if r4 = 0 then some ((-1), u3) else if (u3.1 4203) = 0 then some ((-5), u3) else k_bind (f_R_keepNow  u3) (fun _ u5 => k_bind (k_itr (fun (x : (Int32 × Int32)) u => f_R_often_B46  p1 p2 x.1 x.2 u) k_FU (0, 0) u5) (fun y8 u7 => k_bind (f_R_layBack  u7) (fun _ u9 => some (y8, u9))))))
def f_Nights_markShown   (u : k_S) : Option (Unit × k_S) :=
  k_bind (f_Thought_placeOf 0 u) (fun r2 u1 => if r2 < 0 then some ((), u1) else if 40 ≤ r2 then some ((), u1) else k_ck (r2) 40 (k_let (k_wA u1 13 (r2).toNatClampNeg (1)) (fun u3 => some ((), u3))))
def f_Nights_unshown_B2  (v1 : Int32) (v2 : Int32) (v3 : Int32) (u : k_S) : Option (((Int32) ⊕ Unit) × k_S) :=
  if 40 ≤ v3 then some (.inr (), u) else k_ck (v3) 40 (k_let (k_wA u 13 (v3).toNatClampNeg (0)) (fun u1 => some (.inl (v3 + Int32.ofInt 1), u1)))
def f_Nights_unshown_B34  (v1 : Int32) (v2 : Int32) (v3 : Int32) (u : k_S) : Option (((Int32) ⊕ Unit) × k_S) :=
  if v1 ≤ v3 then some (.inr (), u) else k_bind (f_Nights_pass_Thought 1 1 u) (fun _ u6 => k_bind (f_Nights_markShown  u6) (fun _ u7 => some (.inl (v3 + Int32.ofInt 1), u7)))
def f_Nights_unshown_B64  (v2 : Int32) (v3 : Int32) (v4 : Int32) (u : k_S) : Option (((Int32 × Int32) ⊕ (Int32 ⊕ (Int32))) × k_S) :=
  k_bind (f_Wheels_sizeOf 0 u) (fun r11 u10 => if r11 ≤ v4 then some (.inr (.inr v3), u10) else if 40 ≤ v4 then some (.inr (.inr v3), u10) else k_ck (v4) 40 (if (u10.2.1 13 (v4).toNatClampNeg) = 0 then if v2 = 0 then some (.inr (.inl v4), u10) else some (.inl (v3 + Int32.ofInt 1, v4 + Int32.ofInt 1), u10) else some (.inl (v3, v4 + Int32.ofInt 1), u10)))
def f_Nights_unshown_J113  (v2 : Int32) (v3 : Int32) (u : k_S) : Option (Int32 × k_S) :=
  if v2 = 0 then some ((-2), u) else some (v3, u)
def f_Nights_unshown  (p1 : Int32) (p2 : Int32) (u : k_S) : Option (Int32 × k_S) :=
  k_bind (k_itr (fun (x : (Int32)) u => f_Nights_unshown_B2  p1 p2 x u) k_FU 0 u) (fun y3 u2 => k_bind (f_Nights_think  u2) (fun _ u4 => k_bind (f_Nights_markShown  u4) (fun _ u5 => k_bind (k_itr (fun (x : (Int32)) u => f_Nights_unshown_B34  p1 p2 x u) k_FU 0 u5) (fun y9 u8 => k_bind (k_itr (fun (x : (Int32 × Int32)) u => f_Nights_unshown_B64  p2 x.1 x.2 u) k_FU (0, 0) u8) (fun y13 u12 => k_cs y13 (fun r14 => some (r14, u12)) (fun y13 => f_Nights_unshown_J113  p2 y13 u12))))))
def f_W_never_J50  (s1 : Int32) (s2 : Int32) (u : k_S) : Option (Int32 × k_S) :=
  k_bind (f_Nights_unshown s1 s2 u) (fun r2 u1 => some (r2, u1))
def f_W_never  (p1 : Int32) (p2 : Int32) (u : k_S) : Option (Int32 × k_S) :=
  if p1 < 1 then some ((-1), u) else if 2000 < p1 then some ((-1), u) else if p2 < 0 then some ((-1), u) else if p2 ≤ 1 then if (u.1 303) = 0 then some ((-5), u) else if p2 = 0 then f_W_never_J50  p1 1 u else f_W_never_J50  p1 0 u else some ((-1), u)
def f_R_never_B34  (v1 : Int32) (v2 : Int32) (v3 : Int32) (u : k_S) : Option (((Int32) ⊕ Unit) × k_S) :=
  if 40 ≤ v3 then some (.inr (), u) else k_ck (v3) 40 (k_let (k_wA u 62 (v3).toNatClampNeg (0 &&& 1)) (fun u5 => some (.inl (v3 + Int32.ofInt 1), u5)))
def f_R_never_B71  (v1 : Int32) (v2 : Int32) (v3 : Int32) (u : k_S) : Option (((Int32) ⊕ Unit) × k_S) :=
  if v1 ≤ v3 then some (.inr (), u) else k_bind (f_R_goOn  u) (fun _ u10 => k_ck (0) 4 (k_ck (u10.2.1 46 (0 : Int32).toNatClampNeg) 40 (k_let (k_wA u10 62 (u10.2.1 46 (0 : Int32).toNatClampNeg).toNatClampNeg (1 &&& 1)) (fun u11 => some (.inl (v3 + Int32.ofInt 1), u11)))))
def f_R_never_B118  (v2 : Int32) (v3 : Int32) (v4 : Int32) (v5 : Int32) (u : k_S) : Option (((Int32 × Int32 × Int32) ⊕ (Int32 × Int32)) × k_S) :=
  if v5 < 0 then some (.inr (v3, v4), u) else k_ck (v5) 40 (if (u.2.1 62 (v5).toNatClampNeg) = 0 then some (.inl (v3 + Int32.ofInt 1, v5, v5 + Int32.ofInt (-1)), u) else some (.inl (v3, v4, v5 + Int32.ofInt (-1)), u))
def f_R_never  (p1 : Int32) (p2 : Int32) (u : k_S) : Option (Int32 × k_S) :=
  k_bind (f_R_in p1 1 2000 u) (fun r2 u1 => if r2 = 0 then some ((-1), u1) else k_bind (f_R_in p2 0 1 u1) (fun r4 u3 => if r4 = 0 then some ((-1), u3) else if (u3.1 4203) = 0 then some ((-5), u3) else k_bind (k_itr (fun (x : (Int32)) u => f_R_never_B34  p1 p2 x u) k_FU 0 u3) (fun y7 u6 => k_bind (f_R_keepNow  u6) (fun _ u8 => k_ck (0) 4 (k_ck (u8.2.1 46 (0 : Int32).toNatClampNeg) 40 (k_let (k_wA u8 62 (u8.2.1 46 (0 : Int32).toNatClampNeg).toNatClampNeg (1 &&& 1)) (fun u9 => k_bind (k_itr (fun (x : (Int32)) u => f_R_never_B71  p1 p2 x u) k_FU 0 u9) (fun y13 u12 => k_bind (f_R_layBack  u12) (fun _ u14 => k_ck (0) 4 (k_let ((u14.2.1 45 (0 : Int32).toNatClampNeg) - 1) (fun t15 => k_bind (k_itr (fun (x : (Int32 × Int32 × Int32)) u => f_R_never_B118  p2 x.1 x.2.1 x.2.2 u) k_FU (0, (-2), t15) u14) (fun y17 u16 => if p2 = 0 then some (y17.1, u16) else some (y17.2, u16)))))))))))))
def f_W_isSpot  (p1 : Int32) (u : k_S) : Option (Int32 × k_S) :=
  if p1 < 0 then some (0, u) else k_bind (f_Wheels_hasPlace (p1 / 100) (p1 % 100) u) (fun r2 u1 => if r2 = 0 then some (0, u1) else some (1, u1))
def f_Nights_timesAt_B10  (v1 : Int32) (v2 : Int32) (v3 : Int32) (v4 : Int32) (v5 : Int32) (v6 : Int32) (u : k_S) : Option (((Int32 × Int32) ⊕ (Int32 ⊕ (Int32))) × k_S) :=
  if v3 < v6 then some (.inr (.inr v5), u) else k_bind (f_Nights_pass_Thought 1 (v1 + 1) u) (fun _ u2 => k_bind (f_Thought_placeOf v1 u2) (fun r4 u3 => if r4 = v2 then if v4 = 0 then some (.inl (v5 + Int32.ofInt 1, v6 + Int32.ofInt 1), u3) else some (.inr (.inl v6), u3) else some (.inl (v5, v6 + Int32.ofInt 1), u3)))
def f_Nights_timesAt  (p1 : Int32) (p2 : Int32) (p3 : Int32) (p4 : Int32) (u : k_S) : Option (Int32 × k_S) :=
  k_bind (f_Nights_think  u) (fun _ u1 => k_bind (k_itr (fun (x : (Int32 × Int32)) u => f_Nights_timesAt_B10  p1 p2 p3 p4 x.1 x.2 u) k_FU (0, 1) u1) (fun y6 u5 => k_cs y6 (fun r7 => some (r7, u5)) (fun y6 => if p4 = 0 then some (y6, u5) else some ((-2), u5))))
def f_W_meets_J54  (s1 : Int32) (s2 : Int32) (s3 : Int32) (s4 : Int32) (u : k_S) : Option (Int32 × k_S) :=
  k_bind (f_Nights_timesAt s1 s2 s3 s4 u) (fun r4 u3 => some (r4, u3))
def f_W_meets  (p1 : Int32) (p2 : Int32) (p3 : Int32) (u : k_S) : Option (Int32 × k_S) :=
  k_bind (f_W_isSpot p1 u) (fun r2 u1 => if r2 = 0 then some ((-1), u1) else if p2 < 1 then some ((-1), u1) else if 2000 < p2 then some ((-1), u1) else if p3 < 0 then some ((-1), u1) else if p3 ≤ 1 then if p3 = 1 then f_W_meets_J54  (p1 / 100) (p1 % 100) p2 1 u1 else f_W_meets_J54  (p1 / 100) (p1 % 100) p2 0 u1 else some ((-1), u1))
def f_R_isSpot  (p1 : Int32) (u : k_S) : Option (Int32 × k_S) :=
  if p1 < 0 then some (0, u) else k_bind (f_R_isWheel (p1 / 100) u) (fun r2 u1 => if r2 = 0 then some (0, u1) else k_ck (p1 / 100) 4 (if (u1.2.1 45 (p1 / 100).toNatClampNeg) ≤ (p1 % 100) then some (0, u1) else some (1, u1)))
def f_R_meets_B44  (v1 : Int32) (v2 : Int32) (v3 : Int32) (v4 : Int32) (v5 : Int32) (v6 : Int32) (u : k_S) : Option (((Int32 × Int32 × Int32) ⊕ (Int32 × Int32)) × k_S) :=
  if v2 < v6 then some (.inr (v4, v5), u) else k_bind (f_R_goOn  u) (fun _ u8 => k_ck (v1 / 100) 4 (if (u8.2.1 46 (v1 / 100).toNatClampNeg) = (v1 % 100) then if 0 ≤ v5 then some (.inl (v4 + Int32.ofInt 1, v5, v6 + Int32.ofInt 1), u8) else some (.inl (v4 + Int32.ofInt 1, v6, v6 + Int32.ofInt 1), u8) else some (.inl (v4, v5, v6 + Int32.ofInt 1), u8)))
def f_R_meets  (p1 : Int32) (p2 : Int32) (p3 : Int32) (u : k_S) : Option (Int32 × k_S) :=
  k_bind (f_R_isSpot p1 u) (fun r2 u1 => if r2 = 0 then some ((-1), u1) else k_bind (f_R_in p2 1 2000 u1) (fun r4 u3 => if r4 = 0 then some ((-1), u3) else k_bind (f_R_in p3 0 1 u3) (fun r6 u5 => if r6 = 0 then some ((-1), u5) else k_bind (f_R_keepNow  u5) (fun _ u7 => k_bind (k_itr (fun (x : (Int32 × Int32 × Int32)) u => f_R_meets_B44  p1 p2 p3 x.1 x.2.1 x.2.2 u) k_FU (0, (-2), 1) u7) (fun y10 u9 => k_bind (f_R_layBack  u9) (fun _ u11 => if p3 = 0 then some (y10.1, u11) else some (y10.2, u11)))))))
def f_Nights_firstOfBoth_B22  (v1 : Int32) (v2 : Int32) (v3 : Int32) (v4 : Int32) (v5 : Int32) (u : k_S) : Option (((Int32) ⊕ (Int32 ⊕ Unit)) × k_S) :=
  if v3 < v5 then some (.inr (.inr ()), u) else k_bind (f_Nights_pass_Thought 1 v4 u) (fun _ u5 => k_bind (f_Thought_placeOf (v1 / 100) u5) (fun r7 u6 => if r7 = (v1 % 100) then k_bind (f_Thought_placeOf (v2 / 100) u6) (fun r9 u8 => if r9 = (v2 % 100) then some (.inr (.inl v5), u8) else some (.inl (v5 + Int32.ofInt 1), u8)) else some (.inl (v5 + Int32.ofInt 1), u6)))
def f_Nights_firstOfBoth  (p1 : Int32) (p2 : Int32) (p3 : Int32) (u : k_S) : Option (Int32 × k_S) :=
  k_bind (f_J_max (p1 / 100) (p2 / 100) u) (fun r2 u1 => k_let (r2 + 1) (fun t3 => k_bind (f_Nights_think  u1) (fun _ u4 => k_bind (k_itr (fun (x : (Int32)) u => f_Nights_firstOfBoth_B22  p1 p2 p3 t3 x u) k_FU 1 u4) (fun y11 u10 => k_cs y11 (fun r12 => some (r12, u10)) (fun y11 => some ((-2), u10))))))
def f_W_two  (p1 : Int32) (p2 : Int32) (p3 : Int32) (u : k_S) : Option (Int32 × k_S) :=
  k_bind (f_W_isSpot p1 u) (fun r2 u1 => if r2 = 0 then some ((-1), u1) else k_bind (f_W_isSpot p2 u1) (fun r4 u3 => if r4 = 0 then some ((-1), u3) else if p3 < 1 then some ((-1), u3) else if p3 ≤ 20000 then k_bind (f_Nights_firstOfBoth p1 p2 p3 u3) (fun r6 u5 => some (r6, u5)) else some ((-1), u3)))
def f_R_two_B40  (v1 : Int32) (v2 : Int32) (v3 : Int32) (v4 : Int32) (v5 : Int32) (u : k_S) : Option (((Int32 × Int32) ⊕ (Int32)) × k_S) :=
  if v3 < v5 then some (.inr v4, u) else if 0 ≤ v4 then some (.inr v4, u) else k_bind (f_R_goOn  u) (fun _ u8 => k_ck (v1 / 100) 4 (if (u8.2.1 46 (v1 / 100).toNatClampNeg) = (v1 % 100) then k_ck (v2 / 100) 4 (if (u8.2.1 46 (v2 / 100).toNatClampNeg) = (v2 % 100) then some (.inl (v5, v5 + Int32.ofInt 1), u8) else some (.inl (v4, v5 + Int32.ofInt 1), u8)) else some (.inl (v4, v5 + Int32.ofInt 1), u8)))
def f_R_two_J97  (v4 : Int32) (u : k_S) : Option (Int32 × k_S) :=
  k_bind (f_R_layBack  u) (fun _ u11 => some (v4, u11))
def f_R_two  (p1 : Int32) (p2 : Int32) (p3 : Int32) (u : k_S) : Option (Int32 × k_S) :=
  k_bind (f_R_isSpot p1 u) (fun r2 u1 => if r2 = 0 then some ((-1), u1) else k_bind (f_R_isSpot p2 u1) (fun r4 u3 => if r4 = 0 then some ((-1), u3) else k_bind (f_R_in p3 1 20000 u3) (fun r6 u5 => if r6 = 0 then some ((-1), u5) else k_bind (f_R_keepNow  u5) (fun _ u7 => k_bind (k_itr (fun (x : (Int32 × Int32)) u => f_R_two_B40  p1 p2 p3 x.1 x.2 u) k_FU ((-2), 1) u7) (fun y10 u9 => f_R_two_J97  y10 u9)))))
def f_Thought_standsAs_Now_B2  (v2 : Int32) (v3 : Int32) (u : k_S) : Option (((Int32) ⊕ (Int32 ⊕ Unit)) × k_S) :=
  if v2 ≤ v3 then some (.inr (.inr ()), u) else if 4 ≤ v3 then some (.inr (.inr ()), u) else k_bind (f_Thought_placeOf v3 u) (fun r2 u1 => k_bind (f_Now_placeOf v3 u1) (fun r4 u3 => if r2 = r4 then k_bind (f_Thought_waitsOf v3 u3) (fun r6 u5 => k_bind (f_Now_waitsOf v3 u5) (fun r8 u7 => if r6 = r8 then some (.inl (v3 + Int32.ofInt 1), u7) else some (.inr (.inl 0), u7))) else some (.inr (.inl 0), u3)))
def f_Thought_standsAs_Now  (p2 : Int32) (u : k_S) : Option (Int32 × k_S) :=
  k_bind (k_itr (fun (x : (Int32)) u => f_Thought_standsAs_Now_B2  p2 x u) k_FU 0 u) (fun y10 u9 => k_cs y10 (fun r11 => some (r11, u9)) (fun y10 => some (1, u9)))
def f_Nights_firstAsNow_B6  (v1 : Int32) (v2 : Int32) (u : k_S) : Option (((Int32) ⊕ (Int32 ⊕ Unit)) × k_S) :=
  if v1 < v2 then some (.inr (.inr ()), u) else k_bind (f_Nights_pass_Thought 1 (u.1 303) u) (fun _ u2 => k_bind (f_Thought_standsAs_Now (u2.1 303) u2) (fun r4 u3 => if r4 = 0 then some (.inl (v2 + Int32.ofInt 1), u3) else some (.inr (.inl v2), u3)))
def f_Nights_firstAsNow  (p1 : Int32) (u : k_S) : Option (Int32 × k_S) :=
  k_bind (f_Nights_think  u) (fun _ u1 => k_bind (k_itr (fun (x : (Int32)) u => f_Nights_firstAsNow_B6  p1 x u) k_FU 1 u1) (fun y6 u5 => k_cs y6 (fun r7 => some (r7, u5)) (fun y6 => some ((-2), u5))))
def f_W_round  (p1 : Int32) (u : k_S) : Option (Int32 × k_S) :=
  if p1 < 1 then some ((-1), u) else if p1 ≤ 20000 then k_bind (f_Nights_firstAsNow p1 u) (fun r2 u1 => some (r2, u1)) else some ((-1), u)
def f_R_isAsWas_B2  (v1 : Int32) (u : k_S) : Option (((Int32) ⊕ (Int32 ⊕ Unit)) × k_S) :=
  if (u.1 4203) ≤ v1 then some (.inr (.inr ()), u) else k_ck (v1) 4 (k_ck (v1) 4 (if (u.2.1 46 (v1).toNatClampNeg) = (u.2.1 60 (v1).toNatClampNeg) then k_ck (v1) 4 (k_ck (v1) 4 (if (u.2.1 47 (v1).toNatClampNeg) = (u.2.1 61 (v1).toNatClampNeg) then some (.inl (v1 + Int32.ofInt 1), u) else some (.inr (.inl 0), u))) else some (.inr (.inl 0), u)))
def f_R_isAsWas   (u : k_S) : Option (Int32 × k_S) :=
  k_bind (k_itr (fun (x : (Int32)) u => f_R_isAsWas_B2  x u) k_FU 0 u) (fun y2 u1 => k_cs y2 (fun r3 => some (r3, u1)) (fun y2 => some (1, u1)))
def f_R_round_B22  (v1 : Int32) (v2 : Int32) (v3 : Int32) (u : k_S) : Option (((Int32 × Int32) ⊕ (Int32)) × k_S) :=
  if v1 < v3 then some (.inr v2, u) else if 0 ≤ v2 then some (.inr v2, u) else k_bind (f_R_goOn  u) (fun _ u4 => k_bind (f_R_isAsWas  u4) (fun r6 u5 => if r6 = 0 then some (.inl (v2, v3 + Int32.ofInt 1), u5) else some (.inl (v3, v3 + Int32.ofInt 1), u5)))
def f_R_round_J50  (v2 : Int32) (u : k_S) : Option (Int32 × k_S) :=
  k_bind (f_R_layBack  u) (fun _ u9 => some (v2, u9))
def f_R_round  (p1 : Int32) (u : k_S) : Option (Int32 × k_S) :=
  k_bind (f_R_in p1 1 20000 u) (fun r2 u1 => if r2 = 0 then some ((-1), u1) else k_bind (f_R_keepNow  u1) (fun _ u3 => k_bind (k_itr (fun (x : (Int32 × Int32)) u => f_R_round_B22  p1 x.1 x.2 u) k_FU ((-2), 1) u3) (fun y8 u7 => f_R_round_J50  y8 u7)))
def f_Nights_nightsTo_J24  (v1 : Int32) (v2 : Int32) (v3 : Int32) (v4 : Int32) (u : k_S) : Option (((Int32) ⊕ (Int32 ⊕ Unit)) × k_S) :=
  if v4 < v2 then some (.inl (v4 + Int32.ofInt 1), u) else k_bind (f_Thought_placeOf 0 u) (fun r2 u1 => if r2 = v1 then some (.inr (.inl v4), u1) else some (.inl (v4 + Int32.ofInt 1), u1))
def f_Nights_nightsTo_B3  (v1 : Int32) (v2 : Int32) (v3 : Int32) (v4 : Int32) (u : k_S) : Option (((Int32) ⊕ (Int32 ⊕ Unit)) × k_S) :=
  if v3 < v4 then some (.inr (.inr ()), u) else if v4 ≤ 0 then f_Nights_nightsTo_J24  v1 v2 v3 v4 u else k_bind (f_Nights_pass_Thought 1 1 u) (fun _ u3 => f_Nights_nightsTo_J24  v1 v2 v3 v4 u3)
def f_Nights_nightsTo  (p1 : Int32) (p2 : Int32) (p3 : Int32) (u : k_S) : Option (Int32 × k_S) :=
  k_bind (k_itr (fun (x : (Int32)) u => f_Nights_nightsTo_B3  p1 p2 p3 x u) k_FU 0 u) (fun y5 u4 => k_cs y5 (fun r6 => some (r6, u4)) (fun y5 => some ((-2), u4)))
def f_W_truth  (p1 : Int32) (u : k_S) : Option (Int32 × k_S) :=
  if p1 < 0 then some ((-1), u) else if 40 ≤ (p1 / 100) then some ((-1), u) else if (p1 % 100) < 40 then if (u.1 303) = 0 then some ((-5), u) else k_bind (f_Nights_think  u) (fun _ u1 => k_bind (f_Nights_nightsTo (p1 / 100) 0 2000 u1) (fun r3 u2 => if r3 = (-2) then some ((-2), u2) else k_bind (f_Nights_nightsTo (p1 % 100) 1 2000 u2) (fun r5 u4 => some (r5, u4)))) else some ((-1), u)
def f_R_truth_B74  (v1 : Int32) (v2 : Int32) (u : k_S) : Option (((Int32) ⊕ (Int32)) × k_S) :=
  if 2000 < v2 then some (.inr v2, u) else k_ck (0) 4 (if (u.2.1 46 (0 : Int32).toNatClampNeg) = (v1 / 100) then some (.inr v2, u) else k_bind (f_R_goOn  u) (fun _ u2 => some (.inl (v2 + Int32.ofInt 1), u2)))
def f_R_truth_J155  (v3 : Int32) (u : k_S) : Option (Int32 × k_S) :=
  k_bind (f_R_layBack  u) (fun _ u5 => some (v3, u5))
def f_R_truth_B117  (v1 : Int32) (v3 : Int32) (v4 : Int32) (u : k_S) : Option (((Int32 × Int32) ⊕ (Int32)) × k_S) :=
  if 2000 < v4 then some (.inr v3, u) else if 0 ≤ v3 then some (.inr v3, u) else k_bind (f_R_goOn  u) (fun _ u6 => k_ck (0) 4 (if (u6.2.1 46 (0 : Int32).toNatClampNeg) = (v1 % 100) then some (.inl (v4, v4 + Int32.ofInt 1), u6) else some (.inl (v3, v4 + Int32.ofInt 1), u6)))
def f_R_truth_J104  (v1 : Int32) (v2 : Int32) (u : k_S) : Option (Int32 × k_S) :=
  if 2000 < v2 then f_R_truth_J155  (-2) u else k_bind (k_itr (fun (x : (Int32 × Int32)) u => f_R_truth_B117  v1 x.1 x.2 u) k_FU ((-2), 1) u) (fun y8 u7 => f_R_truth_J155  y8 u7)
def f_R_truth  (p1 : Int32) (u : k_S) : Option (Int32 × k_S) :=
  if (u.1 4203) = 0 then if p1 < 0 then some ((-1), u) else if 40 ≤ (p1 % 100) then some ((-1), u) else if (p1 / 100) < 40 then some ((-5), u) else some ((-1), u) else if p1 < 0 then some ((-1), u) else k_ck (0) 4 (if (u.2.1 45 (0 : Int32).toNatClampNeg) ≤ (p1 / 100) then some ((-1), u) else k_ck (0) 4 (if (p1 % 100) < (u.2.1 45 (0 : Int32).toNatClampNeg) then k_bind (f_R_keepNow  u) (fun _ u1 => k_bind (k_itr (fun (x : (Int32)) u => f_R_truth_B74  p1 x u) k_FU 0 u1) (fun y4 u3 => f_R_truth_J104  p1 y4 u3)) else some ((-1), u)))
def f_Nights_wrongDays_B28  (v1 : Int32) (v2 : Int32) (v3 : Int32) (v4 : Int32) (v5 : Int32) (u : k_S) : Option (((Int32 × Int32) ⊕ (Int32)) × k_S) :=
  if v1 < v5 then some (.inr v2, u) else k_bind (f_Nights_pass_Thought 1 1 u) (fun _ u6 => k_bind (f_Thought_placeOf 0 u6) (fun r8 u7 => k_bind (f_Nights_dayOf r8 u7) (fun r10 u9 => k_bind (f_W_left (v3 + v5) v4 u9) (fun r12 u11 => k_bind (f_Nights_dayOf r12 u11) (fun r14 u13 => if r10 = r14 then some (.inl (v2, v5 + Int32.ofInt 1), u13) else some (.inl (v2 + Int32.ofInt 1, v5 + Int32.ofInt 1), u13))))))
def f_Nights_wrongDays  (p1 : Int32) (u : k_S) : Option (Int32 × k_S) :=
  k_bind (f_Now_placeOf 0 u) (fun r2 u1 => k_bind (f_Wheels_sizeOf 0 u1) (fun r4 u3 => k_bind (f_Nights_think  u3) (fun _ u5 => k_bind (k_itr (fun (x : (Int32 × Int32)) u => f_Nights_wrongDays_B28  p1 x.1 r2 r4 x.2 u) k_FU (0, 1) u5) (fun y16 u15 => some (y16, u15)))))
def f_Nights_nearest_B56  (v1 : Int32) (v2 : Int32) (v3 : Int32) (v4 : Int32) (v5 : Int32) (v6 : Int32) (v8 : Int32) (v9 : Int32) (u : k_S) : Option (((Int32 × Int32 × Int32) ⊕ (Int32 × Int32)) × k_S) :=
  if v8 ≤ v9 then some (.inr (v3, v4), u) else k_ck (v9) 3 (k_let (k_t100 (v9).toNatClampNeg) (fun t6 => if t6 = v6 then some (.inl (v3, v4, v9 + Int32.ofInt 1), u) else k_bind (f_Wheels_setLetter 0 v5 t6 u) (fun _ u7 => k_bind (f_Nights_wrongDays v1 u7) (fun r9 u8 => if v4 ≤ r9 then some (.inl (v3, v4, v9 + Int32.ofInt 1), u8) else k_let ((1000 * v5) + t6) (fun t10 => some (.inl (t10, r9, v9 + Int32.ofInt 1), u8))))))
def f_Nights_nearest_B11  (v1 : Int32) (v2 : Int32) (v3 : Int32) (v4 : Int32) (v5 : Int32) (u : k_S) : Option (((Int32 × Int32 × Int32) ⊕ (Int32 × Int32)) × k_S) :=
  k_bind (f_Wheels_sizeOf 0 u) (fun r3 u2 => if r3 ≤ v5 then some (.inr (v3, v4), u2) else if 40 ≤ v5 then some (.inr (v3, v4), u2) else k_bind (f_Wheels_letterAt 0 v5 u2) (fun r5 u4 => k_bind (k_itr (fun (x : (Int32 × Int32 × Int32)) u => f_Nights_nearest_B56  v1 v2 x.1 x.2.1 v5 r5 3 x.2.2 u) k_FU (v3, v4, 0) u4) (fun y12 u11 => k_bind (f_Wheels_setLetter 0 v5 r5 u11) (fun _ u13 => some (.inl (y12.1, y12.2, v5 + Int32.ofInt 1), u13)))))
def f_Nights_nearest_J144  (v2 : Int32) (v3 : Int32) (v4 : Int32) (u : k_S) : Option (Int32 × k_S) :=
  if v2 = 0 then some (v4, u) else some (v3, u)
def f_Nights_nearest  (p1 : Int32) (p2 : Int32) (u : k_S) : Option (Int32 × k_S) :=
  k_let (p1 + 1) (fun t1 => k_bind (k_itr (fun (x : (Int32 × Int32 × Int32)) u => f_Nights_nearest_B11  p1 p2 x.1 x.2.1 x.2.2 u) k_FU ((-2), t1, 0) u) (fun y15 u14 => f_Nights_nearest_J144  p2 y15.1 y15.2 u14))
def f_W_near_J66  (s1 : Int32) (s2 : Int32) (u : k_S) : Option (Int32 × k_S) :=
  k_bind (f_Nights_nearest s1 s2 u) (fun r2 u1 => some (r2, u1))
def f_W_near  (p1 : Int32) (p2 : Int32) (u : k_S) : Option (Int32 × k_S) :=
  if p1 < 1 then some ((-1), u) else if 400 < p1 then some ((-1), u) else if p2 < 0 then some ((-1), u) else if p2 ≤ 2 then if (u.1 303) = 0 then some ((-5), u) else if p2 = 2 then k_bind (f_Nights_wrongDays p1 u) (fun r4 u3 => some (r4, u3)) else if p2 = 0 then f_W_near_J66  p1 1 u else f_W_near_J66  p1 0 u else some ((-1), u)
def f_R_wrongIn_B8  (v1 : Int32) (v2 : Int32) (v3 : Int32) (u : k_S) : Option (((Int32 × Int32) ⊕ (Int32)) × k_S) :=
  if v1 < v3 then some (.inr v2, u) else k_bind (f_R_goOn  u) (fun _ u2 => k_ck (0) 4 (k_nz (u2.1 4210) (k_ck (0) 4 (k_ck (0) 4 (k_nz (u2.2.1 45 (0 : Int32).toNatClampNeg) (k_nz (u2.1 4210) (if ((u2.2.1 46 (0 : Int32).toNatClampNeg) % (u2.1 4210)) = ((((u2.2.1 60 (0 : Int32).toNatClampNeg) + v3) % (u2.2.1 45 (0 : Int32).toNatClampNeg)) % (u2.1 4210)) then some (.inl (v2, v3 + Int32.ofInt 1), u2) else some (.inl (v2 + Int32.ofInt 1, v3 + Int32.ofInt 1), u2))))))))
def f_R_wrongIn  (p1 : Int32) (u : k_S) : Option (Int32 × k_S) :=
  k_bind (f_R_keepNow  u) (fun _ u1 => k_bind (k_itr (fun (x : (Int32 × Int32)) u => f_R_wrongIn_B8  p1 x.1 x.2 u) k_FU (0, 1) u1) (fun y4 u3 => k_bind (f_R_layBack  u3) (fun _ u5 => some (y4, u5))))
def f_R_near_J130  (v1 : Int32) (v2 : Int32) (v5 : Int32) (v6 : Int32) (v7 : Int32) (v8 : Int32) (u : k_S) : Option (((Int32 × Int32 × Int32) ⊕ (Int32 × Int32)) × k_S) :=
  k_ck (v7) 3 (k_let ((1000 * v5) + (u.2.1 63 (v7).toNatClampNeg)) (fun t9 => some (.inl (t9, v8, v7 + Int32.ofInt 1), u)))
def f_R_near_B74  (v1 : Int32) (v2 : Int32) (v3 : Int32) (v4 : Int32) (v5 : Int32) (v6 : Int32) (v7 : Int32) (u : k_S) : Option (((Int32 × Int32 × Int32) ⊕ (Int32 × Int32)) × k_S) :=
  if 3 ≤ v7 then some (.inr (v3, v4), u) else k_ck (v7) 3 (if (u.2.1 63 (v7).toNatClampNeg) = v6 then some (.inl (v3, v4, v7 + Int32.ofInt 1), u) else k_ck (v7) 3 (k_ck (v5) 160 (k_let (k_wA u 44 (v5).toNatClampNeg (u.2.1 63 (v7).toNatClampNeg)) (fun u6 => k_bind (f_R_wrongIn v1 u6) (fun r8 u7 => if v3 < 0 then f_R_near_J130  v1 v2 v5 v6 v7 r8 u7 else if r8 < v4 then f_R_near_J130  v1 v2 v5 v6 v7 r8 u7 else some (.inl (v3, v4, v7 + Int32.ofInt 1), u7))))))
def f_R_near_B51  (v1 : Int32) (v2 : Int32) (v3 : Int32) (v4 : Int32) (v5 : Int32) (u : k_S) : Option (((Int32 × Int32 × Int32) ⊕ (Int32 × Int32)) × k_S) :=
  k_ck (0) 4 (if (u.2.1 45 (0 : Int32).toNatClampNeg) ≤ v5 then some (.inr (v3, v4), u) else k_ck (v5) 160 (k_let (u.2.1 44 (v5).toNatClampNeg) (fun t5 => k_bind (k_itr (fun (x : (Int32 × Int32 × Int32)) u => f_R_near_B74  v1 v2 x.1 x.2.1 v5 t5 x.2.2 u) k_FU (v3, v4, 0) u) (fun y11 u10 => k_ck (v5) 160 (k_let (k_wA u10 44 (v5).toNatClampNeg (t5)) (fun u12 => some (.inl (y11.1, y11.2, v5 + Int32.ofInt 1), u12)))))))
def f_R_near  (p1 : Int32) (p2 : Int32) (u : k_S) : Option (Int32 × k_S) :=
  k_bind (f_R_in p1 1 400 u) (fun r2 u1 => if r2 = 0 then some ((-1), u1) else k_bind (f_R_in p2 0 2 u1) (fun r4 u3 => if r4 = 0 then some ((-1), u3) else if (u3.1 4203) = 0 then some ((-5), u3) else if p2 = 2 then k_bind (f_R_wrongIn p1 u3) (fun r16 u15 => some (r16, u15)) else k_bind (k_itr (fun (x : (Int32 × Int32 × Int32)) u => f_R_near_B51  p1 p2 x.1 x.2.1 x.2.2 u) k_FU ((-1), 0, 0) u3) (fun y14 u13 => if p2 = 0 then some (y14.1, u13) else some (y14.2, u13))))
def f_W_isRecord  (p0 : Int32) (p1 : Int32) (u : k_S) : Option (Int32 × k_S) :=
  if p0 < 0 then some (0, u) else if 5000 < p0 then some (0, u) else if p1 < 0 then some (0, u) else if 40 ≤ p1 then some (0, u) else some (1, u)
def f_Records_nightOf  (p1 : Int32) (u : k_S) : Option (Int32 × k_S) :=
  if p1 < 0 then some (0, u) else if 40 ≤ p1 then some (0, u) else k_ck (p1) 40 (some (u.2.1 21 (p1).toNatClampNeg, u))
def f_Records_add_B59  (v1 : Int32) (v3 : Int32) (v4 : Int32) (v5 : Int32) (u : k_S) : Option (((Int32 × Int32) ⊕ (Int32)) × k_S) :=
  if v5 ≤ 0 then some (.inr v4, u) else k_ck (v5 - 1) 40 (k_bind (f_Records_nightOf (u.2.1 23 (v5 - 1).toNatClampNeg) u) (fun r5 u4 => if r5 ≤ v1 then some (.inr v4, u4) else k_ck (v5 - 1) 40 (k_ck (v5) 40 (k_let (k_wA u4 23 (v5).toNatClampNeg (u4.2.1 23 (v5 - 1).toNatClampNeg)) (fun u6 => k_let (v5 - 1) (fun t7 => some (.inl (t7, v5 + Int32.ofInt (-1)), u6)))))))
def f_Records_add_J109  (v3 : Int32) (v4 : Int32) (u : k_S) : Option (Int32 × k_S) :=
  k_ck (v4) 40 (k_let (k_wA u 23 (v4).toNatClampNeg (v3)) (fun u10 => k_let (k_wF u10 2003 ((u10.1 2003) + 1)) (fun u11 => some (v3, u11))))
def f_Records_add  (p1 : Int32) (p2 : Int32) (u : k_S) : Option (Int32 × k_S) :=
  k_let (u.1 2003) (fun t1 => if t1 < 0 then some ((-3), u) else if 40 ≤ t1 then some ((-3), u) else if 40 ≤ t1 then some ((-3), u) else if t1 < 40 then k_ck (t1) 40 (k_let (k_wA u 21 (t1).toNatClampNeg (p1)) (fun u2 => k_ck (t1) 40 (k_let (k_wA u2 22 (t1).toNatClampNeg (p2)) (fun u3 => k_bind (k_itr (fun (x : (Int32 × Int32)) u => f_Records_add_B59  p1 t1 x.1 x.2 u) k_FU (t1, t1) u3) (fun y9 u8 => f_Records_add_J109  t1 y9 u8))))) else some ((-3), u))
def f_W_record  (p1 : Int32) (p2 : Int32) (u : k_S) : Option (Int32 × k_S) :=
  k_bind (f_W_isRecord p1 p2 u) (fun r2 u1 => if r2 = 0 then some ((-1), u1) else if (u1.1 2003) < 40 then k_bind (f_Records_add p1 p2 u1) (fun r4 u3 => some (r4, u3)) else some ((-3), u1))
def f_R_isRecord  (p0 : Int32) (p1 : Int32) (u : k_S) : Option (Int32 × k_S) :=
  k_bind (f_R_in p0 0 5000 u) (fun r2 u1 => if r2 = 0 then some (0, u1) else k_bind (f_R_in p1 0 39 u1) (fun r4 u3 => if r4 = 0 then some (0, u3) else some (1, u3)))
def f_R_addRecord  (p1 : Int32) (p2 : Int32) (u : k_S) : Option (Unit × k_S) :=
  k_ck (u.1 4235) 40 (k_let (k_wA u 64 (u.1 4235).toNatClampNeg (p1)) (fun u1 => k_ck (u1.1 4235) 40 (k_let (k_wA u1 65 (u1.1 4235).toNatClampNeg (p2)) (fun u2 => k_let (k_wF u2 4235 ((u2.1 4235) + 1)) (fun u3 => some ((), u3))))))
def f_R_record  (p1 : Int32) (p2 : Int32) (u : k_S) : Option (Int32 × k_S) :=
  k_bind (f_R_isRecord p1 p2 u) (fun r2 u1 => if r2 = 0 then some ((-1), u1) else if (u1.1 4235) = 40 then some ((-3), u1) else k_bind (f_R_addRecord p1 p2 u1) (fun _ u3 => some ((u3.1 4235) - 1, u3)))
def f_Shelves_has  (p1 : Int32) (u : k_S) : Option (Int32 × k_S) :=
  if p1 < 0 then some (0, u) else if 6 ≤ p1 then some (0, u) else some (1, u)
def f_Shelves_heldBy  (p1 : Int32) (u : k_S) : Option (Int32 × k_S) :=
  k_bind (f_Shelves_has p1 u) (fun r2 u1 => if r2 = 0 then some ((-1), u1) else k_ck (p1) 6 (some (u1.2.1 39 (p1).toNatClampNeg, u1)))
def f_Shelves_sizeOf  (p1 : Int32) (u : k_S) : Option (Int32 × k_S) :=
  if p1 < 0 then some (0, u) else if 6 ≤ p1 then some (0, u) else k_ck (p1) 6 (some (u.2.1 40 (p1).toNatClampNeg, u))
def f_Shelves_hasElement  (p1 : Int32) (p2 : Int32) (u : k_S) : Option (Int32 × k_S) :=
  k_bind (f_Shelves_heldBy p1 u) (fun r2 u1 => if r2 = (-1) then some (0, u1) else if r2 = 5 then some (0, u1) else if p2 < 0 then some (0, u1) else k_bind (f_Shelves_sizeOf p1 u1) (fun r4 u3 => if r4 ≤ p2 then some (0, u3) else some (1, u3)))
def f_Shelves_valueAt  (p1 : Int32) (p2 : Int32) (u : k_S) : Option (Int64 × k_S) :=
  k_let ((60 * p1) + p2) (fun t1 => if t1 < 0 then some (0, u) else if 360 ≤ t1 then some (0, u) else k_ck (t1) 360 (some (u.2.2 41 (t1).toNatClampNeg, u)))
def f_W_records_B52  (v1 : Int32) (v2 : Int32) (v3 : Int32) (v5 : Int32) (u : k_S) : Option (((Int32) ⊕ (Int32 ⊕ Unit)) × k_S) :=
  if v3 ≤ v5 then some (.inr (.inr ()), u) else k_let (v2 + (2 * v5)) (fun t5 => k_bind (f_Shelves_hasElement v1 t5 u) (fun r7 u6 => if r7 = 0 then some (.inr (.inl v5), u6) else k_bind (f_Shelves_hasElement v1 (t5 + 1) u6) (fun r9 u8 => if r9 = 0 then some (.inr (.inl v5), u8) else k_bind (f_Shelves_valueAt v1 t5 u8) (fun r11 u10 => k_let ((r11).toInt32) (fun t12 => k_bind (f_Shelves_valueAt v1 (t5 + 1) u10) (fun r14 u13 => k_let ((r14).toInt32) (fun t15 => k_bind (f_W_isRecord t12 t15 u13) (fun r17 u16 => if r17 = 0 then some (.inr (.inl v5), u16) else if (u16.1 2003) < 40 then k_bind (f_Records_add t12 t15 u16) (fun r19 u18 => some (.inl (v5 + Int32.ofInt 1), u18)) else some (.inr (.inl v5), u16)))))))))
def f_W_records_J49  (v1 : Int32) (v2 : Int32) (v3 : Int32) (u : k_S) : Option (Int32 × k_S) :=
  k_bind (k_itr (fun (x : (Int32)) u => f_W_records_B52  v1 v2 v3 x u) k_FU 0 u) (fun y21 u20 => k_cs y21 (fun r22 => some (r22, u20)) (fun y21 => some (v3, u20)))
def f_W_records  (p1 : Int32) (p2 : Int32) (p3 : Int32) (u : k_S) : Option (Int32 × k_S) :=
  k_bind (f_Shelves_has p1 u) (fun r2 u1 => if r2 = 0 then some ((-1), u1) else if p3 < 1 then some ((-1), u1) else if p3 ≤ 30 then k_bind (f_Shelves_heldBy p1 u1) (fun r4 u3 => if r4 = (-1) then f_W_records_J49  p1 p2 p3 u3 else if r4 = 1 then f_W_records_J49  p1 p2 p3 u3 else some ((-12), u3)) else some ((-1), u1))
def f_R_isShelf  (p0 : Int32) (u : k_S) : Option (Int32 × k_S) :=
  k_bind (f_R_in p0 0 5 u) (fun r2 u1 => k_zb r2 (some (r2, u1)))
def f_R_records_B58  (v1 : Int32) (v2 : Int32) (v3 : Int32) (v4 : Int32) (u : k_S) : Option (((Int32) ⊕ (Int32 ⊕ Unit)) × k_S) :=
  if v3 ≤ v4 then some (.inr (.inr ()), u) else k_let (((v2).toInt64) + ((2 * v4).toInt64)) (fun t5 => if (lg_cmp t5 0) < 0 then some (.inr (.inl v4), u) else k_ck (v1) 6 (if 0 ≤ (lg_cmp (t5 + 1) ((u.2.1 73 (v1).toNatClampNeg).toInt64)) then some (.inr (.inl v4), u) else if (u.1 4235) = 40 then some (.inr (.inl v4), u) else k_let ((60 * v1) + ((t5).toInt32)) (fun t6 => k_ck (t6) 360 (k_ck (t6 + 1) 360 (k_bind (f_R_isRecord ((u.2.2 74 (t6).toNatClampNeg).toInt32) ((u.2.2 74 (t6 + 1).toNatClampNeg).toInt32) u) (fun r8 u7 => if r8 = 0 then some (.inr (.inl v4), u7) else k_ck (t6) 360 (k_ck (t6 + 1) 360 (k_bind (f_R_addRecord ((u7.2.2 74 (t6).toNatClampNeg).toInt32) ((u7.2.2 74 (t6 + 1).toNatClampNeg).toInt32) u7) (fun _ u9 => some (.inl (v4 + Int32.ofInt 1), u9))))))))))
def f_R_records_J43  (v1 : Int32) (v2 : Int32) (v3 : Int32) (u : k_S) : Option (Int32 × k_S) :=
  k_ck (v1) 6 (if (u.2.1 72 (v1).toNatClampNeg) = (-1) then some (0, u) else k_bind (k_itr (fun (x : (Int32)) u => f_R_records_B58  v1 v2 v3 x u) k_FU 0 u) (fun y11 u10 => k_cs y11 (fun r12 => some (r12, u10)) (fun y11 => some (v3, u10))))
def f_R_records  (p1 : Int32) (p2 : Int32) (p3 : Int32) (u : k_S) : Option (Int32 × k_S) :=
  k_bind (f_R_isShelf p1 u) (fun r2 u1 => if r2 = 0 then some ((-1), u1) else k_bind (f_R_in p3 1 30 u1) (fun r4 u3 => if r4 = 0 then some ((-1), u3) else k_ck (p1) 6 (if (u3.2.1 72 (p1).toNatClampNeg) = (-1) then f_R_records_J43  p1 p2 p3 u3 else k_ck (p1) 6 (if (u3.2.1 72 (p1).toNatClampNeg) = (-3) then f_R_records_J43  p1 p2 p3 u3 else some ((-12), u3)))))
def f_W_clear   (u : k_S) : Option (Int32 × k_S) :=
  k_let (u.1 2003) (fun t1 => k_let (k_wF u 2003 (0)) (fun u2 => some (t1, u2)))
def f_R_clear   (u : k_S) : Option (Int32 × k_S) :=
  k_let (u.1 4235) (fun t1 => k_let (k_wF u 4235 (0)) (fun u2 => some (t1, u2)))
def f_Records_inOrder  (p1 : Int32) (u : k_S) : Option (Int32 × k_S) :=
  if p1 < 0 then some (0, u) else if 40 ≤ p1 then some (0, u) else k_ck (p1) 40 (some (u.2.1 23 (p1).toNatClampNeg, u))
def f_Records_placeOf  (p1 : Int32) (u : k_S) : Option (Int32 × k_S) :=
  if p1 < 0 then some (0, u) else if 40 ≤ p1 then some (0, u) else k_ck (p1) 40 (some (u.2.1 22 (p1).toNatClampNeg, u))
def f_Judging_firstWrong_B21  (v1 : Int32) (v2 : Int32) (v4 : Int32) (u : k_S) : Option (((Int32 × Int32) ⊕ (Int32 ⊕ (Int32))) × k_S) :=
  if (u.1 2003) ≤ v4 then some (.inr (.inr v2), u) else k_bind (f_Records_inOrder v4 u) (fun r3 u2 => k_bind (f_Records_nightOf r3 u2) (fun r5 u4 => if (u4.1 1702) ≤ r5 then k_bind (f_Nights_pass_Thought (r5 - (u4.1 1702)) 1 u4) (fun _ u6 => k_bind (f_Thought_placeOf 0 u6) (fun r8 u7 => k_bind (f_Records_placeOf r3 u7) (fun r10 u9 => if r8 = r10 then some (.inl (v2, v4 + Int32.ofInt 1), u9) else if v1 = 0 then if v2 = (-2) then some (.inl (r3, v4 + Int32.ofInt 1), u9) else if v2 ≤ r3 then some (.inl (v2, v4 + Int32.ofInt 1), u9) else some (.inl (r3, v4 + Int32.ofInt 1), u9) else some (.inr (.inl r3), u9)))) else some (.inl (v2, v4 + Int32.ofInt 1), u4)))
def f_Judging_firstWrong  (p1 : Int32) (u : k_S) : Option (Int32 × k_S) :=
  k_bind (f_Nights_think  u) (fun _ u1 => k_bind (k_itr (fun (x : (Int32 × Int32)) u => f_Judging_firstWrong_B21  p1 x.1 x.2 u) k_FU ((-2), 0) u1) (fun y12 u11 => k_cs y12 (fun r13 => some (r13, u11)) (fun y12 => some (y12, u11))))
def f_W_judge   (u : k_S) : Option (Int32 × k_S) :=
  if (u.1 303) = 0 then some ((-5), u) else k_bind (f_Judging_firstWrong 0 u) (fun r2 u1 => some (r2, u1))
def f_R_firstWrong_B9  (v1 : Int32) (v2 : Int32) (u : k_S) : Option (((Int32 × Int32) ⊕ (Int32)) × k_S) :=
  if (u.1 4235) ≤ v2 then some (.inr v1, u) else k_ck (v2) 40 (if (u.2.1 64 (v2).toNatClampNeg) ≤ v1 then some (.inl (v1, v2 + Int32.ofInt 1), u) else k_ck (v2) 40 (k_let (u.2.1 64 (v2).toNatClampNeg) (fun t2 => some (.inl (t2, v2 + Int32.ofInt 1), u))))
def f_R_firstWrong_B57  (v1 : Int32) (v2 : Int32) (v3 : Int32) (u : k_S) : Option (((Int32 × Int32) ⊕ (Int32)) × k_S) :=
  if (u.1 4235) ≤ v3 then some (.inr v2, u) else k_ck (v3) 40 (if (u.2.1 64 (v3).toNatClampNeg) = (u.1 4209) then k_ck (v3) 40 (k_ck (0) 4 (if (u.2.1 65 (v3).toNatClampNeg) = (u.2.1 46 (0 : Int32).toNatClampNeg) then some (.inl (v2, v3 + Int32.ofInt 1), u) else if v2 < 0 then some (.inl (v3, v3 + Int32.ofInt 1), u) else if v2 ≤ v3 then some (.inl (v2, v3 + Int32.ofInt 1), u) else some (.inl (v3, v3 + Int32.ofInt 1), u))) else some (.inl (v2, v3 + Int32.ofInt 1), u))
def f_R_firstWrong_B47  (v1 : Int32) (v2 : Int32) (u : k_S) : Option (((Int32) ⊕ (Int32)) × k_S) :=
  if v1 < (u.1 4209) then some (.inr v2, u) else k_bind (k_itr (fun (x : (Int32 × Int32)) u => f_R_firstWrong_B57  v1 x.1 x.2 u) k_FU (v2, 0) u) (fun y7 u6 => k_bind (f_R_goOn  u6) (fun _ u8 => some (.inl y7, u8)))
def f_R_firstWrong   (u : k_S) : Option (Int32 × k_S) :=
  k_let ((u.1 4209) - 1) (fun t1 => k_bind (k_itr (fun (x : (Int32 × Int32)) u => f_R_firstWrong_B9  x.1 x.2 u) k_FU (t1, 0) u) (fun y4 u3 => k_bind (f_R_keepNow  u3) (fun _ u5 => k_bind (k_itr (fun (x : (Int32)) u => f_R_firstWrong_B47  y4 x u) k_FU (-2) u5) (fun y10 u9 => k_bind (f_R_layBack  u9) (fun _ u11 => some (y10, u11))))))
def f_R_judge   (u : k_S) : Option (Int32 × k_S) :=
  if (u.1 4203) = 0 then some ((-5), u) else k_bind (f_R_firstWrong  u) (fun r2 u1 => some (r2, u1))
def f_Judging_fitting_B15  (v1 : Int32) (v2 : Int32) (v3 : Int32) (v4 : Int32) (u : k_S) : Option (((Int32 × Int32) ⊕ (Int32)) × k_S) :=
  if 4 ≤ v4 then some (.inr v2, u) else k_ck (v4) 4 (k_bind (f_Wheels_setLetter 0 v1 (k_t101 (v4).toNatClampNeg) u) (fun _ u3 => k_bind (f_Judging_firstWrong 1 u3) (fun r5 u4 => if r5 = (-2) then k_let (v2 ||| (1 <<< (v4 &&& 31))) (fun t6 => some (.inl (t6, v4 + Int32.ofInt 1), u4)) else some (.inl (v2, v4 + Int32.ofInt 1), u4))))
def f_Judging_fitting  (p1 : Int32) (u : k_S) : Option (Int32 × k_S) :=
  k_bind (f_Wheels_letterAt 0 p1 u) (fun r2 u1 => k_bind (k_itr (fun (x : (Int32 × Int32)) u => f_Judging_fitting_B15  p1 x.1 r2 x.2 u) k_FU (0, 0) u1) (fun y8 u7 => k_bind (f_Wheels_setLetter 0 p1 r2 u7) (fun _ u9 => some (y8, u9))))
def f_W_fits  (p1 : Int32) (u : k_S) : Option (Int32 × k_S) :=
  k_bind (f_Wheels_hasPlace 0 p1 u) (fun r2 u1 => if r2 = 0 then some ((-1), u1) else k_bind (f_Judging_fitting p1 u1) (fun r4 u3 => some (r4, u3)))
def f_R_fitting_B12  (v1 : Int32) (v2 : Int32) (v3 : Int32) (v4 : Int32) (u : k_S) : Option (((Int32 × Int32) ⊕ (Int32)) × k_S) :=
  if 4 ≤ v4 then some (.inr v3, u) else k_ck (v4) 4 (k_ck (v1) 160 (k_let (k_wA u 44 (v1).toNatClampNeg (u.2.1 66 (v4).toNatClampNeg)) (fun u2 => k_bind (f_R_firstWrong  u2) (fun r4 u3 => if 0 ≤ r4 then some (.inl (v3, v4 + Int32.ofInt 1), u3) else k_let (v3 ||| (1 <<< (v4 &&& 31))) (fun t5 => some (.inl (t5, v4 + Int32.ofInt 1), u3))))))
def f_R_fitting  (p1 : Int32) (u : k_S) : Option (Int32 × k_S) :=
  k_ck (p1) 160 (k_let (u.2.1 44 (p1).toNatClampNeg) (fun t1 => k_bind (k_itr (fun (x : (Int32 × Int32)) u => f_R_fitting_B12  p1 t1 x.1 x.2 u) k_FU (0, 0) u) (fun y7 u6 => k_ck (p1) 160 (k_let (k_wA u6 44 (p1).toNatClampNeg (t1)) (fun u8 => some (y7, u8))))))
def f_R_fits  (p1 : Int32) (u : k_S) : Option (Int32 × k_S) :=
  if (u.1 4203) ≤ 0 then some ((-1), u) else k_ck (0) 4 (k_bind (f_R_in p1 0 ((u.2.1 45 (0 : Int32).toNatClampNeg) - 1) u) (fun r2 u1 => if r2 = 0 then some ((-1), u1) else k_bind (f_R_fitting p1 u1) (fun r4 u3 => some (r4, u3))))
def f_J_bitCount  (p0 : Int32) (u : k_S) : Option (Int32 × k_S) :=
  k_let (p0 - ((((p0).toUInt32 >>> ((1 : Int32).toUInt32 &&& Int32.toUInt32 31)).toInt32) &&& 1431655765)) (fun t1 => k_let ((t1 &&& 858993459) + ((((t1).toUInt32 >>> ((2 : Int32).toUInt32 &&& Int32.toUInt32 31)).toInt32) &&& 858993459)) (fun t2 => k_let ((t2 + (((t2).toUInt32 >>> ((4 : Int32).toUInt32 &&& Int32.toUInt32 31)).toInt32)) &&& 252645135) (fun t3 => k_let (t3 + (((t3).toUInt32 >>> ((8 : Int32).toUInt32 &&& Int32.toUInt32 31)).toInt32)) (fun t4 => k_let (t4 + (((t4).toUInt32 >>> ((16 : Int32).toUInt32 &&& Int32.toUInt32 31)).toInt32)) (fun t5 => some (t5 &&& 63, u))))))
def f_W_sure_B28  (v1 : Int32) (v2 : Int32) (v3 : Int32) (u : k_S) : Option (((Int32 × Int32) ⊕ (Int32 ⊕ (Int32))) × k_S) :=
  k_bind (f_Wheels_sizeOf 0 u) (fun r2 u1 => if r2 ≤ v3 then some (.inr (.inr v2), u1) else if 40 ≤ v3 then some (.inr (.inr v2), u1) else k_bind (f_Judging_fitting v3 u1) (fun r4 u3 => k_bind (f_J_bitCount r4 u3) (fun r6 u5 => if r6 = 1 then if v1 = 1 then some (.inr (.inl v3), u5) else some (.inl (v2 + Int32.ofInt 1, v3 + Int32.ofInt 1), u5) else some (.inl (v2, v3 + Int32.ofInt 1), u5))))
def f_W_sure_J77  (v1 : Int32) (v2 : Int32) (u : k_S) : Option (Int32 × k_S) :=
  if v1 = 1 then some ((-2), u) else some (v2, u)
def f_W_sure  (p1 : Int32) (u : k_S) : Option (Int32 × k_S) :=
  if p1 < 0 then some ((-1), u) else if p1 ≤ 1 then if (u.1 303) = 0 then some ((-5), u) else k_bind (k_itr (fun (x : (Int32 × Int32)) u => f_W_sure_B28  p1 x.1 x.2 u) k_FU (0, 0) u) (fun y8 u7 => k_cs y8 (fun r9 => some (r9, u7)) (fun y8 => f_W_sure_J77  p1 y8 u7)) else some ((-1), u)
def f_R_bitsOf_B4  (v1 : Int32) (v2 : Int32) (u : k_S) : Option (((Int32 × Int32) ⊕ (Int32)) × k_S) :=
  if v2 = 0 then some (.inr v1, u) else k_let (v2 &&& (v2 - 1)) (fun t1 => some (.inl (v1 + Int32.ofInt 1, t1), u))
def f_R_bitsOf  (p0 : Int32) (u : k_S) : Option (Int32 × k_S) :=
  k_bind (k_itr (fun (x : (Int32 × Int32)) u => f_R_bitsOf_B4  x.1 x.2 u) k_FU (0, p0) u) (fun y3 u2 => some (y3, u2))
def f_R_sure_B29  (v1 : Int32) (v2 : Int32) (v3 : Int32) (v4 : Int32) (u : k_S) : Option (((Int32 × Int32 × Int32) ⊕ (Int32 × Int32)) × k_S) :=
  k_ck (0) 4 (if (u.2.1 45 (0 : Int32).toNatClampNeg) ≤ v4 then some (.inr (v2, v3), u) else k_bind (f_R_fitting v4 u) (fun r4 u3 => k_bind (f_R_bitsOf r4 u3) (fun r6 u5 => if r6 = 1 then if 0 ≤ v3 then some (.inl (v2 + Int32.ofInt 1, v3, v4 + Int32.ofInt 1), u5) else some (.inl (v2 + Int32.ofInt 1, v4, v4 + Int32.ofInt 1), u5) else some (.inl (v2, v3, v4 + Int32.ofInt 1), u5))))
def f_R_sure  (p1 : Int32) (u : k_S) : Option (Int32 × k_S) :=
  k_bind (f_R_in p1 0 1 u) (fun r2 u1 => if r2 = 0 then some ((-1), u1) else if (u1.1 4203) = 0 then some ((-5), u1) else k_bind (k_itr (fun (x : (Int32 × Int32 × Int32)) u => f_R_sure_B29  p1 x.1 x.2.1 x.2.2 u) k_FU (0, (-2), 0) u1) (fun y8 u7 => if p1 = 0 then some (y8.1, u7) else some (y8.2, u7)))
def f_Judging_tryBreaks_J128  (v1 : Int32) (v2 : Int32) (v3 : Int32) (v4 : Int32) (u : k_S) : Option (((Int32 × Int32 × Int32) ⊕ Unit) × k_S) :=
  k_let (k_wF u 2406 (v4)) (fun u6 => k_let (k_wF u6 2407 ((u6.1 2407) + 1)) (fun u7 => some (.inl (v2, v3, v4 + Int32.ofInt 1), u7)))
def f_Judging_tryBreaks_J106  (v1 : Int32) (v2 : Int32) (v3 : Int32) (v4 : Int32) (u : k_S) : Option (((Int32 × Int32 × Int32) ⊕ Unit) × k_S) :=
  if v2 = 0 then some (.inl (v2, v3, v4 + Int32.ofInt 1), u) else if (u.1 2405) = (-2) then k_let (k_wF u 2405 (v4)) (fun u8 => f_Judging_tryBreaks_J128  v1 v2 v3 v4 u8) else f_Judging_tryBreaks_J128  v1 v2 v3 v4 u
def f_Judging_tryBreaks_J105  (v1 : Int32) (v2 : Int32) (v4 : Int32) (s0 : Int32) (u : k_S) : Option (((Int32 × Int32 × Int32) ⊕ Unit) × k_S) :=
  f_Judging_tryBreaks_J106  v1 v2 s0 v4 u
def f_Judging_tryBreaks_J80  (v1 : Int32) (v4 : Int32) (s0 : Int32) (u : k_S) : Option (((Int32 × Int32 × Int32) ⊕ Unit) × k_S) :=
  if (u.1 1206) = (-1) then f_Judging_tryBreaks_J105  v1 s0 v4 400 u else f_Judging_tryBreaks_J105  v1 s0 v4 (u.1 1206) u
def f_Judging_tryBreaks_B33  (v1 : Int32) (v2 : Int32) (v3 : Int32) (v4 : Int32) (u : k_S) : Option (((Int32 × Int32 × Int32) ⊕ Unit) × k_S) :=
  if 400 < v4 then some (.inr (), u) else if v4 ≤ v3 then f_Judging_tryBreaks_J106  v1 v2 v3 v4 u else k_bind (f_Wheels_setBreak 0 v4 u) (fun _ u9 => k_let (k_wF u9 1206 ((-1))) (fun u10 => k_bind (f_Judging_firstWrong 1 u10) (fun r12 u11 => if r12 = (-2) then f_Judging_tryBreaks_J80  v1 v4 1 u11 else f_Judging_tryBreaks_J80  v1 v4 0 u11)))
def f_Judging_tryBreaks   (u : k_S) : Option (Unit × k_S) :=
  k_bind (f_Wheels_breakOf 0 u) (fun r2 u1 => k_let (k_wF u1 2405 ((-2))) (fun u3 => k_let (k_wF u3 2406 ((-2))) (fun u4 => k_let (k_wF u4 2407 (0)) (fun u5 => k_bind (k_itr (fun (x : (Int32 × Int32 × Int32)) u => f_Judging_tryBreaks_B33  r2 x.1 x.2.1 x.2.2 u) k_FU (0, (-1), 0) u5) (fun y14 u13 => k_bind (f_Wheels_setBreak 0 r2 u13) (fun _ u15 => some ((), u15)))))))
def f_W_when  (p1 : Int32) (u : k_S) : Option (Int32 × k_S) :=
  if p1 < 0 then some ((-1), u) else if p1 ≤ 2 then if (u.1 303) = 0 then some ((-5), u) else k_bind (f_Judging_tryBreaks  u) (fun _ u1 => if p1 = 2 then some (u1.1 2407, u1) else if p1 = 0 then some (u1.1 2405, u1) else some (u1.1 2406, u1)) else some ((-1), u)
def f_R_when_B41  (v1 : Int32) (v2 : Int32) (v3 : Int32) (v4 : Int32) (v5 : Int32) (v6 : Int32) (u : k_S) : Option (((Int32 × Int32 × Int32 × Int32) ⊕ (Int32 × Int32 × Int32)) × k_S) :=
  if 400 < v6 then some (.inr (v3, v4, v5), u) else k_ck (0) 4 (k_let (k_wA u 48 (0 : Int32).toNatClampNeg (v6)) (fun u4 => k_bind (f_R_firstWrong  u4) (fun r6 u5 => if r6 < 0 then if 0 ≤ v3 then some (.inl (v3, v6, v5 + Int32.ofInt 1, v6 + Int32.ofInt 1), u5) else some (.inl (v6, v6, v5 + Int32.ofInt 1, v6 + Int32.ofInt 1), u5) else some (.inl (v3, v4, v5, v6 + Int32.ofInt 1), u5))))
def f_R_when  (p1 : Int32) (u : k_S) : Option (Int32 × k_S) :=
  k_bind (f_R_in p1 0 2 u) (fun r2 u1 => if r2 = 0 then some ((-1), u1) else if (u1.1 4203) = 0 then some ((-5), u1) else k_ck (0) 4 (k_let (u1.2.1 48 (0 : Int32).toNatClampNeg) (fun t3 => k_bind (k_itr (fun (x : (Int32 × Int32 × Int32 × Int32)) u => f_R_when_B41  p1 t3 x.1 x.2.1 x.2.2.1 x.2.2.2 u) k_FU ((-2), (-2), 0, 0) u1) (fun y8 u7 => k_ck (0) 4 (k_let (k_wA u7 48 (0 : Int32).toNatClampNeg (t3)) (fun u9 => if p1 = 0 then some (y8.1, u9) else if p1 = 1 then some (y8.2.1, u9) else some (y8.2.2, u9)))))))
def f_Judging_watchLetters_B44  (v1 : Int32) (v2 : Int32) (v3 : Int32) (v4 : Int32) (u : k_S) : Option (((Int32) ⊕ Unit) × k_S) :=
  if 10 ≤ v4 then some (.inr (), u) else k_bind (f_Nights_pass_Thought 1 1 u) (fun _ u5 => k_let ((10 * v3) + v4) (fun t6 => if 40 ≤ t6 then some (.inl (v4 + Int32.ofInt 1), u5) else k_bind (f_Thought_placeOf 0 u5) (fun r8 u7 => k_ck (t6) 40 (k_let (k_wA u7 25 (t6).toNatClampNeg (r8)) (fun u9 => some (.inl (v4 + Int32.ofInt 1), u9))))))
def f_Judging_watchLetters_B12  (v1 : Int32) (v2 : Int32) (v3 : Int32) (u : k_S) : Option (((Int32) ⊕ Unit) × k_S) :=
  if 4 ≤ v3 then some (.inr (), u) else k_ck (v3) 4 (k_bind (f_Wheels_setLetter 0 v1 (k_t101 (v3).toNatClampNeg) u) (fun _ u3 => k_bind (f_Nights_think  u3) (fun _ u4 => k_bind (k_itr (fun (x : (Int32)) u => f_Judging_watchLetters_B44  v1 v2 v3 x u) k_FU 0 u4) (fun y11 u10 => some (.inl (v3 + Int32.ofInt 1), u10)))))
def f_Judging_watchLetters  (p1 : Int32) (u : k_S) : Option (Unit × k_S) :=
  k_bind (f_Wheels_letterAt 0 p1 u) (fun r2 u1 => k_bind (k_itr (fun (x : (Int32)) u => f_Judging_watchLetters_B12  p1 r2 x u) k_FU 0 u1) (fun y13 u12 => k_bind (f_Wheels_setLetter 0 p1 r2 u12) (fun _ u14 => some ((), u14))))
def f_Judging_compareLetters_B15  (v1 : Int32) (v2 : Int32) (v3 : Int32) (u : k_S) : Option (((Int32 × Int32) ⊕ (Int32)) × k_S) :=
  if 10 ≤ v3 then some (.inr v2, u) else k_let ((10 * (v1 / 4)) + v3) (fun t1 => k_let ((10 * (v1 % 4)) + v3) (fun t2 => if 40 ≤ t1 then some (.inl (v2, v3 + Int32.ofInt 1), u) else if t2 < 40 then k_ck (t1) 40 (k_ck (t2) 40 (if (u.2.1 25 (t1).toNatClampNeg) = (u.2.1 25 (t2).toNatClampNeg) then some (.inl (v2, v3 + Int32.ofInt 1), u) else k_let (v2 ||| (1 <<< (v3 &&& 31))) (fun t3 => some (.inl (t3, v3 + Int32.ofInt 1), u)))) else some (.inl (v2, v3 + Int32.ofInt 1), u)))
def f_Judging_compareLetters_B2  (v1 : Int32) (u : k_S) : Option (((Int32) ⊕ Unit) × k_S) :=
  if 16 ≤ v1 then some (.inr (), u) else k_bind (k_itr (fun (x : (Int32 × Int32)) u => f_Judging_compareLetters_B15  v1 x.1 x.2 u) k_FU (0, 0) u) (fun y5 u4 => k_ck (v1) 16 (k_let (k_wA u4 26 (v1).toNatClampNeg (y5)) (fun u6 => some (.inl (v1 + Int32.ofInt 1), u6))))
def f_Judging_compareLetters   (u : k_S) : Option (Unit × k_S) :=
  k_bind (k_itr (fun (x : (Int32)) u => f_Judging_compareLetters_B2  x u) k_FU 0 u) (fun y8 u7 => some ((), u7))
def f_Judging_tellApart_J46  (v1 : Int32) (v2 : Int32) (v3 : Int32) (v4 : Int32) (v5 : Int32) (s0 : Int32) (u : k_S) : Option (((Int32) ⊕ (Int32 ⊕ Unit)) × k_S) :=
  if v5 ≤ v4 then some (.inl (v3 + Int32.ofInt 1), u) else if s0 = 0 then some (.inl (v3 + Int32.ofInt 1), u) else k_ck (v3) 16 (if ((u.2.1 26 (v3).toNatClampNeg) &&& v1) = 0 then some (.inr (.inl 0), u) else some (.inl (v3 + Int32.ofInt 1), u))
def f_Judging_tellApart_J45  (v1 : Int32) (v2 : Int32) (v3 : Int32) (v4 : Int32) (v5 : Int32) (u : k_S) : Option (((Int32) ⊕ (Int32 ⊕ Unit)) × k_S) :=
  f_Judging_tellApart_J46  v1 v2 v3 v4 v5 0 u
def f_Judging_tellApart_B2  (v1 : Int32) (v2 : Int32) (v3 : Int32) (u : k_S) : Option (((Int32) ⊕ (Int32 ⊕ Unit)) × k_S) :=
  if 16 ≤ v3 then some (.inr (.inr ()), u) else k_let (v3 / 4) (fun t1 => k_let (v3 % 4) (fun t2 => if ((v2 >>> (t1 &&& 31)) &&& 1) = 1 then if ((v2 >>> (t2 &&& 31)) &&& 1) = 1 then f_Judging_tellApart_J46  v1 v2 v3 t1 t2 1 u else f_Judging_tellApart_J45  v1 v2 v3 t1 t2 u else f_Judging_tellApart_J45  v1 v2 v3 t1 t2 u))
def f_Judging_tellApart  (p1 : Int32) (p2 : Int32) (u : k_S) : Option (Int32 × k_S) :=
  k_bind (k_itr (fun (x : (Int32)) u => f_Judging_tellApart_B2  p1 p2 x u) k_FU 0 u) (fun y4 u3 => k_cs y4 (fun r5 => some (r5, u3)) (fun y4 => some (1, u3)))
def f_Judging_fewestNights_B29  (v2 : Int32) (v3 : Int32) (v4 : Int32) (v5 : Int32) (u : k_S) : Option (((Int32 × Int32 × Int32) ⊕ (Int32)) × k_S) :=
  if 1024 ≤ v5 then some (.inr v3, u) else k_bind (f_J_bitCount v5 u) (fun r6 u5 => if v4 ≤ r6 then some (.inl (v3, v4, v5 + Int32.ofInt 1), u5) else k_bind (f_Judging_tellApart v5 v2 u5) (fun r8 u7 => if r8 = 0 then some (.inl (v3, v4, v5 + Int32.ofInt 1), u7) else some (.inl (v5, r6, v5 + Int32.ofInt 1), u7)))
def f_Judging_fewestNights  (p1 : Int32) (p2 : Int32) (u : k_S) : Option (Int32 × k_S) :=
  k_bind (f_J_bitCount p2 u) (fun r2 u1 => if 2 ≤ r2 then k_bind (f_Judging_watchLetters p1 u1) (fun _ u3 => k_bind (f_Judging_compareLetters  u3) (fun _ u4 => k_bind (k_itr (fun (x : (Int32 × Int32 × Int32)) u => f_Judging_fewestNights_B29  p2 x.1 x.2.1 x.2.2 u) k_FU ((-2), 11, 1) u4) (fun y10 u9 => some (y10, u9)))) else some (0, u1))
def f_W_watch  (p1 : Int32) (u : k_S) : Option (Int32 × k_S) :=
  k_bind (f_Wheels_hasPlace 0 p1 u) (fun r2 u1 => if r2 = 0 then some ((-1), u1) else k_bind (f_Judging_fitting p1 u1) (fun r4 u3 => k_bind (f_Judging_fewestNights p1 r4 u3) (fun r6 u5 => some (r6, u5))))
def f_R_doesPart_B44  (v1 : Int32) (v2 : Int32) (v3 : Int32) (v4 : Int32) (v5 : Int32) (v6 : Int32) (u : k_S) : Option (((Int32 × Int32) ⊕ (Int32)) × k_S) :=
  if 10 < v6 then some (.inr v5, u) else if ((v1 >>> ((v6 - 1) &&& 31)) &&& 1) = 1 then k_ck ((11 * v3) + v6) 44 (k_ck ((11 * v4) + v6) 44 (if (u.2.1 67 ((11 * v3) + v6).toNatClampNeg) = (u.2.1 67 ((11 * v4) + v6).toNatClampNeg) then some (.inl (v5, v6 + Int32.ofInt 1), u) else some (.inl (1, v6 + Int32.ofInt 1), u))) else some (.inl (v5, v6 + Int32.ofInt 1), u)
def f_R_doesPart_B12  (v1 : Int32) (v2 : Int32) (v3 : Int32) (v4 : Int32) (u : k_S) : Option (((Int32) ⊕ (Int32 ⊕ Unit)) × k_S) :=
  if 4 ≤ v4 then some (.inr (.inr ()), u) else if ((v2 >>> (v3 &&& 31)) &&& 1) = 0 then some (.inl (v4 + Int32.ofInt 1), u) else if ((v2 >>> (v4 &&& 31)) &&& 1) = 0 then some (.inl (v4 + Int32.ofInt 1), u) else k_bind (k_itr (fun (x : (Int32 × Int32)) u => f_R_doesPart_B44  v1 v2 v3 v4 x.1 x.2 u) k_FU (0, 1) u) (fun y3 u2 => if y3 = 0 then some (.inr (.inl 0), u2) else some (.inl (v4 + Int32.ofInt 1), u2))
def f_R_doesPart_B2  (v1 : Int32) (v2 : Int32) (v3 : Int32) (u : k_S) : Option (((Int32) ⊕ (Int32 ⊕ Unit)) × k_S) :=
  if 4 ≤ v3 then some (.inr (.inr ()), u) else k_let (v3 + 1) (fun t1 => k_bind (k_itr (fun (x : (Int32)) u => f_R_doesPart_B12  v1 v2 v3 x u) k_FU t1 u) (fun y5 u4 => k_cs y5 (fun r6 => some (.inr (.inl r6), u4)) (fun y5 => some (.inl (v3 + Int32.ofInt 1), u4))))
def f_R_doesPart  (p1 : Int32) (p2 : Int32) (u : k_S) : Option (Int32 × k_S) :=
  k_bind (k_itr (fun (x : (Int32)) u => f_R_doesPart_B2  p1 p2 x u) k_FU 0 u) (fun y8 u7 => k_cs y8 (fun r9 => some (r9, u7)) (fun y8 => some (1, u7)))
def f_R_watch_B77  (v1 : Int32) (v2 : Int32) (v3 : Int32) (v4 : Int32) (v5 : Int32) (u : k_S) : Option (((Int32) ⊕ Unit) × k_S) :=
  if 10 < v5 then some (.inr (), u) else k_bind (f_R_goOn  u) (fun _ u10 => k_ck (0) 4 (k_ck ((11 * v4) + v5) 44 (k_let (k_wA u10 67 ((11 * v4) + v5).toNatClampNeg (u10.2.1 46 (0 : Int32).toNatClampNeg)) (fun u11 => some (.inl (v5 + Int32.ofInt 1), u11)))))
def f_R_watch_B51  (v1 : Int32) (v2 : Int32) (v3 : Int32) (v4 : Int32) (u : k_S) : Option (((Int32) ⊕ Unit) × k_S) :=
  if 4 ≤ v4 then some (.inr (), u) else k_ck (v4) 4 (k_ck (v1) 160 (k_let (k_wA u 44 (v1).toNatClampNeg (u.2.1 66 (v4).toNatClampNeg)) (fun u8 => k_bind (f_R_keepNow  u8) (fun _ u9 => k_bind (k_itr (fun (x : (Int32)) u => f_R_watch_B77  v1 v2 v3 v4 x u) k_FU 1 u9) (fun y13 u12 => k_bind (f_R_layBack  u12) (fun _ u14 => some (.inl (v4 + Int32.ofInt 1), u14)))))))
def f_R_watch_J163  (v2 : Int32) (v4 : Int32) (v5 : Int32) (u : k_S) : Option (((Int32 × Int32) ⊕ (Int32)) × k_S) :=
  k_bind (f_R_doesPart v5 v2 u) (fun r19 u18 => if r19 = 0 then some (.inl (v4, v5 + Int32.ofInt 1), u18) else some (.inl (v5, v5 + Int32.ofInt 1), u18))
def f_R_watch_B137  (v2 : Int32) (v4 : Int32) (v5 : Int32) (u : k_S) : Option (((Int32 × Int32) ⊕ (Int32)) × k_S) :=
  if 1024 ≤ v5 then some (.inr v4, u) else if v4 < 0 then f_R_watch_J163  v2 v4 v5 u else k_bind (f_R_bitsOf v5 u) (fun r21 u20 => k_bind (f_R_bitsOf v4 u20) (fun r23 u22 => if r23 ≤ r21 then some (.inl (v4, v5 + Int32.ofInt 1), u22) else f_R_watch_J163  v2 v4 v5 u22))
def f_R_watch  (p1 : Int32) (u : k_S) : Option (Int32 × k_S) :=
  if (u.1 4203) = 0 then some ((-1), u) else k_ck (0) 4 (k_bind (f_R_in p1 0 ((u.2.1 45 (0 : Int32).toNatClampNeg) - 1) u) (fun r2 u1 => if r2 = 0 then some ((-1), u1) else k_bind (f_R_fitting p1 u1) (fun r4 u3 => k_bind (f_R_bitsOf r4 u3) (fun r6 u5 => if 2 ≤ r6 then k_ck (p1) 160 (k_let (u5.2.1 44 (p1).toNatClampNeg) (fun t7 => k_bind (k_itr (fun (x : (Int32)) u => f_R_watch_B51  p1 r4 t7 x u) k_FU 0 u5) (fun y16 u15 => k_ck (p1) 160 (k_let (k_wA u15 44 (p1).toNatClampNeg (t7)) (fun u17 => k_bind (k_itr (fun (x : (Int32 × Int32)) u => f_R_watch_B137  r4 x.1 x.2 u) k_FU ((-2), 0) u17) (fun y25 u24 => some (y25, u24))))))) else some (0, u5)))))
def f_Picture_stand  (p1 : Int32) (p2 : Int32) (p3 : Int32) (u : k_S) : Option (Unit × k_S) :=
  if p1 < 0 then some ((), u) else if 4 ≤ p1 then some ((), u) else if p1 < 4 then k_ck (p1) 4 (k_let (k_wA u 28 (p1).toNatClampNeg (p2)) (fun u1 => k_ck (p1) 4 (k_let (k_wA u1 29 (p1).toNatClampNeg (p3)) (fun u2 => some ((), u2))))) else some ((), u)
def f_Picture_become_Now_B10  (v2 : Int32) (v3 : Int32) (u : k_S) : Option (((Int32) ⊕ Unit) × k_S) :=
  if v2 ≤ v3 then some (.inr (), u) else if 4 ≤ v3 then some (.inr (), u) else k_bind (f_Now_placeOf v3 u) (fun r3 u2 => k_bind (f_Now_waitsOf v3 u2) (fun r5 u4 => k_bind (f_Picture_stand v3 r3 r5 u4) (fun _ u6 => some (.inl (v3 + Int32.ofInt 1), u6))))
def f_Picture_become_Now  (p2 : Int32) (u : k_S) : Option (Unit × k_S) :=
  k_let (k_wF u 2702 (u.1 1402)) (fun u1 => k_bind (k_itr (fun (x : (Int32)) u => f_Picture_become_Now_B10  p2 x u) k_FU 0 u1) (fun y8 u7 => some ((), u7)))
def f_W_image   (u : k_S) : Option (Int32 × k_S) :=
  k_bind (f_Picture_become_Now (u.1 303) u) (fun _ u1 => k_let (k_wF u1 10 (u1.1 303)) (fun u2 => some (u2.1 2702, u2)))
def f_R_image_B23  (v1 : Int32) (u : k_S) : Option (((Int32) ⊕ Unit) × k_S) :=
  if 4 ≤ v1 then some (.inr (), u) else k_ck (v1) 4 (k_ck (v1) 4 (k_let (k_wA u 68 (v1).toNatClampNeg (u.2.1 46 (v1).toNatClampNeg)) (fun u4 => k_ck (v1) 4 (k_ck (v1) 4 (k_let (k_wA u4 69 (v1).toNatClampNeg (u4.2.1 47 (v1).toNatClampNeg)) (fun u5 => some (.inl (v1 + Int32.ofInt 1), u5)))))))
def f_R_image   (u : k_S) : Option (Int32 × k_S) :=
  k_let (k_wF u 4240 (1)) (fun u1 => k_let (k_wF u1 4241 (u1.1 4203)) (fun u2 => k_let (k_wF u2 4242 (u2.1 4209)) (fun u3 => k_bind (k_itr (fun (x : (Int32)) u => f_R_image_B23  x u) k_FU 0 u3) (fun y7 u6 => some (u6.1 4209, u6)))))
def f_Picture_placeOf  (p1 : Int32) (u : k_S) : Option (Int32 × k_S) :=
  if p1 < 0 then some (0, u) else if 4 ≤ p1 then some (0, u) else k_ck (p1) 4 (some (u.2.1 28 (p1).toNatClampNeg, u))
def f_Picture_waitsOf  (p1 : Int32) (u : k_S) : Option (Int32 × k_S) :=
  if p1 < 0 then some (0, u) else if 4 ≤ p1 then some (0, u) else k_ck (p1) 4 (some (u.2.1 29 (p1).toNatClampNeg, u))
def f_Now_become_Picture_B10  (v2 : Int32) (v3 : Int32) (u : k_S) : Option (((Int32) ⊕ Unit) × k_S) :=
  if v2 ≤ v3 then some (.inr (), u) else if 4 ≤ v3 then some (.inr (), u) else k_bind (f_Picture_placeOf v3 u) (fun r3 u2 => k_bind (f_Picture_waitsOf v3 u2) (fun r5 u4 => k_bind (f_Now_stand v3 r3 r5 u4) (fun _ u6 => some (.inl (v3 + Int32.ofInt 1), u6))))
def f_Now_become_Picture  (p2 : Int32) (u : k_S) : Option (Unit × k_S) :=
  k_let (k_wF u 1402 (u.1 2702)) (fun u1 => k_bind (k_itr (fun (x : (Int32)) u => f_Now_become_Picture_B10  p2 x u) k_FU 0 u1) (fun y8 u7 => some ((), u7)))
def f_W_back   (u : k_S) : Option (Int32 × k_S) :=
  if (u.1 10) = (-1) then some ((-5), u) else k_bind (f_Now_become_Picture (u.1 10) u) (fun _ u1 => some (u1.1 1402, u1))
def f_R_back_B20  (v1 : Int32) (u : k_S) : Option (((Int32) ⊕ Unit) × k_S) :=
  if (u.1 4241) ≤ v1 then some (.inr (), u) else k_ck (v1) 4 (k_ck (v1) 4 (k_let (k_wA u 46 (v1).toNatClampNeg (u.2.1 68 (v1).toNatClampNeg)) (fun u2 => k_ck (v1) 4 (k_ck (v1) 4 (k_let (k_wA u2 47 (v1).toNatClampNeg (u2.2.1 69 (v1).toNatClampNeg)) (fun u3 => some (.inl (v1 + Int32.ofInt 1), u3)))))))
def f_R_back   (u : k_S) : Option (Int32 × k_S) :=
  if (u.1 4240) = 0 then some ((-5), u) else k_let (k_wF u 4209 (u.1 4242)) (fun u1 => k_bind (k_itr (fun (x : (Int32)) u => f_R_back_B20  x u) k_FU 0 u1) (fun y5 u4 => some (u4.1 4209, u4)))
def f_W_apply  (p1 : Int32) (p2 : Int32) (u : k_S) : Option (Unit × k_S) :=
  k_bind (f_Changes_wheelAt p1 u) (fun r2 u1 => k_bind (f_Changes_placeAt p1 u1) (fun r4 u3 => if r4 = (-1) then k_bind (f_Wheels_setBreak r2 p2 u3) (fun _ u6 => some ((), u6)) else k_bind (f_Wheels_setLetter r2 r4 p2 u3) (fun _ u5 => some ((), u5))))
def f_W_undo   (u : k_S) : Option (Int32 × k_S) :=
  if (u.1 3004) = 0 then some ((-5), u) else k_let (k_wF u 3004 ((u.1 3004) - 1)) (fun u1 => k_bind (f_Changes_beforeAt (u1.1 3004) u1) (fun r3 u2 => k_bind (f_W_apply (u1.1 3004) r3 u2) (fun _ u4 => some (u4.1 3004, u4))))
def f_R_undo   (u : k_S) : Option (Int32 × k_S) :=
  if (u.1 4224) = 0 then some ((-5), u) else k_let (k_wF u 4224 ((u.1 4224) - 1)) (fun u1 => k_let (k_wF u1 4225 ((u1.1 4225) + 1)) (fun u2 => k_ck (u2.1 4224) 40 (k_ck (u2.1 4224) 40 (k_ck (u2.1 4224) 40 (k_bind (f_R_lays (u2.2.1 56 (u2.1 4224).toNatClampNeg) (u2.2.1 57 (u2.1 4224).toNatClampNeg) (u2.2.1 58 (u2.1 4224).toNatClampNeg) u2) (fun _ u3 => some (u3.1 4224, u3)))))))
def f_W_redo   (u : k_S) : Option (Int32 × k_S) :=
  if (u.1 3004) < (u.1 3005) then k_bind (f_Changes_afterAt (u.1 3004) u) (fun r2 u1 => k_bind (f_W_apply (u.1 3004) r2 u1) (fun _ u3 => k_let (k_wF u3 3004 ((u3.1 3004) + 1)) (fun u4 => some ((u4.1 3005) - (u4.1 3004), u4)))) else some ((-5), u)
def f_R_redo   (u : k_S) : Option (Int32 × k_S) :=
  if (u.1 4225) = 0 then some ((-5), u) else k_ck (u.1 4224) 40 (k_ck (u.1 4224) 40 (k_ck (u.1 4224) 40 (k_bind (f_R_lays (u.2.1 56 (u.1 4224).toNatClampNeg) (u.2.1 57 (u.1 4224).toNatClampNeg) (u.2.1 59 (u.1 4224).toNatClampNeg) u) (fun _ u1 => k_let (k_wF u1 4224 ((u1.1 4224) + 1)) (fun u2 => k_let (k_wF u2 4225 ((u2.1 4225) - 1)) (fun u3 => some (u3.1 4225, u3)))))))
def f_Bodies_add  (p1 : Int32) (u : k_S) : Option (Int32 × k_S) :=
  if (u.1 3502) < 0 then some ((-3), u) else if (u.1 3502) < 50 then k_ck (u.1 3502) 50 (k_let (k_wA u 36 (u.1 3502).toNatClampNeg (p1)) (fun u1 => k_let (k_wF u1 3502 ((u1.1 3502) + 1)) (fun u2 => some ((u2.1 3502) - 1, u2)))) else some ((-3), u)
def f_W_body  (p1 : Int32) (u : k_S) : Option (Int32 × k_S) :=
  if p1 < 0 then some ((-1), u) else if p1 < 8 then if (u.1 3502) < 50 then k_bind (f_Bodies_add p1 u) (fun r2 u1 => some (r2, u1)) else some ((-3), u) else some ((-1), u)
def f_R_body  (p1 : Int32) (u : k_S) : Option (Int32 × k_S) :=
  k_bind (f_R_in p1 0 7 u) (fun r2 u1 => if r2 = 0 then some ((-1), u1) else if (u1.1 4245) = 50 then some ((-3), u1) else k_ck (u1.1 4245) 50 (k_let (k_wA u1 70 (u1.1 4245).toNatClampNeg (p1)) (fun u3 => k_let (k_wF u3 4245 ((u3.1 4245) + 1)) (fun u4 => some ((u4.1 4245) - 1, u4)))))
def f_Bodies_forgetTrace   (u : k_S) : Option (Unit × k_S) :=
  k_let (k_wF u 3503 (0)) (fun u1 => some ((), u1))
def f_Bodies_has  (p1 : Int32) (u : k_S) : Option (Int32 × k_S) :=
  if p1 < 0 then some (0, u) else if (u.1 3502) ≤ p1 then some (0, u) else if 50 ≤ p1 then some (0, u) else some (1, u)
def f_Bodies_kindOf  (p1 : Int32) (u : k_S) : Option (Int32 × k_S) :=
  if p1 < 0 then some ((-1), u) else if 50 ≤ p1 then some ((-1), u) else k_ck (p1) 50 (some (u.2.1 36 (p1).toNatClampNeg, u))
def f_Bodies_bodyFor_J59  (v1 : Int32) (v2 : Int32) (v3 : Int32) (u : k_S) : Option (((Int32 × Int32) ⊕ (Int32 ⊕ Unit)) × k_S) :=
  k_ck (v2) 8 (k_let (k_t102 (v2).toNatClampNeg) (fun t2 => some (.inl (t2, v3 + Int32.ofInt 1), u)))
def f_Bodies_bodyFor_B4  (v1 : Int32) (v2 : Int32) (v3 : Int32) (u : k_S) : Option (((Int32 × Int32) ⊕ (Int32 ⊕ Unit)) × k_S) :=
  if 8 ≤ v3 then some (.inr (.inr ()), u) else if v2 < 0 then some (.inr (.inr ()), u) else if 8 ≤ v2 then some (.inr (.inr ()), u) else k_let ((4 * v2) + v1) (fun t1 => if t1 < 0 then f_Bodies_bodyFor_J59  v1 v2 v3 u else if 32 ≤ t1 then f_Bodies_bodyFor_J59  v1 v2 v3 u else k_ck (t1) 32 (if (k_t103 (t1).toNatClampNeg) = 0 then f_Bodies_bodyFor_J59  v1 v2 v3 u else k_ck (t1) 32 (some (.inr (.inl (k_t103 (t1).toNatClampNeg)), u))))
def f_Bodies_bodyFor  (p0 : Int32) (p1 : Int32) (u : k_S) : Option (Int32 × k_S) :=
  k_bind (k_itr (fun (x : (Int32 × Int32)) u => f_Bodies_bodyFor_B4  p1 x.1 x.2 u) k_FU (p0, 0) u) (fun y4 u3 => k_cs y4 (fun r5 => some (r5, u3)) (fun y4 => some (0, u3)))
def f_Bodies_call (rc : Int32 → Int32 → Int32 → k_S → Option (Int32 × k_S)) (p1 : Int32) (p2 : Int32) (p3 : Int32) (u : k_S) : Option (Int32 × k_S) :=
  k_bind (f_Bodies_kindOf (u.1 3504) u) (fun r2 u1 => k_bind (f_Bodies_bodyFor r2 p1 u1) (fun r4 u3 => k_bind (rc r4 p2 (p3 + 1) u3) (fun r6 u5 => some (r6, u5))))
def f_Bodies_above_J21 (rc : Int32 → Int32 → Int32 → k_S → Option (Int32 × k_S)) (v2 : Int32) (v3 : Int32) (v4 : Int32) (s0 : Int32) (u : k_S) : Option (Int32 × k_S) :=
  k_bind (f_Bodies_bodyFor s0 v2 u) (fun r2 u1 => k_bind (rc r2 v3 (v4 + 1) u1) (fun r4 u3 => some (r4, u3)))
def f_Bodies_above_J20 (rc : Int32 → Int32 → Int32 → k_S → Option (Int32 × k_S)) (v2 : Int32) (v3 : Int32) (v4 : Int32) (u : k_S) : Option (Int32 × k_S) :=
  f_Bodies_above_J21 rc v2 v3 v4 (-1) u
def f_Bodies_above (rc : Int32 → Int32 → Int32 → k_S → Option (Int32 × k_S)) (p1 : Int32) (p2 : Int32) (p3 : Int32) (p4 : Int32) (u : k_S) : Option (Int32 × k_S) :=
  if p1 < 0 then f_Bodies_above_J20 rc p2 p3 p4 u else if 8 ≤ p1 then f_Bodies_above_J20 rc p2 p3 p4 u else k_ck (p1) 8 (f_Bodies_above_J21 rc p2 p3 p4 (k_t102 (p1).toNatClampNeg) u)
def f_Bodies_run_J37 (rc : Int32 → Int32 → Int32 → k_S → Option (Int32 × k_S)) (v1 : Int32) (v2 : Int32) (v3 : Int32) (u : k_S) : Option (Int32 × k_S) :=
  k_let (k_wF u 3503 ((u.1 3503) + 1)) (fun u1 => if v1 = 1 then some (v2 + (u1.1 3504), u1) else if v1 = 2 then k_bind (f_Bodies_call rc 1 v2 v3 u1) (fun r3 u2 => k_bind (f_Bodies_call rc 2 1 v3 u2) (fun r5 u4 => some (r3 - r5, u4))) else if v1 = 10 then k_bind (f_Bodies_call rc 0 v2 v3 u1) (fun r7 u6 => some (r7 * 2, u6)) else if v1 = 11 then some (v2 ^^^ (u1.1 3504), u1) else if v1 = 20 then k_bind (f_Bodies_above rc 1 0 v2 v3 u1) (fun r9 u8 => some (r9 + 3, u8)) else if v1 = 30 then k_bind (f_Bodies_above rc 2 1 v2 v3 u1) (fun r11 u10 => some (-r11, u10)) else if v1 = 40 then k_bind (f_Bodies_above rc 3 2 v2 v3 u1) (fun r13 u12 => some (r13 * 3, u12)) else if v1 = 41 then k_bind (f_Bodies_above rc 3 1 (v2 + 1) v3 u1) (fun r15 u14 => some (r15, u14)) else if v1 = 50 then k_bind (f_Bodies_above rc 4 3 v2 v3 u1) (fun r17 u16 => some (r17 ^^^ 5, u16)) else if v1 = 60 then k_bind (f_Bodies_above rc 5 2 v2 v3 u1) (fun r19 u18 => k_bind (f_Bodies_call rc 0 2 v3 u18) (fun r21 u20 => some (r19 - r21, u20))) else if v1 = 61 then k_bind (f_Bodies_above rc 5 3 v2 v3 u1) (fun r23 u22 => some (r23 + 1, u22)) else if v1 = 70 then k_bind (f_Bodies_above rc 6 0 v2 v3 u1) (fun r25 u24 => some (r25 * 2, u24)) else if v1 = 80 then k_bind (f_Bodies_above rc 7 1 v2 v3 u1) (fun r27 u26 => k_bind (f_Bodies_call rc 2 2 v3 u26) (fun r29 u28 => some (r27 + r29, u28))) else if v1 = 81 then k_bind (f_Bodies_above rc 7 0 v2 v3 u1) (fun r31 u30 => some (r31 - 1, u30)) else some (0, u1))
def f_Bodies_run (rc : Int32 → Int32 → Int32 → k_S → Option (Int32 × k_S)) (p1 : Int32) (p2 : Int32) (p3 : Int32) (u : k_S) : Option (Int32 × k_S) :=
  if p3 ≤ 40 then if (u.1 3503) < 0 then f_Bodies_run_J37 rc p1 p2 p3 u else if 24 ≤ (u.1 3503) then f_Bodies_run_J37 rc p1 p2 p3 u else k_ck (u.1 3503) 24 (k_let (k_wA u 37 (u.1 3503).toNatClampNeg (p1)) (fun u32 => f_Bodies_run_J37 rc p1 p2 p3 u32)) else some (0, u)
def f_Bodies_run_rec : Nat → Int32 → Int32 → Int32 → k_S → Option (Int32 × k_S)
  | 0, _, _, _, _ => none
  | n + 1, a0, a1, a2, w => f_Bodies_run (f_Bodies_run_rec n) a0 a1 a2 w
def d_Bodies_run : Nat → Nat
  | 0 => 0
  | n + 1 => d_Bodies_run n + 3
def f_Bodies_perform  (p1 : Int32) (p2 : Int32) (p3 : Int32) (u : k_S) : Option (Int32 × k_S) :=
  k_let (k_wF u 3504 (p1)) (fun u1 => k_bind (f_Bodies_call (f_Bodies_run_rec 12) p2 p3 0 u1) (fun r3 u2 => some (r3, u2)))
def f_W_act  (p1 : Int32) (p2 : Int32) (p3 : Int32) (u : k_S) : Option (Int32 × k_S) :=
  k_bind (f_Bodies_forgetTrace  u) (fun _ u1 => k_bind (f_Bodies_has p1 u1) (fun r3 u2 => if r3 = 0 then some (0, u2) else if p2 < 0 then some (0, u2) else if p2 < 4 then k_bind (f_Bodies_perform p1 p2 p3 u2) (fun r5 u4 => some (r5, u4)) else some (0, u2)))
def f_R_isBody  (p1 : Int32) (u : k_S) : Option (Int32 × k_S) :=
  k_bind (f_R_in p1 0 ((u.1 4245) - 1) u) (fun r2 u1 => k_zb r2 (some (r2, u1)))
def f_R_ran_J19   (u : k_S) : Option (Unit × k_S) :=
  k_let (k_wF u 4247 ((u.1 4247) + 1)) (fun u1 => some ((), u1))
def f_R_ran  (p1 : Int32) (u : k_S) : Option (Unit × k_S) :=
  if 24 ≤ (u.1 4247) then f_R_ran_J19   u else k_ck (u.1 4247) 24 (k_let (k_wA u 71 (u.1 4247).toNatClampNeg (p1)) (fun u2 => f_R_ran_J19   u2))
def f_R_isUnder_J44  (v0 : Int32) (v1 : Int32) (u : k_S) : Option (Int32 × k_S) :=
  if v1 = 6 then if v0 = 7 then some (1, u) else some (0, u) else some (0, u)
def f_R_isUnder_J34  (v0 : Int32) (v1 : Int32) (u : k_S) : Option (Int32 × k_S) :=
  if v1 = 4 then if v0 = 5 then some (1, u) else f_R_isUnder_J44  v0 v1 u else f_R_isUnder_J44  v0 v1 u
def f_R_isUnder_J24  (v0 : Int32) (v1 : Int32) (u : k_S) : Option (Int32 × k_S) :=
  if v1 = 2 then if v0 = 3 then some (1, u) else f_R_isUnder_J34  v0 v1 u else f_R_isUnder_J34  v0 v1 u
def f_R_isUnder  (p0 : Int32) (p1 : Int32) (u : k_S) : Option (Int32 × k_S) :=
  if p1 = 0 then some (1, u) else if p0 = p1 then some (1, u) else if p1 = 1 then if p0 = 4 then some (1, u) else if p0 = 5 then some (1, u) else f_R_isUnder_J24  p0 p1 u else f_R_isUnder_J24  p0 p1 u
def f_R_plainTurns  (p1 : Int32) (p2 : Int32) (u : k_S) : Option (Int32 × k_S) :=
  k_bind (f_R_ran 1 u) (fun _ u1 => some (p2 + p1, u1))
def f_R_toldTurns  (p1 : Int32) (p2 : Int32) (u : k_S) : Option (Int32 × k_S) :=
  k_bind (f_R_ran 70 u) (fun _ u1 => k_bind (f_R_plainTurns p1 p2 u1) (fun r3 u2 => some (r3 * 2, u2)))
def f_R_turning  (p1 : Int32) (p2 : Int32) (u : k_S) : Option (Int32 × k_S) :=
  k_ck (p1) 50 (k_bind (f_R_isUnder (u.2.1 70 (p1).toNatClampNeg) 1 u) (fun r2 u1 => if r2 = 0 then k_ck (p1) 50 (if (u1.2.1 70 (p1).toNatClampNeg) = 7 then k_bind (f_R_ran 81 u1) (fun _ u7 => k_bind (f_R_toldTurns p1 p2 u7) (fun r9 u8 => some (r9 - 1, u8))) else k_ck (p1) 50 (if (u1.2.1 70 (p1).toNatClampNeg) = 6 then k_bind (f_R_toldTurns p1 p2 u1) (fun r6 u5 => some (r6, u5)) else k_bind (f_R_plainTurns p1 p2 u1) (fun r4 u3 => some (r4, u3)))) else k_bind (f_R_ran 20 u1) (fun _ u10 => k_bind (f_R_plainTurns p1 p2 u10) (fun r12 u11 => some (r12 + 3, u11)))))
def f_R_plainShows  (p1 : Int32) (p2 : Int32) (u : k_S) : Option (Int32 × k_S) :=
  k_bind (f_R_ran 10 u) (fun _ u1 => k_bind (f_R_turning p1 p2 u1) (fun r3 u2 => some (r3 * 2, u2)))
def f_R_skipShows  (p1 : Int32) (p2 : Int32) (u : k_S) : Option (Int32 × k_S) :=
  k_bind (f_R_ran 30 u) (fun _ u1 => k_bind (f_R_plainShows p1 p2 u1) (fun r3 u2 => some (-r3, u2)))
def f_R_plainWaits  (p1 : Int32) (p2 : Int32) (u : k_S) : Option (Int32 × k_S) :=
  k_bind (f_R_ran 11 u) (fun _ u1 => some (p2 ^^^ p1, u1))
def f_R_waiting  (p1 : Int32) (p2 : Int32) (u : k_S) : Option (Int32 × k_S) :=
  k_ck (p1) 50 (if (u.2.1 70 (p1).toNatClampNeg) = 3 then k_bind (f_R_ran 40 u) (fun _ u8 => k_bind (f_R_plainWaits p1 p2 u8) (fun r10 u9 => some (r10 * 3, u9))) else k_ck (p1) 50 (if (u.2.1 70 (p1).toNatClampNeg) = 5 then k_bind (f_R_ran 60 u) (fun _ u3 => k_bind (f_R_plainWaits p1 p2 u3) (fun r5 u4 => k_bind (f_R_turning p1 2 u4) (fun r7 u6 => some (r5 - r7, u6)))) else k_bind (f_R_plainWaits p1 p2 u) (fun r2 u1 => some (r2, u1))))
def f_R_showing  (p1 : Int32) (p2 : Int32) (u : k_S) : Option (Int32 × k_S) :=
  k_ck (p1) 50 (if (u.2.1 70 (p1).toNatClampNeg) = 3 then k_bind (f_R_ran 41 u) (fun _ u10 => k_bind (f_R_skipShows p1 (p2 + 1) u10) (fun r12 u11 => some (r12, u11))) else k_ck (p1) 50 (if (u.2.1 70 (p1).toNatClampNeg) = 7 then k_bind (f_R_ran 80 u) (fun _ u5 => k_bind (f_R_plainShows p1 p2 u5) (fun r7 u6 => k_bind (f_R_waiting p1 2 u6) (fun r9 u8 => some (r7 + r9, u8)))) else k_ck (p1) 50 (if (u.2.1 70 (p1).toNatClampNeg) = 2 then k_bind (f_R_skipShows p1 p2 u) (fun r4 u3 => some (r4, u3)) else k_bind (f_R_plainShows p1 p2 u) (fun r2 u1 => some (r2, u1)))))
def f_R_plainTells  (p1 : Int32) (p2 : Int32) (u : k_S) : Option (Int32 × k_S) :=
  k_bind (f_R_ran 2 u) (fun _ u1 => k_bind (f_R_showing p1 p2 u1) (fun r3 u2 => k_bind (f_R_waiting p1 1 u2) (fun r5 u4 => some (r3 - r5, u4))))
def f_R_frostTells  (p1 : Int32) (p2 : Int32) (u : k_S) : Option (Int32 × k_S) :=
  k_bind (f_R_ran 50 u) (fun _ u1 => k_bind (f_R_plainTells p1 p2 u1) (fun r3 u2 => some (r3 ^^^ 5, u2)))
def f_R_telling  (p1 : Int32) (p2 : Int32) (u : k_S) : Option (Int32 × k_S) :=
  k_ck (p1) 50 (if (u.2.1 70 (p1).toNatClampNeg) = 5 then k_bind (f_R_ran 61 u) (fun _ u5 => k_bind (f_R_frostTells p1 p2 u5) (fun r7 u6 => some (r7 + 1, u6))) else k_ck (p1) 50 (if (u.2.1 70 (p1).toNatClampNeg) = 4 then k_bind (f_R_frostTells p1 p2 u) (fun r4 u3 => some (r4, u3)) else k_bind (f_R_plainTells p1 p2 u) (fun r2 u1 => some (r2, u1))))
def f_R_act  (p1 : Int32) (p2 : Int32) (p3 : Int32) (u : k_S) : Option (Int32 × k_S) :=
  k_let (k_wF u 4247 (0)) (fun u1 => k_bind (f_R_isBody p1 u1) (fun r3 u2 => if r3 = 0 then some (0, u2) else k_bind (f_R_in p2 0 3 u2) (fun r5 u4 => if r5 = 0 then some (0, u4) else if p2 = 0 then k_bind (f_R_turning p1 p3 u4) (fun r13 u12 => some (r13, u12)) else if p2 = 1 then k_bind (f_R_showing p1 p3 u4) (fun r11 u10 => some (r11, u10)) else if p2 = 2 then k_bind (f_R_waiting p1 p3 u4) (fun r9 u8 => some (r9, u8)) else k_bind (f_R_telling p1 p3 u4) (fun r7 u6 => some (r7, u6)))))
def f_Bodies_tracedAt  (p1 : Int32) (u : k_S) : Option (Int32 × k_S) :=
  if p1 < 0 then some ((-1), u) else if 24 ≤ p1 then some ((-1), u) else k_ck (p1) 24 (some (u.2.1 37 (p1).toNatClampNeg, u))
def f_W_trace  (p1 : Int32) (u : k_S) : Option (Int32 × k_S) :=
  if p1 < 0 then some ((-1), u) else if (u.1 3503) ≤ p1 then some ((-1), u) else if p1 < 24 then k_bind (f_Bodies_tracedAt p1 u) (fun r2 u1 => some (r2, u1)) else some ((-1), u)
def f_R_trace  (p1 : Int32) (u : k_S) : Option (Int32 × k_S) :=
  if p1 < 0 then some ((-1), u) else if (u.1 4247) ≤ p1 then some ((-1), u) else if 24 ≤ p1 then some ((-1), u) else k_ck (p1) 24 (some (u.2.1 71 (p1).toNatClampNeg, u))
def f_Shelves_hold_B41  (v4 : Int32) (v5 : Int32) (u : k_S) : Option (((Int32) ⊕ Unit) × k_S) :=
  if 60 ≤ v5 then some (.inr (), u) else if 360 ≤ (v4 + v5) then some (.inr (), u) else k_ck (v4 + v5) 360 (k_let (k_wL u 41 (v4 + v5).toNatClampNeg (0)) (fun u6 => some (.inl (v5 + Int32.ofInt 1), u6)))
def f_Shelves_hold  (p1 : Int32) (p2 : Int32) (p3 : Int32) (u : k_S) : Option (Unit × k_S) :=
  k_bind (f_Shelves_has p1 u) (fun r2 u1 => if r2 = 0 then some ((), u1) else if p1 < 6 then k_ck (p1) 6 (k_let (k_wA u1 39 (p1).toNatClampNeg (p2)) (fun u3 => k_ck (p1) 6 (k_let (k_wA u3 40 (p1).toNatClampNeg (p3)) (fun u4 => k_let (60 * p1) (fun t5 => k_bind (k_itr (fun (x : (Int32)) u => f_Shelves_hold_B41  t5 x u) k_FU 0 u4) (fun y8 u7 => some ((), u7))))))) else some ((), u1))
def f_W_keep_J46  (v2 : Int32) (s1 : Int32) (s2 : Int32) (u : k_S) : Option (Int32 × k_S) :=
  k_bind (f_Shelves_hold s1 s2 v2 u) (fun _ u3 => some (1, u3))
def f_W_keep_J31  (v1 : Int32) (v2 : Int32) (u : k_S) : Option (Int32 × k_S) :=
  if v2 = (-1) then f_W_keep_J46  v2 v1 (-1) u else f_W_keep_J46  v2 v1 5 u
def f_W_keep  (p1 : Int32) (p2 : Int32) (u : k_S) : Option (Int32 × k_S) :=
  k_bind (f_Shelves_has p1 u) (fun r2 u1 => if r2 = 0 then some ((-1), u1) else if p2 = (-1) then f_W_keep_J31  p1 p2 u1 else k_bind (f_Bodies_has p2 u1) (fun r5 u4 => if r5 = 0 then some ((-1), u4) else f_W_keep_J31  p1 p2 u4))
def f_R_keep_J22  (v1 : Int32) (v2 : Int32) (u : k_S) : Option (Int32 × k_S) :=
  k_ck (v1) 6 (k_let (k_wA u 72 (v1).toNatClampNeg (v2)) (fun u3 => some (1, u3)))
def f_R_keep  (p1 : Int32) (p2 : Int32) (u : k_S) : Option (Int32 × k_S) :=
  k_bind (f_R_isShelf p1 u) (fun r2 u1 => if r2 = 0 then some ((-1), u1) else if p2 = (-1) then f_R_keep_J22  p1 p2 u1 else k_bind (f_R_isBody p2 u1) (fun r5 u4 => if r5 = 0 then some ((-1), u4) else f_R_keep_J22  p1 p2 u4))
def f_W_row  (p1 : Int32) (p2 : Int32) (p3 : Int32) (u : k_S) : Option (Int32 × k_S) :=
  k_bind (f_Shelves_has p1 u) (fun r2 u1 => if r2 = 0 then some ((-1), u1) else if p2 < 0 then some ((-1), u1) else if 5 ≤ p2 then some ((-1), u1) else if p3 ≤ 60 then if 0 ≤ p3 then k_bind (f_Shelves_hold p1 p2 p3 u1) (fun _ u3 => some (1, u3)) else some ((-14), u1) else some ((-1), u1))
def f_R_row_B54  (v1 : Int32) (v4 : Int32) (u : k_S) : Option (((Int32) ⊕ Unit) × k_S) :=
  if ((60 * v1) + 60) ≤ v4 then some (.inr (), u) else k_ck (v4) 360 (k_let (k_wL u 74 (v4).toNatClampNeg (0)) (fun u8 => some (.inl (v4 + Int32.ofInt 1), u8)))
def f_R_row  (p1 : Int32) (p2 : Int32) (p3 : Int32) (u : k_S) : Option (Int32 × k_S) :=
  k_bind (f_R_isShelf p1 u) (fun r2 u1 => if r2 = 0 then some ((-1), u1) else k_bind (f_R_in p2 0 4 u1) (fun r4 u3 => if r4 = 0 then some ((-1), u3) else if p3 ≤ 60 then if 0 ≤ p3 then k_ck (p1) 6 (k_let (k_wA u3 72 (p1).toNatClampNeg ((-2) - p2)) (fun u5 => k_ck (p1) 6 (k_let (k_wA u5 73 (p1).toNatClampNeg (p3)) (fun u6 => k_let (60 * p1) (fun t7 => k_bind (k_itr (fun (x : (Int32)) u => f_R_row_B54  p1 x u) k_FU t7 u6) (fun y10 u9 => some (1, u9))))))) else some ((-14), u3) else some ((-1), u3)))
def f_Shelves_refusalAt  (p1 : Int32) (p2 : Int32) (u : k_S) : Option (Int32 × k_S) :=
  k_bind (f_Shelves_heldBy p1 u) (fun r2 u1 => if r2 = (-1) then some ((-11), u1) else if r2 = 5 then some ((-12), u1) else if p2 < 0 then some ((-13), u1) else k_bind (f_Shelves_sizeOf p1 u1) (fun r4 u3 => if r4 ≤ p2 then some ((-13), u3) else some (0, u3)))
def f_Shelves_lowest  (p0 : Int32) (p1 : Int64) (u : k_S) : Option (Int64 × k_S) :=
  if p0 = 0 then some ((((p1).toInt32).toInt8.toInt32).toInt64, u) else if p0 = 1 then some ((((p1).toInt32).toInt16.toInt32).toInt64, u) else if p0 = 2 then some (((p1).toInt32).toInt64, u) else if p0 = 3 then some (p1, u) else if (lg_cmp p1 0) = 0 then some (0, u) else some (1, u)
def f_Shelves_write  (p1 : Int32) (p2 : Int32) (p3 : Int64) (u : k_S) : Option (Unit × k_S) :=
  k_let ((60 * p1) + p2) (fun t1 => if t1 < 0 then some ((), u) else if 360 ≤ t1 then some ((), u) else k_bind (f_Shelves_heldBy p1 u) (fun r3 u2 => k_bind (f_Shelves_lowest r3 p3 u2) (fun r5 u4 => k_ck (t1) 360 (k_let (k_wL u4 41 (t1).toNatClampNeg (r5)) (fun u6 => some ((), u6))))))
def f_W_put  (p1 : Int32) (p2 : Int32) (p3 : Int64) (u : k_S) : Option (Int32 × k_S) :=
  k_bind (f_Shelves_has p1 u) (fun r2 u1 => if r2 = 0 then some ((-1), u1) else k_bind (f_Shelves_refusalAt p1 p2 u1) (fun r4 u3 => if r4 = 0 then k_bind (f_Shelves_write p1 p2 p3 u3) (fun _ u5 => some (1, u5)) else some (r4, u3)))
def f_R_whyNoPlace  (p1 : Int32) (p2 : Int32) (u : k_S) : Option (Int32 × k_S) :=
  k_bind (f_R_isShelf p1 u) (fun r2 u1 => if r2 = 0 then some ((-1), u1) else k_ck (p1) 6 (if (u1.2.1 72 (p1).toNatClampNeg) = (-1) then some ((-11), u1) else k_ck (p1) 6 (if (u1.2.1 72 (p1).toNatClampNeg) < 0 then k_ck (p1) 6 (k_bind (f_R_in p2 0 ((u1.2.1 73 (p1).toNatClampNeg) - 1) u1) (fun r4 u3 => if r4 = 0 then some ((-13), u3) else some (0, u3))) else some ((-12), u1))))
def f_R_put  (p1 : Int32) (p2 : Int32) (p3 : Int64) (u : k_S) : Option (Int32 × k_S) :=
  k_bind (f_R_whyNoPlace p1 p2 u) (fun r2 u1 => if 0 ≤ r2 then k_ck (p1) 6 (k_let ((-2) - (u1.2.1 72 (p1).toNatClampNeg)) (fun t3 => if t3 = 0 then k_ck ((60 * p1) + p2) 360 (k_let (k_wL u1 74 ((60 * p1) + p2).toNatClampNeg ((((p3).toInt32).toInt8.toInt32).toInt64)) (fun u9 => some (1, u9))) else if t3 = 1 then k_ck ((60 * p1) + p2) 360 (k_let (k_wL u1 74 ((60 * p1) + p2).toNatClampNeg ((((p3).toInt32).toInt16.toInt32).toInt64)) (fun u8 => some (1, u8))) else if t3 = 2 then k_ck ((60 * p1) + p2) 360 (k_let (k_wL u1 74 ((60 * p1) + p2).toNatClampNeg (((p3).toInt32).toInt64)) (fun u7 => some (1, u7))) else if t3 = 3 then k_ck ((60 * p1) + p2) 360 (k_let (k_wL u1 74 ((60 * p1) + p2).toNatClampNeg (p3)) (fun u6 => some (1, u6))) else if (lg_cmp p3 0) = 0 then k_ck ((60 * p1) + p2) 360 (k_let (k_wL u1 74 ((60 * p1) + p2).toNatClampNeg (0)) (fun u4 => some (1, u4))) else k_ck ((60 * p1) + p2) 360 (k_let (k_wL u1 74 ((60 * p1) + p2).toNatClampNeg (1)) (fun u5 => some (1, u5))))) else some (r2, u1))
def f_W_element  (p1 : Int32) (p2 : Int32) (u : k_S) : Option (Int64 × k_S) :=
  k_bind (f_Shelves_has p1 u) (fun r2 u1 => if r2 = 0 then some ((-9223372036854775808), u1) else k_bind (f_Shelves_refusalAt p1 p2 u1) (fun r4 u3 => if r4 = 0 then k_bind (f_Shelves_valueAt p1 p2 u3) (fun r6 u5 => some (r6, u5)) else some ((-9223372036854775808), u3)))
def f_R_element  (p1 : Int32) (p2 : Int32) (u : k_S) : Option (Int64 × k_S) :=
  k_bind (f_R_whyNoPlace p1 p2 u) (fun r2 u1 => if 0 ≤ r2 then k_ck ((60 * p1) + p2) 360 (some (u1.2.2 74 ((60 * p1) + p2).toNatClampNeg, u1)) else some ((-9223372036854775808), u1))
def f_Shelves_hasPart  (p1 : Int32) (p2 : Int32) (p3 : Int32) (u : k_S) : Option (Int32 × k_S) :=
  if p2 < 0 then some (0, u) else if p3 < 0 then some (0, u) else k_bind (f_Shelves_sizeOf p1 u) (fun r2 u1 => if r2 < p2 then some (0, u1) else k_bind (f_Shelves_sizeOf p1 u1) (fun r4 u3 => if (r4 - p2) < p3 then some (0, u3) else some (1, u3)))
def f_Shelves_move_J40  (v1 : Int32) (v2 : Int32) (v3 : Int32) (v4 : Int32) (v5 : Int32) (v6 : Int32) (v7 : Int32) (s0 : Int32) (u : k_S) : Option (((Int32) ⊕ Unit) × k_S) :=
  k_bind (f_Shelves_valueAt v1 (v2 + s0) u) (fun r2 u1 => k_bind (f_Shelves_write v3 (v4 + s0) r2 u1) (fun _ u3 => some (.inl (v7 + Int32.ofInt 1), u3)))
def f_Shelves_move_B16  (v1 : Int32) (v2 : Int32) (v3 : Int32) (v4 : Int32) (v5 : Int32) (v6 : Int32) (v7 : Int32) (u : k_S) : Option (((Int32) ⊕ Unit) × k_S) :=
  if v5 ≤ v7 then some (.inr (), u) else if v6 = 0 then f_Shelves_move_J40  v1 v2 v3 v4 v5 v6 v7 v7 u else f_Shelves_move_J40  v1 v2 v3 v4 v5 v6 v7 ((v5 - 1) - v7) u
def f_Shelves_move_J11  (v1 : Int32) (v2 : Int32) (v3 : Int32) (v4 : Int32) (v5 : Int32) (s0 : Int32) (u : k_S) : Option (Unit × k_S) :=
  k_bind (k_itr (fun (x : (Int32)) u => f_Shelves_move_B16  v1 v2 v3 v4 v5 s0 x u) k_FU 0 u) (fun y5 u4 => some ((), u4))
def f_Shelves_move  (p1 : Int32) (p2 : Int32) (p3 : Int32) (p4 : Int32) (p5 : Int32) (u : k_S) : Option (Unit × k_S) :=
  if p4 ≤ p2 then f_Shelves_move_J11  p1 p2 p3 p4 p5 0 u else f_Shelves_move_J11  p1 p2 p3 p4 p5 1 u
def f_W_shift  (p1 : Int32) (p2 : Int32) (p3 : Int32) (p4 : Int32) (p5 : Int32) (u : k_S) : Option (Int32 × k_S) :=
  k_bind (f_Shelves_has p1 u) (fun r2 u1 => if r2 = 0 then some ((-1), u1) else k_bind (f_Shelves_has p3 u1) (fun r4 u3 => if r4 = 0 then some ((-1), u3) else k_bind (f_Shelves_heldBy p1 u3) (fun r6 u5 => k_bind (f_Shelves_heldBy p3 u5) (fun r8 u7 => if r6 = (-1) then some ((-11), u7) else if r8 = (-1) then some ((-11), u7) else if r6 = 5 then some ((-12), u7) else if r6 = r8 then k_bind (f_Shelves_hasPart p1 p2 p5 u7) (fun r10 u9 => if r10 = 0 then some ((-13), u9) else k_bind (f_Shelves_hasPart p3 p4 p5 u9) (fun r12 u11 => if r12 = 0 then some ((-13), u11) else k_bind (f_Shelves_move p1 p2 p3 p4 p5 u11) (fun _ u13 => some (p5, u13)))) else some ((-12), u7)))))
def f_R_shift_B113  (v1 : Int32) (v2 : Int32) (v3 : Int32) (v4 : Int32) (v5 : Int32) (v6 : Int32) (u : k_S) : Option (((Int32) ⊕ Unit) × k_S) :=
  if v5 ≤ v6 then some (.inr (), u) else k_ck (((60 * v1) + v2) + v6) 360 (k_ck (v6) 60 (k_let (k_wL u 75 (v6).toNatClampNeg (u.2.2 74 (((60 * v1) + v2) + v6).toNatClampNeg)) (fun u5 => some (.inl (v6 + Int32.ofInt 1), u5))))
def f_R_shift_B150  (v3 : Int32) (v4 : Int32) (v5 : Int32) (v6 : Int32) (u : k_S) : Option (((Int32) ⊕ Unit) × k_S) :=
  if v5 ≤ v6 then some (.inr (), u) else k_ck (v6) 60 (k_ck (((60 * v3) + v4) + v6) 360 (k_let (k_wL u 74 (((60 * v3) + v4) + v6).toNatClampNeg (u.2.2 75 (v6).toNatClampNeg)) (fun u8 => some (.inl (v6 + Int32.ofInt 1), u8))))
def f_R_shift  (p1 : Int32) (p2 : Int32) (p3 : Int32) (p4 : Int32) (p5 : Int32) (u : k_S) : Option (Int32 × k_S) :=
  k_bind (f_R_isShelf p1 u) (fun r2 u1 => if r2 = 0 then some ((-1), u1) else k_bind (f_R_isShelf p3 u1) (fun r4 u3 => if r4 = 0 then some ((-1), u3) else k_ck (p1) 6 (if (u3.2.1 72 (p1).toNatClampNeg) = (-1) then some ((-11), u3) else k_ck (p3) 6 (if (u3.2.1 72 (p3).toNatClampNeg) = (-1) then some ((-11), u3) else k_ck (p1) 6 (if 0 ≤ (u3.2.1 72 (p1).toNatClampNeg) then some ((-12), u3) else k_ck (p1) 6 (k_ck (p3) 6 (if (u3.2.1 72 (p1).toNatClampNeg) = (u3.2.1 72 (p3).toNatClampNeg) then if p5 < 0 then some ((-13), u3) else if p2 < 0 then some ((-13), u3) else if p4 < 0 then some ((-13), u3) else k_ck (p1) 6 (if ((u3.2.1 73 (p1).toNatClampNeg) - p5) < p2 then some ((-13), u3) else k_ck (p3) 6 (if p4 ≤ ((u3.2.1 73 (p3).toNatClampNeg) - p5) then k_bind (k_itr (fun (x : (Int32)) u => f_R_shift_B113  p1 p2 p3 p4 p5 x u) k_FU 0 u3) (fun y7 u6 => k_bind (k_itr (fun (x : (Int32)) u => f_R_shift_B150  p3 p4 p5 x u) k_FU 0 u6) (fun y10 u9 => some (p5, u9))) else some ((-13), u3))) else some ((-12), u3))))))))
def f_Bodies_isUnder_B5  (v2 : Int32) (v3 : Int32) (v4 : Int32) (u : k_S) : Option (((Int32 × Int32) ⊕ (Int32 ⊕ Unit)) × k_S) :=
  if 8 ≤ v4 then some (.inr (.inr ()), u) else if v3 < 0 then some (.inr (.inr ()), u) else if 8 ≤ v3 then some (.inr (.inr ()), u) else if v3 = v2 then some (.inr (.inl 1), u) else k_ck (v3) 8 (k_let (k_t102 (v3).toNatClampNeg) (fun t1 => some (.inl (t1, v4 + Int32.ofInt 1), u)))
def f_Bodies_isUnder  (p1 : Int32) (p2 : Int32) (u : k_S) : Option (Int32 × k_S) :=
  k_bind (k_itr (fun (x : (Int32 × Int32)) u => f_Bodies_isUnder_B5  p2 x.1 x.2 u) k_FU (p1, 0) u) (fun y3 u2 => k_cs y3 (fun r4 => some (r4, u2)) (fun y3 => some (0, u2)))
def f_W_taken  (p1 : Int32) (p2 : Int32) (u : k_S) : Option (Int32 × k_S) :=
  k_bind (f_Shelves_has p1 u) (fun r2 u1 => if r2 = 0 then some ((-1), u1) else if p2 < 0 then some ((-1), u1) else if p2 < 8 then k_bind (f_Shelves_heldBy p1 u1) (fun r4 u3 => if r4 = (-1) then some ((-11), u3) else if r4 = 5 then k_bind (f_Shelves_sizeOf p1 u3) (fun r6 u5 => k_bind (f_Bodies_kindOf r6 u5) (fun r8 u7 => k_bind (f_Bodies_isUnder r8 p2 u7) (fun r10 u9 => if r10 = 0 then some ((-12), u9) else some (r8, u9)))) else some ((-12), u3)) else some ((-1), u1))
def f_R_taken  (p1 : Int32) (p2 : Int32) (u : k_S) : Option (Int32 × k_S) :=
  k_bind (f_R_isShelf p1 u) (fun r2 u1 => if r2 = 0 then some ((-1), u1) else k_bind (f_R_in p2 0 7 u1) (fun r4 u3 => if r4 = 0 then some ((-1), u3) else k_ck (p1) 6 (if (u3.2.1 72 (p1).toNatClampNeg) = (-1) then some ((-11), u3) else k_ck (p1) 6 (if (u3.2.1 72 (p1).toNatClampNeg) < 0 then some ((-12), u3) else k_ck (p1) 6 (k_ck (u3.2.1 72 (p1).toNatClampNeg) 50 (k_bind (f_R_isUnder (u3.2.1 70 (u3.2.1 72 (p1).toNatClampNeg).toNatClampNeg) p2 u3) (fun r6 u5 => if r6 = 0 then some ((-12), u5) else k_ck (p1) 6 (k_ck (u5.2.1 72 (p1).toNatClampNeg) 50 (some (u5.2.1 70 (u5.2.1 72 (p1).toNatClampNeg).toNatClampNeg, u5))))))))))
def f_W_count  (p1 : Int32) (u : k_S) : Option (Int32 × k_S) :=
  if p1 = 0 then some (u.1 303, u) else if p1 = 1 then some (u.1 1402, u) else if p1 = 2 then some (u.1 2003, u) else if p1 = 3 then some (u.1 101, u) else if p1 = 4 then some (u.1 3004, u) else if p1 = 5 then some (u.1 3502, u) else if p1 = 6 then some (u.1 3503, u) else some ((-1), u)
def f_R_count  (p1 : Int32) (u : k_S) : Option (Int32 × k_S) :=
  if p1 = 0 then some (u.1 4203, u) else if p1 = 1 then some (u.1 4209, u) else if p1 = 2 then some (u.1 4235, u) else if p1 = 3 then some (u.1 4202, u) else if p1 = 4 then some (u.1 4224, u) else if p1 = 5 then some (u.1 4245, u) else if p1 = 6 then some (u.1 4247, u) else some ((-1), u)
def f_law_B18 (sl : Nat) (sx : Nat → Int32) (v3 : Int32) (u : k_S) : Option (((Int32) ⊕ (Int32 ⊕ Unit)) × k_S) :=
  if ((Int32.ofNat sl) - 6) < v3 then some (.inr (.inr ()), u) else k_ck (v3) sl (if ((sx (v3).toNatClampNeg) &&& 63) = 0 then k_ck (v3 + 1) sl (k_bind (f_W_feed (sx (v3 + 1).toNatClampNeg) u) (fun r2 u1 => k_ck (v3 + 1) sl (k_bind (f_R_feed (sx (v3 + 1).toNatClampNeg) u1) (fun r4 u3 => if r2 = r4 then some (.inl (v3 + Int32.ofInt 6), u3) else some (.inr (.inl 0), u3))))) else if ((sx (v3).toNatClampNeg) &&& 63) = 1 then k_bind (f_W_wheel  u) (fun r6 u5 => k_bind (f_R_wheel  u5) (fun r8 u7 => if r6 = r8 then some (.inl (v3 + Int32.ofInt 6), u7) else some (.inr (.inl 0), u7))) else if ((sx (v3).toNatClampNeg) &&& 63) = 2 then k_bind (f_W_law  u) (fun r10 u9 => k_bind (f_R_law  u9) (fun r12 u11 => if r10 = r12 then some (.inl (v3 + Int32.ofInt 6), u11) else some (.inr (.inl 0), u11))) else if ((sx (v3).toNatClampNeg) &&& 63) = 3 then k_ck (v3 + 1) sl (k_ck (v3 + 2) sl (k_bind (f_W_set (sx (v3 + 1).toNatClampNeg) (sx (v3 + 2).toNatClampNeg) u) (fun r14 u13 => k_ck (v3 + 1) sl (k_ck (v3 + 2) sl (k_bind (f_R_set (sx (v3 + 1).toNatClampNeg) (sx (v3 + 2).toNatClampNeg) u13) (fun r16 u15 => if r14 = r16 then some (.inl (v3 + Int32.ofInt 6), u15) else some (.inr (.inl 0), u15))))))) else if ((sx (v3).toNatClampNeg) &&& 63) = 4 then k_ck (v3 + 1) sl (k_ck (v3 + 2) sl (k_bind (f_W_broke (sx (v3 + 1).toNatClampNeg) (sx (v3 + 2).toNatClampNeg) u) (fun r18 u17 => k_ck (v3 + 1) sl (k_ck (v3 + 2) sl (k_bind (f_R_broke (sx (v3 + 1).toNatClampNeg) (sx (v3 + 2).toNatClampNeg) u17) (fun r20 u19 => if r18 = r20 then some (.inl (v3 + Int32.ofInt 6), u19) else some (.inr (.inl 0), u19))))))) else if ((sx (v3).toNatClampNeg) &&& 63) = 5 then k_ck (v3 + 1) sl (k_ck (v3 + 2) sl (k_ck (v3 + 3) sl (k_bind (f_W_tooth (sx (v3 + 1).toNatClampNeg) (sx (v3 + 2).toNatClampNeg) (sx (v3 + 3).toNatClampNeg) u) (fun r22 u21 => k_ck (v3 + 1) sl (k_ck (v3 + 2) sl (k_ck (v3 + 3) sl (k_bind (f_R_tooth (sx (v3 + 1).toNatClampNeg) (sx (v3 + 2).toNatClampNeg) (sx (v3 + 3).toNatClampNeg) u21) (fun r24 u23 => if r22 = r24 then some (.inl (v3 + Int32.ofInt 6), u23) else some (.inr (.inl 0), u23))))))))) else if ((sx (v3).toNatClampNeg) &&& 63) = 6 then k_ck (v3 + 1) sl (k_ck (v3 + 2) sl (k_bind (f_W_of (sx (v3 + 1).toNatClampNeg) (sx (v3 + 2).toNatClampNeg) u) (fun r26 u25 => k_ck (v3 + 1) sl (k_ck (v3 + 2) sl (k_bind (f_R_of (sx (v3 + 1).toNatClampNeg) (sx (v3 + 2).toNatClampNeg) u25) (fun r28 u27 => if r26 = r28 then some (.inl (v3 + Int32.ofInt 6), u27) else some (.inr (.inl 0), u27))))))) else if ((sx (v3).toNatClampNeg) &&& 63) = 7 then k_ck (v3 + 1) sl (k_bind (f_W_on (sx (v3 + 1).toNatClampNeg) u) (fun r30 u29 => k_ck (v3 + 1) sl (k_bind (f_R_on (sx (v3 + 1).toNatClampNeg) u29) (fun r32 u31 => if r30 = r32 then some (.inl (v3 + Int32.ofInt 6), u31) else some (.inr (.inl 0), u31))))) else if ((sx (v3).toNatClampNeg) &&& 63) = 8 then k_ck (v3 + 1) sl (k_ck (v3 + 2) sl (k_bind (f_W_lay (sx (v3 + 1).toNatClampNeg) (sx (v3 + 2).toNatClampNeg) u) (fun r34 u33 => k_ck (v3 + 1) sl (k_ck (v3 + 2) sl (k_bind (f_R_lay (sx (v3 + 1).toNatClampNeg) (sx (v3 + 2).toNatClampNeg) u33) (fun r36 u35 => if r34 = r36 then some (.inl (v3 + Int32.ofInt 6), u35) else some (.inr (.inl 0), u35))))))) else if ((sx (v3).toNatClampNeg) &&& 63) = 9 then k_ck (v3 + 1) sl (k_ck (v3 + 2) sl (k_bind (f_W_shows (sx (v3 + 1).toNatClampNeg) (sx (v3 + 2).toNatClampNeg) u) (fun r38 u37 => k_ck (v3 + 1) sl (k_ck (v3 + 2) sl (k_bind (f_R_shows (sx (v3 + 1).toNatClampNeg) (sx (v3 + 2).toNatClampNeg) u37) (fun r40 u39 => if r38 = r40 then some (.inl (v3 + Int32.ofInt 6), u39) else some (.inr (.inl 0), u39))))))) else if ((sx (v3).toNatClampNeg) &&& 63) = 10 then k_bind (f_W_day  u) (fun r42 u41 => k_bind (f_R_day  u41) (fun r44 u43 => if r42 = r44 then some (.inl (v3 + Int32.ofInt 6), u43) else some (.inr (.inl 0), u43))) else if ((sx (v3).toNatClampNeg) &&& 63) = 11 then k_ck (v3 + 1) sl (k_ck (v3 + 2) sl (k_bind (f_W_often (sx (v3 + 1).toNatClampNeg) (sx (v3 + 2).toNatClampNeg) u) (fun r46 u45 => k_ck (v3 + 1) sl (k_ck (v3 + 2) sl (k_bind (f_R_often (sx (v3 + 1).toNatClampNeg) (sx (v3 + 2).toNatClampNeg) u45) (fun r48 u47 => if r46 = r48 then some (.inl (v3 + Int32.ofInt 6), u47) else some (.inr (.inl 0), u47))))))) else if ((sx (v3).toNatClampNeg) &&& 63) = 12 then k_ck (v3 + 1) sl (k_ck (v3 + 2) sl (k_bind (f_W_never (sx (v3 + 1).toNatClampNeg) (sx (v3 + 2).toNatClampNeg) u) (fun r50 u49 => k_ck (v3 + 1) sl (k_ck (v3 + 2) sl (k_bind (f_R_never (sx (v3 + 1).toNatClampNeg) (sx (v3 + 2).toNatClampNeg) u49) (fun r52 u51 => if r50 = r52 then some (.inl (v3 + Int32.ofInt 6), u51) else some (.inr (.inl 0), u51))))))) else if ((sx (v3).toNatClampNeg) &&& 63) = 13 then k_ck (v3 + 1) sl (k_ck (v3 + 2) sl (k_ck (v3 + 3) sl (k_bind (f_W_meets (sx (v3 + 1).toNatClampNeg) (sx (v3 + 2).toNatClampNeg) (sx (v3 + 3).toNatClampNeg) u) (fun r54 u53 => k_ck (v3 + 1) sl (k_ck (v3 + 2) sl (k_ck (v3 + 3) sl (k_bind (f_R_meets (sx (v3 + 1).toNatClampNeg) (sx (v3 + 2).toNatClampNeg) (sx (v3 + 3).toNatClampNeg) u53) (fun r56 u55 => if r54 = r56 then some (.inl (v3 + Int32.ofInt 6), u55) else some (.inr (.inl 0), u55))))))))) else if ((sx (v3).toNatClampNeg) &&& 63) = 14 then k_ck (v3 + 1) sl (k_ck (v3 + 2) sl (k_ck (v3 + 3) sl (k_bind (f_W_two (sx (v3 + 1).toNatClampNeg) (sx (v3 + 2).toNatClampNeg) (sx (v3 + 3).toNatClampNeg) u) (fun r58 u57 => k_ck (v3 + 1) sl (k_ck (v3 + 2) sl (k_ck (v3 + 3) sl (k_bind (f_R_two (sx (v3 + 1).toNatClampNeg) (sx (v3 + 2).toNatClampNeg) (sx (v3 + 3).toNatClampNeg) u57) (fun r60 u59 => if r58 = r60 then some (.inl (v3 + Int32.ofInt 6), u59) else some (.inr (.inl 0), u59))))))))) else if ((sx (v3).toNatClampNeg) &&& 63) = 15 then k_ck (v3 + 1) sl (k_bind (f_W_round (sx (v3 + 1).toNatClampNeg) u) (fun r62 u61 => k_ck (v3 + 1) sl (k_bind (f_R_round (sx (v3 + 1).toNatClampNeg) u61) (fun r64 u63 => if r62 = r64 then some (.inl (v3 + Int32.ofInt 6), u63) else some (.inr (.inl 0), u63))))) else if ((sx (v3).toNatClampNeg) &&& 63) = 16 then k_ck (v3 + 1) sl (k_bind (f_W_truth (sx (v3 + 1).toNatClampNeg) u) (fun r66 u65 => k_ck (v3 + 1) sl (k_bind (f_R_truth (sx (v3 + 1).toNatClampNeg) u65) (fun r68 u67 => if r66 = r68 then some (.inl (v3 + Int32.ofInt 6), u67) else some (.inr (.inl 0), u67))))) else if ((sx (v3).toNatClampNeg) &&& 63) = 17 then k_ck (v3 + 1) sl (k_ck (v3 + 2) sl (k_bind (f_W_near (sx (v3 + 1).toNatClampNeg) (sx (v3 + 2).toNatClampNeg) u) (fun r70 u69 => k_ck (v3 + 1) sl (k_ck (v3 + 2) sl (k_bind (f_R_near (sx (v3 + 1).toNatClampNeg) (sx (v3 + 2).toNatClampNeg) u69) (fun r72 u71 => if r70 = r72 then some (.inl (v3 + Int32.ofInt 6), u71) else some (.inr (.inl 0), u71))))))) else if ((sx (v3).toNatClampNeg) &&& 63) = 18 then k_ck (v3 + 1) sl (k_ck (v3 + 2) sl (k_bind (f_W_record (sx (v3 + 1).toNatClampNeg) (sx (v3 + 2).toNatClampNeg) u) (fun r74 u73 => k_ck (v3 + 1) sl (k_ck (v3 + 2) sl (k_bind (f_R_record (sx (v3 + 1).toNatClampNeg) (sx (v3 + 2).toNatClampNeg) u73) (fun r76 u75 => if r74 = r76 then some (.inl (v3 + Int32.ofInt 6), u75) else some (.inr (.inl 0), u75))))))) else if ((sx (v3).toNatClampNeg) &&& 63) = 19 then k_ck (v3 + 1) sl (k_ck (v3 + 2) sl (k_ck (v3 + 3) sl (k_bind (f_W_records (sx (v3 + 1).toNatClampNeg) (sx (v3 + 2).toNatClampNeg) (sx (v3 + 3).toNatClampNeg) u) (fun r78 u77 => k_ck (v3 + 1) sl (k_ck (v3 + 2) sl (k_ck (v3 + 3) sl (k_bind (f_R_records (sx (v3 + 1).toNatClampNeg) (sx (v3 + 2).toNatClampNeg) (sx (v3 + 3).toNatClampNeg) u77) (fun r80 u79 => if r78 = r80 then some (.inl (v3 + Int32.ofInt 6), u79) else some (.inr (.inl 0), u79))))))))) else if ((sx (v3).toNatClampNeg) &&& 63) = 20 then k_bind (f_W_clear  u) (fun r82 u81 => k_bind (f_R_clear  u81) (fun r84 u83 => if r82 = r84 then some (.inl (v3 + Int32.ofInt 6), u83) else some (.inr (.inl 0), u83))) else if ((sx (v3).toNatClampNeg) &&& 63) = 21 then k_bind (f_W_judge  u) (fun r86 u85 => k_bind (f_R_judge  u85) (fun r88 u87 => if r86 = r88 then some (.inl (v3 + Int32.ofInt 6), u87) else some (.inr (.inl 0), u87))) else if ((sx (v3).toNatClampNeg) &&& 63) = 22 then k_ck (v3 + 1) sl (k_bind (f_W_fits (sx (v3 + 1).toNatClampNeg) u) (fun r90 u89 => k_ck (v3 + 1) sl (k_bind (f_R_fits (sx (v3 + 1).toNatClampNeg) u89) (fun r92 u91 => if r90 = r92 then some (.inl (v3 + Int32.ofInt 6), u91) else some (.inr (.inl 0), u91))))) else if ((sx (v3).toNatClampNeg) &&& 63) = 23 then k_ck (v3 + 1) sl (k_bind (f_W_sure (sx (v3 + 1).toNatClampNeg) u) (fun r94 u93 => k_ck (v3 + 1) sl (k_bind (f_R_sure (sx (v3 + 1).toNatClampNeg) u93) (fun r96 u95 => if r94 = r96 then some (.inl (v3 + Int32.ofInt 6), u95) else some (.inr (.inl 0), u95))))) else if ((sx (v3).toNatClampNeg) &&& 63) = 24 then k_ck (v3 + 1) sl (k_bind (f_W_when (sx (v3 + 1).toNatClampNeg) u) (fun r98 u97 => k_ck (v3 + 1) sl (k_bind (f_R_when (sx (v3 + 1).toNatClampNeg) u97) (fun r100 u99 => if r98 = r100 then some (.inl (v3 + Int32.ofInt 6), u99) else some (.inr (.inl 0), u99))))) else if ((sx (v3).toNatClampNeg) &&& 63) = 25 then k_ck (v3 + 1) sl (k_bind (f_W_watch (sx (v3 + 1).toNatClampNeg) u) (fun r102 u101 => k_ck (v3 + 1) sl (k_bind (f_R_watch (sx (v3 + 1).toNatClampNeg) u101) (fun r104 u103 => if r102 = r104 then some (.inl (v3 + Int32.ofInt 6), u103) else some (.inr (.inl 0), u103))))) else if ((sx (v3).toNatClampNeg) &&& 63) = 26 then k_bind (f_W_image  u) (fun r106 u105 => k_bind (f_R_image  u105) (fun r108 u107 => if r106 = r108 then some (.inl (v3 + Int32.ofInt 6), u107) else some (.inr (.inl 0), u107))) else if ((sx (v3).toNatClampNeg) &&& 63) = 27 then k_bind (f_W_back  u) (fun r110 u109 => k_bind (f_R_back  u109) (fun r112 u111 => if r110 = r112 then some (.inl (v3 + Int32.ofInt 6), u111) else some (.inr (.inl 0), u111))) else if ((sx (v3).toNatClampNeg) &&& 63) = 28 then k_bind (f_W_undo  u) (fun r114 u113 => k_bind (f_R_undo  u113) (fun r116 u115 => if r114 = r116 then some (.inl (v3 + Int32.ofInt 6), u115) else some (.inr (.inl 0), u115))) else if ((sx (v3).toNatClampNeg) &&& 63) = 29 then k_bind (f_W_redo  u) (fun r118 u117 => k_bind (f_R_redo  u117) (fun r120 u119 => if r118 = r120 then some (.inl (v3 + Int32.ofInt 6), u119) else some (.inr (.inl 0), u119))) else if ((sx (v3).toNatClampNeg) &&& 63) = 30 then k_ck (v3 + 1) sl (k_bind (f_W_body (sx (v3 + 1).toNatClampNeg) u) (fun r122 u121 => k_ck (v3 + 1) sl (k_bind (f_R_body (sx (v3 + 1).toNatClampNeg) u121) (fun r124 u123 => if r122 = r124 then some (.inl (v3 + Int32.ofInt 6), u123) else some (.inr (.inl 0), u123))))) else if ((sx (v3).toNatClampNeg) &&& 63) = 31 then k_ck (v3 + 1) sl (k_ck (v3 + 2) sl (k_ck (v3 + 3) sl (k_bind (f_W_act (sx (v3 + 1).toNatClampNeg) (sx (v3 + 2).toNatClampNeg) (sx (v3 + 3).toNatClampNeg) u) (fun r126 u125 => k_ck (v3 + 1) sl (k_ck (v3 + 2) sl (k_ck (v3 + 3) sl (k_bind (f_R_act (sx (v3 + 1).toNatClampNeg) (sx (v3 + 2).toNatClampNeg) (sx (v3 + 3).toNatClampNeg) u125) (fun r128 u127 => if r126 = r128 then some (.inl (v3 + Int32.ofInt 6), u127) else some (.inr (.inl 0), u127))))))))) else if ((sx (v3).toNatClampNeg) &&& 63) = 32 then k_ck (v3 + 1) sl (k_bind (f_W_trace (sx (v3 + 1).toNatClampNeg) u) (fun r130 u129 => k_ck (v3 + 1) sl (k_bind (f_R_trace (sx (v3 + 1).toNatClampNeg) u129) (fun r132 u131 => if r130 = r132 then some (.inl (v3 + Int32.ofInt 6), u131) else some (.inr (.inl 0), u131))))) else if ((sx (v3).toNatClampNeg) &&& 63) = 33 then k_ck (v3 + 1) sl (k_ck (v3 + 2) sl (k_bind (f_W_keep (sx (v3 + 1).toNatClampNeg) (sx (v3 + 2).toNatClampNeg) u) (fun r134 u133 => k_ck (v3 + 1) sl (k_ck (v3 + 2) sl (k_bind (f_R_keep (sx (v3 + 1).toNatClampNeg) (sx (v3 + 2).toNatClampNeg) u133) (fun r136 u135 => if r134 = r136 then some (.inl (v3 + Int32.ofInt 6), u135) else some (.inr (.inl 0), u135))))))) else if ((sx (v3).toNatClampNeg) &&& 63) = 34 then k_ck (v3 + 1) sl (k_ck (v3 + 2) sl (k_ck (v3 + 3) sl (k_bind (f_W_row (sx (v3 + 1).toNatClampNeg) (sx (v3 + 2).toNatClampNeg) (sx (v3 + 3).toNatClampNeg) u) (fun r138 u137 => k_ck (v3 + 1) sl (k_ck (v3 + 2) sl (k_ck (v3 + 3) sl (k_bind (f_R_row (sx (v3 + 1).toNatClampNeg) (sx (v3 + 2).toNatClampNeg) (sx (v3 + 3).toNatClampNeg) u137) (fun r140 u139 => if r138 = r140 then some (.inl (v3 + Int32.ofInt 6), u139) else some (.inr (.inl 0), u139))))))))) else if ((sx (v3).toNatClampNeg) &&& 63) = 35 then k_ck (v3 + 1) sl (k_ck (v3 + 2) sl (k_ck (v3 + 3) sl (k_ck (v3 + 4) sl (k_bind (f_W_put (sx (v3 + 1).toNatClampNeg) (sx (v3 + 2).toNatClampNeg) ((((sx (v3 + 3).toNatClampNeg).toInt64) <<< ((32 : Int32).toInt64 &&& 63)) ||| (((sx (v3 + 4).toNatClampNeg).toInt64) &&& 4294967295)) u) (fun r142 u141 => k_ck (v3 + 1) sl (k_ck (v3 + 2) sl (k_ck (v3 + 3) sl (k_ck (v3 + 4) sl (k_bind (f_R_put (sx (v3 + 1).toNatClampNeg) (sx (v3 + 2).toNatClampNeg) ((((sx (v3 + 3).toNatClampNeg).toInt64) <<< ((32 : Int32).toInt64 &&& 63)) ||| (((sx (v3 + 4).toNatClampNeg).toInt64) &&& 4294967295)) u141) (fun r144 u143 => if r142 = r144 then some (.inl (v3 + Int32.ofInt 6), u143) else some (.inr (.inl 0), u143))))))))))) else if ((sx (v3).toNatClampNeg) &&& 63) = 36 then k_ck (v3 + 1) sl (k_ck (v3 + 2) sl (k_bind (f_W_element (sx (v3 + 1).toNatClampNeg) (sx (v3 + 2).toNatClampNeg) u) (fun r146 u145 => k_ck (v3 + 1) sl (k_ck (v3 + 2) sl (k_bind (f_R_element (sx (v3 + 1).toNatClampNeg) (sx (v3 + 2).toNatClampNeg) u145) (fun r148 u147 => if (lg_cmp r146 r148) = 0 then some (.inl (v3 + Int32.ofInt 6), u147) else some (.inr (.inl 0), u147))))))) else if ((sx (v3).toNatClampNeg) &&& 63) = 37 then k_ck (v3 + 1) sl (k_ck (v3 + 2) sl (k_ck (v3 + 3) sl (k_ck (v3 + 4) sl (k_ck (v3 + 5) sl (k_bind (f_W_shift (sx (v3 + 1).toNatClampNeg) (sx (v3 + 2).toNatClampNeg) (sx (v3 + 3).toNatClampNeg) (sx (v3 + 4).toNatClampNeg) (sx (v3 + 5).toNatClampNeg) u) (fun r150 u149 => k_ck (v3 + 1) sl (k_ck (v3 + 2) sl (k_ck (v3 + 3) sl (k_ck (v3 + 4) sl (k_ck (v3 + 5) sl (k_bind (f_R_shift (sx (v3 + 1).toNatClampNeg) (sx (v3 + 2).toNatClampNeg) (sx (v3 + 3).toNatClampNeg) (sx (v3 + 4).toNatClampNeg) (sx (v3 + 5).toNatClampNeg) u149) (fun r152 u151 => if r150 = r152 then some (.inl (v3 + Int32.ofInt 6), u151) else some (.inr (.inl 0), u151))))))))))))) else if ((sx (v3).toNatClampNeg) &&& 63) = 38 then k_ck (v3 + 1) sl (k_ck (v3 + 2) sl (k_bind (f_W_taken (sx (v3 + 1).toNatClampNeg) (sx (v3 + 2).toNatClampNeg) u) (fun r154 u153 => k_ck (v3 + 1) sl (k_ck (v3 + 2) sl (k_bind (f_R_taken (sx (v3 + 1).toNatClampNeg) (sx (v3 + 2).toNatClampNeg) u153) (fun r156 u155 => if r154 = r156 then some (.inl (v3 + Int32.ofInt 6), u155) else some (.inr (.inl 0), u155))))))) else if ((sx (v3).toNatClampNeg) &&& 63) = 39 then k_ck (v3 + 1) sl (k_bind (f_W_count (sx (v3 + 1).toNatClampNeg) u) (fun r158 u157 => k_ck (v3 + 1) sl (k_bind (f_R_count (sx (v3 + 1).toNatClampNeg) u157) (fun r160 u159 => if r158 = r160 then some (.inl (v3 + Int32.ofInt 6), u159) else some (.inr (.inl 0), u159))))) else some (.inl (v3 + Int32.ofInt 6), u))
end
section
theorem c_W_on (g : k_G)  (p1 : Int32) {u : k_S} {QQ : Int32 → k_S → Prop} (H : k_sat (f_W_on  p1 u) QQ) : k_OK g 6 MX11_on [.ref 0, .int p1] u (k_qi QQ) := by
  have hr : ∀ (r : Int32) (u' : k_S), QQ (r) u' → (k_qi QQ) (some (.int r)) u' := fun r u' h => ⟨_, rfl, h⟩
  refine k_OK.ofW pfX11_on (k_tab_of MX11_on_dec) rfl ?_
  refine s_iloadn 0 0 rfl rfl ?_
  refine s_const 1 0 1 rfl k_ic_1 ?_
  refine s_icmp_lt 0 2 12 rfl (by decide) H (fun _ H => ?_) (fun _ H => ?_)
  · refine s_const (-1) 0 6 rfl k_ic_m1 ?_
    exact s_iret 0 7 rfl rfl (hr _ _ (k_sat_some H))
  · refine s_iloadn 0 3 rfl rfl ?_
    refine s_sipush 2000 0 4 rfl k_is_2000 ?_
    refine s_icmp_le 0 5 14 rfl (by decide) H (fun _ H => ?_) (fun _ H => ?_)
    · refine s_aloadn 0 8 rfl rfl ?_
      refine s_getr 0 9 rfl k_fl3 rfl rfl rfl rfl ?_
      refine s_getr 0 10 rfl k_fl15 rfl rfl rfl rfl ?_
      refine s_geti 1402 0 11 rfl k_fl16 rfl rfl rfl rfl rfl ?_
      refine s_ldc 1000000 0 12 rfl (k_in (lw_T2 (List.mem_of_getElem? (i := 18) (by decide +kernel))) rfl) ?_
      refine s_iloadn 0 13 rfl rfl ?_
      refine s_isub 0 14 rfl ?_
      skip
    · sorry
end
