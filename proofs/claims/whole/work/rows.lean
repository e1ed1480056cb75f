section
-- ===== PART A: goes FIRST, ahead of the names: the tables' words, and 'selects' of the private methods out of them =====
/-- a private method of a class that the tables say can be made, by its rows of tables_1 -/
def lw_okq (q : MethodName × Nat) : Prop := (q.1.cls ≠ "java/lang/invoke/MethodHandle" ∧ q.1.cls ≠ "java/lang/invoke/VarHandle") ∧ Cond.instantiable q.1.cls q.2 ∈ tables_1 ∧ Cond.privateMethod q.1 ∈ tables_1 ∧ Cond.instanceMethod q.1 ∈ tables_1
theorem lw_p0 : lw_okq (⟨"ThreeEmpties$Text", "becomeConstant", "(III)V"⟩, 4) := ⟨⟨by decide +kernel, by decide +kernel⟩, List.mem_of_getElem? (i := 130) (by decide +kernel), List.mem_of_getElem? (i := 150) (by decide +kernel), List.mem_of_getElem? (i := 151) (by decide +kernel)⟩
theorem lw_p1 : lw_okq (⟨"ThreeEmpties$Text", "put", "(I)V"⟩, 4) := ⟨⟨by decide +kernel, by decide +kernel⟩, List.mem_of_getElem? (i := 130) (by decide +kernel), List.mem_of_getElem? (i := 154) (by decide +kernel), List.mem_of_getElem? (i := 155) (by decide +kernel)⟩
theorem lw_p2 : lw_okq (⟨"ThreeEmpties$Text", "endPart", "(I)V"⟩, 4) := ⟨⟨by decide +kernel, by decide +kernel⟩, List.mem_of_getElem? (i := 130) (by decide +kernel), List.mem_of_getElem? (i := 158) (by decide +kernel), List.mem_of_getElem? (i := 159) (by decide +kernel)⟩
theorem lw_p3 : lw_okq (⟨"ThreeEmpties$Tape", "append", "(I)V"⟩, 7) := ⟨⟨by decide +kernel, by decide +kernel⟩, List.mem_of_getElem? (i := 53) (by decide +kernel), List.mem_of_getElem? (i := 217) (by decide +kernel), List.mem_of_getElem? (i := 218) (by decide +kernel)⟩
theorem lw_p4 : lw_okq (⟨"ThreeEmpties", "textAt", "(I)LThreeEmpties$Text;"⟩, 12) := ⟨⟨by decide +kernel, by decide +kernel⟩, List.mem_of_getElem? (i := 15) (by decide +kernel), List.mem_of_getElem? (i := 225) (by decide +kernel), List.mem_of_getElem? (i := 226) (by decide +kernel)⟩
theorem lw_p5 : lw_okq (⟨"ThreeEmpties$Tape", "readInto", "(LThreeEmpties$Text;)I"⟩, 7) := ⟨⟨by decide +kernel, by decide +kernel⟩, List.mem_of_getElem? (i := 53) (by decide +kernel), List.mem_of_getElem? (i := 229) (by decide +kernel), List.mem_of_getElem? (i := 230) (by decide +kernel)⟩
theorem lw_p6 : lw_okq (⟨"ThreeEmpties$Tape", "step", "()V"⟩, 7) := ⟨⟨by decide +kernel, by decide +kernel⟩, List.mem_of_getElem? (i := 53) (by decide +kernel), List.mem_of_getElem? (i := 233) (by decide +kernel), List.mem_of_getElem? (i := 234) (by decide +kernel)⟩
theorem lw_p7 : lw_okq (⟨"ThreeEmpties$Tape", "byteAt", "(I)I"⟩, 7) := ⟨⟨by decide +kernel, by decide +kernel⟩, List.mem_of_getElem? (i := 53) (by decide +kernel), List.mem_of_getElem? (i := 237) (by decide +kernel), List.mem_of_getElem? (i := 238) (by decide +kernel)⟩
theorem lw_p8 : lw_okq (⟨"ThreeEmpties$Tape", "stepOverWord", "()V"⟩, 7) := ⟨⟨by decide +kernel, by decide +kernel⟩, List.mem_of_getElem? (i := 53) (by decide +kernel), List.mem_of_getElem? (i := 247) (by decide +kernel), List.mem_of_getElem? (i := 248) (by decide +kernel)⟩
theorem lw_p9 : lw_okq (⟨"ThreeEmpties$Tape", "isSpelled", "(Ljava/lang/String;)Z"⟩, 7) := ⟨⟨by decide +kernel, by decide +kernel⟩, List.mem_of_getElem? (i := 53) (by decide +kernel), List.mem_of_getElem? (i := 266) (by decide +kernel), List.mem_of_getElem? (i := 267) (by decide +kernel)⟩
theorem lw_p10 : lw_okq (⟨"ThreeEmpties$Tape", "stepOverNumber", "()V"⟩, 7) := ⟨⟨by decide +kernel, by decide +kernel⟩, List.mem_of_getElem? (i := 53) (by decide +kernel), List.mem_of_getElem? (i := 321) (by decide +kernel), List.mem_of_getElem? (i := 322) (by decide +kernel)⟩
theorem lw_p11 : lw_okq (⟨"ThreeEmpties$Tape", "readOr", "(I)Z"⟩, 7) := ⟨⟨by decide +kernel, by decide +kernel⟩, List.mem_of_getElem? (i := 53) (by decide +kernel), List.mem_of_getElem? (i := 328) (by decide +kernel), List.mem_of_getElem? (i := 329) (by decide +kernel)⟩
theorem lw_p12 : lw_okq (⟨"ThreeEmpties$Tape", "readAnd", "(I)Z"⟩, 7) := ⟨⟨by decide +kernel, by decide +kernel⟩, List.mem_of_getElem? (i := 53) (by decide +kernel), List.mem_of_getElem? (i := 332) (by decide +kernel), List.mem_of_getElem? (i := 333) (by decide +kernel)⟩
theorem lw_p13 : lw_okq (⟨"ThreeEmpties$Tape", "readNot", "(I)Z"⟩, 7) := ⟨⟨by decide +kernel, by decide +kernel⟩, List.mem_of_getElem? (i := 53) (by decide +kernel), List.mem_of_getElem? (i := 336) (by decide +kernel), List.mem_of_getElem? (i := 337) (by decide +kernel)⟩
theorem lw_p14 : lw_okq (⟨"ThreeEmpties$Tape", "emit", "(I)V"⟩, 7) := ⟨⟨by decide +kernel, by decide +kernel⟩, List.mem_of_getElem? (i := 53) (by decide +kernel), List.mem_of_getElem? (i := 340) (by decide +kernel), List.mem_of_getElem? (i := 341) (by decide +kernel)⟩
theorem lw_p15 : lw_okq (⟨"ThreeEmpties$Tape", "readSum", "(I)Z"⟩, 7) := ⟨⟨by decide +kernel, by decide +kernel⟩, List.mem_of_getElem? (i := 53) (by decide +kernel), List.mem_of_getElem? (i := 345) (by decide +kernel), List.mem_of_getElem? (i := 346) (by decide +kernel)⟩
def lw_privs_1 : List (MethodName × Nat) := [(⟨"ThreeEmpties$Text", "becomeConstant", "(III)V"⟩, 4), (⟨"ThreeEmpties$Text", "put", "(I)V"⟩, 4), (⟨"ThreeEmpties$Text", "endPart", "(I)V"⟩, 4), (⟨"ThreeEmpties$Tape", "append", "(I)V"⟩, 7), (⟨"ThreeEmpties", "textAt", "(I)LThreeEmpties$Text;"⟩, 12), (⟨"ThreeEmpties$Tape", "readInto", "(LThreeEmpties$Text;)I"⟩, 7), (⟨"ThreeEmpties$Tape", "step", "()V"⟩, 7), (⟨"ThreeEmpties$Tape", "byteAt", "(I)I"⟩, 7), (⟨"ThreeEmpties$Tape", "stepOverWord", "()V"⟩, 7), (⟨"ThreeEmpties$Tape", "isSpelled", "(Ljava/lang/String;)Z"⟩, 7), (⟨"ThreeEmpties$Tape", "stepOverNumber", "()V"⟩, 7), (⟨"ThreeEmpties$Tape", "readOr", "(I)Z"⟩, 7), (⟨"ThreeEmpties$Tape", "readAnd", "(I)Z"⟩, 7), (⟨"ThreeEmpties$Tape", "readNot", "(I)Z"⟩, 7), (⟨"ThreeEmpties$Tape", "emit", "(I)V"⟩, 7), (⟨"ThreeEmpties$Tape", "readSum", "(I)Z"⟩, 7)]
theorem lw_r1 : ∀ q ∈ lw_privs_1, lw_okq q := List.forall_mem_cons.mpr ⟨lw_p0, List.forall_mem_cons.mpr ⟨lw_p1, List.forall_mem_cons.mpr ⟨lw_p2, List.forall_mem_cons.mpr ⟨lw_p3, List.forall_mem_cons.mpr ⟨lw_p4, List.forall_mem_cons.mpr ⟨lw_p5, List.forall_mem_cons.mpr ⟨lw_p6, List.forall_mem_cons.mpr ⟨lw_p7, List.forall_mem_cons.mpr ⟨lw_p8, List.forall_mem_cons.mpr ⟨lw_p9, List.forall_mem_cons.mpr ⟨lw_p10, List.forall_mem_cons.mpr ⟨lw_p11, List.forall_mem_cons.mpr ⟨lw_p12, List.forall_mem_cons.mpr ⟨lw_p13, List.forall_mem_cons.mpr ⟨lw_p14, List.forall_mem_cons.mpr ⟨lw_p15, fun _ h => absurd h List.not_mem_nil⟩⟩⟩⟩⟩⟩⟩⟩⟩⟩⟩⟩⟩⟩⟩⟩
theorem lw_p16 : lw_okq (⟨"ThreeEmpties$Tape", "readTerm", "(I)Z"⟩, 7) := ⟨⟨by decide +kernel, by decide +kernel⟩, List.mem_of_getElem? (i := 53) (by decide +kernel), List.mem_of_getElem? (i := 349) (by decide +kernel), List.mem_of_getElem? (i := 350) (by decide +kernel)⟩
theorem lw_p17 : lw_okq (⟨"ThreeEmpties$Tape", "readOne", "(I)Z"⟩, 7) := ⟨⟨by decide +kernel, by decide +kernel⟩, List.mem_of_getElem? (i := 53) (by decide +kernel), List.mem_of_getElem? (i := 353) (by decide +kernel), List.mem_of_getElem? (i := 354) (by decide +kernel)⟩
theorem lw_p18 : lw_okq (⟨"ThreeEmpties", "says", "(II[I)I"⟩, 12) := ⟨⟨by decide +kernel, by decide +kernel⟩, List.mem_of_getElem? (i := 15) (by decide +kernel), List.mem_of_getElem? (i := 369) (by decide +kernel), List.mem_of_getElem? (i := 370) (by decide +kernel)⟩
theorem lw_p19 : lw_okq (⟨"ThreeEmpties$Text", "reckon", "(I[I)I"⟩, 4) := ⟨⟨by decide +kernel, by decide +kernel⟩, List.mem_of_getElem? (i := 130) (by decide +kernel), List.mem_of_getElem? (i := 375) (by decide +kernel), List.mem_of_getElem? (i := 376) (by decide +kernel)⟩
theorem lw_p20 : lw_okq (⟨"ThreeEmpties$Rates", "put", "(III)I"⟩, 5) := ⟨⟨by decide +kernel, by decide +kernel⟩, List.mem_of_getElem? (i := 25) (by decide +kernel), List.mem_of_getElem? (i := 395) (by decide +kernel), List.mem_of_getElem? (i := 396) (by decide +kernel)⟩
theorem lw_p21 : lw_okq (⟨"ThreeEmpties$Rates", "has", "(I)Z"⟩, 5) := ⟨⟨by decide +kernel, by decide +kernel⟩, List.mem_of_getElem? (i := 25) (by decide +kernel), List.mem_of_getElem? (i := 409) (by decide +kernel), List.mem_of_getElem? (i := 410) (by decide +kernel)⟩
theorem lw_p22 : lw_okq (⟨"ThreeEmpties$Rates", "takes", "(II)I"⟩, 5) := ⟨⟨by decide +kernel, by decide +kernel⟩, List.mem_of_getElem? (i := 25) (by decide +kernel), List.mem_of_getElem? (i := 419) (by decide +kernel), List.mem_of_getElem? (i := 420) (by decide +kernel)⟩
theorem lw_p23 : lw_okq (⟨"ThreeEmpties$Rates", "gives", "(II)I"⟩, 5) := ⟨⟨by decide +kernel, by decide +kernel⟩, List.mem_of_getElem? (i := 25) (by decide +kernel), List.mem_of_getElem? (i := 425) (by decide +kernel), List.mem_of_getElem? (i := 426) (by decide +kernel)⟩
theorem lw_p24 : lw_okq (⟨"ThreeEmpties$Rates", "lends", "(I)I"⟩, 5) := ⟨⟨by decide +kernel, by decide +kernel⟩, List.mem_of_getElem? (i := 25) (by decide +kernel), List.mem_of_getElem? (i := 429) (by decide +kernel), List.mem_of_getElem? (i := 430) (by decide +kernel)⟩
theorem lw_p25 : lw_okq (⟨"ThreeEmpties", "isMove", "(I)Z"⟩, 12) := ⟨⟨by decide +kernel, by decide +kernel⟩, List.mem_of_getElem? (i := 15) (by decide +kernel), List.mem_of_getElem? (i := 437) (by decide +kernel), List.mem_of_getElem? (i := 438) (by decide +kernel)⟩
theorem lw_p26 : lw_okq (⟨"ThreeEmpties", "canMake", "([II)Z"⟩, 12) := ⟨⟨by decide +kernel, by decide +kernel⟩, List.mem_of_getElem? (i := 15) (by decide +kernel), List.mem_of_getElem? (i := 441) (by decide +kernel), List.mem_of_getElem? (i := 442) (by decide +kernel)⟩
theorem lw_p27 : lw_okq (⟨"ThreeEmpties", "canExchange", "([II)Z"⟩, 12) := ⟨⟨by decide +kernel, by decide +kernel⟩, List.mem_of_getElem? (i := 15) (by decide +kernel), List.mem_of_getElem? (i := 448) (by decide +kernel), List.mem_of_getElem? (i := 449) (by decide +kernel)⟩
theorem lw_p28 : lw_okq (⟨"ThreeEmpties", "make", "([III)V"⟩, 12) := ⟨⟨by decide +kernel, by decide +kernel⟩, List.mem_of_getElem? (i := 15) (by decide +kernel), List.mem_of_getElem? (i := 456) (by decide +kernel), List.mem_of_getElem? (i := 457) (by decide +kernel)⟩
theorem lw_p29 : lw_okq (⟨"ThreeEmpties", "exchange", "([II)V"⟩, 12) := ⟨⟨by decide +kernel, by decide +kernel⟩, List.mem_of_getElem? (i := 15) (by decide +kernel), List.mem_of_getElem? (i := 463) (by decide +kernel), List.mem_of_getElem? (i := 464) (by decide +kernel)⟩
theorem lw_p30 : lw_okq (⟨"ThreeEmpties", "startThought", "()[I"⟩, 12) := ⟨⟨by decide +kernel, by decide +kernel⟩, List.mem_of_getElem? (i := 15) (by decide +kernel), List.mem_of_getElem? (i := 471) (by decide +kernel), List.mem_of_getElem? (i := 472) (by decide +kernel)⟩
theorem lw_p31 : lw_okq (⟨"ThreeEmpties", "runGreedily", "([IIII)I"⟩, 12) := ⟨⟨by decide +kernel, by decide +kernel⟩, List.mem_of_getElem? (i := 15) (by decide +kernel), List.mem_of_getElem? (i := 478) (by decide +kernel), List.mem_of_getElem? (i := 479) (by decide +kernel)⟩
def lw_privs_2 : List (MethodName × Nat) := [(⟨"ThreeEmpties$Tape", "readTerm", "(I)Z"⟩, 7), (⟨"ThreeEmpties$Tape", "readOne", "(I)Z"⟩, 7), (⟨"ThreeEmpties", "says", "(II[I)I"⟩, 12), (⟨"ThreeEmpties$Text", "reckon", "(I[I)I"⟩, 4), (⟨"ThreeEmpties$Rates", "put", "(III)I"⟩, 5), (⟨"ThreeEmpties$Rates", "has", "(I)Z"⟩, 5), (⟨"ThreeEmpties$Rates", "takes", "(II)I"⟩, 5), (⟨"ThreeEmpties$Rates", "gives", "(II)I"⟩, 5), (⟨"ThreeEmpties$Rates", "lends", "(I)I"⟩, 5), (⟨"ThreeEmpties", "isMove", "(I)Z"⟩, 12), (⟨"ThreeEmpties", "canMake", "([II)Z"⟩, 12), (⟨"ThreeEmpties", "canExchange", "([II)Z"⟩, 12), (⟨"ThreeEmpties", "make", "([III)V"⟩, 12), (⟨"ThreeEmpties", "exchange", "([II)V"⟩, 12), (⟨"ThreeEmpties", "startThought", "()[I"⟩, 12), (⟨"ThreeEmpties", "runGreedily", "([IIII)I"⟩, 12)]
theorem lw_r2 : ∀ q ∈ lw_privs_2, lw_okq q := List.forall_mem_cons.mpr ⟨lw_p16, List.forall_mem_cons.mpr ⟨lw_p17, List.forall_mem_cons.mpr ⟨lw_p18, List.forall_mem_cons.mpr ⟨lw_p19, List.forall_mem_cons.mpr ⟨lw_p20, List.forall_mem_cons.mpr ⟨lw_p21, List.forall_mem_cons.mpr ⟨lw_p22, List.forall_mem_cons.mpr ⟨lw_p23, List.forall_mem_cons.mpr ⟨lw_p24, List.forall_mem_cons.mpr ⟨lw_p25, List.forall_mem_cons.mpr ⟨lw_p26, List.forall_mem_cons.mpr ⟨lw_p27, List.forall_mem_cons.mpr ⟨lw_p28, List.forall_mem_cons.mpr ⟨lw_p29, List.forall_mem_cons.mpr ⟨lw_p30, List.forall_mem_cons.mpr ⟨lw_p31, fun _ h => absurd h List.not_mem_nil⟩⟩⟩⟩⟩⟩⟩⟩⟩⟩⟩⟩⟩⟩⟩⟩
theorem lw_p32 : lw_okq (⟨"ThreeEmpties", "pick", "([II)I"⟩, 12) := ⟨⟨by decide +kernel, by decide +kernel⟩, List.mem_of_getElem? (i := 15) (by decide +kernel), List.mem_of_getElem? (i := 482) (by decide +kernel), List.mem_of_getElem? (i := 483) (by decide +kernel)⟩
theorem lw_p33 : lw_okq (⟨"ThreeEmpties", "tryRows", "(IIII)V"⟩, 12) := ⟨⟨by decide +kernel, by decide +kernel⟩, List.mem_of_getElem? (i := 15) (by decide +kernel), List.mem_of_getElem? (i := 498) (by decide +kernel), List.mem_of_getElem? (i := 499) (by decide +kernel)⟩
theorem lw_p34 : lw_okq (⟨"ThreeEmpties", "tryMove", "(IIIII)V"⟩, 12) := ⟨⟨by decide +kernel, by decide +kernel⟩, List.mem_of_getElem? (i := 15) (by decide +kernel), List.mem_of_getElem? (i := 502) (by decide +kernel), List.mem_of_getElem? (i := 503) (by decide +kernel)⟩
theorem lw_p35 : lw_okq (⟨"ThreeEmpties", "endWith", "(I)[I"⟩, 12) := ⟨⟨by decide +kernel, by decide +kernel⟩, List.mem_of_getElem? (i := 15) (by decide +kernel), List.mem_of_getElem? (i := 510) (by decide +kernel), List.mem_of_getElem? (i := 511) (by decide +kernel)⟩
theorem lw_p36 : lw_okq (⟨"ThreeEmpties", "neverEnds", "(II)Z"⟩, 12) := ⟨⟨by decide +kernel, by decide +kernel⟩, List.mem_of_getElem? (i := 15) (by decide +kernel), List.mem_of_getElem? (i := 532) (by decide +kernel), List.mem_of_getElem? (i := 533) (by decide +kernel)⟩
theorem lw_p37 : lw_okq (⟨"ThreeEmpties", "inDigits", "(I)I"⟩, 12) := ⟨⟨by decide +kernel, by decide +kernel⟩, List.mem_of_getElem? (i := 15) (by decide +kernel), List.mem_of_getElem? (i := 536) (by decide +kernel), List.mem_of_getElem? (i := 537) (by decide +kernel)⟩
theorem lw_p38 : lw_okq (⟨"ThreeEmpties$Sheets", "refusal", "(I)I"⟩, 3) := ⟨⟨by decide +kernel, by decide +kernel⟩, List.mem_of_getElem? (i := 84) (by decide +kernel), List.mem_of_getElem? (i := 548) (by decide +kernel), List.mem_of_getElem? (i := 549) (by decide +kernel)⟩
theorem lw_p39 : lw_okq (⟨"ThreeEmpties", "firstWrong", "(I)I"⟩, 12) := ⟨⟨by decide +kernel, by decide +kernel⟩, List.mem_of_getElem? (i := 15) (by decide +kernel), List.mem_of_getElem? (i := 555) (by decide +kernel), List.mem_of_getElem? (i := 556) (by decide +kernel)⟩
theorem lw_p40 : lw_okq (⟨"ThreeEmpties$Sheets", "sizeOf", "(I)I"⟩, 3) := ⟨⟨by decide +kernel, by decide +kernel⟩, List.mem_of_getElem? (i := 84) (by decide +kernel), List.mem_of_getElem? (i := 559) (by decide +kernel), List.mem_of_getElem? (i := 560) (by decide +kernel)⟩
theorem lw_p41 : lw_okq (⟨"ThreeEmpties$Sheets", "get", "(II)I"⟩, 3) := ⟨⟨by decide +kernel, by decide +kernel⟩, List.mem_of_getElem? (i := 84) (by decide +kernel), List.mem_of_getElem? (i := 563) (by decide +kernel), List.mem_of_getElem? (i := 564) (by decide +kernel)⟩
theorem lw_p42 : lw_okq (⟨"ThreeEmpties$Sheets", "become", "(III)V"⟩, 3) := ⟨⟨by decide +kernel, by decide +kernel⟩, List.mem_of_getElem? (i := 84) (by decide +kernel), List.mem_of_getElem? (i := 576) (by decide +kernel), List.mem_of_getElem? (i := 577) (by decide +kernel)⟩
theorem lw_p43 : lw_okq (⟨"ThreeEmpties$Sheets", "shorten", "(II)V"⟩, 3) := ⟨⟨by decide +kernel, by decide +kernel⟩, List.mem_of_getElem? (i := 84) (by decide +kernel), List.mem_of_getElem? (i := 580) (by decide +kernel), List.mem_of_getElem? (i := 581) (by decide +kernel)⟩
theorem lw_p44 : lw_okq (⟨"ThreeEmpties$Sheets", "put", "(III)V"⟩, 3) := ⟨⟨by decide +kernel, by decide +kernel⟩, List.mem_of_getElem? (i := 84) (by decide +kernel), List.mem_of_getElem? (i := 584) (by decide +kernel), List.mem_of_getElem? (i := 585) (by decide +kernel)⟩
theorem lw_p45 : lw_okq (⟨"ThreeEmpties", "drunkByLot", "(II)I"⟩, 12) := ⟨⟨by decide +kernel, by decide +kernel⟩, List.mem_of_getElem? (i := 15) (by decide +kernel), List.mem_of_getElem? (i := 597) (by decide +kernel), List.mem_of_getElem? (i := 598) (by decide +kernel)⟩
theorem lw_p46 : lw_okq (⟨"ThreeEmpties$Sheets", "lose", "(I)V"⟩, 3) := ⟨⟨by decide +kernel, by decide +kernel⟩, List.mem_of_getElem? (i := 84) (by decide +kernel), List.mem_of_getElem? (i := 623) (by decide +kernel), List.mem_of_getElem? (i := 624) (by decide +kernel)⟩
theorem lw_p47 : lw_okq (⟨"ThreeEmptiesModel", "next", "()V"⟩, 37) := ⟨⟨by decide +kernel, by decide +kernel⟩, List.mem_of_getElem? (i := 651) (by decide +kernel), List.mem_of_getElem? (i := 661) (by decide +kernel), List.mem_of_getElem? (i := 662) (by decide +kernel)⟩
def lw_privs_3 : List (MethodName × Nat) := [(⟨"ThreeEmpties", "pick", "([II)I"⟩, 12), (⟨"ThreeEmpties", "tryRows", "(IIII)V"⟩, 12), (⟨"ThreeEmpties", "tryMove", "(IIIII)V"⟩, 12), (⟨"ThreeEmpties", "endWith", "(I)[I"⟩, 12), (⟨"ThreeEmpties", "neverEnds", "(II)Z"⟩, 12), (⟨"ThreeEmpties", "inDigits", "(I)I"⟩, 12), (⟨"ThreeEmpties$Sheets", "refusal", "(I)I"⟩, 3), (⟨"ThreeEmpties", "firstWrong", "(I)I"⟩, 12), (⟨"ThreeEmpties$Sheets", "sizeOf", "(I)I"⟩, 3), (⟨"ThreeEmpties$Sheets", "get", "(II)I"⟩, 3), (⟨"ThreeEmpties$Sheets", "become", "(III)V"⟩, 3), (⟨"ThreeEmpties$Sheets", "shorten", "(II)V"⟩, 3), (⟨"ThreeEmpties$Sheets", "put", "(III)V"⟩, 3), (⟨"ThreeEmpties", "drunkByLot", "(II)I"⟩, 12), (⟨"ThreeEmpties$Sheets", "lose", "(I)V"⟩, 3), (⟨"ThreeEmptiesModel", "next", "()V"⟩, 37)]
theorem lw_r3 : ∀ q ∈ lw_privs_3, lw_okq q := List.forall_mem_cons.mpr ⟨lw_p32, List.forall_mem_cons.mpr ⟨lw_p33, List.forall_mem_cons.mpr ⟨lw_p34, List.forall_mem_cons.mpr ⟨lw_p35, List.forall_mem_cons.mpr ⟨lw_p36, List.forall_mem_cons.mpr ⟨lw_p37, List.forall_mem_cons.mpr ⟨lw_p38, List.forall_mem_cons.mpr ⟨lw_p39, List.forall_mem_cons.mpr ⟨lw_p40, List.forall_mem_cons.mpr ⟨lw_p41, List.forall_mem_cons.mpr ⟨lw_p42, List.forall_mem_cons.mpr ⟨lw_p43, List.forall_mem_cons.mpr ⟨lw_p44, List.forall_mem_cons.mpr ⟨lw_p45, List.forall_mem_cons.mpr ⟨lw_p46, List.forall_mem_cons.mpr ⟨lw_p47, fun _ h => absurd h List.not_mem_nil⟩⟩⟩⟩⟩⟩⟩⟩⟩⟩⟩⟩⟩⟩⟩⟩
theorem lw_p48 : lw_okq (⟨"ThreeEmptiesModel", "wordFrom", "(II)I"⟩, 37) := ⟨⟨by decide +kernel, by decide +kernel⟩, List.mem_of_getElem? (i := 651) (by decide +kernel), List.mem_of_getElem? (i := 668) (by decide +kernel), List.mem_of_getElem? (i := 669) (by decide +kernel)⟩
theorem lw_p49 : lw_okq (⟨"ThreeEmptiesModel", "eRead", "()Z"⟩, 37) := ⟨⟨by decide +kernel, by decide +kernel⟩, List.mem_of_getElem? (i := 651) (by decide +kernel), List.mem_of_getElem? (i := 672) (by decide +kernel), List.mem_of_getElem? (i := 673) (by decide +kernel)⟩
theorem lw_p50 : lw_okq (⟨"ThreeEmptiesModel", "puts", "(I)V"⟩, 37) := ⟨⟨by decide +kernel, by decide +kernel⟩, List.mem_of_getElem? (i := 651) (by decide +kernel), List.mem_of_getElem? (i := 677) (by decide +kernel), List.mem_of_getElem? (i := 678) (by decide +kernel)⟩
theorem lw_p51 : lw_okq (⟨"ThreeEmptiesModel", "unwinds", "(I)V"⟩, 37) := ⟨⟨by decide +kernel, by decide +kernel⟩, List.mem_of_getElem? (i := 651) (by decide +kernel), List.mem_of_getElem? (i := 681) (by decide +kernel), List.mem_of_getElem? (i := 682) (by decide +kernel)⟩
theorem lw_p52 : lw_okq (⟨"ThreeEmptiesModel", "opensOne", "(I)Z"⟩, 37) := ⟨⟨by decide +kernel, by decide +kernel⟩, List.mem_of_getElem? (i := 651) (by decide +kernel), List.mem_of_getElem? (i := 688) (by decide +kernel), List.mem_of_getElem? (i := 689) (by decide +kernel)⟩
theorem lw_p53 : lw_okq (⟨"ThreeEmptiesModel", "holds", "(I)V"⟩, 37) := ⟨⟨by decide +kernel, by decide +kernel⟩, List.mem_of_getElem? (i := 651) (by decide +kernel), List.mem_of_getElem? (i := 692) (by decide +kernel), List.mem_of_getElem? (i := 693) (by decide +kernel)⟩
theorem lw_p54 : lw_okq (⟨"ThreeEmptiesModel", "signOf", "()I"⟩, 37) := ⟨⟨by decide +kernel, by decide +kernel⟩, List.mem_of_getElem? (i := 651) (by decide +kernel), List.mem_of_getElem? (i := 696) (by decide +kernel), List.mem_of_getElem? (i := 697) (by decide +kernel)⟩
theorem lw_p55 : lw_okq (⟨"ThreeEmptiesModel", "between", "(I)Z"⟩, 37) := ⟨⟨by decide +kernel, by decide +kernel⟩, List.mem_of_getElem? (i := 651) (by decide +kernel), List.mem_of_getElem? (i := 700) (by decide +kernel), List.mem_of_getElem? (i := 701) (by decide +kernel)⟩
theorem lw_p56 : lw_okq (⟨"ThreeEmptiesModel", "asksOf", "(I)I"⟩, 37) := ⟨⟨by decide +kernel, by decide +kernel⟩, List.mem_of_getElem? (i := 651) (by decide +kernel), List.mem_of_getElem? (i := 840) (by decide +kernel), List.mem_of_getElem? (i := 841) (by decide +kernel)⟩
theorem lw_p57 : lw_okq (⟨"ThreeEmptiesModel", "says", "(I)I"⟩, 37) := ⟨⟨by decide +kernel, by decide +kernel⟩, List.mem_of_getElem? (i := 651) (by decide +kernel), List.mem_of_getElem? (i := 844) (by decide +kernel), List.mem_of_getElem? (i := 845) (by decide +kernel)⟩
theorem lw_p58 : lw_okq (⟨"ThreeEmptiesModel", "isRate", "(I)Z"⟩, 37) := ⟨⟨by decide +kernel, by decide +kernel⟩, List.mem_of_getElem? (i := 651) (by decide +kernel), List.mem_of_getElem? (i := 865) (by decide +kernel), List.mem_of_getElem? (i := 866) (by decide +kernel)⟩
theorem lw_p59 : lw_okq (⟨"ThreeEmptiesModel", "takes", "(I)I"⟩, 37) := ⟨⟨by decide +kernel, by decide +kernel⟩, List.mem_of_getElem? (i := 651) (by decide +kernel), List.mem_of_getElem? (i := 873) (by decide +kernel), List.mem_of_getElem? (i := 874) (by decide +kernel)⟩
theorem lw_p60 : lw_okq (⟨"ThreeEmptiesModel", "gives", "(I)I"⟩, 37) := ⟨⟨by decide +kernel, by decide +kernel⟩, List.mem_of_getElem? (i := 651) (by decide +kernel), List.mem_of_getElem? (i := 877) (by decide +kernel), List.mem_of_getElem? (i := 878) (by decide +kernel)⟩
theorem lw_p61 : lw_okq (⟨"ThreeEmptiesModel", "lends", "(I)I"⟩, 37) := ⟨⟨by decide +kernel, by decide +kernel⟩, List.mem_of_getElem? (i := 651) (by decide +kernel), List.mem_of_getElem? (i := 881) (by decide +kernel), List.mem_of_getElem? (i := 882) (by decide +kernel)⟩
theorem lw_p62 : lw_okq (⟨"ThreeEmptiesModel", "isMove", "(I)Z"⟩, 37) := ⟨⟨by decide +kernel, by decide +kernel⟩, List.mem_of_getElem? (i := 651) (by decide +kernel), List.mem_of_getElem? (i := 889) (by decide +kernel), List.mem_of_getElem? (i := 890) (by decide +kernel)⟩
theorem lw_p63 : lw_okq (⟨"ThreeEmptiesModel", "canMove", "(I)Z"⟩, 37) := ⟨⟨by decide +kernel, by decide +kernel⟩, List.mem_of_getElem? (i := 651) (by decide +kernel), List.mem_of_getElem? (i := 893) (by decide +kernel), List.mem_of_getElem? (i := 894) (by decide +kernel)⟩
def lw_privs_4 : List (MethodName × Nat) := [(⟨"ThreeEmptiesModel", "wordFrom", "(II)I"⟩, 37), (⟨"ThreeEmptiesModel", "eRead", "()Z"⟩, 37), (⟨"ThreeEmptiesModel", "puts", "(I)V"⟩, 37), (⟨"ThreeEmptiesModel", "unwinds", "(I)V"⟩, 37), (⟨"ThreeEmptiesModel", "opensOne", "(I)Z"⟩, 37), (⟨"ThreeEmptiesModel", "holds", "(I)V"⟩, 37), (⟨"ThreeEmptiesModel", "signOf", "()I"⟩, 37), (⟨"ThreeEmptiesModel", "between", "(I)Z"⟩, 37), (⟨"ThreeEmptiesModel", "asksOf", "(I)I"⟩, 37), (⟨"ThreeEmptiesModel", "says", "(I)I"⟩, 37), (⟨"ThreeEmptiesModel", "isRate", "(I)Z"⟩, 37), (⟨"ThreeEmptiesModel", "takes", "(I)I"⟩, 37), (⟨"ThreeEmptiesModel", "gives", "(I)I"⟩, 37), (⟨"ThreeEmptiesModel", "lends", "(I)I"⟩, 37), (⟨"ThreeEmptiesModel", "isMove", "(I)Z"⟩, 37), (⟨"ThreeEmptiesModel", "canMove", "(I)Z"⟩, 37)]
theorem lw_r4 : ∀ q ∈ lw_privs_4, lw_okq q := List.forall_mem_cons.mpr ⟨lw_p48, List.forall_mem_cons.mpr ⟨lw_p49, List.forall_mem_cons.mpr ⟨lw_p50, List.forall_mem_cons.mpr ⟨lw_p51, List.forall_mem_cons.mpr ⟨lw_p52, List.forall_mem_cons.mpr ⟨lw_p53, List.forall_mem_cons.mpr ⟨lw_p54, List.forall_mem_cons.mpr ⟨lw_p55, List.forall_mem_cons.mpr ⟨lw_p56, List.forall_mem_cons.mpr ⟨lw_p57, List.forall_mem_cons.mpr ⟨lw_p58, List.forall_mem_cons.mpr ⟨lw_p59, List.forall_mem_cons.mpr ⟨lw_p60, List.forall_mem_cons.mpr ⟨lw_p61, List.forall_mem_cons.mpr ⟨lw_p62, List.forall_mem_cons.mpr ⟨lw_p63, fun _ h => absurd h List.not_mem_nil⟩⟩⟩⟩⟩⟩⟩⟩⟩⟩⟩⟩⟩⟩⟩⟩
theorem lw_p64 : lw_okq (⟨"ThreeEmptiesModel", "canExchange", "(I)Z"⟩, 37) := ⟨⟨by decide +kernel, by decide +kernel⟩, List.mem_of_getElem? (i := 651) (by decide +kernel), List.mem_of_getElem? (i := 897) (by decide +kernel), List.mem_of_getElem? (i := 898) (by decide +kernel)⟩
theorem lw_p65 : lw_okq (⟨"ThreeEmptiesModel", "goes", "(I)V"⟩, 37) := ⟨⟨by decide +kernel, by decide +kernel⟩, List.mem_of_getElem? (i := 651) (by decide +kernel), List.mem_of_getElem? (i := 905) (by decide +kernel), List.mem_of_getElem? (i := 906) (by decide +kernel)⟩
theorem lw_p66 : lw_okq (⟨"ThreeEmptiesModel", "drinks", "()V"⟩, 37) := ⟨⟨by decide +kernel, by decide +kernel⟩, List.mem_of_getElem? (i := 651) (by decide +kernel), List.mem_of_getElem? (i := 909) (by decide +kernel), List.mem_of_getElem? (i := 910) (by decide +kernel)⟩
theorem lw_p67 : lw_okq (⟨"ThreeEmptiesModel", "exchanges", "(I)V"⟩, 37) := ⟨⟨by decide +kernel, by decide +kernel⟩, List.mem_of_getElem? (i := 651) (by decide +kernel), List.mem_of_getElem? (i := 913) (by decide +kernel), List.mem_of_getElem? (i := 914) (by decide +kernel)⟩
theorem lw_p68 : lw_okq (⟨"ThreeEmptiesModel", "keeps", "(I)V"⟩, 37) := ⟨⟨by decide +kernel, by decide +kernel⟩, List.mem_of_getElem? (i := 651) (by decide +kernel), List.mem_of_getElem? (i := 921) (by decide +kernel), List.mem_of_getElem? (i := 922) (by decide +kernel)⟩
theorem lw_p69 : lw_okq (⟨"ThreeEmptiesModel", "goesOn", "(I)I"⟩, 37) := ⟨⟨by decide +kernel, by decide +kernel⟩, List.mem_of_getElem? (i := 651) (by decide +kernel), List.mem_of_getElem? (i := 925) (by decide +kernel), List.mem_of_getElem? (i := 926) (by decide +kernel)⟩
theorem lw_p70 : lw_okq (⟨"ThreeEmptiesModel", "greedy", "()I"⟩, 37) := ⟨⟨by decide +kernel, by decide +kernel⟩, List.mem_of_getElem? (i := 651) (by decide +kernel), List.mem_of_getElem? (i := 929) (by decide +kernel), List.mem_of_getElem? (i := 930) (by decide +kernel)⟩
theorem lw_p71 : lw_okq (⟨"ThreeEmptiesModel", "laysBack", "(I)V"⟩, 37) := ⟨⟨by decide +kernel, by decide +kernel⟩, List.mem_of_getElem? (i := 651) (by decide +kernel), List.mem_of_getElem? (i := 933) (by decide +kernel), List.mem_of_getElem? (i := 934) (by decide +kernel)⟩
theorem lw_p72 : lw_okq (⟨"ThreeEmptiesModel", "rows", "(IIII)V"⟩, 37) := ⟨⟨by decide +kernel, by decide +kernel⟩, List.mem_of_getElem? (i := 651) (by decide +kernel), List.mem_of_getElem? (i := 949) (by decide +kernel), List.mem_of_getElem? (i := 950) (by decide +kernel)⟩
theorem lw_p73 : lw_okq (⟨"ThreeEmptiesModel", "drunkWith", "(I)I"⟩, 37) := ⟨⟨by decide +kernel, by decide +kernel⟩, List.mem_of_getElem? (i := 651) (by decide +kernel), List.mem_of_getElem? (i := 957) (by decide +kernel), List.mem_of_getElem? (i := 958) (by decide +kernel)⟩
theorem lw_p74 : lw_okq (⟨"ThreeEmptiesModel", "neverEnds", "(I)Z"⟩, 37) := ⟨⟨by decide +kernel, by decide +kernel⟩, List.mem_of_getElem? (i := 651) (by decide +kernel), List.mem_of_getElem? (i := 979) (by decide +kernel), List.mem_of_getElem? (i := 980) (by decide +kernel)⟩
theorem lw_p75 : lw_okq (⟨"ThreeEmptiesModel", "rowDigits", "(I)I"⟩, 37) := ⟨⟨by decide +kernel, by decide +kernel⟩, List.mem_of_getElem? (i := 651) (by decide +kernel), List.mem_of_getElem? (i := 983) (by decide +kernel), List.mem_of_getElem? (i := 984) (by decide +kernel)⟩
theorem lw_p76 : lw_okq (⟨"ThreeEmptiesModel", "sheetWrong", "(I)I"⟩, 37) := ⟨⟨by decide +kernel, by decide +kernel⟩, List.mem_of_getElem? (i := 651) (by decide +kernel), List.mem_of_getElem? (i := 995) (by decide +kernel), List.mem_of_getElem? (i := 996) (by decide +kernel)⟩
theorem lw_p77 : lw_okq (⟨"ThreeEmptiesModel", "goesBy", "(I)I"⟩, 37) := ⟨⟨by decide +kernel, by decide +kernel⟩, List.mem_of_getElem? (i := 651) (by decide +kernel), List.mem_of_getElem? (i := 999) (by decide +kernel), List.mem_of_getElem? (i := 1000) (by decide +kernel)⟩
theorem lw_p78 : lw_okq (⟨"ThreeEmptiesModel", "drunkBy", "(II)I"⟩, 37) := ⟨⟨by decide +kernel, by decide +kernel⟩, List.mem_of_getElem? (i := 651) (by decide +kernel), List.mem_of_getElem? (i := 1023) (by decide +kernel), List.mem_of_getElem? (i := 1024) (by decide +kernel)⟩
def lw_privs_5 : List (MethodName × Nat) := [(⟨"ThreeEmptiesModel", "canExchange", "(I)Z"⟩, 37), (⟨"ThreeEmptiesModel", "goes", "(I)V"⟩, 37), (⟨"ThreeEmptiesModel", "drinks", "()V"⟩, 37), (⟨"ThreeEmptiesModel", "exchanges", "(I)V"⟩, 37), (⟨"ThreeEmptiesModel", "keeps", "(I)V"⟩, 37), (⟨"ThreeEmptiesModel", "goesOn", "(I)I"⟩, 37), (⟨"ThreeEmptiesModel", "greedy", "()I"⟩, 37), (⟨"ThreeEmptiesModel", "laysBack", "(I)V"⟩, 37), (⟨"ThreeEmptiesModel", "rows", "(IIII)V"⟩, 37), (⟨"ThreeEmptiesModel", "drunkWith", "(I)I"⟩, 37), (⟨"ThreeEmptiesModel", "neverEnds", "(I)Z"⟩, 37), (⟨"ThreeEmptiesModel", "rowDigits", "(I)I"⟩, 37), (⟨"ThreeEmptiesModel", "sheetWrong", "(I)I"⟩, 37), (⟨"ThreeEmptiesModel", "goesBy", "(I)I"⟩, 37), (⟨"ThreeEmptiesModel", "drunkBy", "(II)I"⟩, 37)]
theorem lw_r5 : ∀ q ∈ lw_privs_5, lw_okq q := List.forall_mem_cons.mpr ⟨lw_p64, List.forall_mem_cons.mpr ⟨lw_p65, List.forall_mem_cons.mpr ⟨lw_p66, List.forall_mem_cons.mpr ⟨lw_p67, List.forall_mem_cons.mpr ⟨lw_p68, List.forall_mem_cons.mpr ⟨lw_p69, List.forall_mem_cons.mpr ⟨lw_p70, List.forall_mem_cons.mpr ⟨lw_p71, List.forall_mem_cons.mpr ⟨lw_p72, List.forall_mem_cons.mpr ⟨lw_p73, List.forall_mem_cons.mpr ⟨lw_p74, List.forall_mem_cons.mpr ⟨lw_p75, List.forall_mem_cons.mpr ⟨lw_p76, List.forall_mem_cons.mpr ⟨lw_p77, List.forall_mem_cons.mpr ⟨lw_p78, fun _ h => absurd h List.not_mem_nil⟩⟩⟩⟩⟩⟩⟩⟩⟩⟩⟩⟩⟩⟩⟩
def lw_privs : List (MethodName × Nat) := lw_privs_1 ++ (lw_privs_2 ++ (lw_privs_3 ++ (lw_privs_4 ++ (lw_privs_5))))
def lw_tbl : List Cond := k2_sels lw_privs ++ tables_1
theorem lw_privs_ok : ∀ q ∈ lw_privs, lw_okq q := by
  show ∀ q ∈ lw_privs_1 ++ (lw_privs_2 ++ (lw_privs_3 ++ (lw_privs_4 ++ (lw_privs_5)))), lw_okq q
  exact List.forall_mem_append.mpr ⟨lw_r1, List.forall_mem_append.mpr ⟨lw_r2, List.forall_mem_append.mpr ⟨lw_r3, List.forall_mem_append.mpr ⟨lw_r4, lw_r5⟩⟩⟩⟩
end
section
def RX0 : String := "ThreeEmpties$Kept"
def TX0 : u_T := fun k => match k with
  | 0 => ("ThreeEmpties$Kept", "stood", "[I", true)
  | 1 => ("ThreeEmpties$Kept", "kinds", "[I", true)
  | 2 => ("ThreeEmpties$Kept", "mores", "[I", true)
  | 3 => ("ThreeEmpties$Kept", "rates", "I", false)
  | 4 => ("ThreeEmpties$Kept", "law", "I", false)
  | _ => ("ThreeEmpties$Kept", "any", "Z", false)
def tyX0 : Nat → FieldType := fun k => match k with
  | 0 => .array .int
  | 1 => .array .int
  | 2 => .array .int
  | 3 => .int
  | 4 => .int
  | _ => .boolean
theorem nmX0 : ∀ a, a < 6 → ∀ b, b < 6 → a ≠ b → (TX0 a).2.1 ≠ (TX0 b).2.1 := by decide +kernel
theorem tyX0_ok : ∀ k, k < 6 → parseFieldDescriptor (TX0 k).2.2.1 = some (tyX0 k) := by decide +kernel
abbrev cX0_init : ByteArray := prog_2_method_1_code
def yX0_init : MethodName := ⟨RX0, "<init>", "()V"⟩
def RX1 : String := "ThreeEmpties$Rates"
def TX1 : u_T := fun k => match k with
  | 0 => ("ThreeEmpties$Rates", "kinds", "[I", true)
  | 1 => ("ThreeEmpties$Rates", "sorts", "[I", true)
  | 2 => ("ThreeEmpties$Rates", "tolds", "[I", true)
  | 3 => ("ThreeEmpties$Rates", "mores", "[I", true)
  | _ => ("ThreeEmpties$Rates", "size", "I", false)
def tyX1 : Nat → FieldType := fun k => match k with
  | 0 => .array .int
  | 1 => .array .int
  | 2 => .array .int
  | 3 => .array .int
  | _ => .int
theorem nmX1 : ∀ a, a < 5 → ∀ b, b < 5 → a ≠ b → (TX1 a).2.1 ≠ (TX1 b).2.1 := by decide +kernel
theorem tyX1_ok : ∀ k, k < 5 → parseFieldDescriptor (TX1 k).2.2.1 = some (tyX1 k) := by decide +kernel
abbrev cX1_init : ByteArray := prog_3_method_1_code
def yX1_init : MethodName := ⟨RX1, "<init>", "()V"⟩
abbrev cX1_isKind : ByteArray := prog_3_method_2_code
def yX1_isKind : MethodName := ⟨RX1, "isKind", "(I)Z"⟩
abbrev cX1_isMore : ByteArray := prog_3_method_3_code
def yX1_isMore : MethodName := ⟨RX1, "isMore", "(I)Z"⟩
abbrev cX1_isOne : ByteArray := prog_3_method_4_code
def yX1_isOne : MethodName := ⟨RX1, "isOne", "(II)Z"⟩
abbrev cX1_has : ByteArray := prog_3_method_5_code
def yX1_has : MethodName := ⟨RX1, "has", "(I)Z"⟩
abbrev cX1_put : ByteArray := prog_3_method_6_code
def yX1_put : MethodName := ⟨RX1, "put", "(III)I"⟩
abbrev cX1_takes : ByteArray := prog_3_method_7_code
def yX1_takes : MethodName := ⟨RX1, "takes", "(II)I"⟩
abbrev cX1_gives : ByteArray := prog_3_method_8_code
def yX1_gives : MethodName := ⟨RX1, "gives", "(II)I"⟩
abbrev cX1_lends : ByteArray := prog_3_method_9_code
def yX1_lends : MethodName := ⟨RX1, "lends", "(I)I"⟩
def RX2 : String := "ThreeEmpties$Sheets"
def TX2 : u_T := fun k => match k with
  | 0 => ("ThreeEmpties$Sheets", "rows", "[[I", true)
  | 1 => ("ThreeEmpties$Sheets", "sorts", "[I", true)
  | _ => ("ThreeEmpties$Sheets", "sizes", "[I", true)
def tyX2 : Nat → FieldType := fun k => match k with
  | 0 => .array (.array .int)
  | 1 => .array .int
  | _ => .array .int
theorem nmX2 : ∀ a, a < 3 → ∀ b, b < 3 → a ≠ b → (TX2 a).2.1 ≠ (TX2 b).2.1 := by decide +kernel
theorem tyX2_ok : ∀ k, k < 3 → parseFieldDescriptor (TX2 k).2.2.1 = some (tyX2 k) := by decide +kernel
abbrev cX2_init : ByteArray := prog_4_method_1_code
def yX2_init : MethodName := ⟨RX2, "<init>", "()V"⟩
abbrev cX2_isSheet : ByteArray := prog_4_method_2_code
def yX2_isSheet : MethodName := ⟨RX2, "isSheet", "(I)Z"⟩
abbrev cX2_isSort : ByteArray := prog_4_method_3_code
def yX2_isSort : MethodName := ⟨RX2, "isSort", "(I)Z"⟩
abbrev cX2_refusal : ByteArray := prog_4_method_4_code
def yX2_refusal : MethodName := ⟨RX2, "refusal", "(I)I"⟩
abbrev cX2_sizeOf : ByteArray := prog_4_method_5_code
def yX2_sizeOf : MethodName := ⟨RX2, "sizeOf", "(I)I"⟩
abbrev cX2_lose : ByteArray := prog_4_method_6_code
def yX2_lose : MethodName := ⟨RX2, "lose", "(I)V"⟩
abbrev cX2_become : ByteArray := prog_4_method_7_code
def yX2_become : MethodName := ⟨RX2, "become", "(III)V"⟩
abbrev cX2_shorten : ByteArray := prog_4_method_8_code
def yX2_shorten : MethodName := ⟨RX2, "shorten", "(II)V"⟩
abbrev cX2_get : ByteArray := prog_4_method_9_code
def yX2_get : MethodName := ⟨RX2, "get", "(II)I"⟩
abbrev cX2_put : ByteArray := prog_4_method_10_code
def yX2_put : MethodName := ⟨RX2, "put", "(III)V"⟩
def RX3 : String := "ThreeEmpties$Tape"
def TX3 : u_T := fun k => match k with
  | 0 => ("ThreeEmpties$Tape", "bytes", "[I", true)
  | 1 => ("ThreeEmpties$Tape", "size", "I", false)
  | 2 => ("ThreeEmpties$Tape", "place", "I", false)
  | 3 => ("ThreeEmpties$Tape", "begin", "I", false)
  | 4 => ("ThreeEmpties$Tape", "token", "I", false)
  | 5 => ("ThreeEmpties$Tape", "number", "I", false)
  | _ => ("ThreeEmpties$Tape", "text", "LThreeEmpties$Text;", false)
def tyX3 : Nat → FieldType := fun k => match k with
  | 0 => .array .int
  | 1 => .int
  | 2 => .int
  | 3 => .int
  | 4 => .int
  | 5 => .int
  | _ => .object "ThreeEmpties$Text"
theorem nmX3 : ∀ a, a < 7 → ∀ b, b < 7 → a ≠ b → (TX3 a).2.1 ≠ (TX3 b).2.1 := by decide +kernel
theorem tyX3_ok : ∀ k, k < 7 → parseFieldDescriptor (TX3 k).2.2.1 = some (tyX3 k) := by decide +kernel
abbrev cX3_init : ByteArray := prog_5_method_1_code
def yX3_init : MethodName := ⟨RX3, "<init>", "()V"⟩
abbrev cX3_append : ByteArray := prog_5_method_2_code
def yX3_append : MethodName := ⟨RX3, "append", "(I)V"⟩
abbrev cX3_readInto : ByteArray := prog_5_method_3_code
def yX3_readInto : MethodName := ⟨RX3, "readInto", "(LThreeEmpties$Text;)I"⟩
abbrev cX3_readOr : ByteArray := prog_5_method_4_code
def yX3_readOr : MethodName := ⟨RX3, "readOr", "(I)Z"⟩
abbrev cX3_readAnd : ByteArray := prog_5_method_5_code
def yX3_readAnd : MethodName := ⟨RX3, "readAnd", "(I)Z"⟩
abbrev cX3_readNot : ByteArray := prog_5_method_6_code
def yX3_readNot : MethodName := ⟨RX3, "readNot", "(I)Z"⟩
abbrev cX3_readSum : ByteArray := prog_5_method_7_code
def yX3_readSum : MethodName := ⟨RX3, "readSum", "(I)Z"⟩
abbrev cX3_readTerm : ByteArray := prog_5_method_8_code
def yX3_readTerm : MethodName := ⟨RX3, "readTerm", "(I)Z"⟩
abbrev cX3_readOne : ByteArray := prog_5_method_9_code
def yX3_readOne : MethodName := ⟨RX3, "readOne", "(I)Z"⟩
abbrev cX3_emit : ByteArray := prog_5_method_10_code
def yX3_emit : MethodName := ⟨RX3, "emit", "(I)V"⟩
abbrev cX3_byteAt : ByteArray := prog_5_method_11_code
def yX3_byteAt : MethodName := ⟨RX3, "byteAt", "(I)I"⟩
abbrev cX3_step : ByteArray := prog_5_method_12_code
def yX3_step : MethodName := ⟨RX3, "step", "()V"⟩
abbrev cX3_stepOverWord : ByteArray := prog_5_method_13_code
def yX3_stepOverWord : MethodName := ⟨RX3, "stepOverWord", "()V"⟩
abbrev cX3_stepOverNumber : ByteArray := prog_5_method_14_code
def yX3_stepOverNumber : MethodName := ⟨RX3, "stepOverNumber", "()V"⟩
abbrev cX3_isSpelled : ByteArray := prog_5_method_15_code
def yX3_isSpelled : MethodName := ⟨RX3, "isSpelled", "(Ljava/lang/String;)Z"⟩
abbrev cX3_spelling : ByteArray := prog_5_method_16_code
def yX3_spelling : MethodName := ⟨RX3, "spelling", "(I)Ljava/lang/String;"⟩
abbrev cX3_isBlank : ByteArray := prog_5_method_17_code
def yX3_isBlank : MethodName := ⟨RX3, "isBlank", "(I)Z"⟩
abbrev cX3_isLetter : ByteArray := prog_5_method_18_code
def yX3_isLetter : MethodName := ⟨RX3, "isLetter", "(I)Z"⟩
abbrev cX3_isDigit : ByteArray := prog_5_method_19_code
def yX3_isDigit : MethodName := ⟨RX3, "isDigit", "(I)Z"⟩
abbrev cX3_isSign : ByteArray := prog_5_method_20_code
def yX3_isSign : MethodName := ⟨RX3, "isSign", "(I)Z"⟩
def RX4 : String := "ThreeEmpties$Text"
def TX4 : u_T := fun k => match k with
  | 0 => ("ThreeEmpties$Text", "codes", "[I", true)
  | 1 => ("ThreeEmpties$Text", "ends", "[I", true)
  | 2 => ("ThreeEmpties$Text", "stack", "[I", true)
  | _ => ("ThreeEmpties$Text", "size", "I", false)
def tyX4 : Nat → FieldType := fun k => match k with
  | 0 => .array .int
  | 1 => .array .int
  | 2 => .array .int
  | _ => .int
theorem nmX4 : ∀ a, a < 4 → ∀ b, b < 4 → a ≠ b → (TX4 a).2.1 ≠ (TX4 b).2.1 := by decide +kernel
theorem tyX4_ok : ∀ k, k < 4 → parseFieldDescriptor (TX4 k).2.2.1 = some (tyX4 k) := by decide +kernel
abbrev cX4_init : ByteArray := prog_6_method_1_code
def yX4_init : MethodName := ⟨RX4, "<init>", "([I)V"⟩
abbrev cX4_becomeConstant : ByteArray := prog_6_method_2_code
def yX4_becomeConstant : MethodName := ⟨RX4, "becomeConstant", "(III)V"⟩
abbrev cX4_put : ByteArray := prog_6_method_3_code
def yX4_put : MethodName := ⟨RX4, "put", "(I)V"⟩
abbrev cX4_endPart : ByteArray := prog_6_method_4_code
def yX4_endPart : MethodName := ⟨RX4, "endPart", "(I)V"⟩
abbrev cX4_reckon : ByteArray := prog_6_method_5_code
def yX4_reckon : MethodName := ⟨RX4, "reckon", "(I[I)I"⟩
abbrev cX4_operand : ByteArray := prog_6_method_6_code
def yX4_operand : MethodName := ⟨RX4, "operand", "(I[I)I"⟩
abbrev cX4_ofTwo : ByteArray := prog_6_method_7_code
def yX4_ofTwo : MethodName := ⟨RX4, "ofTwo", "(III)I"⟩
def RX5 : String := "ThreeEmpties"
def TX5 : u_T := fun k => match k with
  | 0 => ("ThreeEmpties", "now", "[I", true)
  | 1 => ("ThreeEmpties", "thought", "[I", true)
  | 2 => ("ThreeEmpties", "ahead", "[[I", true)
  | 3 => ("ThreeEmpties", "rates", "LThreeEmpties$Rates;", true)
  | 4 => ("ThreeEmpties", "tape", "LThreeEmpties$Tape;", true)
  | 5 => ("ThreeEmpties", "texts", "[LThreeEmpties$Text;", true)
  | 6 => ("ThreeEmpties", "sheets", "LThreeEmpties$Sheets;", true)
  | 7 => ("ThreeEmpties", "kept", "LThreeEmpties$Kept;", true)
  | 8 => ("ThreeEmpties", "textsRead", "I", false)
  | 9 => ("ThreeEmpties", "law", "I", false)
  | 10 => ("ThreeEmpties", "mostWorth", "I", false)
  | _ => ("ThreeEmpties", "mostWorthRow", "I", false)
def tyX5 : Nat → FieldType := fun k => match k with
  | 0 => .array .int
  | 1 => .array .int
  | 2 => .array (.array .int)
  | 3 => .object "ThreeEmpties$Rates"
  | 4 => .object "ThreeEmpties$Tape"
  | 5 => .array (.object "ThreeEmpties$Text")
  | 6 => .object "ThreeEmpties$Sheets"
  | 7 => .object "ThreeEmpties$Kept"
  | 8 => .int
  | 9 => .int
  | 10 => .int
  | _ => .int
theorem nmX5 : ∀ a, a < 12 → ∀ b, b < 12 → a ≠ b → (TX5 a).2.1 ≠ (TX5 b).2.1 := by decide +kernel
theorem tyX5_ok : ∀ k, k < 12 → parseFieldDescriptor (TX5 k).2.2.1 = some (tyX5 k) := by decide +kernel
abbrev cX5_init : ByteArray := prog_1_method_1_code
def yX5_init : MethodName := ⟨RX5, "<init>", "()V"⟩
abbrev cX5_set : ByteArray := prog_1_method_2_code
def yX5_set : MethodName := ⟨RX5, "set", "(II)I"⟩
abbrev cX5_count : ByteArray := prog_1_method_3_code
def yX5_count : MethodName := ⟨RX5, "count", "(I)I"⟩
abbrev cX5_feed : ByteArray := prog_1_method_4_code
def yX5_feed : MethodName := ⟨RX5, "feed", "(IIIIII)I"⟩
abbrev cX5_text : ByteArray := prog_1_method_5_code
def yX5_text : MethodName := ⟨RX5, "text", "()I"⟩
abbrev cX5_force : ByteArray := prog_1_method_6_code
def yX5_force : MethodName := ⟨RX5, "force", "(I)I"⟩
abbrev cX5_asks : ByteArray := prog_1_method_7_code
def yX5_asks : MethodName := ⟨RX5, "asks", "(I)I"⟩
abbrev cX5_mostOf : ByteArray := prog_1_method_8_code
def yX5_mostOf : MethodName := ⟨RX5, "mostOf", "(I)I"⟩
abbrev cX5_isByte : ByteArray := prog_1_method_9_code
def yX5_isByte : MethodName := ⟨RX5, "isByte", "(I)Z"⟩
abbrev cX5_says : ByteArray := prog_1_method_10_code
def yX5_says : MethodName := ⟨RX5, "says", "(II[I)I"⟩
abbrev cX5_textAt : ByteArray := prog_1_method_11_code
def yX5_textAt : MethodName := ⟨RX5, "textAt", "(I)LThreeEmpties$Text;"⟩
abbrev cX5_rate : ByteArray := prog_1_method_12_code
def yX5_rate : MethodName := ⟨RX5, "rate", "(III)I"⟩
abbrev cX5_change : ByteArray := prog_1_method_13_code
def yX5_change : MethodName := ⟨RX5, "change", "(III)I"⟩
abbrev cX5_told : ByteArray := prog_1_method_14_code
def yX5_told : MethodName := ⟨RX5, "told", "(II)I"⟩
abbrev cX5_can : ByteArray := prog_1_method_15_code
def yX5_can : MethodName := ⟨RX5, "can", "(I)I"⟩
abbrev cX5_move : ByteArray := prog_1_method_16_code
def yX5_move : MethodName := ⟨RX5, "move", "(I)I"⟩
abbrev cX5_all : ByteArray := prog_1_method_17_code
def yX5_all : MethodName := ⟨RX5, "all", "(I)I"⟩
abbrev cX5_go : ByteArray := prog_1_method_18_code
def yX5_go : MethodName := ⟨RX5, "go", "(I)I"⟩
abbrev cX5_next : ByteArray := prog_1_method_19_code
def yX5_next : MethodName := ⟨RX5, "next", "(I)I"⟩
abbrev cX5_best : ByteArray := prog_1_method_20_code
def yX5_best : MethodName := ⟨RX5, "best", "(II)I"⟩
abbrev cX5_isMove : ByteArray := prog_1_method_21_code
def yX5_isMove : MethodName := ⟨RX5, "isMove", "(I)Z"⟩
abbrev cX5_canMake : ByteArray := prog_1_method_22_code
def yX5_canMake : MethodName := ⟨RX5, "canMake", "([II)Z"⟩
abbrev cX5_canDrink : ByteArray := prog_1_method_23_code
def yX5_canDrink : MethodName := ⟨RX5, "canDrink", "([I)Z"⟩
abbrev cX5_canExchange : ByteArray := prog_1_method_24_code
def yX5_canExchange : MethodName := ⟨RX5, "canExchange", "([II)Z"⟩
abbrev cX5_make : ByteArray := prog_1_method_25_code
def yX5_make : MethodName := ⟨RX5, "make", "([III)V"⟩
abbrev cX5_drink : ByteArray := prog_1_method_26_code
def yX5_drink : MethodName := ⟨RX5, "drink", "([II)V"⟩
abbrev cX5_exchange : ByteArray := prog_1_method_27_code
def yX5_exchange : MethodName := ⟨RX5, "exchange", "([II)V"⟩
abbrev cX5_pick : ByteArray := prog_1_method_28_code
def yX5_pick : MethodName := ⟨RX5, "pick", "([II)I"⟩
abbrev cX5_runGreedily : ByteArray := prog_1_method_29_code
def yX5_runGreedily : MethodName := ⟨RX5, "runGreedily", "([IIII)I"⟩
abbrev cX5_startThought : ByteArray := prog_1_method_30_code
def yX5_startThought : MethodName := ⟨RX5, "startThought", "()[I"⟩
abbrev cX5_tryRows : ByteArray := prog_1_method_31_code
def yX5_tryRows : MethodName := ⟨RX5, "tryRows", "(IIII)V"⟩
abbrev cX5_tryMove : ByteArray := prog_1_method_32_code
def yX5_tryMove : MethodName := ⟨RX5, "tryMove", "(IIIII)V"⟩
abbrev cX5_least : ByteArray := prog_1_method_33_code
def yX5_least : MethodName := ⟨RX5, "least", "(II)I"⟩
abbrev cX5_bought : ByteArray := prog_1_method_34_code
def yX5_bought : MethodName := ⟨RX5, "bought", "(II)J"⟩
abbrev cX5_friends : ByteArray := prog_1_method_35_code
def yX5_friends : MethodName := ⟨RX5, "friends", "(II)I"⟩
abbrev cX5_worth : ByteArray := prog_1_method_36_code
def yX5_worth : MethodName := ⟨RX5, "worth", "(I)I"⟩
abbrev cX5_endWith : ByteArray := prog_1_method_37_code
def yX5_endWith : MethodName := ⟨RX5, "endWith", "(I)[I"⟩
abbrev cX5_never : ByteArray := prog_1_method_38_code
def yX5_never : MethodName := ⟨RX5, "never", "(I)I"⟩
abbrev cX5_when : ByteArray := prog_1_method_39_code
def yX5_when : MethodName := ⟨RX5, "when", "(I)I"⟩
abbrev cX5_neverEnds : ByteArray := prog_1_method_40_code
def yX5_neverEnds : MethodName := ⟨RX5, "neverEnds", "(II)Z"⟩
abbrev cX5_inDigits : ByteArray := prog_1_method_41_code
def yX5_inDigits : MethodName := ⟨RX5, "inDigits", "(I)I"⟩
abbrev cX5_judge : ByteArray := prog_1_method_42_code
def yX5_judge : MethodName := ⟨RX5, "judge", "(I)I"⟩
abbrev cX5_behind : ByteArray := prog_1_method_43_code
def yX5_behind : MethodName := ⟨RX5, "behind", "(II)I"⟩
abbrev cX5_film : ByteArray := prog_1_method_44_code
def yX5_film : MethodName := ⟨RX5, "film", "(II)I"⟩
abbrev cX5_laws : ByteArray := prog_1_method_45_code
def yX5_laws : MethodName := ⟨RX5, "laws", "(I)I"⟩
abbrev cX5_firstWrong : ByteArray := prog_1_method_46_code
def yX5_firstWrong : MethodName := ⟨RX5, "firstWrong", "(I)I"⟩
abbrev cX5_drawn : ByteArray := prog_1_method_47_code
def yX5_drawn : MethodName := ⟨RX5, "drawn", "(II)I"⟩
abbrev cX5_mean : ByteArray := prog_1_method_48_code
def yX5_mean : MethodName := ⟨RX5, "mean", "(IIII)J"⟩
abbrev cX5_image : ByteArray := prog_1_method_49_code
def yX5_image : MethodName := ⟨RX5, "image", "()I"⟩
abbrev cX5_back : ByteArray := prog_1_method_50_code
def yX5_back : MethodName := ⟨RX5, "back", "()I"⟩
abbrev cX5_drunkByLot : ByteArray := prog_1_method_51_code
def yX5_drunkByLot : MethodName := ⟨RX5, "drunkByLot", "(II)I"⟩
abbrev cX5_commonDivisor : ByteArray := prog_1_method_52_code
def yX5_commonDivisor : MethodName := ⟨RX5, "commonDivisor", "(II)I"⟩
abbrev cX5_sheet : ByteArray := prog_1_method_53_code
def yX5_sheet : MethodName := ⟨RX5, "sheet", "(III)I"⟩
abbrev cX5_cell : ByteArray := prog_1_method_54_code
def yX5_cell : MethodName := ⟨RX5, "cell", "(III)I"⟩
abbrev cX5_copy : ByteArray := prog_1_method_55_code
def yX5_copy : MethodName := ⟨RX5, "copy", "(IIIII)I"⟩
abbrev cX5_ratesBy : ByteArray := prog_1_method_56_code
def yX5_ratesBy : MethodName := ⟨RX5, "ratesBy", "(IIII)I"⟩
abbrev cX5_taken : ByteArray := prog_1_method_57_code
def yX5_taken : MethodName := ⟨RX5, "taken", "(II)I"⟩
def RX6 : String := "ThreeEmptiesModel"
def TX6 : u_T := fun k => match k with
  | 0 => ("ThreeEmptiesModel", "st", "[I", true)
  | 1 => ("ThreeEmptiesModel", "rates", "I", false)
  | 2 => ("ThreeEmptiesModel", "kind", "[I", true)
  | 3 => ("ThreeEmptiesModel", "sortOf", "[I", true)
  | 4 => ("ThreeEmptiesModel", "toldOf", "[I", true)
  | 5 => ("ThreeEmptiesModel", "moreOf", "[I", true)
  | 6 => ("ThreeEmptiesModel", "but", "I", false)
  | 7 => ("ThreeEmptiesModel", "tape", "[I", true)
  | 8 => ("ThreeEmptiesModel", "taped", "I", false)
  | 9 => ("ThreeEmptiesModel", "codes", "[I", true)
  | 10 => ("ThreeEmptiesModel", "starts", "[I", true)
  | 11 => ("ThreeEmptiesModel", "texts", "I", false)
  | 12 => ("ThreeEmptiesModel", "rule", "I", false)
  | 13 => ("ThreeEmptiesModel", "hasImage", "Z", false)
  | 14 => ("ThreeEmptiesModel", "imageRates", "I", false)
  | 15 => ("ThreeEmptiesModel", "imageRule", "I", false)
  | 16 => ("ThreeEmptiesModel", "imageRows", "[I", true)
  | 17 => ("ThreeEmptiesModel", "sheetSort", "[I", true)
  | 18 => ("ThreeEmptiesModel", "sheetSize", "[I", true)
  | 19 => ("ThreeEmptiesModel", "cells", "[I", true)
  | 20 => ("ThreeEmptiesModel", "law", "[I", true)
  | 21 => ("ThreeEmptiesModel", "at", "I", false)
  | 22 => ("ThreeEmptiesModel", "begun", "I", false)
  | 23 => ("ThreeEmptiesModel", "token", "I", false)
  | 24 => ("ThreeEmptiesModel", "value", "I", false)
  | 25 => ("ThreeEmptiesModel", "words", "[I", true)
  | 26 => ("ThreeEmptiesModel", "held", "[I", true)
  | 27 => ("ThreeEmptiesModel", "heldMany", "I", false)
  | 28 => ("ThreeEmptiesModel", "opens", "I", false)
  | 29 => ("ThreeEmptiesModel", "out", "I", false)
  | 30 => ("ThreeEmptiesModel", "stack", "[I", true)
  | 31 => ("ThreeEmptiesModel", "named", "[I", true)
  | 32 => ("ThreeEmptiesModel", "kept", "[I", true)
  | 33 => ("ThreeEmptiesModel", "bestWorth", "I", false)
  | 34 => ("ThreeEmptiesModel", "bestDigits", "I", false)
  | 35 => ("ThreeEmptiesModel", "endEmpties", "I", false)
  | _ => ("ThreeEmptiesModel", "endNone", "Z", false)
def tyX6 : Nat → FieldType := fun k => match k with
  | 0 => .array .int
  | 1 => .int
  | 2 => .array .int
  | 3 => .array .int
  | 4 => .array .int
  | 5 => .array .int
  | 6 => .int
  | 7 => .array .int
  | 8 => .int
  | 9 => .array .int
  | 10 => .array .int
  | 11 => .int
  | 12 => .int
  | 13 => .boolean
  | 14 => .int
  | 15 => .int
  | 16 => .array .int
  | 17 => .array .int
  | 18 => .array .int
  | 19 => .array .int
  | 20 => .array .int
  | 21 => .int
  | 22 => .int
  | 23 => .int
  | 24 => .int
  | 25 => .array .int
  | 26 => .array .int
  | 27 => .int
  | 28 => .int
  | 29 => .int
  | 30 => .array .int
  | 31 => .array .int
  | 32 => .array .int
  | 33 => .int
  | 34 => .int
  | 35 => .int
  | _ => .boolean
theorem nmX6 : ∀ a, a < 37 → ∀ b, b < 37 → a ≠ b → (TX6 a).2.1 ≠ (TX6 b).2.1 := by decide +kernel
theorem tyX6_ok : ∀ k, k < 37 → parseFieldDescriptor (TX6 k).2.2.1 = some (tyX6 k) := by decide +kernel
abbrev cX6_init : ByteArray := prog_8_method_1_code
def yX6_init : MethodName := ⟨RX6, "<init>", "()V"⟩
abbrev cX6_in : ByteArray := prog_8_method_3_code
def yX6_in : MethodName := ⟨RX6, "in", "(III)Z"⟩
abbrev cX6_within : ByteArray := prog_8_method_4_code
def yX6_within : MethodName := ⟨RX6, "within", "(III)I"⟩
abbrev cX6_isRate : ByteArray := prog_8_method_5_code
def yX6_isRate : MethodName := ⟨RX6, "isRate", "(I)Z"⟩
abbrev cX6_isMove : ByteArray := prog_8_method_6_code
def yX6_isMove : MethodName := ⟨RX6, "isMove", "(I)Z"⟩
abbrev cX6_set : ByteArray := prog_8_method_7_code
def yX6_set : MethodName := ⟨RX6, "set", "(II)I"⟩
abbrev cX6_count : ByteArray := prog_8_method_8_code
def yX6_count : MethodName := ⟨RX6, "count", "(I)I"⟩
abbrev cX6_isByte : ByteArray := prog_8_method_9_code
def yX6_isByte : MethodName := ⟨RX6, "isByte", "(I)Z"⟩
abbrev cX6_feed : ByteArray := prog_8_method_10_code
def yX6_feed : MethodName := ⟨RX6, "feed", "(IIIIII)I"⟩
abbrev cX6_wordFrom : ByteArray := prog_8_method_11_code
def yX6_wordFrom : MethodName := ⟨RX6, "wordFrom", "(II)I"⟩
abbrev cX6_next : ByteArray := prog_8_method_12_code
def yX6_next : MethodName := ⟨RX6, "next", "()V"⟩
abbrev cX6_rank : ByteArray := prog_8_method_13_code
def yX6_rank : MethodName := ⟨RX6, "rank", "(I)I"⟩
abbrev cX6_puts : ByteArray := prog_8_method_14_code
def yX6_puts : MethodName := ⟨RX6, "puts", "(I)V"⟩
abbrev cX6_unwinds : ByteArray := prog_8_method_15_code
def yX6_unwinds : MethodName := ⟨RX6, "unwinds", "(I)V"⟩
abbrev cX6_holds : ByteArray := prog_8_method_16_code
def yX6_holds : MethodName := ⟨RX6, "holds", "(I)V"⟩
abbrev cX6_opensOne : ByteArray := prog_8_method_17_code
def yX6_opensOne : MethodName := ⟨RX6, "opensOne", "(I)Z"⟩
abbrev cX6_between : ByteArray := prog_8_method_18_code
def yX6_between : MethodName := ⟨RX6, "between", "(I)Z"⟩
abbrev cX6_signOf : ByteArray := prog_8_method_19_code
def yX6_signOf : MethodName := ⟨RX6, "signOf", "()I"⟩
abbrev cX6_eRead : ByteArray := prog_8_method_20_code
def yX6_eRead : MethodName := ⟨RX6, "eRead", "()Z"⟩
abbrev cX6_text : ByteArray := prog_8_method_21_code
def yX6_text : MethodName := ⟨RX6, "text", "()I"⟩
abbrev cX6_two : ByteArray := prog_8_method_22_code
def yX6_two : MethodName := ⟨RX6, "two", "(III)I"⟩
abbrev cX6_says : ByteArray := prog_8_method_23_code
def yX6_says : MethodName := ⟨RX6, "says", "(I)I"⟩
abbrev cX6_force : ByteArray := prog_8_method_24_code
def yX6_force : MethodName := ⟨RX6, "force", "(I)I"⟩
abbrev cX6_asksOf : ByteArray := prog_8_method_25_code
def yX6_asksOf : MethodName := ⟨RX6, "asksOf", "(I)I"⟩
abbrev cX6_asks : ByteArray := prog_8_method_26_code
def yX6_asks : MethodName := ⟨RX6, "asks", "(I)I"⟩
abbrev cX6_isSo : ByteArray := prog_8_method_27_code
def yX6_isSo : MethodName := ⟨RX6, "isSo", "(II)Z"⟩
abbrev cX6_rate : ByteArray := prog_8_method_28_code
def yX6_rate : MethodName := ⟨RX6, "rate", "(III)I"⟩
abbrev cX6_change : ByteArray := prog_8_method_29_code
def yX6_change : MethodName := ⟨RX6, "change", "(III)I"⟩
abbrev cX6_takes : ByteArray := prog_8_method_30_code
def yX6_takes : MethodName := ⟨RX6, "takes", "(I)I"⟩
abbrev cX6_gives : ByteArray := prog_8_method_31_code
def yX6_gives : MethodName := ⟨RX6, "gives", "(I)I"⟩
abbrev cX6_lends : ByteArray := prog_8_method_32_code
def yX6_lends : MethodName := ⟨RX6, "lends", "(I)I"⟩
abbrev cX6_told : ByteArray := prog_8_method_33_code
def yX6_told : MethodName := ⟨RX6, "told", "(II)I"⟩
abbrev cX6_canExchange : ByteArray := prog_8_method_34_code
def yX6_canExchange : MethodName := ⟨RX6, "canExchange", "(I)Z"⟩
abbrev cX6_canMove : ByteArray := prog_8_method_35_code
def yX6_canMove : MethodName := ⟨RX6, "canMove", "(I)Z"⟩
abbrev cX6_drinks : ByteArray := prog_8_method_36_code
def yX6_drinks : MethodName := ⟨RX6, "drinks", "()V"⟩
abbrev cX6_exchanges : ByteArray := prog_8_method_37_code
def yX6_exchanges : MethodName := ⟨RX6, "exchanges", "(I)V"⟩
abbrev cX6_goes : ByteArray := prog_8_method_38_code
def yX6_goes : MethodName := ⟨RX6, "goes", "(I)V"⟩
abbrev cX6_can : ByteArray := prog_8_method_39_code
def yX6_can : MethodName := ⟨RX6, "can", "(I)I"⟩
abbrev cX6_move : ByteArray := prog_8_method_40_code
def yX6_move : MethodName := ⟨RX6, "move", "(I)I"⟩
abbrev cX6_greedy : ByteArray := prog_8_method_41_code
def yX6_greedy : MethodName := ⟨RX6, "greedy", "()I"⟩
abbrev cX6_goesOn : ByteArray := prog_8_method_42_code
def yX6_goesOn : MethodName := ⟨RX6, "goesOn", "(I)I"⟩
abbrev cX6_keeps : ByteArray := prog_8_method_43_code
def yX6_keeps : MethodName := ⟨RX6, "keeps", "(I)V"⟩
abbrev cX6_laysBack : ByteArray := prog_8_method_44_code
def yX6_laysBack : MethodName := ⟨RX6, "laysBack", "(I)V"⟩
abbrev cX6_all : ByteArray := prog_8_method_45_code
def yX6_all : MethodName := ⟨RX6, "all", "(I)I"⟩
abbrev cX6_go : ByteArray := prog_8_method_46_code
def yX6_go : MethodName := ⟨RX6, "go", "(I)I"⟩
abbrev cX6_next_ : ByteArray := prog_8_method_47_code
def yX6_next_ : MethodName := ⟨RX6, "next", "(I)I"⟩
abbrev cX6_rows : ByteArray := prog_8_method_48_code
def yX6_rows : MethodName := ⟨RX6, "rows", "(IIII)V"⟩
abbrev cX6_best : ByteArray := prog_8_method_49_code
def yX6_best : MethodName := ⟨RX6, "best", "(II)I"⟩
abbrev cX6_drunkWith : ByteArray := prog_8_method_50_code
def yX6_drunkWith : MethodName := ⟨RX6, "drunkWith", "(I)I"⟩
abbrev cX6_least : ByteArray := prog_8_method_51_code
def yX6_least : MethodName := ⟨RX6, "least", "(II)I"⟩
abbrev cX6_bought : ByteArray := prog_8_method_52_code
def yX6_bought : MethodName := ⟨RX6, "bought", "(II)J"⟩
abbrev cX6_friends : ByteArray := prog_8_method_53_code
def yX6_friends : MethodName := ⟨RX6, "friends", "(II)I"⟩
abbrev cX6_worth : ByteArray := prog_8_method_54_code
def yX6_worth : MethodName := ⟨RX6, "worth", "(I)I"⟩
abbrev cX6_neverEnds : ByteArray := prog_8_method_55_code
def yX6_neverEnds : MethodName := ⟨RX6, "neverEnds", "(I)Z"⟩
abbrev cX6_rowDigits : ByteArray := prog_8_method_56_code
def yX6_rowDigits : MethodName := ⟨RX6, "rowDigits", "(I)I"⟩
abbrev cX6_never : ByteArray := prog_8_method_57_code
def yX6_never : MethodName := ⟨RX6, "never", "(I)I"⟩
abbrev cX6_when : ByteArray := prog_8_method_58_code
def yX6_when : MethodName := ⟨RX6, "when", "(I)I"⟩
abbrev cX6_sheetWrong : ByteArray := prog_8_method_59_code
def yX6_sheetWrong : MethodName := ⟨RX6, "sheetWrong", "(I)I"⟩
abbrev cX6_goesBy : ByteArray := prog_8_method_60_code
def yX6_goesBy : MethodName := ⟨RX6, "goesBy", "(I)I"⟩
abbrev cX6_judge : ByteArray := prog_8_method_61_code
def yX6_judge : MethodName := ⟨RX6, "judge", "(I)I"⟩
abbrev cX6_behind : ByteArray := prog_8_method_62_code
def yX6_behind : MethodName := ⟨RX6, "behind", "(II)I"⟩
abbrev cX6_film : ByteArray := prog_8_method_63_code
def yX6_film : MethodName := ⟨RX6, "film", "(II)I"⟩
abbrev cX6_laws : ByteArray := prog_8_method_64_code
def yX6_laws : MethodName := ⟨RX6, "laws", "(I)I"⟩
abbrev cX6_drunkBy : ByteArray := prog_8_method_65_code
def yX6_drunkBy : MethodName := ⟨RX6, "drunkBy", "(II)I"⟩
abbrev cX6_isDrawn : ByteArray := prog_8_method_66_code
def yX6_isDrawn : MethodName := ⟨RX6, "isDrawn", "(II)Z"⟩
abbrev cX6_drawn : ByteArray := prog_8_method_67_code
def yX6_drawn : MethodName := ⟨RX6, "drawn", "(II)I"⟩
abbrev cX6_lowest : ByteArray := prog_8_method_68_code
def yX6_lowest : MethodName := ⟨RX6, "lowest", "(JJI)J"⟩
abbrev cX6_mean : ByteArray := prog_8_method_69_code
def yX6_mean : MethodName := ⟨RX6, "mean", "(IIII)J"⟩
abbrev cX6_image : ByteArray := prog_8_method_70_code
def yX6_image : MethodName := ⟨RX6, "image", "()I"⟩
abbrev cX6_back : ByteArray := prog_8_method_71_code
def yX6_back : MethodName := ⟨RX6, "back", "()I"⟩
abbrev cX6_sheet : ByteArray := prog_8_method_72_code
def yX6_sheet : MethodName := ⟨RX6, "sheet", "(III)I"⟩
abbrev cX6_cell : ByteArray := prog_8_method_73_code
def yX6_cell : MethodName := ⟨RX6, "cell", "(III)I"⟩
abbrev cX6_copy : ByteArray := prog_8_method_74_code
def yX6_copy : MethodName := ⟨RX6, "copy", "(IIIII)I"⟩
abbrev cX6_ratesBy : ByteArray := prog_8_method_75_code
def yX6_ratesBy : MethodName := ⟨RX6, "ratesBy", "(IIII)I"⟩
abbrev cX6_isUnder : ByteArray := prog_8_method_76_code
def yX6_isUnder : MethodName := ⟨RX6, "isUnder", "(II)Z"⟩
abbrev cX6_taken : ByteArray := prog_8_method_77_code
def yX6_taken : MethodName := ⟨RX6, "taken", "(II)I"⟩
def RJ9 : String := "java/lang/Math"
def TJ9 : u_T := fun k => match k with
  | _ => ("", "", "", false)
def tyJ9 : Nat → FieldType := fun k => match k with
  | _ => .int
theorem nmJ9 : ∀ a, a < 0 → ∀ b, b < 0 → a ≠ b → (TJ9 a).2.1 ≠ (TJ9 b).2.1 := by decide +kernel
theorem tyJ9_ok : ∀ k, k < 0 → parseFieldDescriptor (TJ9 k).2.2.1 = some (tyJ9 k) := by decide +kernel
abbrev cJ9_max_7cf53 : ByteArray := prog_9_method_65_code
def yJ9_max_7cf53 : MethodName := ⟨RJ9, "max", "(II)I"⟩
abbrev cJ9_min_7cf53 : ByteArray := prog_9_method_69_code
def yJ9_min_7cf53 : MethodName := ⟨RJ9, "min", "(II)I"⟩
def RJ0 : String := "java/lang/String"
def TJ0 : u_T := fun k => match k with
  | _ => ("", "", "", false)
def tyJ0 : Nat → FieldType := fun k => match k with
  | _ => .int
theorem nmJ0 : ∀ a, a < 0 → ∀ b, b < 0 → a ≠ b → (TJ0 a).2.1 ≠ (TJ0 b).2.1 := by decide +kernel
theorem tyJ0_ok : ∀ k, k < 0 → parseFieldDescriptor (TJ0 k).2.2.1 = some (tyJ0 k) := by decide +kernel
abbrev cJ0_length_8abf5 : ByteArray := prog_10_method_54_code
def yJ0_length_8abf5 : MethodName := ⟨RJ0, "length", "()I"⟩
abbrev cJ0_charAt_5068e : ByteArray := prog_10_method_56_code
def yJ0_charAt_5068e : MethodName := ⟨RJ0, "charAt", "(I)C"⟩
abbrev cJ0_coder_7d493 : ByteArray := prog_10_method_152_code
def yJ0_coder_7d493 : MethodName := ⟨RJ0, "coder", "()B"⟩
abbrev cJ0_isLatin1_aae02 : ByteArray := prog_10_method_154_code
def yJ0_isLatin1_aae02 : MethodName := ⟨RJ0, "isLatin1", "()Z"⟩
abbrev cJ0_checkIndex_df160 : ByteArray := prog_10_method_155_code
def yJ0_checkIndex_df160 : MethodName := ⟨RJ0, "checkIndex", "(II)V"⟩
def RJ1 : String := "java/lang/StringLatin1"
def TJ1 : u_T := fun k => match k with
  | _ => ("", "", "", false)
def tyJ1 : Nat → FieldType := fun k => match k with
  | _ => .int
theorem nmJ1 : ∀ a, a < 0 → ∀ b, b < 0 → a ≠ b → (TJ1 a).2.1 ≠ (TJ1 b).2.1 := by decide +kernel
theorem tyJ1_ok : ∀ k, k < 0 → parseFieldDescriptor (TJ1 k).2.2.1 = some (tyJ1 k) := by decide +kernel
abbrev cJ1_charAt_3b067 : ByteArray := prog_11_method_2_code
def yJ1_charAt_3b067 : MethodName := ⟨RJ1, "charAt", "([BI)C"⟩
def RJ2 : String := "java/lang/StringUTF16"
def TJ2 : u_T := fun k => match k with
  | _ => ("", "", "", false)
def tyJ2 : Nat → FieldType := fun k => match k with
  | _ => .int
theorem nmJ2 : ∀ a, a < 0 → ∀ b, b < 0 → a ≠ b → (TJ2 a).2.1 ≠ (TJ2 b).2.1 := by decide +kernel
theorem tyJ2_ok : ∀ k, k < 0 → parseFieldDescriptor (TJ2 k).2.2.1 = some (tyJ2 k) := by decide +kernel
abbrev cJ2_getChar_3b067 : ByteArray := prog_12_method_5_code
def yJ2_getChar_3b067 : MethodName := ⟨RJ2, "getChar", "([BI)C"⟩
abbrev cJ2_length_9d52b : ByteArray := prog_12_method_6_code
def yJ2_length_9d52b : MethodName := ⟨RJ2, "length", "([B)I"⟩
abbrev cJ2_charAt_3b067 : ByteArray := prog_12_method_83_code
def yJ2_charAt_3b067 : MethodName := ⟨RJ2, "charAt", "([BI)C"⟩
abbrev cJ2_checkIndex_2214a : ByteArray := prog_12_method_91_code
def yJ2_checkIndex_2214a : MethodName := ⟨RJ2, "checkIndex", "(I[B)V"⟩
def RJ10 : String := "java/lang/System"
def TJ10 : u_T := fun k => match k with
  | _ => ("", "", "", false)
def tyJ10 : Nat → FieldType := fun k => match k with
  | _ => .int
theorem nmJ10 : ∀ a, a < 0 → ∀ b, b < 0 → a ≠ b → (TJ10 a).2.1 ≠ (TJ10 b).2.1 := by decide +kernel
theorem tyJ10_ok : ∀ k, k < 0 → parseFieldDescriptor (TJ10 k).2.2.1 = some (tyJ10 k) := by decide +kernel
def RJ3 : String := "jdk/internal/util/Preconditions"
def TJ3 : u_T := fun k => match k with
  | _ => ("", "", "", false)
def tyJ3 : Nat → FieldType := fun k => match k with
  | _ => .int
theorem nmJ3 : ∀ a, a < 0 → ∀ b, b < 0 → a ≠ b → (TJ3 a).2.1 ≠ (TJ3 b).2.1 := by decide +kernel
theorem tyJ3_ok : ∀ k, k < 0 → parseFieldDescriptor (TJ3 k).2.2.1 = some (tyJ3 k) := by decide +kernel
abbrev cJ3_checkIndex_8e157 : ByteArray := prog_14_method_11_code
def yJ3_checkIndex_8e157 : MethodName := ⟨RJ3, "checkIndex", "(IILjava/util/function/BiFunction;)I"⟩
def RL : String := "ThreeEmptiesLaw"
abbrev cL_law : ByteArray := code
def yL_law : MethodName := ⟨RL, "law", "([I)Z"⟩
theorem dX0_init_0 : decode cX0_init 0 = .ok (.aload_n 0, 1) := by decide +kernel
theorem dX0_init_1 : decode cX0_init 1 = .ok (.invokespecial 3, 3) := by decide +kernel
theorem dX0_init_4 : decode cX0_init 4 = .ok (.aload_n 0, 1) := by decide +kernel
theorem dX0_init_5 : decode cX0_init 5 = .ok (.bipush 7, 2) := by decide +kernel
theorem dX0_init_7 : decode cX0_init 7 = .ok (.newarray .int, 2) := by decide +kernel
theorem dX0_init_9 : decode cX0_init 9 = .ok (.putfield 9, 3) := by decide +kernel
theorem dX0_init_12 : decode cX0_init 12 = .ok (.aload_n 0, 1) := by decide +kernel
theorem dX0_init_13 : decode cX0_init 13 = .ok (.iconst 5, 1) := by decide +kernel
theorem dX0_init_14 : decode cX0_init 14 = .ok (.newarray .int, 2) := by decide +kernel
theorem dX0_init_16 : decode cX0_init 16 = .ok (.putfield 15, 3) := by decide +kernel
theorem dX0_init_19 : decode cX0_init 19 = .ok (.aload_n 0, 1) := by decide +kernel
theorem dX0_init_20 : decode cX0_init 20 = .ok (.iconst 5, 1) := by decide +kernel
theorem dX0_init_21 : decode cX0_init 21 = .ok (.newarray .int, 2) := by decide +kernel
theorem dX0_init_23 : decode cX0_init 23 = .ok (.putfield 18, 3) := by decide +kernel
theorem dX0_init_26 : decode cX0_init 26 = .ok (.return_, 1) := by decide +kernel
theorem dX1_init_0 : decode cX1_init 0 = .ok (.aload_n 0, 1) := by decide +kernel
theorem dX1_init_1 : decode cX1_init 1 = .ok (.invokespecial 3, 3) := by decide +kernel
theorem dX1_init_4 : decode cX1_init 4 = .ok (.aload_n 0, 1) := by decide +kernel
theorem dX1_init_5 : decode cX1_init 5 = .ok (.iconst 5, 1) := by decide +kernel
theorem dX1_init_6 : decode cX1_init 6 = .ok (.newarray .int, 2) := by decide +kernel
theorem dX1_init_8 : decode cX1_init 8 = .ok (.putfield 9, 3) := by decide +kernel
theorem dX1_init_11 : decode cX1_init 11 = .ok (.aload_n 0, 1) := by decide +kernel
theorem dX1_init_12 : decode cX1_init 12 = .ok (.iconst 5, 1) := by decide +kernel
theorem dX1_init_13 : decode cX1_init 13 = .ok (.newarray .int, 2) := by decide +kernel
theorem dX1_init_15 : decode cX1_init 15 = .ok (.putfield 15, 3) := by decide +kernel
theorem dX1_init_18 : decode cX1_init 18 = .ok (.aload_n 0, 1) := by decide +kernel
theorem dX1_init_19 : decode cX1_init 19 = .ok (.iconst 5, 1) := by decide +kernel
theorem dX1_init_20 : decode cX1_init 20 = .ok (.newarray .int, 2) := by decide +kernel
theorem dX1_init_22 : decode cX1_init 22 = .ok (.putfield 18, 3) := by decide +kernel
theorem dX1_init_25 : decode cX1_init 25 = .ok (.aload_n 0, 1) := by decide +kernel
theorem dX1_init_26 : decode cX1_init 26 = .ok (.iconst 5, 1) := by decide +kernel
theorem dX1_init_27 : decode cX1_init 27 = .ok (.newarray .int, 2) := by decide +kernel
theorem dX1_init_29 : decode cX1_init 29 = .ok (.putfield 21, 3) := by decide +kernel
theorem dX1_init_32 : decode cX1_init 32 = .ok (.return_, 1) := by decide +kernel
theorem dX1_isKind_0 : decode cX1_isKind 0 = .ok (.iload_n 0, 1) := by decide +kernel
theorem dX1_isKind_1 : decode cX1_isKind 1 = .ok (.ifCond .lt 13, 3) := by decide +kernel
theorem dX1_isKind_4 : decode cX1_isKind 4 = .ok (.iload_n 0, 1) := by decide +kernel
theorem dX1_isKind_5 : decode cX1_isKind 5 = .ok (.bipush 6, 2) := by decide +kernel
theorem dX1_isKind_7 : decode cX1_isKind 7 = .ok (.if_icmp .ge 7, 3) := by decide +kernel
theorem dX1_isKind_10 : decode cX1_isKind 10 = .ok (.iconst 1, 1) := by decide +kernel
theorem dX1_isKind_11 : decode cX1_isKind 11 = .ok (.goto 4, 3) := by decide +kernel
theorem dX1_isKind_14 : decode cX1_isKind 14 = .ok (.iconst 0, 1) := by decide +kernel
theorem dX1_isKind_15 : decode cX1_isKind 15 = .ok (.ireturn, 1) := by decide +kernel
theorem dX1_isMore_0 : decode cX1_isMore 0 = .ok (.iload_n 0, 1) := by decide +kernel
theorem dX1_isMore_1 : decode cX1_isMore 1 = .ok (.ifCond .lt 13, 3) := by decide +kernel
theorem dX1_isMore_4 : decode cX1_isMore 4 = .ok (.iload_n 0, 1) := by decide +kernel
theorem dX1_isMore_5 : decode cX1_isMore 5 = .ok (.bipush 9, 2) := by decide +kernel
theorem dX1_isMore_7 : decode cX1_isMore 7 = .ok (.if_icmp .gt 7, 3) := by decide +kernel
theorem dX1_isMore_10 : decode cX1_isMore 10 = .ok (.iconst 1, 1) := by decide +kernel
theorem dX1_isMore_11 : decode cX1_isMore 11 = .ok (.goto 4, 3) := by decide +kernel
theorem dX1_isMore_14 : decode cX1_isMore 14 = .ok (.iconst 0, 1) := by decide +kernel
theorem dX1_isMore_15 : decode cX1_isMore 15 = .ok (.ireturn, 1) := by decide +kernel
theorem dX1_isOne_0 : decode cX1_isOne 0 = .ok (.iload_n 0, 1) := by decide +kernel
theorem dX1_isOne_1 : decode cX1_isOne 1 = .ok (.istore_n 2, 1) := by decide +kernel
theorem dX1_isOne_2 : decode cX1_isOne 2 = .ok (.iconst 0, 1) := by decide +kernel
theorem dX1_isOne_3 : decode cX1_isOne 3 = .ok (.istore_n 3, 1) := by decide +kernel
theorem dX1_isOne_4 : decode cX1_isOne 4 = .ok (.iload_n 3, 1) := by decide +kernel
theorem dX1_isOne_5 : decode cX1_isOne 5 = .ok (.bipush 6, 2) := by decide +kernel
theorem dX1_isOne_7 : decode cX1_isOne 7 = .ok (.if_icmp .ge 34, 3) := by decide +kernel
theorem dX1_isOne_10 : decode cX1_isOne 10 = .ok (.iload_n 2, 1) := by decide +kernel
theorem dX1_isOne_11 : decode cX1_isOne 11 = .ok (.ifCond .lt 30, 3) := by decide +kernel
theorem dX1_isOne_14 : decode cX1_isOne 14 = .ok (.iload_n 2, 1) := by decide +kernel
theorem dX1_isOne_15 : decode cX1_isOne 15 = .ok (.getstatic 24, 3) := by decide +kernel
theorem dX1_isOne_18 : decode cX1_isOne 18 = .ok (.arraylength, 1) := by decide +kernel
theorem dX1_isOne_19 : decode cX1_isOne 19 = .ok (.if_icmp .ge 22, 3) := by decide +kernel
theorem dX1_isOne_22 : decode cX1_isOne 22 = .ok (.iload_n 2, 1) := by decide +kernel
theorem dX1_isOne_23 : decode cX1_isOne 23 = .ok (.iload_n 1, 1) := by decide +kernel
theorem dX1_isOne_24 : decode cX1_isOne 24 = .ok (.if_icmp .ne 5, 3) := by decide +kernel
theorem dX1_isOne_27 : decode cX1_isOne 27 = .ok (.iconst 1, 1) := by decide +kernel
theorem dX1_isOne_28 : decode cX1_isOne 28 = .ok (.ireturn, 1) := by decide +kernel
theorem dX1_isOne_29 : decode cX1_isOne 29 = .ok (.getstatic 24, 3) := by decide +kernel
theorem dX1_isOne_32 : decode cX1_isOne 32 = .ok (.iload_n 2, 1) := by decide +kernel
theorem dX1_isOne_33 : decode cX1_isOne 33 = .ok (.iaload, 1) := by decide +kernel
theorem dX1_isOne_34 : decode cX1_isOne 34 = .ok (.istore_n 2, 1) := by decide +kernel
theorem dX1_isOne_35 : decode cX1_isOne 35 = .ok (.iinc 3 1, 3) := by decide +kernel
theorem dX1_isOne_38 : decode cX1_isOne 38 = .ok (.goto (-34), 3) := by decide +kernel
theorem dX1_isOne_41 : decode cX1_isOne 41 = .ok (.iconst 0, 1) := by decide +kernel
theorem dX1_isOne_42 : decode cX1_isOne 42 = .ok (.ireturn, 1) := by decide +kernel
theorem dX1_has_0 : decode cX1_has 0 = .ok (.iload_n 1, 1) := by decide +kernel
theorem dX1_has_1 : decode cX1_has 1 = .ok (.ifCond .lt 20, 3) := by decide +kernel
theorem dX1_has_4 : decode cX1_has 4 = .ok (.iload_n 1, 1) := by decide +kernel
theorem dX1_has_5 : decode cX1_has 5 = .ok (.aload_n 0, 1) := by decide +kernel
theorem dX1_has_6 : decode cX1_has 6 = .ok (.getfield 27, 3) := by decide +kernel
theorem dX1_has_9 : decode cX1_has 9 = .ok (.if_icmp .ge 12, 3) := by decide +kernel
theorem dX1_has_12 : decode cX1_has 12 = .ok (.iload_n 1, 1) := by decide +kernel
theorem dX1_has_13 : decode cX1_has 13 = .ok (.iconst 5, 1) := by decide +kernel
theorem dX1_has_14 : decode cX1_has 14 = .ok (.if_icmp .ge 7, 3) := by decide +kernel
theorem dX1_has_17 : decode cX1_has 17 = .ok (.iconst 1, 1) := by decide +kernel
theorem dX1_has_18 : decode cX1_has 18 = .ok (.goto 4, 3) := by decide +kernel
theorem dX1_has_21 : decode cX1_has 21 = .ok (.iconst 0, 1) := by decide +kernel
theorem dX1_has_22 : decode cX1_has 22 = .ok (.ireturn, 1) := by decide +kernel
theorem dX1_put_0 : decode cX1_put 0 = .ok (.iload_n 1, 1) := by decide +kernel
theorem dX1_put_1 : decode cX1_put 1 = .ok (.invokestatic 31, 3) := by decide +kernel
theorem dX1_put_4 : decode cX1_put 4 = .ok (.ifCond .eq 29, 3) := by decide +kernel
theorem dX1_put_7 : decode cX1_put 7 = .ok (.iload_n 2, 1) := by decide +kernel
theorem dX1_put_8 : decode cX1_put 8 = .ok (.bipush 11, 2) := by decide +kernel
theorem dX1_put_10 : decode cX1_put 10 = .ok (.if_icmp .lt 23, 3) := by decide +kernel
theorem dX1_put_13 : decode cX1_put 13 = .ok (.iload_n 2, 1) := by decide +kernel
theorem dX1_put_14 : decode cX1_put 14 = .ok (.bipush 39, 2) := by decide +kernel
theorem dX1_put_16 : decode cX1_put 16 = .ok (.if_icmp .gt 17, 3) := by decide +kernel
theorem dX1_put_19 : decode cX1_put 19 = .ok (.iload_n 2, 1) := by decide +kernel
theorem dX1_put_20 : decode cX1_put 20 = .ok (.bipush 10, 2) := by decide +kernel
theorem dX1_put_22 : decode cX1_put 22 = .ok (.irem, 1) := by decide +kernel
theorem dX1_put_23 : decode cX1_put 23 = .ok (.ifCond .eq 10, 3) := by decide +kernel
theorem dX1_put_26 : decode cX1_put 26 = .ok (.iload_n 3, 1) := by decide +kernel
theorem dX1_put_27 : decode cX1_put 27 = .ok (.invokestatic 35, 3) := by decide +kernel
theorem dX1_put_30 : decode cX1_put 30 = .ok (.ifCond .ne 6, 3) := by decide +kernel
theorem dX1_put_33 : decode cX1_put 33 = .ok (.bipush (-2), 2) := by decide +kernel
theorem dX1_put_35 : decode cX1_put 35 = .ok (.ireturn, 1) := by decide +kernel
theorem dX1_put_36 : decode cX1_put 36 = .ok (.aload_n 0, 1) := by decide +kernel
theorem dX1_put_37 : decode cX1_put 37 = .ok (.getfield 27, 3) := by decide +kernel
theorem dX1_put_40 : decode cX1_put 40 = .ok (.ifCond .lt 11, 3) := by decide +kernel
theorem dX1_put_43 : decode cX1_put 43 = .ok (.aload_n 0, 1) := by decide +kernel
theorem dX1_put_44 : decode cX1_put 44 = .ok (.getfield 27, 3) := by decide +kernel
theorem dX1_put_47 : decode cX1_put 47 = .ok (.iconst 5, 1) := by decide +kernel
theorem dX1_put_48 : decode cX1_put 48 = .ok (.if_icmp .lt 6, 3) := by decide +kernel
theorem dX1_put_51 : decode cX1_put 51 = .ok (.bipush (-4), 2) := by decide +kernel
theorem dX1_put_53 : decode cX1_put 53 = .ok (.ireturn, 1) := by decide +kernel
theorem dX1_put_54 : decode cX1_put 54 = .ok (.aload_n 0, 1) := by decide +kernel
theorem dX1_put_55 : decode cX1_put 55 = .ok (.getfield 9, 3) := by decide +kernel
theorem dX1_put_58 : decode cX1_put 58 = .ok (.aload_n 0, 1) := by decide +kernel
theorem dX1_put_59 : decode cX1_put 59 = .ok (.getfield 27, 3) := by decide +kernel
theorem dX1_put_62 : decode cX1_put 62 = .ok (.iload_n 1, 1) := by decide +kernel
theorem dX1_put_63 : decode cX1_put 63 = .ok (.iastore, 1) := by decide +kernel
theorem dX1_put_64 : decode cX1_put 64 = .ok (.aload_n 0, 1) := by decide +kernel
theorem dX1_put_65 : decode cX1_put 65 = .ok (.getfield 15, 3) := by decide +kernel
theorem dX1_put_68 : decode cX1_put 68 = .ok (.aload_n 0, 1) := by decide +kernel
theorem dX1_put_69 : decode cX1_put 69 = .ok (.getfield 27, 3) := by decide +kernel
theorem dX1_put_72 : decode cX1_put 72 = .ok (.iload_n 2, 1) := by decide +kernel
theorem dX1_put_73 : decode cX1_put 73 = .ok (.bipush 10, 2) := by decide +kernel
theorem dX1_put_75 : decode cX1_put 75 = .ok (.idiv, 1) := by decide +kernel
theorem dX1_put_76 : decode cX1_put 76 = .ok (.iastore, 1) := by decide +kernel
theorem dX1_put_77 : decode cX1_put 77 = .ok (.aload_n 0, 1) := by decide +kernel
theorem dX1_put_78 : decode cX1_put 78 = .ok (.getfield 18, 3) := by decide +kernel
theorem dX1_put_81 : decode cX1_put 81 = .ok (.aload_n 0, 1) := by decide +kernel
theorem dX1_put_82 : decode cX1_put 82 = .ok (.getfield 27, 3) := by decide +kernel
theorem dX1_put_85 : decode cX1_put 85 = .ok (.iload_n 2, 1) := by decide +kernel
theorem dX1_put_86 : decode cX1_put 86 = .ok (.bipush 10, 2) := by decide +kernel
theorem dX1_put_88 : decode cX1_put 88 = .ok (.irem, 1) := by decide +kernel
theorem dX1_put_89 : decode cX1_put 89 = .ok (.iastore, 1) := by decide +kernel
theorem dX1_put_90 : decode cX1_put 90 = .ok (.aload_n 0, 1) := by decide +kernel
theorem dX1_put_91 : decode cX1_put 91 = .ok (.getfield 21, 3) := by decide +kernel
theorem dX1_put_94 : decode cX1_put 94 = .ok (.aload_n 0, 1) := by decide +kernel
theorem dX1_put_95 : decode cX1_put 95 = .ok (.getfield 27, 3) := by decide +kernel
theorem dX1_put_98 : decode cX1_put 98 = .ok (.iload_n 3, 1) := by decide +kernel
theorem dX1_put_99 : decode cX1_put 99 = .ok (.iastore, 1) := by decide +kernel
theorem dX1_put_100 : decode cX1_put 100 = .ok (.aload_n 0, 1) := by decide +kernel
theorem dX1_put_101 : decode cX1_put 101 = .ok (.dup, 1) := by decide +kernel
theorem dX1_put_102 : decode cX1_put 102 = .ok (.getfield 27, 3) := by decide +kernel
theorem dX1_put_105 : decode cX1_put 105 = .ok (.iconst 1, 1) := by decide +kernel
theorem dX1_put_106 : decode cX1_put 106 = .ok (.iadd, 1) := by decide +kernel
theorem dX1_put_107 : decode cX1_put 107 = .ok (.putfield 27, 3) := by decide +kernel
theorem dX1_put_110 : decode cX1_put 110 = .ok (.aload_n 0, 1) := by decide +kernel
theorem dX1_put_111 : decode cX1_put 111 = .ok (.getfield 27, 3) := by decide +kernel
theorem dX1_put_114 : decode cX1_put 114 = .ok (.iconst 1, 1) := by decide +kernel
theorem dX1_put_115 : decode cX1_put 115 = .ok (.isub, 1) := by decide +kernel
theorem dX1_put_116 : decode cX1_put 116 = .ok (.ireturn, 1) := by decide +kernel
theorem dX1_takes_0 : decode cX1_takes 0 = .ok (.aload_n 0, 1) := by decide +kernel
theorem dX1_takes_1 : decode cX1_takes 1 = .ok (.iload_n 1, 1) := by decide +kernel
theorem dX1_takes_2 : decode cX1_takes 2 = .ok (.invokevirtual 38, 3) := by decide +kernel
theorem dX1_takes_5 : decode cX1_takes 5 = .ok (.ifCond .ne 5, 3) := by decide +kernel
theorem dX1_takes_8 : decode cX1_takes 8 = .ok (.iconst 0, 1) := by decide +kernel
theorem dX1_takes_9 : decode cX1_takes 9 = .ok (.ireturn, 1) := by decide +kernel
theorem dX1_takes_10 : decode cX1_takes 10 = .ok (.aload_n 0, 1) := by decide +kernel
theorem dX1_takes_11 : decode cX1_takes 11 = .ok (.getfield 9, 3) := by decide +kernel
theorem dX1_takes_14 : decode cX1_takes 14 = .ok (.iload_n 1, 1) := by decide +kernel
theorem dX1_takes_15 : decode cX1_takes 15 = .ok (.iaload, 1) := by decide +kernel
theorem dX1_takes_16 : decode cX1_takes 16 = .ok (.tableswitch 89 2 5 #[32, 89, 32, 57], 32) := by decide +kernel
theorem dX1_takes_48 : decode cX1_takes 48 = .ok (.aload_n 0, 1) := by decide +kernel
theorem dX1_takes_49 : decode cX1_takes 49 = .ok (.getfield 18, 3) := by decide +kernel
theorem dX1_takes_52 : decode cX1_takes 52 = .ok (.iload_n 1, 1) := by decide +kernel
theorem dX1_takes_53 : decode cX1_takes 53 = .ok (.iaload, 1) := by decide +kernel
theorem dX1_takes_54 : decode cX1_takes 54 = .ok (.iload_n 2, 1) := by decide +kernel
theorem dX1_takes_55 : decode cX1_takes 55 = .ok (.iconst 2, 1) := by decide +kernel
theorem dX1_takes_56 : decode cX1_takes 56 = .ok (.irem, 1) := by decide +kernel
theorem dX1_takes_57 : decode cX1_takes 57 = .ok (.iconst 1, 1) := by decide +kernel
theorem dX1_takes_58 : decode cX1_takes 58 = .ok (.if_icmp .ne 12, 3) := by decide +kernel
theorem dX1_takes_61 : decode cX1_takes 61 = .ok (.aload_n 0, 1) := by decide +kernel
theorem dX1_takes_62 : decode cX1_takes 62 = .ok (.getfield 21, 3) := by decide +kernel
theorem dX1_takes_65 : decode cX1_takes 65 = .ok (.iload_n 1, 1) := by decide +kernel
theorem dX1_takes_66 : decode cX1_takes 66 = .ok (.iaload, 1) := by decide +kernel
theorem dX1_takes_67 : decode cX1_takes 67 = .ok (.goto 4, 3) := by decide +kernel
theorem dX1_takes_70 : decode cX1_takes 70 = .ok (.iconst 0, 1) := by decide +kernel
theorem dX1_takes_71 : decode cX1_takes 71 = .ok (.iadd, 1) := by decide +kernel
theorem dX1_takes_72 : decode cX1_takes 72 = .ok (.ireturn, 1) := by decide +kernel
theorem dX1_takes_73 : decode cX1_takes 73 = .ok (.iload_n 2, 1) := by decide +kernel
theorem dX1_takes_74 : decode cX1_takes 74 = .ok (.aload_n 0, 1) := by decide +kernel
theorem dX1_takes_75 : decode cX1_takes 75 = .ok (.getfield 21, 3) := by decide +kernel
theorem dX1_takes_78 : decode cX1_takes 78 = .ok (.iload_n 1, 1) := by decide +kernel
theorem dX1_takes_79 : decode cX1_takes 79 = .ok (.iaload, 1) := by decide +kernel
theorem dX1_takes_80 : decode cX1_takes 80 = .ok (.if_icmp .lt 18, 3) := by decide +kernel
theorem dX1_takes_83 : decode cX1_takes 83 = .ok (.iconst 1, 1) := by decide +kernel
theorem dX1_takes_84 : decode cX1_takes 84 = .ok (.aload_n 0, 1) := by decide +kernel
theorem dX1_takes_85 : decode cX1_takes 85 = .ok (.getfield 18, 3) := by decide +kernel
theorem dX1_takes_88 : decode cX1_takes 88 = .ok (.iload_n 1, 1) := by decide +kernel
theorem dX1_takes_89 : decode cX1_takes 89 = .ok (.iaload, 1) := by decide +kernel
theorem dX1_takes_90 : decode cX1_takes 90 = .ok (.iconst 1, 1) := by decide +kernel
theorem dX1_takes_91 : decode cX1_takes 91 = .ok (.isub, 1) := by decide +kernel
theorem dX1_takes_92 : decode cX1_takes 92 = .ok (.invokestatic 41, 3) := by decide +kernel
theorem dX1_takes_95 : decode cX1_takes 95 = .ok (.goto 9, 3) := by decide +kernel
theorem dX1_takes_98 : decode cX1_takes 98 = .ok (.aload_n 0, 1) := by decide +kernel
theorem dX1_takes_99 : decode cX1_takes 99 = .ok (.getfield 18, 3) := by decide +kernel
theorem dX1_takes_102 : decode cX1_takes 102 = .ok (.iload_n 1, 1) := by decide +kernel
theorem dX1_takes_103 : decode cX1_takes 103 = .ok (.iaload, 1) := by decide +kernel
theorem dX1_takes_104 : decode cX1_takes 104 = .ok (.ireturn, 1) := by decide +kernel
theorem dX1_takes_105 : decode cX1_takes 105 = .ok (.aload_n 0, 1) := by decide +kernel
theorem dX1_takes_106 : decode cX1_takes 106 = .ok (.getfield 18, 3) := by decide +kernel
theorem dX1_takes_109 : decode cX1_takes 109 = .ok (.iload_n 1, 1) := by decide +kernel
theorem dX1_takes_110 : decode cX1_takes 110 = .ok (.iaload, 1) := by decide +kernel
theorem dX1_takes_111 : decode cX1_takes 111 = .ok (.ireturn, 1) := by decide +kernel
theorem dX1_gives_0 : decode cX1_gives 0 = .ok (.aload_n 0, 1) := by decide +kernel
theorem dX1_gives_1 : decode cX1_gives 1 = .ok (.iload_n 1, 1) := by decide +kernel
theorem dX1_gives_2 : decode cX1_gives 2 = .ok (.invokevirtual 38, 3) := by decide +kernel
theorem dX1_gives_5 : decode cX1_gives 5 = .ok (.ifCond .ne 5, 3) := by decide +kernel
theorem dX1_gives_8 : decode cX1_gives 8 = .ok (.iconst 0, 1) := by decide +kernel
theorem dX1_gives_9 : decode cX1_gives 9 = .ok (.ireturn, 1) := by decide +kernel
theorem dX1_gives_10 : decode cX1_gives 10 = .ok (.aload_n 0, 1) := by decide +kernel
theorem dX1_gives_11 : decode cX1_gives 11 = .ok (.getfield 9, 3) := by decide +kernel
theorem dX1_gives_14 : decode cX1_gives 14 = .ok (.iload_n 1, 1) := by decide +kernel
theorem dX1_gives_15 : decode cX1_gives 15 = .ok (.iaload, 1) := by decide +kernel
theorem dX1_gives_16 : decode cX1_gives 16 = .ok (.lookupswitch 66 #[(3, 28), (4, 44)], 28) := by decide +kernel
theorem dX1_gives_44 : decode cX1_gives 44 = .ok (.aload_n 0, 1) := by decide +kernel
theorem dX1_gives_45 : decode cX1_gives 45 = .ok (.getfield 18, 3) := by decide +kernel
theorem dX1_gives_48 : decode cX1_gives 48 = .ok (.iload_n 1, 1) := by decide +kernel
theorem dX1_gives_49 : decode cX1_gives 49 = .ok (.iaload, 1) := by decide +kernel
theorem dX1_gives_50 : decode cX1_gives 50 = .ok (.iconst 5, 1) := by decide +kernel
theorem dX1_gives_51 : decode cX1_gives 51 = .ok (.if_icmp .le 7, 3) := by decide +kernel
theorem dX1_gives_54 : decode cX1_gives 54 = .ok (.iconst 2, 1) := by decide +kernel
theorem dX1_gives_55 : decode cX1_gives 55 = .ok (.goto 4, 3) := by decide +kernel
theorem dX1_gives_58 : decode cX1_gives 58 = .ok (.iconst 1, 1) := by decide +kernel
theorem dX1_gives_59 : decode cX1_gives 59 = .ok (.ireturn, 1) := by decide +kernel
theorem dX1_gives_60 : decode cX1_gives 60 = .ok (.iload_n 2, 1) := by decide +kernel
theorem dX1_gives_61 : decode cX1_gives 61 = .ok (.bipush 7, 2) := by decide +kernel
theorem dX1_gives_63 : decode cX1_gives 63 = .ok (.irem, 1) := by decide +kernel
theorem dX1_gives_64 : decode cX1_gives 64 = .ok (.aload_n 0, 1) := by decide +kernel
theorem dX1_gives_65 : decode cX1_gives 65 = .ok (.getfield 21, 3) := by decide +kernel
theorem dX1_gives_68 : decode cX1_gives 68 = .ok (.iload_n 1, 1) := by decide +kernel
theorem dX1_gives_69 : decode cX1_gives 69 = .ok (.iaload, 1) := by decide +kernel
theorem dX1_gives_70 : decode cX1_gives 70 = .ok (.bipush 7, 2) := by decide +kernel
theorem dX1_gives_72 : decode cX1_gives 72 = .ok (.irem, 1) := by decide +kernel
theorem dX1_gives_73 : decode cX1_gives 73 = .ok (.if_icmp .ne 7, 3) := by decide +kernel
theorem dX1_gives_76 : decode cX1_gives 76 = .ok (.iconst 2, 1) := by decide +kernel
theorem dX1_gives_77 : decode cX1_gives 77 = .ok (.goto 4, 3) := by decide +kernel
theorem dX1_gives_80 : decode cX1_gives 80 = .ok (.iconst 0, 1) := by decide +kernel
theorem dX1_gives_81 : decode cX1_gives 81 = .ok (.ireturn, 1) := by decide +kernel
theorem dX1_gives_82 : decode cX1_gives 82 = .ok (.iconst 1, 1) := by decide +kernel
theorem dX1_gives_83 : decode cX1_gives 83 = .ok (.ireturn, 1) := by decide +kernel
theorem dX1_lends_0 : decode cX1_lends 0 = .ok (.aload_n 0, 1) := by decide +kernel
theorem dX1_lends_1 : decode cX1_lends 1 = .ok (.iload_n 1, 1) := by decide +kernel
theorem dX1_lends_2 : decode cX1_lends 2 = .ok (.invokevirtual 38, 3) := by decide +kernel
theorem dX1_lends_5 : decode cX1_lends 5 = .ok (.ifCond .ne 5, 3) := by decide +kernel
theorem dX1_lends_8 : decode cX1_lends 8 = .ok (.iconst 0, 1) := by decide +kernel
theorem dX1_lends_9 : decode cX1_lends 9 = .ok (.ireturn, 1) := by decide +kernel
theorem dX1_lends_10 : decode cX1_lends 10 = .ok (.aload_n 0, 1) := by decide +kernel
theorem dX1_lends_11 : decode cX1_lends 11 = .ok (.getfield 9, 3) := by decide +kernel
theorem dX1_lends_14 : decode cX1_lends 14 = .ok (.iload_n 1, 1) := by decide +kernel
theorem dX1_lends_15 : decode cX1_lends 15 = .ok (.iaload, 1) := by decide +kernel
theorem dX1_lends_16 : decode cX1_lends 16 = .ok (.lookupswitch 39 #[(1, 28), (3, 30)], 28) := by decide +kernel
theorem dX1_lends_44 : decode cX1_lends 44 = .ok (.iconst 1, 1) := by decide +kernel
theorem dX1_lends_45 : decode cX1_lends 45 = .ok (.ireturn, 1) := by decide +kernel
theorem dX1_lends_46 : decode cX1_lends 46 = .ok (.iconst 1, 1) := by decide +kernel
theorem dX1_lends_47 : decode cX1_lends 47 = .ok (.aload_n 0, 1) := by decide +kernel
theorem dX1_lends_48 : decode cX1_lends 48 = .ok (.getfield 21, 3) := by decide +kernel
theorem dX1_lends_51 : decode cX1_lends 51 = .ok (.iload_n 1, 1) := by decide +kernel
theorem dX1_lends_52 : decode cX1_lends 52 = .ok (.iaload, 1) := by decide +kernel
theorem dX1_lends_53 : decode cX1_lends 53 = .ok (.iadd, 1) := by decide +kernel
theorem dX1_lends_54 : decode cX1_lends 54 = .ok (.ireturn, 1) := by decide +kernel
theorem dX1_lends_55 : decode cX1_lends 55 = .ok (.iconst 0, 1) := by decide +kernel
theorem dX1_lends_56 : decode cX1_lends 56 = .ok (.ireturn, 1) := by decide +kernel
theorem dX2_init_0 : decode cX2_init 0 = .ok (.aload_n 0, 1) := by decide +kernel
theorem dX2_init_1 : decode cX2_init 1 = .ok (.invokespecial 3, 3) := by decide +kernel
theorem dX2_init_4 : decode cX2_init 4 = .ok (.aload_n 0, 1) := by decide +kernel
theorem dX2_init_5 : decode cX2_init 5 = .ok (.iconst 4, 1) := by decide +kernel
theorem dX2_init_6 : decode cX2_init 6 = .ok (.bipush 40, 2) := by decide +kernel
theorem dX2_init_8 : decode cX2_init 8 = .ok (.multianewarray 9 2, 4) := by decide +kernel
theorem dX2_init_12 : decode cX2_init 12 = .ok (.putfield 11, 3) := by decide +kernel
theorem dX2_init_15 : decode cX2_init 15 = .ok (.aload_n 0, 1) := by decide +kernel
theorem dX2_init_16 : decode cX2_init 16 = .ok (.iconst 4, 1) := by decide +kernel
theorem dX2_init_17 : decode cX2_init 17 = .ok (.newarray .int, 2) := by decide +kernel
theorem dX2_init_19 : decode cX2_init 19 = .ok (.dup, 1) := by decide +kernel
theorem dX2_init_20 : decode cX2_init 20 = .ok (.iconst 0, 1) := by decide +kernel
theorem dX2_init_21 : decode cX2_init 21 = .ok (.iconst (-1), 1) := by decide +kernel
theorem dX2_init_22 : decode cX2_init 22 = .ok (.iastore, 1) := by decide +kernel
theorem dX2_init_23 : decode cX2_init 23 = .ok (.dup, 1) := by decide +kernel
theorem dX2_init_24 : decode cX2_init 24 = .ok (.iconst 1, 1) := by decide +kernel
theorem dX2_init_25 : decode cX2_init 25 = .ok (.iconst (-1), 1) := by decide +kernel
theorem dX2_init_26 : decode cX2_init 26 = .ok (.iastore, 1) := by decide +kernel
theorem dX2_init_27 : decode cX2_init 27 = .ok (.dup, 1) := by decide +kernel
theorem dX2_init_28 : decode cX2_init 28 = .ok (.iconst 2, 1) := by decide +kernel
theorem dX2_init_29 : decode cX2_init 29 = .ok (.iconst (-1), 1) := by decide +kernel
theorem dX2_init_30 : decode cX2_init 30 = .ok (.iastore, 1) := by decide +kernel
theorem dX2_init_31 : decode cX2_init 31 = .ok (.dup, 1) := by decide +kernel
theorem dX2_init_32 : decode cX2_init 32 = .ok (.iconst 3, 1) := by decide +kernel
theorem dX2_init_33 : decode cX2_init 33 = .ok (.iconst (-1), 1) := by decide +kernel
theorem dX2_init_34 : decode cX2_init 34 = .ok (.iastore, 1) := by decide +kernel
theorem dX2_init_35 : decode cX2_init 35 = .ok (.putfield 16, 3) := by decide +kernel
theorem dX2_init_38 : decode cX2_init 38 = .ok (.aload_n 0, 1) := by decide +kernel
theorem dX2_init_39 : decode cX2_init 39 = .ok (.iconst 4, 1) := by decide +kernel
theorem dX2_init_40 : decode cX2_init 40 = .ok (.newarray .int, 2) := by decide +kernel
theorem dX2_init_42 : decode cX2_init 42 = .ok (.putfield 20, 3) := by decide +kernel
theorem dX2_init_45 : decode cX2_init 45 = .ok (.return_, 1) := by decide +kernel
theorem dX2_isSheet_0 : decode cX2_isSheet 0 = .ok (.iload_n 0, 1) := by decide +kernel
theorem dX2_isSheet_1 : decode cX2_isSheet 1 = .ok (.ifCond .lt 12, 3) := by decide +kernel
theorem dX2_isSheet_4 : decode cX2_isSheet 4 = .ok (.iload_n 0, 1) := by decide +kernel
theorem dX2_isSheet_5 : decode cX2_isSheet 5 = .ok (.iconst 4, 1) := by decide +kernel
theorem dX2_isSheet_6 : decode cX2_isSheet 6 = .ok (.if_icmp .ge 7, 3) := by decide +kernel
theorem dX2_isSheet_9 : decode cX2_isSheet 9 = .ok (.iconst 1, 1) := by decide +kernel
theorem dX2_isSheet_10 : decode cX2_isSheet 10 = .ok (.goto 4, 3) := by decide +kernel
theorem dX2_isSheet_13 : decode cX2_isSheet 13 = .ok (.iconst 0, 1) := by decide +kernel
theorem dX2_isSheet_14 : decode cX2_isSheet 14 = .ok (.ireturn, 1) := by decide +kernel
theorem dX2_isSort_0 : decode cX2_isSort 0 = .ok (.iload_n 0, 1) := by decide +kernel
theorem dX2_isSort_1 : decode cX2_isSort 1 = .ok (.ifCond .lt 12, 3) := by decide +kernel
theorem dX2_isSort_4 : decode cX2_isSort 4 = .ok (.iload_n 0, 1) := by decide +kernel
theorem dX2_isSort_5 : decode cX2_isSort 5 = .ok (.iconst 2, 1) := by decide +kernel
theorem dX2_isSort_6 : decode cX2_isSort 6 = .ok (.if_icmp .gt 7, 3) := by decide +kernel
theorem dX2_isSort_9 : decode cX2_isSort 9 = .ok (.iconst 1, 1) := by decide +kernel
theorem dX2_isSort_10 : decode cX2_isSort 10 = .ok (.goto 4, 3) := by decide +kernel
theorem dX2_isSort_13 : decode cX2_isSort 13 = .ok (.iconst 0, 1) := by decide +kernel
theorem dX2_isSort_14 : decode cX2_isSort 14 = .ok (.ireturn, 1) := by decide +kernel
theorem dX2_refusal_0 : decode cX2_refusal 0 = .ok (.iload_n 1, 1) := by decide +kernel
theorem dX2_refusal_1 : decode cX2_refusal 1 = .ok (.invokestatic 23, 3) := by decide +kernel
theorem dX2_refusal_4 : decode cX2_refusal 4 = .ok (.ifCond .ne 6, 3) := by decide +kernel
theorem dX2_refusal_7 : decode cX2_refusal 7 = .ok (.bipush (-2), 2) := by decide +kernel
theorem dX2_refusal_9 : decode cX2_refusal 9 = .ok (.ireturn, 1) := by decide +kernel
theorem dX2_refusal_10 : decode cX2_refusal 10 = .ok (.aload_n 0, 1) := by decide +kernel
theorem dX2_refusal_11 : decode cX2_refusal 11 = .ok (.getfield 16, 3) := by decide +kernel
theorem dX2_refusal_14 : decode cX2_refusal 14 = .ok (.iload_n 1, 1) := by decide +kernel
theorem dX2_refusal_15 : decode cX2_refusal 15 = .ok (.iaload, 1) := by decide +kernel
theorem dX2_refusal_16 : decode cX2_refusal 16 = .ok (.iconst (-1), 1) := by decide +kernel
theorem dX2_refusal_17 : decode cX2_refusal 17 = .ok (.if_icmp .ne 8, 3) := by decide +kernel
theorem dX2_refusal_20 : decode cX2_refusal 20 = .ok (.bipush (-11), 2) := by decide +kernel
theorem dX2_refusal_22 : decode cX2_refusal 22 = .ok (.goto 4, 3) := by decide +kernel
theorem dX2_refusal_25 : decode cX2_refusal 25 = .ok (.iconst 0, 1) := by decide +kernel
theorem dX2_refusal_26 : decode cX2_refusal 26 = .ok (.ireturn, 1) := by decide +kernel
theorem dX2_sizeOf_0 : decode cX2_sizeOf 0 = .ok (.iload_n 1, 1) := by decide +kernel
theorem dX2_sizeOf_1 : decode cX2_sizeOf 1 = .ok (.invokestatic 23, 3) := by decide +kernel
theorem dX2_sizeOf_4 : decode cX2_sizeOf 4 = .ok (.ifCond .eq 12, 3) := by decide +kernel
theorem dX2_sizeOf_7 : decode cX2_sizeOf 7 = .ok (.aload_n 0, 1) := by decide +kernel
theorem dX2_sizeOf_8 : decode cX2_sizeOf 8 = .ok (.getfield 20, 3) := by decide +kernel
theorem dX2_sizeOf_11 : decode cX2_sizeOf 11 = .ok (.iload_n 1, 1) := by decide +kernel
theorem dX2_sizeOf_12 : decode cX2_sizeOf 12 = .ok (.iaload, 1) := by decide +kernel
theorem dX2_sizeOf_13 : decode cX2_sizeOf 13 = .ok (.goto 4, 3) := by decide +kernel
theorem dX2_sizeOf_16 : decode cX2_sizeOf 16 = .ok (.iconst 0, 1) := by decide +kernel
theorem dX2_sizeOf_17 : decode cX2_sizeOf 17 = .ok (.ireturn, 1) := by decide +kernel
theorem dX2_lose_0 : decode cX2_lose 0 = .ok (.iload_n 1, 1) := by decide +kernel
theorem dX2_lose_1 : decode cX2_lose 1 = .ok (.invokestatic 23, 3) := by decide +kernel
theorem dX2_lose_4 : decode cX2_lose 4 = .ok (.ifCond .eq 17, 3) := by decide +kernel
theorem dX2_lose_7 : decode cX2_lose 7 = .ok (.aload_n 0, 1) := by decide +kernel
theorem dX2_lose_8 : decode cX2_lose 8 = .ok (.getfield 16, 3) := by decide +kernel
theorem dX2_lose_11 : decode cX2_lose 11 = .ok (.iload_n 1, 1) := by decide +kernel
theorem dX2_lose_12 : decode cX2_lose 12 = .ok (.iconst (-1), 1) := by decide +kernel
theorem dX2_lose_13 : decode cX2_lose 13 = .ok (.iastore, 1) := by decide +kernel
theorem dX2_lose_14 : decode cX2_lose 14 = .ok (.aload_n 0, 1) := by decide +kernel
theorem dX2_lose_15 : decode cX2_lose 15 = .ok (.getfield 20, 3) := by decide +kernel
theorem dX2_lose_18 : decode cX2_lose 18 = .ok (.iload_n 1, 1) := by decide +kernel
theorem dX2_lose_19 : decode cX2_lose 19 = .ok (.iconst 0, 1) := by decide +kernel
theorem dX2_lose_20 : decode cX2_lose 20 = .ok (.iastore, 1) := by decide +kernel
theorem dX2_lose_21 : decode cX2_lose 21 = .ok (.return_, 1) := by decide +kernel
theorem dX2_become_0 : decode cX2_become 0 = .ok (.iload_n 1, 1) := by decide +kernel
theorem dX2_become_1 : decode cX2_become 1 = .ok (.invokestatic 23, 3) := by decide +kernel
theorem dX2_become_4 : decode cX2_become 4 = .ok (.ifCond .eq 13, 3) := by decide +kernel
theorem dX2_become_7 : decode cX2_become 7 = .ok (.iload_n 3, 1) := by decide +kernel
theorem dX2_become_8 : decode cX2_become 8 = .ok (.ifCond .lt 9, 3) := by decide +kernel
theorem dX2_become_11 : decode cX2_become 11 = .ok (.iload_n 3, 1) := by decide +kernel
theorem dX2_become_12 : decode cX2_become 12 = .ok (.bipush 40, 2) := by decide +kernel
theorem dX2_become_14 : decode cX2_become 14 = .ok (.if_icmp .le 4, 3) := by decide +kernel
theorem dX2_become_17 : decode cX2_become 17 = .ok (.return_, 1) := by decide +kernel
theorem dX2_become_18 : decode cX2_become 18 = .ok (.aload_n 0, 1) := by decide +kernel
theorem dX2_become_19 : decode cX2_become 19 = .ok (.getfield 16, 3) := by decide +kernel
theorem dX2_become_22 : decode cX2_become 22 = .ok (.iload_n 1, 1) := by decide +kernel
theorem dX2_become_23 : decode cX2_become 23 = .ok (.iload_n 2, 1) := by decide +kernel
theorem dX2_become_24 : decode cX2_become 24 = .ok (.iastore, 1) := by decide +kernel
theorem dX2_become_25 : decode cX2_become 25 = .ok (.aload_n 0, 1) := by decide +kernel
theorem dX2_become_26 : decode cX2_become 26 = .ok (.getfield 20, 3) := by decide +kernel
theorem dX2_become_29 : decode cX2_become 29 = .ok (.iload_n 1, 1) := by decide +kernel
theorem dX2_become_30 : decode cX2_become 30 = .ok (.iload_n 3, 1) := by decide +kernel
theorem dX2_become_31 : decode cX2_become 31 = .ok (.iastore, 1) := by decide +kernel
theorem dX2_become_32 : decode cX2_become 32 = .ok (.iconst 0, 1) := by decide +kernel
theorem dX2_become_33 : decode cX2_become 33 = .ok (.istore 4, 2) := by decide +kernel
theorem dX2_become_35 : decode cX2_become 35 = .ok (.iload 4, 2) := by decide +kernel
theorem dX2_become_37 : decode cX2_become 37 = .ok (.iload_n 3, 1) := by decide +kernel
theorem dX2_become_38 : decode cX2_become 38 = .ok (.if_icmp .ge 19, 3) := by decide +kernel
theorem dX2_become_41 : decode cX2_become 41 = .ok (.aload_n 0, 1) := by decide +kernel
theorem dX2_become_42 : decode cX2_become 42 = .ok (.getfield 11, 3) := by decide +kernel
theorem dX2_become_45 : decode cX2_become 45 = .ok (.iload_n 1, 1) := by decide +kernel
theorem dX2_become_46 : decode cX2_become 46 = .ok (.aaload, 1) := by decide +kernel
theorem dX2_become_47 : decode cX2_become 47 = .ok (.iload 4, 2) := by decide +kernel
theorem dX2_become_49 : decode cX2_become 49 = .ok (.iconst 0, 1) := by decide +kernel
theorem dX2_become_50 : decode cX2_become 50 = .ok (.iastore, 1) := by decide +kernel
theorem dX2_become_51 : decode cX2_become 51 = .ok (.iinc 4 1, 3) := by decide +kernel
theorem dX2_become_54 : decode cX2_become 54 = .ok (.goto (-19), 3) := by decide +kernel
theorem dX2_become_57 : decode cX2_become 57 = .ok (.return_, 1) := by decide +kernel
theorem dX2_shorten_0 : decode cX2_shorten 0 = .ok (.iload_n 1, 1) := by decide +kernel
theorem dX2_shorten_1 : decode cX2_shorten 1 = .ok (.invokestatic 23, 3) := by decide +kernel
theorem dX2_shorten_4 : decode cX2_shorten 4 = .ok (.ifCond .eq 24, 3) := by decide +kernel
theorem dX2_shorten_7 : decode cX2_shorten 7 = .ok (.iload_n 2, 1) := by decide +kernel
theorem dX2_shorten_8 : decode cX2_shorten 8 = .ok (.ifCond .lt 20, 3) := by decide +kernel
theorem dX2_shorten_11 : decode cX2_shorten 11 = .ok (.iload_n 2, 1) := by decide +kernel
theorem dX2_shorten_12 : decode cX2_shorten 12 = .ok (.aload_n 0, 1) := by decide +kernel
theorem dX2_shorten_13 : decode cX2_shorten 13 = .ok (.getfield 20, 3) := by decide +kernel
theorem dX2_shorten_16 : decode cX2_shorten 16 = .ok (.iload_n 1, 1) := by decide +kernel
theorem dX2_shorten_17 : decode cX2_shorten 17 = .ok (.iaload, 1) := by decide +kernel
theorem dX2_shorten_18 : decode cX2_shorten 18 = .ok (.if_icmp .gt 10, 3) := by decide +kernel
theorem dX2_shorten_21 : decode cX2_shorten 21 = .ok (.aload_n 0, 1) := by decide +kernel
theorem dX2_shorten_22 : decode cX2_shorten 22 = .ok (.getfield 20, 3) := by decide +kernel
theorem dX2_shorten_25 : decode cX2_shorten 25 = .ok (.iload_n 1, 1) := by decide +kernel
theorem dX2_shorten_26 : decode cX2_shorten 26 = .ok (.iload_n 2, 1) := by decide +kernel
theorem dX2_shorten_27 : decode cX2_shorten 27 = .ok (.iastore, 1) := by decide +kernel
theorem dX2_shorten_28 : decode cX2_shorten 28 = .ok (.return_, 1) := by decide +kernel
theorem dX2_get_0 : decode cX2_get 0 = .ok (.iload_n 1, 1) := by decide +kernel
theorem dX2_get_1 : decode cX2_get 1 = .ok (.invokestatic 23, 3) := by decide +kernel
theorem dX2_get_4 : decode cX2_get 4 = .ok (.ifCond .eq 34, 3) := by decide +kernel
theorem dX2_get_7 : decode cX2_get 7 = .ok (.iload_n 2, 1) := by decide +kernel
theorem dX2_get_8 : decode cX2_get 8 = .ok (.ifCond .lt 30, 3) := by decide +kernel
theorem dX2_get_11 : decode cX2_get 11 = .ok (.iload_n 2, 1) := by decide +kernel
theorem dX2_get_12 : decode cX2_get 12 = .ok (.aload_n 0, 1) := by decide +kernel
theorem dX2_get_13 : decode cX2_get 13 = .ok (.getfield 20, 3) := by decide +kernel
theorem dX2_get_16 : decode cX2_get 16 = .ok (.iload_n 1, 1) := by decide +kernel
theorem dX2_get_17 : decode cX2_get 17 = .ok (.iaload, 1) := by decide +kernel
theorem dX2_get_18 : decode cX2_get 18 = .ok (.if_icmp .ge 20, 3) := by decide +kernel
theorem dX2_get_21 : decode cX2_get 21 = .ok (.iload_n 2, 1) := by decide +kernel
theorem dX2_get_22 : decode cX2_get 22 = .ok (.bipush 40, 2) := by decide +kernel
theorem dX2_get_24 : decode cX2_get 24 = .ok (.if_icmp .ge 14, 3) := by decide +kernel
theorem dX2_get_27 : decode cX2_get 27 = .ok (.aload_n 0, 1) := by decide +kernel
theorem dX2_get_28 : decode cX2_get 28 = .ok (.getfield 11, 3) := by decide +kernel
theorem dX2_get_31 : decode cX2_get 31 = .ok (.iload_n 1, 1) := by decide +kernel
theorem dX2_get_32 : decode cX2_get 32 = .ok (.aaload, 1) := by decide +kernel
theorem dX2_get_33 : decode cX2_get 33 = .ok (.iload_n 2, 1) := by decide +kernel
theorem dX2_get_34 : decode cX2_get 34 = .ok (.iaload, 1) := by decide +kernel
theorem dX2_get_35 : decode cX2_get 35 = .ok (.goto 4, 3) := by decide +kernel
theorem dX2_get_38 : decode cX2_get 38 = .ok (.iconst 0, 1) := by decide +kernel
theorem dX2_get_39 : decode cX2_get 39 = .ok (.ireturn, 1) := by decide +kernel
theorem dX2_put_0 : decode cX2_put 0 = .ok (.iload_n 1, 1) := by decide +kernel
theorem dX2_put_1 : decode cX2_put 1 = .ok (.invokestatic 23, 3) := by decide +kernel
theorem dX2_put_4 : decode cX2_put 4 = .ok (.ifCond .eq 61, 3) := by decide +kernel
theorem dX2_put_7 : decode cX2_put 7 = .ok (.iload_n 2, 1) := by decide +kernel
theorem dX2_put_8 : decode cX2_put 8 = .ok (.ifCond .lt 57, 3) := by decide +kernel
theorem dX2_put_11 : decode cX2_put 11 = .ok (.iload_n 2, 1) := by decide +kernel
theorem dX2_put_12 : decode cX2_put 12 = .ok (.aload_n 0, 1) := by decide +kernel
theorem dX2_put_13 : decode cX2_put 13 = .ok (.getfield 20, 3) := by decide +kernel
theorem dX2_put_16 : decode cX2_put 16 = .ok (.iload_n 1, 1) := by decide +kernel
theorem dX2_put_17 : decode cX2_put 17 = .ok (.iaload, 1) := by decide +kernel
theorem dX2_put_18 : decode cX2_put 18 = .ok (.if_icmp .ge 47, 3) := by decide +kernel
theorem dX2_put_21 : decode cX2_put 21 = .ok (.iload_n 2, 1) := by decide +kernel
theorem dX2_put_22 : decode cX2_put 22 = .ok (.bipush 40, 2) := by decide +kernel
theorem dX2_put_24 : decode cX2_put 24 = .ok (.if_icmp .ge 41, 3) := by decide +kernel
theorem dX2_put_27 : decode cX2_put 27 = .ok (.aload_n 0, 1) := by decide +kernel
theorem dX2_put_28 : decode cX2_put 28 = .ok (.getfield 11, 3) := by decide +kernel
theorem dX2_put_31 : decode cX2_put 31 = .ok (.iload_n 1, 1) := by decide +kernel
theorem dX2_put_32 : decode cX2_put 32 = .ok (.aaload, 1) := by decide +kernel
theorem dX2_put_33 : decode cX2_put 33 = .ok (.iload_n 2, 1) := by decide +kernel
theorem dX2_put_34 : decode cX2_put 34 = .ok (.aload_n 0, 1) := by decide +kernel
theorem dX2_put_35 : decode cX2_put 35 = .ok (.getfield 16, 3) := by decide +kernel
theorem dX2_put_38 : decode cX2_put 38 = .ok (.iload_n 1, 1) := by decide +kernel
theorem dX2_put_39 : decode cX2_put 39 = .ok (.iaload, 1) := by decide +kernel
theorem dX2_put_40 : decode cX2_put 40 = .ok (.ifCond .ne 8, 3) := by decide +kernel
theorem dX2_put_43 : decode cX2_put 43 = .ok (.iload_n 3, 1) := by decide +kernel
theorem dX2_put_44 : decode cX2_put 44 = .ok (.i2b, 1) := by decide +kernel
theorem dX2_put_45 : decode cX2_put 45 = .ok (.goto 19, 3) := by decide +kernel
theorem dX2_put_48 : decode cX2_put 48 = .ok (.aload_n 0, 1) := by decide +kernel
theorem dX2_put_49 : decode cX2_put 49 = .ok (.getfield 16, 3) := by decide +kernel
theorem dX2_put_52 : decode cX2_put 52 = .ok (.iload_n 1, 1) := by decide +kernel
theorem dX2_put_53 : decode cX2_put 53 = .ok (.iaload, 1) := by decide +kernel
theorem dX2_put_54 : decode cX2_put 54 = .ok (.iconst 1, 1) := by decide +kernel
theorem dX2_put_55 : decode cX2_put 55 = .ok (.if_icmp .ne 8, 3) := by decide +kernel
theorem dX2_put_58 : decode cX2_put 58 = .ok (.iload_n 3, 1) := by decide +kernel
theorem dX2_put_59 : decode cX2_put 59 = .ok (.i2s, 1) := by decide +kernel
theorem dX2_put_60 : decode cX2_put 60 = .ok (.goto 4, 3) := by decide +kernel
theorem dX2_put_63 : decode cX2_put 63 = .ok (.iload_n 3, 1) := by decide +kernel
theorem dX2_put_64 : decode cX2_put 64 = .ok (.iastore, 1) := by decide +kernel
theorem dX2_put_65 : decode cX2_put 65 = .ok (.return_, 1) := by decide +kernel
theorem dX3_init_0 : decode cX3_init 0 = .ok (.aload_n 0, 1) := by decide +kernel
theorem dX3_init_1 : decode cX3_init 1 = .ok (.invokespecial 3, 3) := by decide +kernel
theorem dX3_init_4 : decode cX3_init 4 = .ok (.aload_n 0, 1) := by decide +kernel
theorem dX3_init_5 : decode cX3_init 5 = .ok (.sipush 160, 3) := by decide +kernel
theorem dX3_init_8 : decode cX3_init 8 = .ok (.newarray .int, 2) := by decide +kernel
theorem dX3_init_10 : decode cX3_init 10 = .ok (.putfield 9, 3) := by decide +kernel
theorem dX3_init_13 : decode cX3_init 13 = .ok (.return_, 1) := by decide +kernel
theorem dX3_append_0 : decode cX3_append 0 = .ok (.aload_n 0, 1) := by decide +kernel
theorem dX3_append_1 : decode cX3_append 1 = .ok (.getfield 15, 3) := by decide +kernel
theorem dX3_append_4 : decode cX3_append 4 = .ok (.ifCond .lt 35, 3) := by decide +kernel
theorem dX3_append_7 : decode cX3_append 7 = .ok (.aload_n 0, 1) := by decide +kernel
theorem dX3_append_8 : decode cX3_append 8 = .ok (.getfield 15, 3) := by decide +kernel
theorem dX3_append_11 : decode cX3_append 11 = .ok (.aload_n 0, 1) := by decide +kernel
theorem dX3_append_12 : decode cX3_append 12 = .ok (.getfield 9, 3) := by decide +kernel
theorem dX3_append_15 : decode cX3_append 15 = .ok (.arraylength, 1) := by decide +kernel
theorem dX3_append_16 : decode cX3_append 16 = .ok (.if_icmp .ge 23, 3) := by decide +kernel
theorem dX3_append_19 : decode cX3_append 19 = .ok (.aload_n 0, 1) := by decide +kernel
theorem dX3_append_20 : decode cX3_append 20 = .ok (.getfield 9, 3) := by decide +kernel
theorem dX3_append_23 : decode cX3_append 23 = .ok (.aload_n 0, 1) := by decide +kernel
theorem dX3_append_24 : decode cX3_append 24 = .ok (.getfield 15, 3) := by decide +kernel
theorem dX3_append_27 : decode cX3_append 27 = .ok (.iload_n 1, 1) := by decide +kernel
theorem dX3_append_28 : decode cX3_append 28 = .ok (.iastore, 1) := by decide +kernel
theorem dX3_append_29 : decode cX3_append 29 = .ok (.aload_n 0, 1) := by decide +kernel
theorem dX3_append_30 : decode cX3_append 30 = .ok (.dup, 1) := by decide +kernel
theorem dX3_append_31 : decode cX3_append 31 = .ok (.getfield 15, 3) := by decide +kernel
theorem dX3_append_34 : decode cX3_append 34 = .ok (.iconst 1, 1) := by decide +kernel
theorem dX3_append_35 : decode cX3_append 35 = .ok (.iadd, 1) := by decide +kernel
theorem dX3_append_36 : decode cX3_append 36 = .ok (.putfield 15, 3) := by decide +kernel
theorem dX3_append_39 : decode cX3_append 39 = .ok (.return_, 1) := by decide +kernel
theorem dX3_readInto_0 : decode cX3_readInto 0 = .ok (.aload_n 0, 1) := by decide +kernel
theorem dX3_readInto_1 : decode cX3_readInto 1 = .ok (.aload_n 1, 1) := by decide +kernel
theorem dX3_readInto_2 : decode cX3_readInto 2 = .ok (.putfield 19, 3) := by decide +kernel
theorem dX3_readInto_5 : decode cX3_readInto 5 = .ok (.aload_n 1, 1) := by decide +kernel
theorem dX3_readInto_6 : decode cX3_readInto 6 = .ok (.iconst 0, 1) := by decide +kernel
theorem dX3_readInto_7 : decode cX3_readInto 7 = .ok (.putfield 23, 3) := by decide +kernel
theorem dX3_readInto_10 : decode cX3_readInto 10 = .ok (.aload_n 0, 1) := by decide +kernel
theorem dX3_readInto_11 : decode cX3_readInto 11 = .ok (.iconst 0, 1) := by decide +kernel
theorem dX3_readInto_12 : decode cX3_readInto 12 = .ok (.putfield 26, 3) := by decide +kernel
theorem dX3_readInto_15 : decode cX3_readInto 15 = .ok (.aload_n 0, 1) := by decide +kernel
theorem dX3_readInto_16 : decode cX3_readInto 16 = .ok (.invokevirtual 29, 3) := by decide +kernel
theorem dX3_readInto_19 : decode cX3_readInto 19 = .ok (.iconst 0, 1) := by decide +kernel
theorem dX3_readInto_20 : decode cX3_readInto 20 = .ok (.istore_n 2, 1) := by decide +kernel
theorem dX3_readInto_21 : decode cX3_readInto 21 = .ok (.iload_n 2, 1) := by decide +kernel
theorem dX3_readInto_22 : decode cX3_readInto 22 = .ok (.iconst 3, 1) := by decide +kernel
theorem dX3_readInto_23 : decode cX3_readInto 23 = .ok (.if_icmp .ge 61, 3) := by decide +kernel
theorem dX3_readInto_26 : decode cX3_readInto 26 = .ok (.aload_n 0, 1) := by decide +kernel
theorem dX3_readInto_27 : decode cX3_readInto 27 = .ok (.getfield 32, 3) := by decide +kernel
theorem dX3_readInto_30 : decode cX3_readInto 30 = .ok (.sipush 300, 3) := by decide +kernel
theorem dX3_readInto_33 : decode cX3_readInto 33 = .ok (.iload_n 2, 1) := by decide +kernel
theorem dX3_readInto_34 : decode cX3_readInto 34 = .ok (.iadd, 1) := by decide +kernel
theorem dX3_readInto_35 : decode cX3_readInto 35 = .ok (.if_icmp .eq 8, 3) := by decide +kernel
theorem dX3_readInto_38 : decode cX3_readInto 38 = .ok (.aload_n 0, 1) := by decide +kernel
theorem dX3_readInto_39 : decode cX3_readInto 39 = .ok (.getfield 35, 3) := by decide +kernel
theorem dX3_readInto_42 : decode cX3_readInto 42 = .ok (.ireturn, 1) := by decide +kernel
theorem dX3_readInto_43 : decode cX3_readInto 43 = .ok (.aload_n 0, 1) := by decide +kernel
theorem dX3_readInto_44 : decode cX3_readInto 44 = .ok (.invokevirtual 29, 3) := by decide +kernel
theorem dX3_readInto_47 : decode cX3_readInto 47 = .ok (.aload_n 0, 1) := by decide +kernel
theorem dX3_readInto_48 : decode cX3_readInto 48 = .ok (.iconst 0, 1) := by decide +kernel
theorem dX3_readInto_49 : decode cX3_readInto 49 = .ok (.invokevirtual 38, 3) := by decide +kernel
theorem dX3_readInto_52 : decode cX3_readInto 52 = .ok (.ifCond .eq 12, 3) := by decide +kernel
theorem dX3_readInto_55 : decode cX3_readInto 55 = .ok (.aload_n 0, 1) := by decide +kernel
theorem dX3_readInto_56 : decode cX3_readInto 56 = .ok (.getfield 32, 3) := by decide +kernel
theorem dX3_readInto_59 : decode cX3_readInto 59 = .ok (.bipush 59, 2) := by decide +kernel
theorem dX3_readInto_61 : decode cX3_readInto 61 = .ok (.if_icmp .eq 8, 3) := by decide +kernel
theorem dX3_readInto_64 : decode cX3_readInto 64 = .ok (.aload_n 0, 1) := by decide +kernel
theorem dX3_readInto_65 : decode cX3_readInto 65 = .ok (.getfield 35, 3) := by decide +kernel
theorem dX3_readInto_68 : decode cX3_readInto 68 = .ok (.ireturn, 1) := by decide +kernel
theorem dX3_readInto_69 : decode cX3_readInto 69 = .ok (.aload_n 0, 1) := by decide +kernel
theorem dX3_readInto_70 : decode cX3_readInto 70 = .ok (.invokevirtual 29, 3) := by decide +kernel
theorem dX3_readInto_73 : decode cX3_readInto 73 = .ok (.aload_n 1, 1) := by decide +kernel
theorem dX3_readInto_74 : decode cX3_readInto 74 = .ok (.iload_n 2, 1) := by decide +kernel
theorem dX3_readInto_75 : decode cX3_readInto 75 = .ok (.invokevirtual 42, 3) := by decide +kernel
theorem dX3_readInto_78 : decode cX3_readInto 78 = .ok (.iinc 2 1, 3) := by decide +kernel
theorem dX3_readInto_81 : decode cX3_readInto 81 = .ok (.goto (-60), 3) := by decide +kernel
theorem dX3_readInto_84 : decode cX3_readInto 84 = .ok (.aload_n 0, 1) := by decide +kernel
theorem dX3_readInto_85 : decode cX3_readInto 85 = .ok (.getfield 32, 3) := by decide +kernel
theorem dX3_readInto_88 : decode cX3_readInto 88 = .ok (.ifCond .ne 7, 3) := by decide +kernel
theorem dX3_readInto_91 : decode cX3_readInto 91 = .ok (.iconst (-1), 1) := by decide +kernel
theorem dX3_readInto_92 : decode cX3_readInto 92 = .ok (.goto 7, 3) := by decide +kernel
theorem dX3_readInto_95 : decode cX3_readInto 95 = .ok (.aload_n 0, 1) := by decide +kernel
theorem dX3_readInto_96 : decode cX3_readInto 96 = .ok (.getfield 35, 3) := by decide +kernel
theorem dX3_readInto_99 : decode cX3_readInto 99 = .ok (.ireturn, 1) := by decide +kernel
theorem dX3_readOr_0 : decode cX3_readOr 0 = .ok (.aload_n 0, 1) := by decide +kernel
theorem dX3_readOr_1 : decode cX3_readOr 1 = .ok (.iload_n 1, 1) := by decide +kernel
theorem dX3_readOr_2 : decode cX3_readOr 2 = .ok (.invokevirtual 46, 3) := by decide +kernel
theorem dX3_readOr_5 : decode cX3_readOr 5 = .ok (.istore_n 2, 1) := by decide +kernel
theorem dX3_readOr_6 : decode cX3_readOr 6 = .ok (.iconst 0, 1) := by decide +kernel
theorem dX3_readOr_7 : decode cX3_readOr 7 = .ok (.istore_n 3, 1) := by decide +kernel
theorem dX3_readOr_8 : decode cX3_readOr 8 = .ok (.iload_n 3, 1) := by decide +kernel
theorem dX3_readOr_9 : decode cX3_readOr 9 = .ok (.sipush 160, 3) := by decide +kernel
theorem dX3_readOr_12 : decode cX3_readOr 12 = .ok (.if_icmp .ge 40, 3) := by decide +kernel
theorem dX3_readOr_15 : decode cX3_readOr 15 = .ok (.iload_n 2, 1) := by decide +kernel
theorem dX3_readOr_16 : decode cX3_readOr 16 = .ok (.ifCond .eq 36, 3) := by decide +kernel
theorem dX3_readOr_19 : decode cX3_readOr 19 = .ok (.aload_n 0, 1) := by decide +kernel
theorem dX3_readOr_20 : decode cX3_readOr 20 = .ok (.getfield 32, 3) := by decide +kernel
theorem dX3_readOr_23 : decode cX3_readOr 23 = .ok (.sipush 303, 3) := by decide +kernel
theorem dX3_readOr_26 : decode cX3_readOr 26 = .ok (.if_icmp .ne 26, 3) := by decide +kernel
theorem dX3_readOr_29 : decode cX3_readOr 29 = .ok (.aload_n 0, 1) := by decide +kernel
theorem dX3_readOr_30 : decode cX3_readOr 30 = .ok (.invokevirtual 29, 3) := by decide +kernel
theorem dX3_readOr_33 : decode cX3_readOr 33 = .ok (.aload_n 0, 1) := by decide +kernel
theorem dX3_readOr_34 : decode cX3_readOr 34 = .ok (.iload_n 1, 1) := by decide +kernel
theorem dX3_readOr_35 : decode cX3_readOr 35 = .ok (.invokevirtual 46, 3) := by decide +kernel
theorem dX3_readOr_38 : decode cX3_readOr 38 = .ok (.istore_n 2, 1) := by decide +kernel
theorem dX3_readOr_39 : decode cX3_readOr 39 = .ok (.aload_n 0, 1) := by decide +kernel
theorem dX3_readOr_40 : decode cX3_readOr 40 = .ok (.sipush 20008, 3) := by decide +kernel
theorem dX3_readOr_43 : decode cX3_readOr 43 = .ok (.invokevirtual 49, 3) := by decide +kernel
theorem dX3_readOr_46 : decode cX3_readOr 46 = .ok (.iinc 3 1, 3) := by decide +kernel
theorem dX3_readOr_49 : decode cX3_readOr 49 = .ok (.goto (-41), 3) := by decide +kernel
theorem dX3_readOr_52 : decode cX3_readOr 52 = .ok (.iload_n 2, 1) := by decide +kernel
theorem dX3_readOr_53 : decode cX3_readOr 53 = .ok (.ireturn, 1) := by decide +kernel
theorem dX3_readAnd_0 : decode cX3_readAnd 0 = .ok (.aload_n 0, 1) := by decide +kernel
theorem dX3_readAnd_1 : decode cX3_readAnd 1 = .ok (.iload_n 1, 1) := by decide +kernel
theorem dX3_readAnd_2 : decode cX3_readAnd 2 = .ok (.invokevirtual 52, 3) := by decide +kernel
theorem dX3_readAnd_5 : decode cX3_readAnd 5 = .ok (.istore_n 2, 1) := by decide +kernel
theorem dX3_readAnd_6 : decode cX3_readAnd 6 = .ok (.iconst 0, 1) := by decide +kernel
theorem dX3_readAnd_7 : decode cX3_readAnd 7 = .ok (.istore_n 3, 1) := by decide +kernel
theorem dX3_readAnd_8 : decode cX3_readAnd 8 = .ok (.iload_n 3, 1) := by decide +kernel
theorem dX3_readAnd_9 : decode cX3_readAnd 9 = .ok (.sipush 160, 3) := by decide +kernel
theorem dX3_readAnd_12 : decode cX3_readAnd 12 = .ok (.if_icmp .ge 40, 3) := by decide +kernel
theorem dX3_readAnd_15 : decode cX3_readAnd 15 = .ok (.iload_n 2, 1) := by decide +kernel
theorem dX3_readAnd_16 : decode cX3_readAnd 16 = .ok (.ifCond .eq 36, 3) := by decide +kernel
theorem dX3_readAnd_19 : decode cX3_readAnd 19 = .ok (.aload_n 0, 1) := by decide +kernel
theorem dX3_readAnd_20 : decode cX3_readAnd 20 = .ok (.getfield 32, 3) := by decide +kernel
theorem dX3_readAnd_23 : decode cX3_readAnd 23 = .ok (.sipush 304, 3) := by decide +kernel
theorem dX3_readAnd_26 : decode cX3_readAnd 26 = .ok (.if_icmp .ne 26, 3) := by decide +kernel
theorem dX3_readAnd_29 : decode cX3_readAnd 29 = .ok (.aload_n 0, 1) := by decide +kernel
theorem dX3_readAnd_30 : decode cX3_readAnd 30 = .ok (.invokevirtual 29, 3) := by decide +kernel
theorem dX3_readAnd_33 : decode cX3_readAnd 33 = .ok (.aload_n 0, 1) := by decide +kernel
theorem dX3_readAnd_34 : decode cX3_readAnd 34 = .ok (.iload_n 1, 1) := by decide +kernel
theorem dX3_readAnd_35 : decode cX3_readAnd 35 = .ok (.invokevirtual 52, 3) := by decide +kernel
theorem dX3_readAnd_38 : decode cX3_readAnd 38 = .ok (.istore_n 2, 1) := by decide +kernel
theorem dX3_readAnd_39 : decode cX3_readAnd 39 = .ok (.aload_n 0, 1) := by decide +kernel
theorem dX3_readAnd_40 : decode cX3_readAnd 40 = .ok (.sipush 20007, 3) := by decide +kernel
theorem dX3_readAnd_43 : decode cX3_readAnd 43 = .ok (.invokevirtual 49, 3) := by decide +kernel
theorem dX3_readAnd_46 : decode cX3_readAnd 46 = .ok (.iinc 3 1, 3) := by decide +kernel
theorem dX3_readAnd_49 : decode cX3_readAnd 49 = .ok (.goto (-41), 3) := by decide +kernel
theorem dX3_readAnd_52 : decode cX3_readAnd 52 = .ok (.iload_n 2, 1) := by decide +kernel
theorem dX3_readAnd_53 : decode cX3_readAnd 53 = .ok (.ireturn, 1) := by decide +kernel
theorem dX3_readNot_0 : decode cX3_readNot 0 = .ok (.aload_n 0, 1) := by decide +kernel
theorem dX3_readNot_1 : decode cX3_readNot 1 = .ok (.getfield 32, 3) := by decide +kernel
theorem dX3_readNot_4 : decode cX3_readNot 4 = .ok (.sipush 305, 3) := by decide +kernel
theorem dX3_readNot_7 : decode cX3_readNot 7 = .ok (.if_icmp .ne 31, 3) := by decide +kernel
theorem dX3_readNot_10 : decode cX3_readNot 10 = .ok (.iload_n 1, 1) := by decide +kernel
theorem dX3_readNot_11 : decode cX3_readNot 11 = .ok (.iconst 5, 1) := by decide +kernel
theorem dX3_readNot_12 : decode cX3_readNot 12 = .ok (.if_icmp .lt 5, 3) := by decide +kernel
theorem dX3_readNot_15 : decode cX3_readNot 15 = .ok (.iconst 0, 1) := by decide +kernel
theorem dX3_readNot_16 : decode cX3_readNot 16 = .ok (.ireturn, 1) := by decide +kernel
theorem dX3_readNot_17 : decode cX3_readNot 17 = .ok (.aload_n 0, 1) := by decide +kernel
theorem dX3_readNot_18 : decode cX3_readNot 18 = .ok (.invokevirtual 29, 3) := by decide +kernel
theorem dX3_readNot_21 : decode cX3_readNot 21 = .ok (.aload_n 0, 1) := by decide +kernel
theorem dX3_readNot_22 : decode cX3_readNot 22 = .ok (.iload_n 1, 1) := by decide +kernel
theorem dX3_readNot_23 : decode cX3_readNot 23 = .ok (.iconst 1, 1) := by decide +kernel
theorem dX3_readNot_24 : decode cX3_readNot 24 = .ok (.iadd, 1) := by decide +kernel
theorem dX3_readNot_25 : decode cX3_readNot 25 = .ok (.invokevirtual 52, 3) := by decide +kernel
theorem dX3_readNot_28 : decode cX3_readNot 28 = .ok (.istore_n 2, 1) := by decide +kernel
theorem dX3_readNot_29 : decode cX3_readNot 29 = .ok (.aload_n 0, 1) := by decide +kernel
theorem dX3_readNot_30 : decode cX3_readNot 30 = .ok (.sipush 20001, 3) := by decide +kernel
theorem dX3_readNot_33 : decode cX3_readNot 33 = .ok (.invokevirtual 49, 3) := by decide +kernel
theorem dX3_readNot_36 : decode cX3_readNot 36 = .ok (.iload_n 2, 1) := by decide +kernel
theorem dX3_readNot_37 : decode cX3_readNot 37 = .ok (.ireturn, 1) := by decide +kernel
theorem dX3_readNot_38 : decode cX3_readNot 38 = .ok (.aload_n 0, 1) := by decide +kernel
theorem dX3_readNot_39 : decode cX3_readNot 39 = .ok (.iload_n 1, 1) := by decide +kernel
theorem dX3_readNot_40 : decode cX3_readNot 40 = .ok (.invokevirtual 55, 3) := by decide +kernel
theorem dX3_readNot_43 : decode cX3_readNot 43 = .ok (.istore_n 2, 1) := by decide +kernel
theorem dX3_readNot_44 : decode cX3_readNot 44 = .ok (.iload_n 2, 1) := by decide +kernel
theorem dX3_readNot_45 : decode cX3_readNot 45 = .ok (.ifCond .eq 55, 3) := by decide +kernel
theorem dX3_readNot_48 : decode cX3_readNot 48 = .ok (.aload_n 0, 1) := by decide +kernel
theorem dX3_readNot_49 : decode cX3_readNot 49 = .ok (.getfield 32, 3) := by decide +kernel
theorem dX3_readNot_52 : decode cX3_readNot 52 = .ok (.bipush 60, 2) := by decide +kernel
theorem dX3_readNot_54 : decode cX3_readNot 54 = .ok (.if_icmp .eq 12, 3) := by decide +kernel
theorem dX3_readNot_57 : decode cX3_readNot 57 = .ok (.aload_n 0, 1) := by decide +kernel
theorem dX3_readNot_58 : decode cX3_readNot 58 = .ok (.getfield 32, 3) := by decide +kernel
theorem dX3_readNot_61 : decode cX3_readNot 61 = .ok (.bipush 61, 2) := by decide +kernel
theorem dX3_readNot_63 : decode cX3_readNot 63 = .ok (.if_icmp .ne 37, 3) := by decide +kernel
theorem dX3_readNot_66 : decode cX3_readNot 66 = .ok (.aload_n 0, 1) := by decide +kernel
theorem dX3_readNot_67 : decode cX3_readNot 67 = .ok (.getfield 32, 3) := by decide +kernel
theorem dX3_readNot_70 : decode cX3_readNot 70 = .ok (.bipush 60, 2) := by decide +kernel
theorem dX3_readNot_72 : decode cX3_readNot 72 = .ok (.if_icmp .ne 9, 3) := by decide +kernel
theorem dX3_readNot_75 : decode cX3_readNot 75 = .ok (.sipush 20005, 3) := by decide +kernel
theorem dX3_readNot_78 : decode cX3_readNot 78 = .ok (.goto 6, 3) := by decide +kernel
theorem dX3_readNot_81 : decode cX3_readNot 81 = .ok (.sipush 20006, 3) := by decide +kernel
theorem dX3_readNot_84 : decode cX3_readNot 84 = .ok (.istore_n 3, 1) := by decide +kernel
theorem dX3_readNot_85 : decode cX3_readNot 85 = .ok (.aload_n 0, 1) := by decide +kernel
theorem dX3_readNot_86 : decode cX3_readNot 86 = .ok (.invokevirtual 29, 3) := by decide +kernel
theorem dX3_readNot_89 : decode cX3_readNot 89 = .ok (.aload_n 0, 1) := by decide +kernel
theorem dX3_readNot_90 : decode cX3_readNot 90 = .ok (.iload_n 1, 1) := by decide +kernel
theorem dX3_readNot_91 : decode cX3_readNot 91 = .ok (.invokevirtual 55, 3) := by decide +kernel
theorem dX3_readNot_94 : decode cX3_readNot 94 = .ok (.istore_n 2, 1) := by decide +kernel
theorem dX3_readNot_95 : decode cX3_readNot 95 = .ok (.aload_n 0, 1) := by decide +kernel
theorem dX3_readNot_96 : decode cX3_readNot 96 = .ok (.iload_n 3, 1) := by decide +kernel
theorem dX3_readNot_97 : decode cX3_readNot 97 = .ok (.invokevirtual 49, 3) := by decide +kernel
theorem dX3_readNot_100 : decode cX3_readNot 100 = .ok (.iload_n 2, 1) := by decide +kernel
theorem dX3_readNot_101 : decode cX3_readNot 101 = .ok (.ireturn, 1) := by decide +kernel
theorem dX3_readSum_0 : decode cX3_readSum 0 = .ok (.aload_n 0, 1) := by decide +kernel
theorem dX3_readSum_1 : decode cX3_readSum 1 = .ok (.iload_n 1, 1) := by decide +kernel
theorem dX3_readSum_2 : decode cX3_readSum 2 = .ok (.invokevirtual 58, 3) := by decide +kernel
theorem dX3_readSum_5 : decode cX3_readSum 5 = .ok (.istore_n 2, 1) := by decide +kernel
theorem dX3_readSum_6 : decode cX3_readSum 6 = .ok (.iconst 0, 1) := by decide +kernel
theorem dX3_readSum_7 : decode cX3_readSum 7 = .ok (.istore_n 3, 1) := by decide +kernel
theorem dX3_readSum_8 : decode cX3_readSum 8 = .ok (.iload_n 3, 1) := by decide +kernel
theorem dX3_readSum_9 : decode cX3_readSum 9 = .ok (.sipush 160, 3) := by decide +kernel
theorem dX3_readSum_12 : decode cX3_readSum 12 = .ok (.if_icmp .ge 67, 3) := by decide +kernel
theorem dX3_readSum_15 : decode cX3_readSum 15 = .ok (.iload_n 2, 1) := by decide +kernel
theorem dX3_readSum_16 : decode cX3_readSum 16 = .ok (.ifCond .eq 63, 3) := by decide +kernel
theorem dX3_readSum_19 : decode cX3_readSum 19 = .ok (.aload_n 0, 1) := by decide +kernel
theorem dX3_readSum_20 : decode cX3_readSum 20 = .ok (.getfield 32, 3) := by decide +kernel
theorem dX3_readSum_23 : decode cX3_readSum 23 = .ok (.bipush 43, 2) := by decide +kernel
theorem dX3_readSum_25 : decode cX3_readSum 25 = .ok (.if_icmp .eq 12, 3) := by decide +kernel
theorem dX3_readSum_28 : decode cX3_readSum 28 = .ok (.aload_n 0, 1) := by decide +kernel
theorem dX3_readSum_29 : decode cX3_readSum 29 = .ok (.getfield 32, 3) := by decide +kernel
theorem dX3_readSum_32 : decode cX3_readSum 32 = .ok (.bipush 45, 2) := by decide +kernel
theorem dX3_readSum_34 : decode cX3_readSum 34 = .ok (.if_icmp .ne 45, 3) := by decide +kernel
theorem dX3_readSum_37 : decode cX3_readSum 37 = .ok (.aload_n 0, 1) := by decide +kernel
theorem dX3_readSum_38 : decode cX3_readSum 38 = .ok (.getfield 32, 3) := by decide +kernel
theorem dX3_readSum_41 : decode cX3_readSum 41 = .ok (.bipush 43, 2) := by decide +kernel
theorem dX3_readSum_43 : decode cX3_readSum 43 = .ok (.if_icmp .ne 9, 3) := by decide +kernel
theorem dX3_readSum_46 : decode cX3_readSum 46 = .ok (.sipush 20003, 3) := by decide +kernel
theorem dX3_readSum_49 : decode cX3_readSum 49 = .ok (.goto 6, 3) := by decide +kernel
theorem dX3_readSum_52 : decode cX3_readSum 52 = .ok (.sipush 20004, 3) := by decide +kernel
theorem dX3_readSum_55 : decode cX3_readSum 55 = .ok (.istore 4, 2) := by decide +kernel
theorem dX3_readSum_57 : decode cX3_readSum 57 = .ok (.aload_n 0, 1) := by decide +kernel
theorem dX3_readSum_58 : decode cX3_readSum 58 = .ok (.invokevirtual 29, 3) := by decide +kernel
theorem dX3_readSum_61 : decode cX3_readSum 61 = .ok (.aload_n 0, 1) := by decide +kernel
theorem dX3_readSum_62 : decode cX3_readSum 62 = .ok (.iload_n 1, 1) := by decide +kernel
theorem dX3_readSum_63 : decode cX3_readSum 63 = .ok (.invokevirtual 58, 3) := by decide +kernel
theorem dX3_readSum_66 : decode cX3_readSum 66 = .ok (.istore_n 2, 1) := by decide +kernel
theorem dX3_readSum_67 : decode cX3_readSum 67 = .ok (.aload_n 0, 1) := by decide +kernel
theorem dX3_readSum_68 : decode cX3_readSum 68 = .ok (.iload 4, 2) := by decide +kernel
theorem dX3_readSum_70 : decode cX3_readSum 70 = .ok (.invokevirtual 49, 3) := by decide +kernel
theorem dX3_readSum_73 : decode cX3_readSum 73 = .ok (.iinc 3 1, 3) := by decide +kernel
theorem dX3_readSum_76 : decode cX3_readSum 76 = .ok (.goto (-68), 3) := by decide +kernel
theorem dX3_readSum_79 : decode cX3_readSum 79 = .ok (.iload_n 2, 1) := by decide +kernel
theorem dX3_readSum_80 : decode cX3_readSum 80 = .ok (.ireturn, 1) := by decide +kernel
theorem dX3_readTerm_0 : decode cX3_readTerm 0 = .ok (.aload_n 0, 1) := by decide +kernel
theorem dX3_readTerm_1 : decode cX3_readTerm 1 = .ok (.iload_n 1, 1) := by decide +kernel
theorem dX3_readTerm_2 : decode cX3_readTerm 2 = .ok (.invokevirtual 61, 3) := by decide +kernel
theorem dX3_readTerm_5 : decode cX3_readTerm 5 = .ok (.istore_n 2, 1) := by decide +kernel
theorem dX3_readTerm_6 : decode cX3_readTerm 6 = .ok (.iconst 0, 1) := by decide +kernel
theorem dX3_readTerm_7 : decode cX3_readTerm 7 = .ok (.istore_n 3, 1) := by decide +kernel
theorem dX3_readTerm_8 : decode cX3_readTerm 8 = .ok (.iload_n 3, 1) := by decide +kernel
theorem dX3_readTerm_9 : decode cX3_readTerm 9 = .ok (.sipush 160, 3) := by decide +kernel
theorem dX3_readTerm_12 : decode cX3_readTerm 12 = .ok (.if_icmp .ge 39, 3) := by decide +kernel
theorem dX3_readTerm_15 : decode cX3_readTerm 15 = .ok (.iload_n 2, 1) := by decide +kernel
theorem dX3_readTerm_16 : decode cX3_readTerm 16 = .ok (.ifCond .eq 35, 3) := by decide +kernel
theorem dX3_readTerm_19 : decode cX3_readTerm 19 = .ok (.aload_n 0, 1) := by decide +kernel
theorem dX3_readTerm_20 : decode cX3_readTerm 20 = .ok (.getfield 32, 3) := by decide +kernel
theorem dX3_readTerm_23 : decode cX3_readTerm 23 = .ok (.bipush 42, 2) := by decide +kernel
theorem dX3_readTerm_25 : decode cX3_readTerm 25 = .ok (.if_icmp .ne 26, 3) := by decide +kernel
theorem dX3_readTerm_28 : decode cX3_readTerm 28 = .ok (.aload_n 0, 1) := by decide +kernel
theorem dX3_readTerm_29 : decode cX3_readTerm 29 = .ok (.invokevirtual 29, 3) := by decide +kernel
theorem dX3_readTerm_32 : decode cX3_readTerm 32 = .ok (.aload_n 0, 1) := by decide +kernel
theorem dX3_readTerm_33 : decode cX3_readTerm 33 = .ok (.iload_n 1, 1) := by decide +kernel
theorem dX3_readTerm_34 : decode cX3_readTerm 34 = .ok (.invokevirtual 61, 3) := by decide +kernel
theorem dX3_readTerm_37 : decode cX3_readTerm 37 = .ok (.istore_n 2, 1) := by decide +kernel
theorem dX3_readTerm_38 : decode cX3_readTerm 38 = .ok (.aload_n 0, 1) := by decide +kernel
theorem dX3_readTerm_39 : decode cX3_readTerm 39 = .ok (.sipush 20002, 3) := by decide +kernel
theorem dX3_readTerm_42 : decode cX3_readTerm 42 = .ok (.invokevirtual 49, 3) := by decide +kernel
theorem dX3_readTerm_45 : decode cX3_readTerm 45 = .ok (.iinc 3 1, 3) := by decide +kernel
theorem dX3_readTerm_48 : decode cX3_readTerm 48 = .ok (.goto (-40), 3) := by decide +kernel
theorem dX3_readTerm_51 : decode cX3_readTerm 51 = .ok (.iload_n 2, 1) := by decide +kernel
theorem dX3_readTerm_52 : decode cX3_readTerm 52 = .ok (.ireturn, 1) := by decide +kernel
theorem dX3_readOne_0 : decode cX3_readOne 0 = .ok (.aload_n 0, 1) := by decide +kernel
theorem dX3_readOne_1 : decode cX3_readOne 1 = .ok (.getfield 32, 3) := by decide +kernel
theorem dX3_readOne_4 : decode cX3_readOne 4 = .ok (.iconst 2, 1) := by decide +kernel
theorem dX3_readOne_5 : decode cX3_readOne 5 = .ok (.if_icmp .ne 17, 3) := by decide +kernel
theorem dX3_readOne_8 : decode cX3_readOne 8 = .ok (.aload_n 0, 1) := by decide +kernel
theorem dX3_readOne_9 : decode cX3_readOne 9 = .ok (.aload_n 0, 1) := by decide +kernel
theorem dX3_readOne_10 : decode cX3_readOne 10 = .ok (.getfield 64, 3) := by decide +kernel
theorem dX3_readOne_13 : decode cX3_readOne 13 = .ok (.invokevirtual 49, 3) := by decide +kernel
theorem dX3_readOne_16 : decode cX3_readOne 16 = .ok (.aload_n 0, 1) := by decide +kernel
theorem dX3_readOne_17 : decode cX3_readOne 17 = .ok (.invokevirtual 29, 3) := by decide +kernel
theorem dX3_readOne_20 : decode cX3_readOne 20 = .ok (.iconst 1, 1) := by decide +kernel
theorem dX3_readOne_21 : decode cX3_readOne 21 = .ok (.ireturn, 1) := by decide +kernel
theorem dX3_readOne_22 : decode cX3_readOne 22 = .ok (.aload_n 0, 1) := by decide +kernel
theorem dX3_readOne_23 : decode cX3_readOne 23 = .ok (.getfield 32, 3) := by decide +kernel
theorem dX3_readOne_26 : decode cX3_readOne 26 = .ok (.sipush 306, 3) := by decide +kernel
theorem dX3_readOne_29 : decode cX3_readOne 29 = .ok (.isub, 1) := by decide +kernel
theorem dX3_readOne_30 : decode cX3_readOne 30 = .ok (.istore_n 2, 1) := by decide +kernel
theorem dX3_readOne_31 : decode cX3_readOne 31 = .ok (.iload_n 2, 1) := by decide +kernel
theorem dX3_readOne_32 : decode cX3_readOne 32 = .ok (.ifCond .lt 30, 3) := by decide +kernel
theorem dX3_readOne_35 : decode cX3_readOne 35 = .ok (.iload_n 2, 1) := by decide +kernel
theorem dX3_readOne_36 : decode cX3_readOne 36 = .ok (.getstatic 67, 3) := by decide +kernel
theorem dX3_readOne_39 : decode cX3_readOne 39 = .ok (.arraylength, 1) := by decide +kernel
theorem dX3_readOne_40 : decode cX3_readOne 40 = .ok (.if_icmp .ge 22, 3) := by decide +kernel
theorem dX3_readOne_43 : decode cX3_readOne 43 = .ok (.aload_n 0, 1) := by decide +kernel
theorem dX3_readOne_44 : decode cX3_readOne 44 = .ok (.sipush 10000, 3) := by decide +kernel
theorem dX3_readOne_47 : decode cX3_readOne 47 = .ok (.getstatic 67, 3) := by decide +kernel
theorem dX3_readOne_50 : decode cX3_readOne 50 = .ok (.iload_n 2, 1) := by decide +kernel
theorem dX3_readOne_51 : decode cX3_readOne 51 = .ok (.iaload, 1) := by decide +kernel
theorem dX3_readOne_52 : decode cX3_readOne 52 = .ok (.iadd, 1) := by decide +kernel
theorem dX3_readOne_53 : decode cX3_readOne 53 = .ok (.invokevirtual 49, 3) := by decide +kernel
theorem dX3_readOne_56 : decode cX3_readOne 56 = .ok (.aload_n 0, 1) := by decide +kernel
theorem dX3_readOne_57 : decode cX3_readOne 57 = .ok (.invokevirtual 29, 3) := by decide +kernel
theorem dX3_readOne_60 : decode cX3_readOne 60 = .ok (.iconst 1, 1) := by decide +kernel
theorem dX3_readOne_61 : decode cX3_readOne 61 = .ok (.ireturn, 1) := by decide +kernel
theorem dX3_readOne_62 : decode cX3_readOne 62 = .ok (.aload_n 0, 1) := by decide +kernel
theorem dX3_readOne_63 : decode cX3_readOne 63 = .ok (.getfield 32, 3) := by decide +kernel
theorem dX3_readOne_66 : decode cX3_readOne 66 = .ok (.bipush 45, 2) := by decide +kernel
theorem dX3_readOne_68 : decode cX3_readOne 68 = .ok (.if_icmp .eq 12, 3) := by decide +kernel
theorem dX3_readOne_71 : decode cX3_readOne 71 = .ok (.aload_n 0, 1) := by decide +kernel
theorem dX3_readOne_72 : decode cX3_readOne 72 = .ok (.getfield 32, 3) := by decide +kernel
theorem dX3_readOne_75 : decode cX3_readOne 75 = .ok (.bipush 40, 2) := by decide +kernel
theorem dX3_readOne_77 : decode cX3_readOne 77 = .ok (.if_icmp .ne 8, 3) := by decide +kernel
theorem dX3_readOne_80 : decode cX3_readOne 80 = .ok (.iload_n 1, 1) := by decide +kernel
theorem dX3_readOne_81 : decode cX3_readOne 81 = .ok (.iconst 5, 1) := by decide +kernel
theorem dX3_readOne_82 : decode cX3_readOne 82 = .ok (.if_icmp .lt 5, 3) := by decide +kernel
theorem dX3_readOne_85 : decode cX3_readOne 85 = .ok (.iconst 0, 1) := by decide +kernel
theorem dX3_readOne_86 : decode cX3_readOne 86 = .ok (.ireturn, 1) := by decide +kernel
theorem dX3_readOne_87 : decode cX3_readOne 87 = .ok (.aload_n 0, 1) := by decide +kernel
theorem dX3_readOne_88 : decode cX3_readOne 88 = .ok (.getfield 32, 3) := by decide +kernel
theorem dX3_readOne_91 : decode cX3_readOne 91 = .ok (.bipush 45, 2) := by decide +kernel
theorem dX3_readOne_93 : decode cX3_readOne 93 = .ok (.if_icmp .ne 24, 3) := by decide +kernel
theorem dX3_readOne_96 : decode cX3_readOne 96 = .ok (.aload_n 0, 1) := by decide +kernel
theorem dX3_readOne_97 : decode cX3_readOne 97 = .ok (.invokevirtual 29, 3) := by decide +kernel
theorem dX3_readOne_100 : decode cX3_readOne 100 = .ok (.aload_n 0, 1) := by decide +kernel
theorem dX3_readOne_101 : decode cX3_readOne 101 = .ok (.iload_n 1, 1) := by decide +kernel
theorem dX3_readOne_102 : decode cX3_readOne 102 = .ok (.iconst 1, 1) := by decide +kernel
theorem dX3_readOne_103 : decode cX3_readOne 103 = .ok (.iadd, 1) := by decide +kernel
theorem dX3_readOne_104 : decode cX3_readOne 104 = .ok (.invokevirtual 61, 3) := by decide +kernel
theorem dX3_readOne_107 : decode cX3_readOne 107 = .ok (.istore_n 3, 1) := by decide +kernel
theorem dX3_readOne_108 : decode cX3_readOne 108 = .ok (.aload_n 0, 1) := by decide +kernel
theorem dX3_readOne_109 : decode cX3_readOne 109 = .ok (.sipush 20000, 3) := by decide +kernel
theorem dX3_readOne_112 : decode cX3_readOne 112 = .ok (.invokevirtual 49, 3) := by decide +kernel
theorem dX3_readOne_115 : decode cX3_readOne 115 = .ok (.iload_n 3, 1) := by decide +kernel
theorem dX3_readOne_116 : decode cX3_readOne 116 = .ok (.ireturn, 1) := by decide +kernel
theorem dX3_readOne_117 : decode cX3_readOne 117 = .ok (.aload_n 0, 1) := by decide +kernel
theorem dX3_readOne_118 : decode cX3_readOne 118 = .ok (.invokevirtual 29, 3) := by decide +kernel
theorem dX3_readOne_121 : decode cX3_readOne 121 = .ok (.aload_n 0, 1) := by decide +kernel
theorem dX3_readOne_122 : decode cX3_readOne 122 = .ok (.iload_n 1, 1) := by decide +kernel
theorem dX3_readOne_123 : decode cX3_readOne 123 = .ok (.iconst 1, 1) := by decide +kernel
theorem dX3_readOne_124 : decode cX3_readOne 124 = .ok (.iadd, 1) := by decide +kernel
theorem dX3_readOne_125 : decode cX3_readOne 125 = .ok (.invokevirtual 38, 3) := by decide +kernel
theorem dX3_readOne_128 : decode cX3_readOne 128 = .ok (.ifCond .eq 12, 3) := by decide +kernel
theorem dX3_readOne_131 : decode cX3_readOne 131 = .ok (.aload_n 0, 1) := by decide +kernel
theorem dX3_readOne_132 : decode cX3_readOne 132 = .ok (.getfield 32, 3) := by decide +kernel
theorem dX3_readOne_135 : decode cX3_readOne 135 = .ok (.bipush 41, 2) := by decide +kernel
theorem dX3_readOne_137 : decode cX3_readOne 137 = .ok (.if_icmp .eq 5, 3) := by decide +kernel
theorem dX3_readOne_140 : decode cX3_readOne 140 = .ok (.iconst 0, 1) := by decide +kernel
theorem dX3_readOne_141 : decode cX3_readOne 141 = .ok (.ireturn, 1) := by decide +kernel
theorem dX3_readOne_142 : decode cX3_readOne 142 = .ok (.aload_n 0, 1) := by decide +kernel
theorem dX3_readOne_143 : decode cX3_readOne 143 = .ok (.invokevirtual 29, 3) := by decide +kernel
theorem dX3_readOne_146 : decode cX3_readOne 146 = .ok (.iconst 1, 1) := by decide +kernel
theorem dX3_readOne_147 : decode cX3_readOne 147 = .ok (.ireturn, 1) := by decide +kernel
theorem dX3_emit_0 : decode cX3_emit 0 = .ok (.aload_n 0, 1) := by decide +kernel
theorem dX3_emit_1 : decode cX3_emit 1 = .ok (.getfield 19, 3) := by decide +kernel
theorem dX3_emit_4 : decode cX3_emit 4 = .ok (.ifnull 11, 3) := by decide +kernel
theorem dX3_emit_7 : decode cX3_emit 7 = .ok (.aload_n 0, 1) := by decide +kernel
theorem dX3_emit_8 : decode cX3_emit 8 = .ok (.getfield 19, 3) := by decide +kernel
theorem dX3_emit_11 : decode cX3_emit 11 = .ok (.iload_n 1, 1) := by decide +kernel
theorem dX3_emit_12 : decode cX3_emit 12 = .ok (.invokevirtual 70, 3) := by decide +kernel
theorem dX3_emit_15 : decode cX3_emit 15 = .ok (.return_, 1) := by decide +kernel
theorem dX3_byteAt_0 : decode cX3_byteAt 0 = .ok (.iload_n 1, 1) := by decide +kernel
theorem dX3_byteAt_1 : decode cX3_byteAt 1 = .ok (.ifCond .lt 29, 3) := by decide +kernel
theorem dX3_byteAt_4 : decode cX3_byteAt 4 = .ok (.iload_n 1, 1) := by decide +kernel
theorem dX3_byteAt_5 : decode cX3_byteAt 5 = .ok (.aload_n 0, 1) := by decide +kernel
theorem dX3_byteAt_6 : decode cX3_byteAt 6 = .ok (.getfield 15, 3) := by decide +kernel
theorem dX3_byteAt_9 : decode cX3_byteAt 9 = .ok (.if_icmp .ge 21, 3) := by decide +kernel
theorem dX3_byteAt_12 : decode cX3_byteAt 12 = .ok (.iload_n 1, 1) := by decide +kernel
theorem dX3_byteAt_13 : decode cX3_byteAt 13 = .ok (.aload_n 0, 1) := by decide +kernel
theorem dX3_byteAt_14 : decode cX3_byteAt 14 = .ok (.getfield 9, 3) := by decide +kernel
theorem dX3_byteAt_17 : decode cX3_byteAt 17 = .ok (.arraylength, 1) := by decide +kernel
theorem dX3_byteAt_18 : decode cX3_byteAt 18 = .ok (.if_icmp .ge 12, 3) := by decide +kernel
theorem dX3_byteAt_21 : decode cX3_byteAt 21 = .ok (.aload_n 0, 1) := by decide +kernel
theorem dX3_byteAt_22 : decode cX3_byteAt 22 = .ok (.getfield 9, 3) := by decide +kernel
theorem dX3_byteAt_25 : decode cX3_byteAt 25 = .ok (.iload_n 1, 1) := by decide +kernel
theorem dX3_byteAt_26 : decode cX3_byteAt 26 = .ok (.iaload, 1) := by decide +kernel
theorem dX3_byteAt_27 : decode cX3_byteAt 27 = .ok (.goto 4, 3) := by decide +kernel
theorem dX3_byteAt_30 : decode cX3_byteAt 30 = .ok (.iconst (-1), 1) := by decide +kernel
theorem dX3_byteAt_31 : decode cX3_byteAt 31 = .ok (.ireturn, 1) := by decide +kernel
theorem dX3_step_0 : decode cX3_step 0 = .ok (.iconst 0, 1) := by decide +kernel
theorem dX3_step_1 : decode cX3_step 1 = .ok (.istore_n 1, 1) := by decide +kernel
theorem dX3_step_2 : decode cX3_step 2 = .ok (.iload_n 1, 1) := by decide +kernel
theorem dX3_step_3 : decode cX3_step 3 = .ok (.sipush 160, 3) := by decide +kernel
theorem dX3_step_6 : decode cX3_step 6 = .ok (.if_icmp .ge 33, 3) := by decide +kernel
theorem dX3_step_9 : decode cX3_step 9 = .ok (.aload_n 0, 1) := by decide +kernel
theorem dX3_step_10 : decode cX3_step 10 = .ok (.aload_n 0, 1) := by decide +kernel
theorem dX3_step_11 : decode cX3_step 11 = .ok (.getfield 26, 3) := by decide +kernel
theorem dX3_step_14 : decode cX3_step 14 = .ok (.invokevirtual 73, 3) := by decide +kernel
theorem dX3_step_17 : decode cX3_step 17 = .ok (.invokestatic 77, 3) := by decide +kernel
theorem dX3_step_20 : decode cX3_step 20 = .ok (.ifCond .eq 19, 3) := by decide +kernel
theorem dX3_step_23 : decode cX3_step 23 = .ok (.aload_n 0, 1) := by decide +kernel
theorem dX3_step_24 : decode cX3_step 24 = .ok (.dup, 1) := by decide +kernel
theorem dX3_step_25 : decode cX3_step 25 = .ok (.getfield 26, 3) := by decide +kernel
theorem dX3_step_28 : decode cX3_step 28 = .ok (.iconst 1, 1) := by decide +kernel
theorem dX3_step_29 : decode cX3_step 29 = .ok (.iadd, 1) := by decide +kernel
theorem dX3_step_30 : decode cX3_step 30 = .ok (.putfield 26, 3) := by decide +kernel
theorem dX3_step_33 : decode cX3_step 33 = .ok (.iinc 1 1, 3) := by decide +kernel
theorem dX3_step_36 : decode cX3_step 36 = .ok (.goto (-34), 3) := by decide +kernel
theorem dX3_step_39 : decode cX3_step 39 = .ok (.aload_n 0, 1) := by decide +kernel
theorem dX3_step_40 : decode cX3_step 40 = .ok (.aload_n 0, 1) := by decide +kernel
theorem dX3_step_41 : decode cX3_step 41 = .ok (.getfield 26, 3) := by decide +kernel
theorem dX3_step_44 : decode cX3_step 44 = .ok (.putfield 35, 3) := by decide +kernel
theorem dX3_step_47 : decode cX3_step 47 = .ok (.aload_n 0, 1) := by decide +kernel
theorem dX3_step_48 : decode cX3_step 48 = .ok (.aload_n 0, 1) := by decide +kernel
theorem dX3_step_49 : decode cX3_step 49 = .ok (.getfield 26, 3) := by decide +kernel
theorem dX3_step_52 : decode cX3_step 52 = .ok (.invokevirtual 73, 3) := by decide +kernel
theorem dX3_step_55 : decode cX3_step 55 = .ok (.istore_n 1, 1) := by decide +kernel
theorem dX3_step_56 : decode cX3_step 56 = .ok (.iload_n 1, 1) := by decide +kernel
theorem dX3_step_57 : decode cX3_step 57 = .ok (.ifCond .ge 11, 3) := by decide +kernel
theorem dX3_step_60 : decode cX3_step 60 = .ok (.aload_n 0, 1) := by decide +kernel
theorem dX3_step_61 : decode cX3_step 61 = .ok (.iconst 0, 1) := by decide +kernel
theorem dX3_step_62 : decode cX3_step 62 = .ok (.putfield 32, 3) := by decide +kernel
theorem dX3_step_65 : decode cX3_step 65 = .ok (.goto 57, 3) := by decide +kernel
theorem dX3_step_68 : decode cX3_step 68 = .ok (.iload_n 1, 1) := by decide +kernel
theorem dX3_step_69 : decode cX3_step 69 = .ok (.invokestatic 80, 3) := by decide +kernel
theorem dX3_step_72 : decode cX3_step 72 = .ok (.ifCond .eq 10, 3) := by decide +kernel
theorem dX3_step_75 : decode cX3_step 75 = .ok (.aload_n 0, 1) := by decide +kernel
theorem dX3_step_76 : decode cX3_step 76 = .ok (.invokevirtual 83, 3) := by decide +kernel
theorem dX3_step_79 : decode cX3_step 79 = .ok (.goto 43, 3) := by decide +kernel
theorem dX3_step_82 : decode cX3_step 82 = .ok (.iload_n 1, 1) := by decide +kernel
theorem dX3_step_83 : decode cX3_step 83 = .ok (.invokestatic 86, 3) := by decide +kernel
theorem dX3_step_86 : decode cX3_step 86 = .ok (.ifCond .eq 10, 3) := by decide +kernel
theorem dX3_step_89 : decode cX3_step 89 = .ok (.aload_n 0, 1) := by decide +kernel
theorem dX3_step_90 : decode cX3_step 90 = .ok (.invokevirtual 89, 3) := by decide +kernel
theorem dX3_step_93 : decode cX3_step 93 = .ok (.goto 29, 3) := by decide +kernel
theorem dX3_step_96 : decode cX3_step 96 = .ok (.aload_n 0, 1) := by decide +kernel
theorem dX3_step_97 : decode cX3_step 97 = .ok (.iload_n 1, 1) := by decide +kernel
theorem dX3_step_98 : decode cX3_step 98 = .ok (.invokestatic 92, 3) := by decide +kernel
theorem dX3_step_101 : decode cX3_step 101 = .ok (.ifCond .eq 7, 3) := by decide +kernel
theorem dX3_step_104 : decode cX3_step 104 = .ok (.iload_n 1, 1) := by decide +kernel
theorem dX3_step_105 : decode cX3_step 105 = .ok (.goto 4, 3) := by decide +kernel
theorem dX3_step_108 : decode cX3_step 108 = .ok (.iconst 1, 1) := by decide +kernel
theorem dX3_step_109 : decode cX3_step 109 = .ok (.putfield 32, 3) := by decide +kernel
theorem dX3_step_112 : decode cX3_step 112 = .ok (.aload_n 0, 1) := by decide +kernel
theorem dX3_step_113 : decode cX3_step 113 = .ok (.dup, 1) := by decide +kernel
theorem dX3_step_114 : decode cX3_step 114 = .ok (.getfield 26, 3) := by decide +kernel
theorem dX3_step_117 : decode cX3_step 117 = .ok (.iconst 1, 1) := by decide +kernel
theorem dX3_step_118 : decode cX3_step 118 = .ok (.iadd, 1) := by decide +kernel
theorem dX3_step_119 : decode cX3_step 119 = .ok (.putfield 26, 3) := by decide +kernel
theorem dX3_step_122 : decode cX3_step 122 = .ok (.return_, 1) := by decide +kernel
theorem dX3_stepOverWord_0 : decode cX3_stepOverWord 0 = .ok (.iconst 0, 1) := by decide +kernel
theorem dX3_stepOverWord_1 : decode cX3_stepOverWord 1 = .ok (.istore_n 1, 1) := by decide +kernel
theorem dX3_stepOverWord_2 : decode cX3_stepOverWord 2 = .ok (.iload_n 1, 1) := by decide +kernel
theorem dX3_stepOverWord_3 : decode cX3_stepOverWord 3 = .ok (.sipush 160, 3) := by decide +kernel
theorem dX3_stepOverWord_6 : decode cX3_stepOverWord 6 = .ok (.if_icmp .ge 33, 3) := by decide +kernel
theorem dX3_stepOverWord_9 : decode cX3_stepOverWord 9 = .ok (.aload_n 0, 1) := by decide +kernel
theorem dX3_stepOverWord_10 : decode cX3_stepOverWord 10 = .ok (.aload_n 0, 1) := by decide +kernel
theorem dX3_stepOverWord_11 : decode cX3_stepOverWord 11 = .ok (.getfield 26, 3) := by decide +kernel
theorem dX3_stepOverWord_14 : decode cX3_stepOverWord 14 = .ok (.invokevirtual 73, 3) := by decide +kernel
theorem dX3_stepOverWord_17 : decode cX3_stepOverWord 17 = .ok (.invokestatic 80, 3) := by decide +kernel
theorem dX3_stepOverWord_20 : decode cX3_stepOverWord 20 = .ok (.ifCond .eq 19, 3) := by decide +kernel
theorem dX3_stepOverWord_23 : decode cX3_stepOverWord 23 = .ok (.aload_n 0, 1) := by decide +kernel
theorem dX3_stepOverWord_24 : decode cX3_stepOverWord 24 = .ok (.dup, 1) := by decide +kernel
theorem dX3_stepOverWord_25 : decode cX3_stepOverWord 25 = .ok (.getfield 26, 3) := by decide +kernel
theorem dX3_stepOverWord_28 : decode cX3_stepOverWord 28 = .ok (.iconst 1, 1) := by decide +kernel
theorem dX3_stepOverWord_29 : decode cX3_stepOverWord 29 = .ok (.iadd, 1) := by decide +kernel
theorem dX3_stepOverWord_30 : decode cX3_stepOverWord 30 = .ok (.putfield 26, 3) := by decide +kernel
theorem dX3_stepOverWord_33 : decode cX3_stepOverWord 33 = .ok (.iinc 1 1, 3) := by decide +kernel
theorem dX3_stepOverWord_36 : decode cX3_stepOverWord 36 = .ok (.goto (-34), 3) := by decide +kernel
theorem dX3_stepOverWord_39 : decode cX3_stepOverWord 39 = .ok (.aload_n 0, 1) := by decide +kernel
theorem dX3_stepOverWord_40 : decode cX3_stepOverWord 40 = .ok (.iconst 1, 1) := by decide +kernel
theorem dX3_stepOverWord_41 : decode cX3_stepOverWord 41 = .ok (.putfield 32, 3) := by decide +kernel
theorem dX3_stepOverWord_44 : decode cX3_stepOverWord 44 = .ok (.iconst 0, 1) := by decide +kernel
theorem dX3_stepOverWord_45 : decode cX3_stepOverWord 45 = .ok (.istore_n 1, 1) := by decide +kernel
theorem dX3_stepOverWord_46 : decode cX3_stepOverWord 46 = .ok (.iload_n 1, 1) := by decide +kernel
theorem dX3_stepOverWord_47 : decode cX3_stepOverWord 47 = .ok (.bipush 12, 2) := by decide +kernel
theorem dX3_stepOverWord_49 : decode cX3_stepOverWord 49 = .ok (.if_icmp .ge 29, 3) := by decide +kernel
theorem dX3_stepOverWord_52 : decode cX3_stepOverWord 52 = .ok (.aload_n 0, 1) := by decide +kernel
theorem dX3_stepOverWord_53 : decode cX3_stepOverWord 53 = .ok (.iload_n 1, 1) := by decide +kernel
theorem dX3_stepOverWord_54 : decode cX3_stepOverWord 54 = .ok (.invokestatic 95, 3) := by decide +kernel
theorem dX3_stepOverWord_57 : decode cX3_stepOverWord 57 = .ok (.invokevirtual 99, 3) := by decide +kernel
theorem dX3_stepOverWord_60 : decode cX3_stepOverWord 60 = .ok (.ifCond .eq 12, 3) := by decide +kernel
theorem dX3_stepOverWord_63 : decode cX3_stepOverWord 63 = .ok (.aload_n 0, 1) := by decide +kernel
theorem dX3_stepOverWord_64 : decode cX3_stepOverWord 64 = .ok (.sipush 300, 3) := by decide +kernel
theorem dX3_stepOverWord_67 : decode cX3_stepOverWord 67 = .ok (.iload_n 1, 1) := by decide +kernel
theorem dX3_stepOverWord_68 : decode cX3_stepOverWord 68 = .ok (.iadd, 1) := by decide +kernel
theorem dX3_stepOverWord_69 : decode cX3_stepOverWord 69 = .ok (.putfield 32, 3) := by decide +kernel
theorem dX3_stepOverWord_72 : decode cX3_stepOverWord 72 = .ok (.iinc 1 1, 3) := by decide +kernel
theorem dX3_stepOverWord_75 : decode cX3_stepOverWord 75 = .ok (.goto (-29), 3) := by decide +kernel
theorem dX3_stepOverWord_78 : decode cX3_stepOverWord 78 = .ok (.return_, 1) := by decide +kernel
theorem dX3_stepOverNumber_0 : decode cX3_stepOverNumber 0 = .ok (.aload_n 0, 1) := by decide +kernel
theorem dX3_stepOverNumber_1 : decode cX3_stepOverNumber 1 = .ok (.iconst 0, 1) := by decide +kernel
theorem dX3_stepOverNumber_2 : decode cX3_stepOverNumber 2 = .ok (.putfield 64, 3) := by decide +kernel
theorem dX3_stepOverNumber_5 : decode cX3_stepOverNumber 5 = .ok (.iconst 0, 1) := by decide +kernel
theorem dX3_stepOverNumber_6 : decode cX3_stepOverNumber 6 = .ok (.istore_n 1, 1) := by decide +kernel
theorem dX3_stepOverNumber_7 : decode cX3_stepOverNumber 7 = .ok (.iload_n 1, 1) := by decide +kernel
theorem dX3_stepOverNumber_8 : decode cX3_stepOverNumber 8 = .ok (.sipush 160, 3) := by decide +kernel
theorem dX3_stepOverNumber_11 : decode cX3_stepOverNumber 11 = .ok (.if_icmp .ge 56, 3) := by decide +kernel
theorem dX3_stepOverNumber_14 : decode cX3_stepOverNumber 14 = .ok (.aload_n 0, 1) := by decide +kernel
theorem dX3_stepOverNumber_15 : decode cX3_stepOverNumber 15 = .ok (.aload_n 0, 1) := by decide +kernel
theorem dX3_stepOverNumber_16 : decode cX3_stepOverNumber 16 = .ok (.getfield 26, 3) := by decide +kernel
theorem dX3_stepOverNumber_19 : decode cX3_stepOverNumber 19 = .ok (.invokevirtual 73, 3) := by decide +kernel
theorem dX3_stepOverNumber_22 : decode cX3_stepOverNumber 22 = .ok (.invokestatic 86, 3) := by decide +kernel
theorem dX3_stepOverNumber_25 : decode cX3_stepOverNumber 25 = .ok (.ifCond .eq 42, 3) := by decide +kernel
theorem dX3_stepOverNumber_28 : decode cX3_stepOverNumber 28 = .ok (.aload_n 0, 1) := by decide +kernel
theorem dX3_stepOverNumber_29 : decode cX3_stepOverNumber 29 = .ok (.aload_n 0, 1) := by decide +kernel
theorem dX3_stepOverNumber_30 : decode cX3_stepOverNumber 30 = .ok (.getfield 64, 3) := by decide +kernel
theorem dX3_stepOverNumber_33 : decode cX3_stepOverNumber 33 = .ok (.bipush 10, 2) := by decide +kernel
theorem dX3_stepOverNumber_35 : decode cX3_stepOverNumber 35 = .ok (.imul, 1) := by decide +kernel
theorem dX3_stepOverNumber_36 : decode cX3_stepOverNumber 36 = .ok (.aload_n 0, 1) := by decide +kernel
theorem dX3_stepOverNumber_37 : decode cX3_stepOverNumber 37 = .ok (.aload_n 0, 1) := by decide +kernel
theorem dX3_stepOverNumber_38 : decode cX3_stepOverNumber 38 = .ok (.getfield 26, 3) := by decide +kernel
theorem dX3_stepOverNumber_41 : decode cX3_stepOverNumber 41 = .ok (.invokevirtual 73, 3) := by decide +kernel
theorem dX3_stepOverNumber_44 : decode cX3_stepOverNumber 44 = .ok (.iadd, 1) := by decide +kernel
theorem dX3_stepOverNumber_45 : decode cX3_stepOverNumber 45 = .ok (.bipush 48, 2) := by decide +kernel
theorem dX3_stepOverNumber_47 : decode cX3_stepOverNumber 47 = .ok (.isub, 1) := by decide +kernel
theorem dX3_stepOverNumber_48 : decode cX3_stepOverNumber 48 = .ok (.putfield 64, 3) := by decide +kernel
theorem dX3_stepOverNumber_51 : decode cX3_stepOverNumber 51 = .ok (.aload_n 0, 1) := by decide +kernel
theorem dX3_stepOverNumber_52 : decode cX3_stepOverNumber 52 = .ok (.dup, 1) := by decide +kernel
theorem dX3_stepOverNumber_53 : decode cX3_stepOverNumber 53 = .ok (.getfield 26, 3) := by decide +kernel
theorem dX3_stepOverNumber_56 : decode cX3_stepOverNumber 56 = .ok (.iconst 1, 1) := by decide +kernel
theorem dX3_stepOverNumber_57 : decode cX3_stepOverNumber 57 = .ok (.iadd, 1) := by decide +kernel
theorem dX3_stepOverNumber_58 : decode cX3_stepOverNumber 58 = .ok (.putfield 26, 3) := by decide +kernel
theorem dX3_stepOverNumber_61 : decode cX3_stepOverNumber 61 = .ok (.iinc 1 1, 3) := by decide +kernel
theorem dX3_stepOverNumber_64 : decode cX3_stepOverNumber 64 = .ok (.goto (-57), 3) := by decide +kernel
theorem dX3_stepOverNumber_67 : decode cX3_stepOverNumber 67 = .ok (.aload_n 0, 1) := by decide +kernel
theorem dX3_stepOverNumber_68 : decode cX3_stepOverNumber 68 = .ok (.aload_n 0, 1) := by decide +kernel
theorem dX3_stepOverNumber_69 : decode cX3_stepOverNumber 69 = .ok (.getfield 26, 3) := by decide +kernel
theorem dX3_stepOverNumber_72 : decode cX3_stepOverNumber 72 = .ok (.aload_n 0, 1) := by decide +kernel
theorem dX3_stepOverNumber_73 : decode cX3_stepOverNumber 73 = .ok (.getfield 35, 3) := by decide +kernel
theorem dX3_stepOverNumber_76 : decode cX3_stepOverNumber 76 = .ok (.isub, 1) := by decide +kernel
theorem dX3_stepOverNumber_77 : decode cX3_stepOverNumber 77 = .ok (.iconst 4, 1) := by decide +kernel
theorem dX3_stepOverNumber_78 : decode cX3_stepOverNumber 78 = .ok (.if_icmp .le 7, 3) := by decide +kernel
theorem dX3_stepOverNumber_81 : decode cX3_stepOverNumber 81 = .ok (.iconst 1, 1) := by decide +kernel
theorem dX3_stepOverNumber_82 : decode cX3_stepOverNumber 82 = .ok (.goto 4, 3) := by decide +kernel
theorem dX3_stepOverNumber_85 : decode cX3_stepOverNumber 85 = .ok (.iconst 2, 1) := by decide +kernel
theorem dX3_stepOverNumber_86 : decode cX3_stepOverNumber 86 = .ok (.putfield 32, 3) := by decide +kernel
theorem dX3_stepOverNumber_89 : decode cX3_stepOverNumber 89 = .ok (.return_, 1) := by decide +kernel
theorem dX3_isSpelled_0 : decode cX3_isSpelled 0 = .ok (.aload_n 1, 1) := by decide +kernel
theorem dX3_isSpelled_1 : decode cX3_isSpelled 1 = .ok (.invokevirtual 103, 3) := by decide +kernel
theorem dX3_isSpelled_4 : decode cX3_isSpelled 4 = .ok (.aload_n 0, 1) := by decide +kernel
theorem dX3_isSpelled_5 : decode cX3_isSpelled 5 = .ok (.getfield 26, 3) := by decide +kernel
theorem dX3_isSpelled_8 : decode cX3_isSpelled 8 = .ok (.aload_n 0, 1) := by decide +kernel
theorem dX3_isSpelled_9 : decode cX3_isSpelled 9 = .ok (.getfield 35, 3) := by decide +kernel
theorem dX3_isSpelled_12 : decode cX3_isSpelled 12 = .ok (.isub, 1) := by decide +kernel
theorem dX3_isSpelled_13 : decode cX3_isSpelled 13 = .ok (.if_icmp .eq 5, 3) := by decide +kernel
theorem dX3_isSpelled_16 : decode cX3_isSpelled 16 = .ok (.iconst 0, 1) := by decide +kernel
theorem dX3_isSpelled_17 : decode cX3_isSpelled 17 = .ok (.ireturn, 1) := by decide +kernel
theorem dX3_isSpelled_18 : decode cX3_isSpelled 18 = .ok (.iconst 0, 1) := by decide +kernel
theorem dX3_isSpelled_19 : decode cX3_isSpelled 19 = .ok (.istore_n 2, 1) := by decide +kernel
theorem dX3_isSpelled_20 : decode cX3_isSpelled 20 = .ok (.iload_n 2, 1) := by decide +kernel
theorem dX3_isSpelled_21 : decode cX3_isSpelled 21 = .ok (.aload_n 1, 1) := by decide +kernel
theorem dX3_isSpelled_22 : decode cX3_isSpelled 22 = .ok (.invokevirtual 103, 3) := by decide +kernel
theorem dX3_isSpelled_25 : decode cX3_isSpelled 25 = .ok (.if_icmp .ge 29, 3) := by decide +kernel
theorem dX3_isSpelled_28 : decode cX3_isSpelled 28 = .ok (.aload_n 1, 1) := by decide +kernel
theorem dX3_isSpelled_29 : decode cX3_isSpelled 29 = .ok (.iload_n 2, 1) := by decide +kernel
theorem dX3_isSpelled_30 : decode cX3_isSpelled 30 = .ok (.invokevirtual 109, 3) := by decide +kernel
theorem dX3_isSpelled_33 : decode cX3_isSpelled 33 = .ok (.aload_n 0, 1) := by decide +kernel
theorem dX3_isSpelled_34 : decode cX3_isSpelled 34 = .ok (.aload_n 0, 1) := by decide +kernel
theorem dX3_isSpelled_35 : decode cX3_isSpelled 35 = .ok (.getfield 35, 3) := by decide +kernel
theorem dX3_isSpelled_38 : decode cX3_isSpelled 38 = .ok (.iload_n 2, 1) := by decide +kernel
theorem dX3_isSpelled_39 : decode cX3_isSpelled 39 = .ok (.iadd, 1) := by decide +kernel
theorem dX3_isSpelled_40 : decode cX3_isSpelled 40 = .ok (.invokevirtual 73, 3) := by decide +kernel
theorem dX3_isSpelled_43 : decode cX3_isSpelled 43 = .ok (.if_icmp .eq 5, 3) := by decide +kernel
theorem dX3_isSpelled_46 : decode cX3_isSpelled 46 = .ok (.iconst 0, 1) := by decide +kernel
theorem dX3_isSpelled_47 : decode cX3_isSpelled 47 = .ok (.ireturn, 1) := by decide +kernel
theorem dX3_isSpelled_48 : decode cX3_isSpelled 48 = .ok (.iinc 2 1, 3) := by decide +kernel
theorem dX3_isSpelled_51 : decode cX3_isSpelled 51 = .ok (.goto (-31), 3) := by decide +kernel
theorem dX3_isSpelled_54 : decode cX3_isSpelled 54 = .ok (.iconst 1, 1) := by decide +kernel
theorem dX3_isSpelled_55 : decode cX3_isSpelled 55 = .ok (.ireturn, 1) := by decide +kernel
theorem dX3_spelling_0 : decode cX3_spelling 0 = .ok (.iload_n 0, 1) := by decide +kernel
theorem dX3_spelling_1 : decode cX3_spelling 1 = .ok (.tableswitch 92 0 10 #[59, 62, 65, 68, 71, 74, 77, 80, 83, 86, 89], 59) := by decide +kernel
theorem dX3_spelling_60 : decode cX3_spelling 60 = .ok (.ldc 113, 2) := by decide +kernel
theorem dX3_spelling_62 : decode cX3_spelling 62 = .ok (.areturn, 1) := by decide +kernel
theorem dX3_spelling_63 : decode cX3_spelling 63 = .ok (.ldc 115, 2) := by decide +kernel
theorem dX3_spelling_65 : decode cX3_spelling 65 = .ok (.areturn, 1) := by decide +kernel
theorem dX3_spelling_66 : decode cX3_spelling 66 = .ok (.ldc 117, 2) := by decide +kernel
theorem dX3_spelling_68 : decode cX3_spelling 68 = .ok (.areturn, 1) := by decide +kernel
theorem dX3_spelling_69 : decode cX3_spelling 69 = .ok (.ldc 119, 2) := by decide +kernel
theorem dX3_spelling_71 : decode cX3_spelling 71 = .ok (.areturn, 1) := by decide +kernel
theorem dX3_spelling_72 : decode cX3_spelling 72 = .ok (.ldc 121, 2) := by decide +kernel
theorem dX3_spelling_74 : decode cX3_spelling 74 = .ok (.areturn, 1) := by decide +kernel
theorem dX3_spelling_75 : decode cX3_spelling 75 = .ok (.ldc 123, 2) := by decide +kernel
theorem dX3_spelling_77 : decode cX3_spelling 77 = .ok (.areturn, 1) := by decide +kernel
theorem dX3_spelling_78 : decode cX3_spelling 78 = .ok (.ldc 125, 2) := by decide +kernel
theorem dX3_spelling_80 : decode cX3_spelling 80 = .ok (.areturn, 1) := by decide +kernel
theorem dX3_spelling_81 : decode cX3_spelling 81 = .ok (.ldc 127, 2) := by decide +kernel
theorem dX3_spelling_83 : decode cX3_spelling 83 = .ok (.areturn, 1) := by decide +kernel
theorem dX3_spelling_84 : decode cX3_spelling 84 = .ok (.ldc 129, 2) := by decide +kernel
theorem dX3_spelling_86 : decode cX3_spelling 86 = .ok (.areturn, 1) := by decide +kernel
theorem dX3_spelling_87 : decode cX3_spelling 87 = .ok (.ldc 131, 2) := by decide +kernel
theorem dX3_spelling_89 : decode cX3_spelling 89 = .ok (.areturn, 1) := by decide +kernel
theorem dX3_spelling_90 : decode cX3_spelling 90 = .ok (.ldc 133, 2) := by decide +kernel
theorem dX3_spelling_92 : decode cX3_spelling 92 = .ok (.areturn, 1) := by decide +kernel
theorem dX3_spelling_93 : decode cX3_spelling 93 = .ok (.ldc 135, 2) := by decide +kernel
theorem dX3_spelling_95 : decode cX3_spelling 95 = .ok (.areturn, 1) := by decide +kernel
theorem dX3_isBlank_0 : decode cX3_isBlank 0 = .ok (.iload_n 0, 1) := by decide +kernel
theorem dX3_isBlank_1 : decode cX3_isBlank 1 = .ok (.bipush 32, 2) := by decide +kernel
theorem dX3_isBlank_3 : decode cX3_isBlank 3 = .ok (.if_icmp .eq 9, 3) := by decide +kernel
theorem dX3_isBlank_6 : decode cX3_isBlank 6 = .ok (.iload_n 0, 1) := by decide +kernel
theorem dX3_isBlank_7 : decode cX3_isBlank 7 = .ok (.bipush 10, 2) := by decide +kernel
theorem dX3_isBlank_9 : decode cX3_isBlank 9 = .ok (.if_icmp .ne 7, 3) := by decide +kernel
theorem dX3_isBlank_12 : decode cX3_isBlank 12 = .ok (.iconst 1, 1) := by decide +kernel
theorem dX3_isBlank_13 : decode cX3_isBlank 13 = .ok (.goto 4, 3) := by decide +kernel
theorem dX3_isBlank_16 : decode cX3_isBlank 16 = .ok (.iconst 0, 1) := by decide +kernel
theorem dX3_isBlank_17 : decode cX3_isBlank 17 = .ok (.ireturn, 1) := by decide +kernel
theorem dX3_isLetter_0 : decode cX3_isLetter 0 = .ok (.iload_n 0, 1) := by decide +kernel
theorem dX3_isLetter_1 : decode cX3_isLetter 1 = .ok (.bipush 97, 2) := by decide +kernel
theorem dX3_isLetter_3 : decode cX3_isLetter 3 = .ok (.if_icmp .lt 13, 3) := by decide +kernel
theorem dX3_isLetter_6 : decode cX3_isLetter 6 = .ok (.iload_n 0, 1) := by decide +kernel
theorem dX3_isLetter_7 : decode cX3_isLetter 7 = .ok (.bipush 122, 2) := by decide +kernel
theorem dX3_isLetter_9 : decode cX3_isLetter 9 = .ok (.if_icmp .gt 7, 3) := by decide +kernel
theorem dX3_isLetter_12 : decode cX3_isLetter 12 = .ok (.iconst 1, 1) := by decide +kernel
theorem dX3_isLetter_13 : decode cX3_isLetter 13 = .ok (.goto 4, 3) := by decide +kernel
theorem dX3_isLetter_16 : decode cX3_isLetter 16 = .ok (.iconst 0, 1) := by decide +kernel
theorem dX3_isLetter_17 : decode cX3_isLetter 17 = .ok (.ireturn, 1) := by decide +kernel
theorem dX3_isDigit_0 : decode cX3_isDigit 0 = .ok (.iload_n 0, 1) := by decide +kernel
theorem dX3_isDigit_1 : decode cX3_isDigit 1 = .ok (.bipush 48, 2) := by decide +kernel
theorem dX3_isDigit_3 : decode cX3_isDigit 3 = .ok (.if_icmp .lt 13, 3) := by decide +kernel
theorem dX3_isDigit_6 : decode cX3_isDigit 6 = .ok (.iload_n 0, 1) := by decide +kernel
theorem dX3_isDigit_7 : decode cX3_isDigit 7 = .ok (.bipush 57, 2) := by decide +kernel
theorem dX3_isDigit_9 : decode cX3_isDigit 9 = .ok (.if_icmp .gt 7, 3) := by decide +kernel
theorem dX3_isDigit_12 : decode cX3_isDigit 12 = .ok (.iconst 1, 1) := by decide +kernel
theorem dX3_isDigit_13 : decode cX3_isDigit 13 = .ok (.goto 4, 3) := by decide +kernel
theorem dX3_isDigit_16 : decode cX3_isDigit 16 = .ok (.iconst 0, 1) := by decide +kernel
theorem dX3_isDigit_17 : decode cX3_isDigit 17 = .ok (.ireturn, 1) := by decide +kernel
theorem dX3_isSign_0 : decode cX3_isSign 0 = .ok (.iload_n 0, 1) := by decide +kernel
theorem dX3_isSign_1 : decode cX3_isSign 1 = .ok (.bipush 40, 2) := by decide +kernel
theorem dX3_isSign_3 : decode cX3_isSign 3 = .ok (.if_icmp .eq 45, 3) := by decide +kernel
theorem dX3_isSign_6 : decode cX3_isSign 6 = .ok (.iload_n 0, 1) := by decide +kernel
theorem dX3_isSign_7 : decode cX3_isSign 7 = .ok (.bipush 41, 2) := by decide +kernel
theorem dX3_isSign_9 : decode cX3_isSign 9 = .ok (.if_icmp .eq 39, 3) := by decide +kernel
theorem dX3_isSign_12 : decode cX3_isSign 12 = .ok (.iload_n 0, 1) := by decide +kernel
theorem dX3_isSign_13 : decode cX3_isSign 13 = .ok (.bipush 59, 2) := by decide +kernel
theorem dX3_isSign_15 : decode cX3_isSign 15 = .ok (.if_icmp .eq 33, 3) := by decide +kernel
theorem dX3_isSign_18 : decode cX3_isSign 18 = .ok (.iload_n 0, 1) := by decide +kernel
theorem dX3_isSign_19 : decode cX3_isSign 19 = .ok (.bipush 43, 2) := by decide +kernel
theorem dX3_isSign_21 : decode cX3_isSign 21 = .ok (.if_icmp .eq 27, 3) := by decide +kernel
theorem dX3_isSign_24 : decode cX3_isSign 24 = .ok (.iload_n 0, 1) := by decide +kernel
theorem dX3_isSign_25 : decode cX3_isSign 25 = .ok (.bipush 45, 2) := by decide +kernel
theorem dX3_isSign_27 : decode cX3_isSign 27 = .ok (.if_icmp .eq 21, 3) := by decide +kernel
theorem dX3_isSign_30 : decode cX3_isSign 30 = .ok (.iload_n 0, 1) := by decide +kernel
theorem dX3_isSign_31 : decode cX3_isSign 31 = .ok (.bipush 42, 2) := by decide +kernel
theorem dX3_isSign_33 : decode cX3_isSign 33 = .ok (.if_icmp .eq 15, 3) := by decide +kernel
theorem dX3_isSign_36 : decode cX3_isSign 36 = .ok (.iload_n 0, 1) := by decide +kernel
theorem dX3_isSign_37 : decode cX3_isSign 37 = .ok (.bipush 60, 2) := by decide +kernel
theorem dX3_isSign_39 : decode cX3_isSign 39 = .ok (.if_icmp .eq 9, 3) := by decide +kernel
theorem dX3_isSign_42 : decode cX3_isSign 42 = .ok (.iload_n 0, 1) := by decide +kernel
theorem dX3_isSign_43 : decode cX3_isSign 43 = .ok (.bipush 61, 2) := by decide +kernel
theorem dX3_isSign_45 : decode cX3_isSign 45 = .ok (.if_icmp .ne 7, 3) := by decide +kernel
theorem dX3_isSign_48 : decode cX3_isSign 48 = .ok (.iconst 1, 1) := by decide +kernel
theorem dX3_isSign_49 : decode cX3_isSign 49 = .ok (.goto 4, 3) := by decide +kernel
theorem dX3_isSign_52 : decode cX3_isSign 52 = .ok (.iconst 0, 1) := by decide +kernel
theorem dX3_isSign_53 : decode cX3_isSign 53 = .ok (.ireturn, 1) := by decide +kernel
theorem dX4_init_0 : decode cX4_init 0 = .ok (.aload_n 0, 1) := by decide +kernel
theorem dX4_init_1 : decode cX4_init 1 = .ok (.invokespecial 3, 3) := by decide +kernel
theorem dX4_init_4 : decode cX4_init 4 = .ok (.aload_n 0, 1) := by decide +kernel
theorem dX4_init_5 : decode cX4_init 5 = .ok (.sipush 160, 3) := by decide +kernel
theorem dX4_init_8 : decode cX4_init 8 = .ok (.newarray .int, 2) := by decide +kernel
theorem dX4_init_10 : decode cX4_init 10 = .ok (.putfield 9, 3) := by decide +kernel
theorem dX4_init_13 : decode cX4_init 13 = .ok (.aload_n 0, 1) := by decide +kernel
theorem dX4_init_14 : decode cX4_init 14 = .ok (.iconst 3, 1) := by decide +kernel
theorem dX4_init_15 : decode cX4_init 15 = .ok (.newarray .int, 2) := by decide +kernel
theorem dX4_init_17 : decode cX4_init 17 = .ok (.putfield 15, 3) := by decide +kernel
theorem dX4_init_20 : decode cX4_init 20 = .ok (.aload_n 0, 1) := by decide +kernel
theorem dX4_init_21 : decode cX4_init 21 = .ok (.aload_n 1, 1) := by decide +kernel
theorem dX4_init_22 : decode cX4_init 22 = .ok (.putfield 18, 3) := by decide +kernel
theorem dX4_init_25 : decode cX4_init 25 = .ok (.return_, 1) := by decide +kernel
theorem dX4_becomeConstant_0 : decode cX4_becomeConstant 0 = .ok (.aload_n 0, 1) := by decide +kernel
theorem dX4_becomeConstant_1 : decode cX4_becomeConstant 1 = .ok (.iconst 0, 1) := by decide +kernel
theorem dX4_becomeConstant_2 : decode cX4_becomeConstant 2 = .ok (.putfield 21, 3) := by decide +kernel
theorem dX4_becomeConstant_5 : decode cX4_becomeConstant 5 = .ok (.aload_n 0, 1) := by decide +kernel
theorem dX4_becomeConstant_6 : decode cX4_becomeConstant 6 = .ok (.iload_n 1, 1) := by decide +kernel
theorem dX4_becomeConstant_7 : decode cX4_becomeConstant 7 = .ok (.invokevirtual 25, 3) := by decide +kernel
theorem dX4_becomeConstant_10 : decode cX4_becomeConstant 10 = .ok (.aload_n 0, 1) := by decide +kernel
theorem dX4_becomeConstant_11 : decode cX4_becomeConstant 11 = .ok (.iconst 0, 1) := by decide +kernel
theorem dX4_becomeConstant_12 : decode cX4_becomeConstant 12 = .ok (.invokevirtual 29, 3) := by decide +kernel
theorem dX4_becomeConstant_15 : decode cX4_becomeConstant 15 = .ok (.aload_n 0, 1) := by decide +kernel
theorem dX4_becomeConstant_16 : decode cX4_becomeConstant 16 = .ok (.iload_n 2, 1) := by decide +kernel
theorem dX4_becomeConstant_17 : decode cX4_becomeConstant 17 = .ok (.invokevirtual 25, 3) := by decide +kernel
theorem dX4_becomeConstant_20 : decode cX4_becomeConstant 20 = .ok (.aload_n 0, 1) := by decide +kernel
theorem dX4_becomeConstant_21 : decode cX4_becomeConstant 21 = .ok (.iconst 1, 1) := by decide +kernel
theorem dX4_becomeConstant_22 : decode cX4_becomeConstant 22 = .ok (.invokevirtual 29, 3) := by decide +kernel
theorem dX4_becomeConstant_25 : decode cX4_becomeConstant 25 = .ok (.aload_n 0, 1) := by decide +kernel
theorem dX4_becomeConstant_26 : decode cX4_becomeConstant 26 = .ok (.iload_n 3, 1) := by decide +kernel
theorem dX4_becomeConstant_27 : decode cX4_becomeConstant 27 = .ok (.invokevirtual 25, 3) := by decide +kernel
theorem dX4_becomeConstant_30 : decode cX4_becomeConstant 30 = .ok (.aload_n 0, 1) := by decide +kernel
theorem dX4_becomeConstant_31 : decode cX4_becomeConstant 31 = .ok (.iconst 2, 1) := by decide +kernel
theorem dX4_becomeConstant_32 : decode cX4_becomeConstant 32 = .ok (.invokevirtual 29, 3) := by decide +kernel
theorem dX4_becomeConstant_35 : decode cX4_becomeConstant 35 = .ok (.return_, 1) := by decide +kernel
theorem dX4_put_0 : decode cX4_put 0 = .ok (.aload_n 0, 1) := by decide +kernel
theorem dX4_put_1 : decode cX4_put 1 = .ok (.getfield 21, 3) := by decide +kernel
theorem dX4_put_4 : decode cX4_put 4 = .ok (.ifCond .lt 35, 3) := by decide +kernel
theorem dX4_put_7 : decode cX4_put 7 = .ok (.aload_n 0, 1) := by decide +kernel
theorem dX4_put_8 : decode cX4_put 8 = .ok (.getfield 21, 3) := by decide +kernel
theorem dX4_put_11 : decode cX4_put 11 = .ok (.aload_n 0, 1) := by decide +kernel
theorem dX4_put_12 : decode cX4_put 12 = .ok (.getfield 9, 3) := by decide +kernel
theorem dX4_put_15 : decode cX4_put 15 = .ok (.arraylength, 1) := by decide +kernel
theorem dX4_put_16 : decode cX4_put 16 = .ok (.if_icmp .ge 23, 3) := by decide +kernel
theorem dX4_put_19 : decode cX4_put 19 = .ok (.aload_n 0, 1) := by decide +kernel
theorem dX4_put_20 : decode cX4_put 20 = .ok (.getfield 9, 3) := by decide +kernel
theorem dX4_put_23 : decode cX4_put 23 = .ok (.aload_n 0, 1) := by decide +kernel
theorem dX4_put_24 : decode cX4_put 24 = .ok (.getfield 21, 3) := by decide +kernel
theorem dX4_put_27 : decode cX4_put 27 = .ok (.iload_n 1, 1) := by decide +kernel
theorem dX4_put_28 : decode cX4_put 28 = .ok (.iastore, 1) := by decide +kernel
theorem dX4_put_29 : decode cX4_put 29 = .ok (.aload_n 0, 1) := by decide +kernel
theorem dX4_put_30 : decode cX4_put 30 = .ok (.dup, 1) := by decide +kernel
theorem dX4_put_31 : decode cX4_put 31 = .ok (.getfield 21, 3) := by decide +kernel
theorem dX4_put_34 : decode cX4_put 34 = .ok (.iconst 1, 1) := by decide +kernel
theorem dX4_put_35 : decode cX4_put 35 = .ok (.iadd, 1) := by decide +kernel
theorem dX4_put_36 : decode cX4_put 36 = .ok (.putfield 21, 3) := by decide +kernel
theorem dX4_put_39 : decode cX4_put 39 = .ok (.return_, 1) := by decide +kernel
theorem dX4_endPart_0 : decode cX4_endPart 0 = .ok (.iload_n 1, 1) := by decide +kernel
theorem dX4_endPart_1 : decode cX4_endPart 1 = .ok (.ifCond .lt 18, 3) := by decide +kernel
theorem dX4_endPart_4 : decode cX4_endPart 4 = .ok (.iload_n 1, 1) := by decide +kernel
theorem dX4_endPart_5 : decode cX4_endPart 5 = .ok (.iconst 3, 1) := by decide +kernel
theorem dX4_endPart_6 : decode cX4_endPart 6 = .ok (.if_icmp .ge 13, 3) := by decide +kernel
theorem dX4_endPart_9 : decode cX4_endPart 9 = .ok (.aload_n 0, 1) := by decide +kernel
theorem dX4_endPart_10 : decode cX4_endPart 10 = .ok (.getfield 15, 3) := by decide +kernel
theorem dX4_endPart_13 : decode cX4_endPart 13 = .ok (.iload_n 1, 1) := by decide +kernel
theorem dX4_endPart_14 : decode cX4_endPart 14 = .ok (.aload_n 0, 1) := by decide +kernel
theorem dX4_endPart_15 : decode cX4_endPart 15 = .ok (.getfield 21, 3) := by decide +kernel
theorem dX4_endPart_18 : decode cX4_endPart 18 = .ok (.iastore, 1) := by decide +kernel
theorem dX4_endPart_19 : decode cX4_endPart 19 = .ok (.return_, 1) := by decide +kernel
theorem dX4_reckon_0 : decode cX4_reckon 0 = .ok (.iload_n 1, 1) := by decide +kernel
theorem dX4_reckon_1 : decode cX4_reckon 1 = .ok (.ifCond .lt 8, 3) := by decide +kernel
theorem dX4_reckon_4 : decode cX4_reckon 4 = .ok (.iload_n 1, 1) := by decide +kernel
theorem dX4_reckon_5 : decode cX4_reckon 5 = .ok (.iconst 3, 1) := by decide +kernel
theorem dX4_reckon_6 : decode cX4_reckon 6 = .ok (.if_icmp .lt 5, 3) := by decide +kernel
theorem dX4_reckon_9 : decode cX4_reckon 9 = .ok (.iconst 0, 1) := by decide +kernel
theorem dX4_reckon_10 : decode cX4_reckon 10 = .ok (.ireturn, 1) := by decide +kernel
theorem dX4_reckon_11 : decode cX4_reckon 11 = .ok (.iload_n 1, 1) := by decide +kernel
theorem dX4_reckon_12 : decode cX4_reckon 12 = .ok (.ifCond .ne 7, 3) := by decide +kernel
theorem dX4_reckon_15 : decode cX4_reckon 15 = .ok (.iconst 0, 1) := by decide +kernel
theorem dX4_reckon_16 : decode cX4_reckon 16 = .ok (.goto 11, 3) := by decide +kernel
theorem dX4_reckon_19 : decode cX4_reckon 19 = .ok (.aload_n 0, 1) := by decide +kernel
theorem dX4_reckon_20 : decode cX4_reckon 20 = .ok (.getfield 15, 3) := by decide +kernel
theorem dX4_reckon_23 : decode cX4_reckon 23 = .ok (.iload_n 1, 1) := by decide +kernel
theorem dX4_reckon_24 : decode cX4_reckon 24 = .ok (.iconst 1, 1) := by decide +kernel
theorem dX4_reckon_25 : decode cX4_reckon 25 = .ok (.isub, 1) := by decide +kernel
theorem dX4_reckon_26 : decode cX4_reckon 26 = .ok (.iaload, 1) := by decide +kernel
theorem dX4_reckon_27 : decode cX4_reckon 27 = .ok (.istore_n 3, 1) := by decide +kernel
theorem dX4_reckon_28 : decode cX4_reckon 28 = .ok (.iconst 0, 1) := by decide +kernel
theorem dX4_reckon_29 : decode cX4_reckon 29 = .ok (.istore 4, 2) := by decide +kernel
theorem dX4_reckon_31 : decode cX4_reckon 31 = .ok (.iload_n 3, 1) := by decide +kernel
theorem dX4_reckon_32 : decode cX4_reckon 32 = .ok (.istore 5, 2) := by decide +kernel
theorem dX4_reckon_34 : decode cX4_reckon 34 = .ok (.iload 5, 2) := by decide +kernel
theorem dX4_reckon_36 : decode cX4_reckon 36 = .ok (.ifCond .lt 182, 3) := by decide +kernel
theorem dX4_reckon_39 : decode cX4_reckon 39 = .ok (.iload 5, 2) := by decide +kernel
theorem dX4_reckon_41 : decode cX4_reckon 41 = .ok (.aload_n 0, 1) := by decide +kernel
theorem dX4_reckon_42 : decode cX4_reckon 42 = .ok (.getfield 15, 3) := by decide +kernel
theorem dX4_reckon_45 : decode cX4_reckon 45 = .ok (.iload_n 1, 1) := by decide +kernel
theorem dX4_reckon_46 : decode cX4_reckon 46 = .ok (.iaload, 1) := by decide +kernel
theorem dX4_reckon_47 : decode cX4_reckon 47 = .ok (.if_icmp .ge 171, 3) := by decide +kernel
theorem dX4_reckon_50 : decode cX4_reckon 50 = .ok (.iload 5, 2) := by decide +kernel
theorem dX4_reckon_52 : decode cX4_reckon 52 = .ok (.aload_n 0, 1) := by decide +kernel
theorem dX4_reckon_53 : decode cX4_reckon 53 = .ok (.getfield 9, 3) := by decide +kernel
theorem dX4_reckon_56 : decode cX4_reckon 56 = .ok (.arraylength, 1) := by decide +kernel
theorem dX4_reckon_57 : decode cX4_reckon 57 = .ok (.if_icmp .ge 161, 3) := by decide +kernel
theorem dX4_reckon_60 : decode cX4_reckon 60 = .ok (.aload_n 0, 1) := by decide +kernel
theorem dX4_reckon_61 : decode cX4_reckon 61 = .ok (.getfield 9, 3) := by decide +kernel
theorem dX4_reckon_64 : decode cX4_reckon 64 = .ok (.iload 5, 2) := by decide +kernel
theorem dX4_reckon_66 : decode cX4_reckon 66 = .ok (.iaload, 1) := by decide +kernel
theorem dX4_reckon_67 : decode cX4_reckon 67 = .ok (.istore 6, 2) := by decide +kernel
theorem dX4_reckon_69 : decode cX4_reckon 69 = .ok (.iload 6, 2) := by decide +kernel
theorem dX4_reckon_71 : decode cX4_reckon 71 = .ok (.sipush 20000, 3) := by decide +kernel
theorem dX4_reckon_74 : decode cX4_reckon 74 = .ok (.if_icmp .ge 34, 3) := by decide +kernel
theorem dX4_reckon_77 : decode cX4_reckon 77 = .ok (.iload 4, 2) := by decide +kernel
theorem dX4_reckon_79 : decode cX4_reckon 79 = .ok (.aload_n 0, 1) := by decide +kernel
theorem dX4_reckon_80 : decode cX4_reckon 80 = .ok (.getfield 18, 3) := by decide +kernel
theorem dX4_reckon_83 : decode cX4_reckon 83 = .ok (.arraylength, 1) := by decide +kernel
theorem dX4_reckon_84 : decode cX4_reckon 84 = .ok (.if_icmp .lt 5, 3) := by decide +kernel
theorem dX4_reckon_87 : decode cX4_reckon 87 = .ok (.iconst 0, 1) := by decide +kernel
theorem dX4_reckon_88 : decode cX4_reckon 88 = .ok (.ireturn, 1) := by decide +kernel
theorem dX4_reckon_89 : decode cX4_reckon 89 = .ok (.aload_n 0, 1) := by decide +kernel
theorem dX4_reckon_90 : decode cX4_reckon 90 = .ok (.getfield 18, 3) := by decide +kernel
theorem dX4_reckon_93 : decode cX4_reckon 93 = .ok (.iload 4, 2) := by decide +kernel
theorem dX4_reckon_95 : decode cX4_reckon 95 = .ok (.iload 6, 2) := by decide +kernel
theorem dX4_reckon_97 : decode cX4_reckon 97 = .ok (.aload_n 2, 1) := by decide +kernel
theorem dX4_reckon_98 : decode cX4_reckon 98 = .ok (.invokestatic 32, 3) := by decide +kernel
theorem dX4_reckon_101 : decode cX4_reckon 101 = .ok (.iastore, 1) := by decide +kernel
theorem dX4_reckon_102 : decode cX4_reckon 102 = .ok (.iinc 4 1, 3) := by decide +kernel
theorem dX4_reckon_105 : decode cX4_reckon 105 = .ok (.goto 107, 3) := by decide +kernel
theorem dX4_reckon_108 : decode cX4_reckon 108 = .ok (.iload 6, 2) := by decide +kernel
theorem dX4_reckon_110 : decode cX4_reckon 110 = .ok (.sipush 20001, 3) := by decide +kernel
theorem dX4_reckon_113 : decode cX4_reckon 113 = .ok (.if_icmp .gt 58, 3) := by decide +kernel
theorem dX4_reckon_116 : decode cX4_reckon 116 = .ok (.iload 4, 2) := by decide +kernel
theorem dX4_reckon_118 : decode cX4_reckon 118 = .ok (.iconst 1, 1) := by decide +kernel
theorem dX4_reckon_119 : decode cX4_reckon 119 = .ok (.if_icmp .ge 5, 3) := by decide +kernel
theorem dX4_reckon_122 : decode cX4_reckon 122 = .ok (.iconst 0, 1) := by decide +kernel
theorem dX4_reckon_123 : decode cX4_reckon 123 = .ok (.ireturn, 1) := by decide +kernel
theorem dX4_reckon_124 : decode cX4_reckon 124 = .ok (.aload_n 0, 1) := by decide +kernel
theorem dX4_reckon_125 : decode cX4_reckon 125 = .ok (.getfield 18, 3) := by decide +kernel
theorem dX4_reckon_128 : decode cX4_reckon 128 = .ok (.iload 4, 2) := by decide +kernel
theorem dX4_reckon_130 : decode cX4_reckon 130 = .ok (.iconst 1, 1) := by decide +kernel
theorem dX4_reckon_131 : decode cX4_reckon 131 = .ok (.isub, 1) := by decide +kernel
theorem dX4_reckon_132 : decode cX4_reckon 132 = .ok (.iaload, 1) := by decide +kernel
theorem dX4_reckon_133 : decode cX4_reckon 133 = .ok (.istore 7, 2) := by decide +kernel
theorem dX4_reckon_135 : decode cX4_reckon 135 = .ok (.aload_n 0, 1) := by decide +kernel
theorem dX4_reckon_136 : decode cX4_reckon 136 = .ok (.getfield 18, 3) := by decide +kernel
theorem dX4_reckon_139 : decode cX4_reckon 139 = .ok (.iload 4, 2) := by decide +kernel
theorem dX4_reckon_141 : decode cX4_reckon 141 = .ok (.iconst 1, 1) := by decide +kernel
theorem dX4_reckon_142 : decode cX4_reckon 142 = .ok (.isub, 1) := by decide +kernel
theorem dX4_reckon_143 : decode cX4_reckon 143 = .ok (.iload 6, 2) := by decide +kernel
theorem dX4_reckon_145 : decode cX4_reckon 145 = .ok (.sipush 20000, 3) := by decide +kernel
theorem dX4_reckon_148 : decode cX4_reckon 148 = .ok (.if_icmp .ne 9, 3) := by decide +kernel
theorem dX4_reckon_151 : decode cX4_reckon 151 = .ok (.iload 7, 2) := by decide +kernel
theorem dX4_reckon_153 : decode cX4_reckon 153 = .ok (.ineg, 1) := by decide +kernel
theorem dX4_reckon_154 : decode cX4_reckon 154 = .ok (.goto 13, 3) := by decide +kernel
theorem dX4_reckon_157 : decode cX4_reckon 157 = .ok (.iload 7, 2) := by decide +kernel
theorem dX4_reckon_159 : decode cX4_reckon 159 = .ok (.ifCond .ne 7, 3) := by decide +kernel
theorem dX4_reckon_162 : decode cX4_reckon 162 = .ok (.iconst 1, 1) := by decide +kernel
theorem dX4_reckon_163 : decode cX4_reckon 163 = .ok (.goto 4, 3) := by decide +kernel
theorem dX4_reckon_166 : decode cX4_reckon 166 = .ok (.iconst 0, 1) := by decide +kernel
theorem dX4_reckon_167 : decode cX4_reckon 167 = .ok (.iastore, 1) := by decide +kernel
theorem dX4_reckon_168 : decode cX4_reckon 168 = .ok (.goto 44, 3) := by decide +kernel
theorem dX4_reckon_171 : decode cX4_reckon 171 = .ok (.iload 4, 2) := by decide +kernel
theorem dX4_reckon_173 : decode cX4_reckon 173 = .ok (.iconst 2, 1) := by decide +kernel
theorem dX4_reckon_174 : decode cX4_reckon 174 = .ok (.if_icmp .ge 5, 3) := by decide +kernel
theorem dX4_reckon_177 : decode cX4_reckon 177 = .ok (.iconst 0, 1) := by decide +kernel
theorem dX4_reckon_178 : decode cX4_reckon 178 = .ok (.ireturn, 1) := by decide +kernel
theorem dX4_reckon_179 : decode cX4_reckon 179 = .ok (.iinc 4 (-1), 3) := by decide +kernel
theorem dX4_reckon_182 : decode cX4_reckon 182 = .ok (.aload_n 0, 1) := by decide +kernel
theorem dX4_reckon_183 : decode cX4_reckon 183 = .ok (.getfield 18, 3) := by decide +kernel
theorem dX4_reckon_186 : decode cX4_reckon 186 = .ok (.iload 4, 2) := by decide +kernel
theorem dX4_reckon_188 : decode cX4_reckon 188 = .ok (.iconst 1, 1) := by decide +kernel
theorem dX4_reckon_189 : decode cX4_reckon 189 = .ok (.isub, 1) := by decide +kernel
theorem dX4_reckon_190 : decode cX4_reckon 190 = .ok (.iload 6, 2) := by decide +kernel
theorem dX4_reckon_192 : decode cX4_reckon 192 = .ok (.aload_n 0, 1) := by decide +kernel
theorem dX4_reckon_193 : decode cX4_reckon 193 = .ok (.getfield 18, 3) := by decide +kernel
theorem dX4_reckon_196 : decode cX4_reckon 196 = .ok (.iload 4, 2) := by decide +kernel
theorem dX4_reckon_198 : decode cX4_reckon 198 = .ok (.iconst 1, 1) := by decide +kernel
theorem dX4_reckon_199 : decode cX4_reckon 199 = .ok (.isub, 1) := by decide +kernel
theorem dX4_reckon_200 : decode cX4_reckon 200 = .ok (.iaload, 1) := by decide +kernel
theorem dX4_reckon_201 : decode cX4_reckon 201 = .ok (.aload_n 0, 1) := by decide +kernel
theorem dX4_reckon_202 : decode cX4_reckon 202 = .ok (.getfield 18, 3) := by decide +kernel
theorem dX4_reckon_205 : decode cX4_reckon 205 = .ok (.iload 4, 2) := by decide +kernel
theorem dX4_reckon_207 : decode cX4_reckon 207 = .ok (.iaload, 1) := by decide +kernel
theorem dX4_reckon_208 : decode cX4_reckon 208 = .ok (.invokestatic 36, 3) := by decide +kernel
theorem dX4_reckon_211 : decode cX4_reckon 211 = .ok (.iastore, 1) := by decide +kernel
theorem dX4_reckon_212 : decode cX4_reckon 212 = .ok (.iinc 5 1, 3) := by decide +kernel
theorem dX4_reckon_215 : decode cX4_reckon 215 = .ok (.goto (-181), 3) := by decide +kernel
theorem dX4_reckon_218 : decode cX4_reckon 218 = .ok (.iload 4, 2) := by decide +kernel
theorem dX4_reckon_220 : decode cX4_reckon 220 = .ok (.ifCond .le 12, 3) := by decide +kernel
theorem dX4_reckon_223 : decode cX4_reckon 223 = .ok (.aload_n 0, 1) := by decide +kernel
theorem dX4_reckon_224 : decode cX4_reckon 224 = .ok (.getfield 18, 3) := by decide +kernel
theorem dX4_reckon_227 : decode cX4_reckon 227 = .ok (.iconst 0, 1) := by decide +kernel
theorem dX4_reckon_228 : decode cX4_reckon 228 = .ok (.iaload, 1) := by decide +kernel
theorem dX4_reckon_229 : decode cX4_reckon 229 = .ok (.goto 4, 3) := by decide +kernel
theorem dX4_reckon_232 : decode cX4_reckon 232 = .ok (.iconst 0, 1) := by decide +kernel
theorem dX4_reckon_233 : decode cX4_reckon 233 = .ok (.ireturn, 1) := by decide +kernel
theorem dX4_operand_0 : decode cX4_operand 0 = .ok (.iload_n 0, 1) := by decide +kernel
theorem dX4_operand_1 : decode cX4_operand 1 = .ok (.sipush 10000, 3) := by decide +kernel
theorem dX4_operand_4 : decode cX4_operand 4 = .ok (.if_icmp .ge 5, 3) := by decide +kernel
theorem dX4_operand_7 : decode cX4_operand 7 = .ok (.iload_n 0, 1) := by decide +kernel
theorem dX4_operand_8 : decode cX4_operand 8 = .ok (.ireturn, 1) := by decide +kernel
theorem dX4_operand_9 : decode cX4_operand 9 = .ok (.iload_n 0, 1) := by decide +kernel
theorem dX4_operand_10 : decode cX4_operand 10 = .ok (.sipush 10000, 3) := by decide +kernel
theorem dX4_operand_13 : decode cX4_operand 13 = .ok (.isub, 1) := by decide +kernel
theorem dX4_operand_14 : decode cX4_operand 14 = .ok (.istore_n 2, 1) := by decide +kernel
theorem dX4_operand_15 : decode cX4_operand 15 = .ok (.iload_n 2, 1) := by decide +kernel
theorem dX4_operand_16 : decode cX4_operand 16 = .ok (.ifCond .lt 15, 3) := by decide +kernel
theorem dX4_operand_19 : decode cX4_operand 19 = .ok (.iload_n 2, 1) := by decide +kernel
theorem dX4_operand_20 : decode cX4_operand 20 = .ok (.aload_n 1, 1) := by decide +kernel
theorem dX4_operand_21 : decode cX4_operand 21 = .ok (.arraylength, 1) := by decide +kernel
theorem dX4_operand_22 : decode cX4_operand 22 = .ok (.if_icmp .ge 9, 3) := by decide +kernel
theorem dX4_operand_25 : decode cX4_operand 25 = .ok (.aload_n 1, 1) := by decide +kernel
theorem dX4_operand_26 : decode cX4_operand 26 = .ok (.iload_n 2, 1) := by decide +kernel
theorem dX4_operand_27 : decode cX4_operand 27 = .ok (.iaload, 1) := by decide +kernel
theorem dX4_operand_28 : decode cX4_operand 28 = .ok (.goto 4, 3) := by decide +kernel
theorem dX4_operand_31 : decode cX4_operand 31 = .ok (.iconst 0, 1) := by decide +kernel
theorem dX4_operand_32 : decode cX4_operand 32 = .ok (.ireturn, 1) := by decide +kernel
theorem dX4_ofTwo_0 : decode cX4_ofTwo 0 = .ok (.iload_n 0, 1) := by decide +kernel
theorem dX4_ofTwo_1 : decode cX4_ofTwo 1 = .ok (.tableswitch 87 20002 20007 #[39, 43, 47, 51, 62, 73], 39) := by decide +kernel
theorem dX4_ofTwo_40 : decode cX4_ofTwo 40 = .ok (.iload_n 1, 1) := by decide +kernel
theorem dX4_ofTwo_41 : decode cX4_ofTwo 41 = .ok (.iload_n 2, 1) := by decide +kernel
theorem dX4_ofTwo_42 : decode cX4_ofTwo 42 = .ok (.imul, 1) := by decide +kernel
theorem dX4_ofTwo_43 : decode cX4_ofTwo 43 = .ok (.ireturn, 1) := by decide +kernel
theorem dX4_ofTwo_44 : decode cX4_ofTwo 44 = .ok (.iload_n 1, 1) := by decide +kernel
theorem dX4_ofTwo_45 : decode cX4_ofTwo 45 = .ok (.iload_n 2, 1) := by decide +kernel
theorem dX4_ofTwo_46 : decode cX4_ofTwo 46 = .ok (.iadd, 1) := by decide +kernel
theorem dX4_ofTwo_47 : decode cX4_ofTwo 47 = .ok (.ireturn, 1) := by decide +kernel
theorem dX4_ofTwo_48 : decode cX4_ofTwo 48 = .ok (.iload_n 1, 1) := by decide +kernel
theorem dX4_ofTwo_49 : decode cX4_ofTwo 49 = .ok (.iload_n 2, 1) := by decide +kernel
theorem dX4_ofTwo_50 : decode cX4_ofTwo 50 = .ok (.isub, 1) := by decide +kernel
theorem dX4_ofTwo_51 : decode cX4_ofTwo 51 = .ok (.ireturn, 1) := by decide +kernel
theorem dX4_ofTwo_52 : decode cX4_ofTwo 52 = .ok (.iload_n 1, 1) := by decide +kernel
theorem dX4_ofTwo_53 : decode cX4_ofTwo 53 = .ok (.iload_n 2, 1) := by decide +kernel
theorem dX4_ofTwo_54 : decode cX4_ofTwo 54 = .ok (.if_icmp .ge 7, 3) := by decide +kernel
theorem dX4_ofTwo_57 : decode cX4_ofTwo 57 = .ok (.iconst 1, 1) := by decide +kernel
theorem dX4_ofTwo_58 : decode cX4_ofTwo 58 = .ok (.goto 4, 3) := by decide +kernel
theorem dX4_ofTwo_61 : decode cX4_ofTwo 61 = .ok (.iconst 0, 1) := by decide +kernel
theorem dX4_ofTwo_62 : decode cX4_ofTwo 62 = .ok (.ireturn, 1) := by decide +kernel
theorem dX4_ofTwo_63 : decode cX4_ofTwo 63 = .ok (.iload_n 1, 1) := by decide +kernel
theorem dX4_ofTwo_64 : decode cX4_ofTwo 64 = .ok (.iload_n 2, 1) := by decide +kernel
theorem dX4_ofTwo_65 : decode cX4_ofTwo 65 = .ok (.if_icmp .ne 7, 3) := by decide +kernel
theorem dX4_ofTwo_68 : decode cX4_ofTwo 68 = .ok (.iconst 1, 1) := by decide +kernel
theorem dX4_ofTwo_69 : decode cX4_ofTwo 69 = .ok (.goto 4, 3) := by decide +kernel
theorem dX4_ofTwo_72 : decode cX4_ofTwo 72 = .ok (.iconst 0, 1) := by decide +kernel
theorem dX4_ofTwo_73 : decode cX4_ofTwo 73 = .ok (.ireturn, 1) := by decide +kernel
theorem dX4_ofTwo_74 : decode cX4_ofTwo 74 = .ok (.iload_n 1, 1) := by decide +kernel
theorem dX4_ofTwo_75 : decode cX4_ofTwo 75 = .ok (.ifCond .eq 11, 3) := by decide +kernel
theorem dX4_ofTwo_78 : decode cX4_ofTwo 78 = .ok (.iload_n 2, 1) := by decide +kernel
theorem dX4_ofTwo_79 : decode cX4_ofTwo 79 = .ok (.ifCond .eq 7, 3) := by decide +kernel
theorem dX4_ofTwo_82 : decode cX4_ofTwo 82 = .ok (.iconst 1, 1) := by decide +kernel
theorem dX4_ofTwo_83 : decode cX4_ofTwo 83 = .ok (.goto 4, 3) := by decide +kernel
theorem dX4_ofTwo_86 : decode cX4_ofTwo 86 = .ok (.iconst 0, 1) := by decide +kernel
theorem dX4_ofTwo_87 : decode cX4_ofTwo 87 = .ok (.ireturn, 1) := by decide +kernel
theorem dX4_ofTwo_88 : decode cX4_ofTwo 88 = .ok (.iload_n 1, 1) := by decide +kernel
theorem dX4_ofTwo_89 : decode cX4_ofTwo 89 = .ok (.ifCond .ne 7, 3) := by decide +kernel
theorem dX4_ofTwo_92 : decode cX4_ofTwo 92 = .ok (.iload_n 2, 1) := by decide +kernel
theorem dX4_ofTwo_93 : decode cX4_ofTwo 93 = .ok (.ifCond .eq 7, 3) := by decide +kernel
theorem dX4_ofTwo_96 : decode cX4_ofTwo 96 = .ok (.iconst 1, 1) := by decide +kernel
theorem dX4_ofTwo_97 : decode cX4_ofTwo 97 = .ok (.goto 4, 3) := by decide +kernel
theorem dX4_ofTwo_100 : decode cX4_ofTwo 100 = .ok (.iconst 0, 1) := by decide +kernel
theorem dX4_ofTwo_101 : decode cX4_ofTwo 101 = .ok (.ireturn, 1) := by decide +kernel
theorem dX5_init_0 : decode cX5_init 0 = .ok (.aload_n 0, 1) := by decide +kernel
theorem dX5_init_1 : decode cX5_init 1 = .ok (.invokespecial 1, 3) := by decide +kernel
theorem dX5_init_4 : decode cX5_init 4 = .ok (.aload_n 0, 1) := by decide +kernel
theorem dX5_init_5 : decode cX5_init 5 = .ok (.bipush 7, 2) := by decide +kernel
theorem dX5_init_7 : decode cX5_init 7 = .ok (.newarray .int, 2) := by decide +kernel
theorem dX5_init_9 : decode cX5_init 9 = .ok (.putfield 9, 3) := by decide +kernel
theorem dX5_init_12 : decode cX5_init 12 = .ok (.aload_n 0, 1) := by decide +kernel
theorem dX5_init_13 : decode cX5_init 13 = .ok (.bipush 7, 2) := by decide +kernel
theorem dX5_init_15 : decode cX5_init 15 = .ok (.newarray .int, 2) := by decide +kernel
theorem dX5_init_17 : decode cX5_init 17 = .ok (.putfield 13, 3) := by decide +kernel
theorem dX5_init_20 : decode cX5_init 20 = .ok (.aload_n 0, 1) := by decide +kernel
theorem dX5_init_21 : decode cX5_init 21 = .ok (.bipush 7, 2) := by decide +kernel
theorem dX5_init_23 : decode cX5_init 23 = .ok (.bipush 7, 2) := by decide +kernel
theorem dX5_init_25 : decode cX5_init 25 = .ok (.multianewarray 16 2, 4) := by decide +kernel
theorem dX5_init_29 : decode cX5_init 29 = .ok (.putfield 18, 3) := by decide +kernel
theorem dX5_init_32 : decode cX5_init 32 = .ok (.aload_n 0, 1) := by decide +kernel
theorem dX5_init_33 : decode cX5_init 33 = .ok (.new 21, 3) := by decide +kernel
theorem dX5_init_36 : decode cX5_init 36 = .ok (.dup, 1) := by decide +kernel
theorem dX5_init_37 : decode cX5_init 37 = .ok (.invokespecial 23, 3) := by decide +kernel
theorem dX5_init_40 : decode cX5_init 40 = .ok (.putfield 24, 3) := by decide +kernel
theorem dX5_init_43 : decode cX5_init 43 = .ok (.aload_n 0, 1) := by decide +kernel
theorem dX5_init_44 : decode cX5_init 44 = .ok (.new 28, 3) := by decide +kernel
theorem dX5_init_47 : decode cX5_init 47 = .ok (.dup, 1) := by decide +kernel
theorem dX5_init_48 : decode cX5_init 48 = .ok (.invokespecial 30, 3) := by decide +kernel
theorem dX5_init_51 : decode cX5_init 51 = .ok (.putfield 31, 3) := by decide +kernel
theorem dX5_init_54 : decode cX5_init 54 = .ok (.aload_n 0, 1) := by decide +kernel
theorem dX5_init_55 : decode cX5_init 55 = .ok (.bipush 6, 2) := by decide +kernel
theorem dX5_init_57 : decode cX5_init 57 = .ok (.anewarray 35, 3) := by decide +kernel
theorem dX5_init_60 : decode cX5_init 60 = .ok (.putfield 37, 3) := by decide +kernel
theorem dX5_init_63 : decode cX5_init 63 = .ok (.aload_n 0, 1) := by decide +kernel
theorem dX5_init_64 : decode cX5_init 64 = .ok (.new 41, 3) := by decide +kernel
theorem dX5_init_67 : decode cX5_init 67 = .ok (.dup, 1) := by decide +kernel
theorem dX5_init_68 : decode cX5_init 68 = .ok (.invokespecial 43, 3) := by decide +kernel
theorem dX5_init_71 : decode cX5_init 71 = .ok (.putfield 44, 3) := by decide +kernel
theorem dX5_init_74 : decode cX5_init 74 = .ok (.aload_n 0, 1) := by decide +kernel
theorem dX5_init_75 : decode cX5_init 75 = .ok (.new 48, 3) := by decide +kernel
theorem dX5_init_78 : decode cX5_init 78 = .ok (.dup, 1) := by decide +kernel
theorem dX5_init_79 : decode cX5_init 79 = .ok (.invokespecial 50, 3) := by decide +kernel
theorem dX5_init_82 : decode cX5_init 82 = .ok (.putfield 51, 3) := by decide +kernel
theorem dX5_init_85 : decode cX5_init 85 = .ok (.bipush 40, 2) := by decide +kernel
theorem dX5_init_87 : decode cX5_init 87 = .ok (.newarray .int, 2) := by decide +kernel
theorem dX5_init_89 : decode cX5_init 89 = .ok (.astore_n 1, 1) := by decide +kernel
theorem dX5_init_90 : decode cX5_init 90 = .ok (.iconst 0, 1) := by decide +kernel
theorem dX5_init_91 : decode cX5_init 91 = .ok (.istore_n 2, 1) := by decide +kernel
theorem dX5_init_92 : decode cX5_init 92 = .ok (.iload_n 2, 1) := by decide +kernel
theorem dX5_init_93 : decode cX5_init 93 = .ok (.aload_n 0, 1) := by decide +kernel
theorem dX5_init_94 : decode cX5_init 94 = .ok (.getfield 37, 3) := by decide +kernel
theorem dX5_init_97 : decode cX5_init 97 = .ok (.arraylength, 1) := by decide +kernel
theorem dX5_init_98 : decode cX5_init 98 = .ok (.if_icmp .ge 33, 3) := by decide +kernel
theorem dX5_init_101 : decode cX5_init 101 = .ok (.new 35, 3) := by decide +kernel
theorem dX5_init_104 : decode cX5_init 104 = .ok (.dup, 1) := by decide +kernel
theorem dX5_init_105 : decode cX5_init 105 = .ok (.aload_n 1, 1) := by decide +kernel
theorem dX5_init_106 : decode cX5_init 106 = .ok (.invokespecial 55, 3) := by decide +kernel
theorem dX5_init_109 : decode cX5_init 109 = .ok (.astore_n 3, 1) := by decide +kernel
theorem dX5_init_110 : decode cX5_init 110 = .ok (.aload_n 3, 1) := by decide +kernel
theorem dX5_init_111 : decode cX5_init 111 = .ok (.iconst 1, 1) := by decide +kernel
theorem dX5_init_112 : decode cX5_init 112 = .ok (.iconst 5, 1) := by decide +kernel
theorem dX5_init_113 : decode cX5_init 113 = .ok (.bipush 10, 2) := by decide +kernel
theorem dX5_init_115 : decode cX5_init 115 = .ok (.invokevirtual 58, 3) := by decide +kernel
theorem dX5_init_118 : decode cX5_init 118 = .ok (.aload_n 0, 1) := by decide +kernel
theorem dX5_init_119 : decode cX5_init 119 = .ok (.getfield 37, 3) := by decide +kernel
theorem dX5_init_122 : decode cX5_init 122 = .ok (.iload_n 2, 1) := by decide +kernel
theorem dX5_init_123 : decode cX5_init 123 = .ok (.aload_n 3, 1) := by decide +kernel
theorem dX5_init_124 : decode cX5_init 124 = .ok (.aastore, 1) := by decide +kernel
theorem dX5_init_125 : decode cX5_init 125 = .ok (.iinc 2 1, 3) := by decide +kernel
theorem dX5_init_128 : decode cX5_init 128 = .ok (.goto (-36), 3) := by decide +kernel
theorem dX5_init_131 : decode cX5_init 131 = .ok (.aload_n 0, 1) := by decide +kernel
theorem dX5_init_132 : decode cX5_init 132 = .ok (.iconst 1, 1) := by decide +kernel
theorem dX5_init_133 : decode cX5_init 133 = .ok (.putfield 62, 3) := by decide +kernel
theorem dX5_init_136 : decode cX5_init 136 = .ok (.return_, 1) := by decide +kernel
theorem dX5_set_0 : decode cX5_set 0 = .ok (.iload_n 1, 1) := by decide +kernel
theorem dX5_set_1 : decode cX5_set 1 = .ok (.ifCond .lt 9, 3) := by decide +kernel
theorem dX5_set_4 : decode cX5_set 4 = .ok (.iload_n 1, 1) := by decide +kernel
theorem dX5_set_5 : decode cX5_set 5 = .ok (.bipush 7, 2) := by decide +kernel
theorem dX5_set_7 : decode cX5_set 7 = .ok (.if_icmp .lt 5, 3) := by decide +kernel
theorem dX5_set_10 : decode cX5_set 10 = .ok (.iconst (-1), 1) := by decide +kernel
theorem dX5_set_11 : decode cX5_set 11 = .ok (.ireturn, 1) := by decide +kernel
theorem dX5_set_12 : decode cX5_set 12 = .ok (.iload_n 2, 1) := by decide +kernel
theorem dX5_set_13 : decode cX5_set 13 = .ok (.ifCond .lt 11, 3) := by decide +kernel
theorem dX5_set_16 : decode cX5_set 16 = .ok (.iload_n 2, 1) := by decide +kernel
theorem dX5_set_17 : decode cX5_set 17 = .ok (.iload_n 1, 1) := by decide +kernel
theorem dX5_set_18 : decode cX5_set 18 = .ok (.invokestatic 66, 3) := by decide +kernel
theorem dX5_set_21 : decode cX5_set 21 = .ok (.if_icmp .le 6, 3) := by decide +kernel
theorem dX5_set_24 : decode cX5_set 24 = .ok (.bipush (-2), 2) := by decide +kernel
theorem dX5_set_26 : decode cX5_set 26 = .ok (.ireturn, 1) := by decide +kernel
theorem dX5_set_27 : decode cX5_set 27 = .ok (.aload_n 0, 1) := by decide +kernel
theorem dX5_set_28 : decode cX5_set 28 = .ok (.getfield 9, 3) := by decide +kernel
theorem dX5_set_31 : decode cX5_set 31 = .ok (.iload_n 1, 1) := by decide +kernel
theorem dX5_set_32 : decode cX5_set 32 = .ok (.iaload, 1) := by decide +kernel
theorem dX5_set_33 : decode cX5_set 33 = .ok (.istore_n 3, 1) := by decide +kernel
theorem dX5_set_34 : decode cX5_set 34 = .ok (.aload_n 0, 1) := by decide +kernel
theorem dX5_set_35 : decode cX5_set 35 = .ok (.getfield 9, 3) := by decide +kernel
theorem dX5_set_38 : decode cX5_set 38 = .ok (.iload_n 1, 1) := by decide +kernel
theorem dX5_set_39 : decode cX5_set 39 = .ok (.iload_n 2, 1) := by decide +kernel
theorem dX5_set_40 : decode cX5_set 40 = .ok (.iastore, 1) := by decide +kernel
theorem dX5_set_41 : decode cX5_set 41 = .ok (.iload_n 3, 1) := by decide +kernel
theorem dX5_set_42 : decode cX5_set 42 = .ok (.ireturn, 1) := by decide +kernel
theorem dX5_count_0 : decode cX5_count 0 = .ok (.iload_n 1, 1) := by decide +kernel
theorem dX5_count_1 : decode cX5_count 1 = .ok (.ifCond .lt 16, 3) := by decide +kernel
theorem dX5_count_4 : decode cX5_count 4 = .ok (.iload_n 1, 1) := by decide +kernel
theorem dX5_count_5 : decode cX5_count 5 = .ok (.bipush 7, 2) := by decide +kernel
theorem dX5_count_7 : decode cX5_count 7 = .ok (.if_icmp .ge 10, 3) := by decide +kernel
theorem dX5_count_10 : decode cX5_count 10 = .ok (.aload_n 0, 1) := by decide +kernel
theorem dX5_count_11 : decode cX5_count 11 = .ok (.getfield 9, 3) := by decide +kernel
theorem dX5_count_14 : decode cX5_count 14 = .ok (.iload_n 1, 1) := by decide +kernel
theorem dX5_count_15 : decode cX5_count 15 = .ok (.iaload, 1) := by decide +kernel
theorem dX5_count_16 : decode cX5_count 16 = .ok (.ireturn, 1) := by decide +kernel
theorem dX5_count_17 : decode cX5_count 17 = .ok (.iload_n 1, 1) := by decide +kernel
theorem dX5_count_18 : decode cX5_count 18 = .ok (.tableswitch 56 7 10 #[30, 38, 43, 48], 30) := by decide +kernel
theorem dX5_count_48 : decode cX5_count 48 = .ok (.aload_n 0, 1) := by decide +kernel
theorem dX5_count_49 : decode cX5_count 49 = .ok (.getfield 24, 3) := by decide +kernel
theorem dX5_count_52 : decode cX5_count 52 = .ok (.getfield 70, 3) := by decide +kernel
theorem dX5_count_55 : decode cX5_count 55 = .ok (.ireturn, 1) := by decide +kernel
theorem dX5_count_56 : decode cX5_count 56 = .ok (.aload_n 0, 1) := by decide +kernel
theorem dX5_count_57 : decode cX5_count 57 = .ok (.getfield 62, 3) := by decide +kernel
theorem dX5_count_60 : decode cX5_count 60 = .ok (.ireturn, 1) := by decide +kernel
theorem dX5_count_61 : decode cX5_count 61 = .ok (.aload_n 0, 1) := by decide +kernel
theorem dX5_count_62 : decode cX5_count 62 = .ok (.getfield 73, 3) := by decide +kernel
theorem dX5_count_65 : decode cX5_count 65 = .ok (.ireturn, 1) := by decide +kernel
theorem dX5_count_66 : decode cX5_count 66 = .ok (.aload_n 0, 1) := by decide +kernel
theorem dX5_count_67 : decode cX5_count 67 = .ok (.getfield 31, 3) := by decide +kernel
theorem dX5_count_70 : decode cX5_count 70 = .ok (.getfield 76, 3) := by decide +kernel
theorem dX5_count_73 : decode cX5_count 73 = .ok (.ireturn, 1) := by decide +kernel
theorem dX5_count_74 : decode cX5_count 74 = .ok (.bipush (-2), 2) := by decide +kernel
theorem dX5_count_76 : decode cX5_count 76 = .ok (.ireturn, 1) := by decide +kernel
theorem dX5_feed_0 : decode cX5_feed 0 = .ok (.iload_n 1, 1) := by decide +kernel
theorem dX5_feed_1 : decode cX5_feed 1 = .ok (.iconst 1, 1) := by decide +kernel
theorem dX5_feed_2 : decode cX5_feed 2 = .ok (.if_icmp .lt 46, 3) := by decide +kernel
theorem dX5_feed_5 : decode cX5_feed 5 = .ok (.iload_n 1, 1) := by decide +kernel
theorem dX5_feed_6 : decode cX5_feed 6 = .ok (.iconst 5, 1) := by decide +kernel
theorem dX5_feed_7 : decode cX5_feed 7 = .ok (.if_icmp .gt 41, 3) := by decide +kernel
theorem dX5_feed_10 : decode cX5_feed 10 = .ok (.iload_n 2, 1) := by decide +kernel
theorem dX5_feed_11 : decode cX5_feed 11 = .ok (.invokestatic 77, 3) := by decide +kernel
theorem dX5_feed_14 : decode cX5_feed 14 = .ok (.ifCond .eq 34, 3) := by decide +kernel
theorem dX5_feed_17 : decode cX5_feed 17 = .ok (.iload_n 3, 1) := by decide +kernel
theorem dX5_feed_18 : decode cX5_feed 18 = .ok (.invokestatic 77, 3) := by decide +kernel
theorem dX5_feed_21 : decode cX5_feed 21 = .ok (.ifCond .eq 27, 3) := by decide +kernel
theorem dX5_feed_24 : decode cX5_feed 24 = .ok (.iload 4, 2) := by decide +kernel
theorem dX5_feed_26 : decode cX5_feed 26 = .ok (.invokestatic 77, 3) := by decide +kernel
theorem dX5_feed_29 : decode cX5_feed 29 = .ok (.ifCond .eq 19, 3) := by decide +kernel
theorem dX5_feed_32 : decode cX5_feed 32 = .ok (.iload 5, 2) := by decide +kernel
theorem dX5_feed_34 : decode cX5_feed 34 = .ok (.invokestatic 77, 3) := by decide +kernel
theorem dX5_feed_37 : decode cX5_feed 37 = .ok (.ifCond .eq 11, 3) := by decide +kernel
theorem dX5_feed_40 : decode cX5_feed 40 = .ok (.iload 6, 2) := by decide +kernel
theorem dX5_feed_42 : decode cX5_feed 42 = .ok (.invokestatic 77, 3) := by decide +kernel
theorem dX5_feed_45 : decode cX5_feed 45 = .ok (.ifCond .ne 6, 3) := by decide +kernel
theorem dX5_feed_48 : decode cX5_feed 48 = .ok (.bipush (-2), 2) := by decide +kernel
theorem dX5_feed_50 : decode cX5_feed 50 = .ok (.ireturn, 1) := by decide +kernel
theorem dX5_feed_51 : decode cX5_feed 51 = .ok (.aload_n 0, 1) := by decide +kernel
theorem dX5_feed_52 : decode cX5_feed 52 = .ok (.getfield 31, 3) := by decide +kernel
theorem dX5_feed_55 : decode cX5_feed 55 = .ok (.getfield 76, 3) := by decide +kernel
theorem dX5_feed_58 : decode cX5_feed 58 = .ok (.iload_n 1, 1) := by decide +kernel
theorem dX5_feed_59 : decode cX5_feed 59 = .ok (.iadd, 1) := by decide +kernel
theorem dX5_feed_60 : decode cX5_feed 60 = .ok (.sipush 160, 3) := by decide +kernel
theorem dX5_feed_63 : decode cX5_feed 63 = .ok (.if_icmp .le 6, 3) := by decide +kernel
theorem dX5_feed_66 : decode cX5_feed 66 = .ok (.bipush (-4), 2) := by decide +kernel
theorem dX5_feed_68 : decode cX5_feed 68 = .ok (.ireturn, 1) := by decide +kernel
theorem dX5_feed_69 : decode cX5_feed 69 = .ok (.iconst 0, 1) := by decide +kernel
theorem dX5_feed_70 : decode cX5_feed 70 = .ok (.istore 7, 2) := by decide +kernel
theorem dX5_feed_72 : decode cX5_feed 72 = .ok (.iload 7, 2) := by decide +kernel
theorem dX5_feed_74 : decode cX5_feed 74 = .ok (.iload_n 1, 1) := by decide +kernel
theorem dX5_feed_75 : decode cX5_feed 75 = .ok (.if_icmp .ge 59, 3) := by decide +kernel
theorem dX5_feed_78 : decode cX5_feed 78 = .ok (.aload_n 0, 1) := by decide +kernel
theorem dX5_feed_79 : decode cX5_feed 79 = .ok (.getfield 31, 3) := by decide +kernel
theorem dX5_feed_82 : decode cX5_feed 82 = .ok (.iload 7, 2) := by decide +kernel
theorem dX5_feed_84 : decode cX5_feed 84 = .ok (.ifCond .ne 7, 3) := by decide +kernel
theorem dX5_feed_87 : decode cX5_feed 87 = .ok (.iload_n 2, 1) := by decide +kernel
theorem dX5_feed_88 : decode cX5_feed 88 = .ok (.goto 37, 3) := by decide +kernel
theorem dX5_feed_91 : decode cX5_feed 91 = .ok (.iload 7, 2) := by decide +kernel
theorem dX5_feed_93 : decode cX5_feed 93 = .ok (.iconst 1, 1) := by decide +kernel
theorem dX5_feed_94 : decode cX5_feed 94 = .ok (.if_icmp .ne 7, 3) := by decide +kernel
theorem dX5_feed_97 : decode cX5_feed 97 = .ok (.iload_n 3, 1) := by decide +kernel
theorem dX5_feed_98 : decode cX5_feed 98 = .ok (.goto 27, 3) := by decide +kernel
theorem dX5_feed_101 : decode cX5_feed 101 = .ok (.iload 7, 2) := by decide +kernel
theorem dX5_feed_103 : decode cX5_feed 103 = .ok (.iconst 2, 1) := by decide +kernel
theorem dX5_feed_104 : decode cX5_feed 104 = .ok (.if_icmp .ne 8, 3) := by decide +kernel
theorem dX5_feed_107 : decode cX5_feed 107 = .ok (.iload 4, 2) := by decide +kernel
theorem dX5_feed_109 : decode cX5_feed 109 = .ok (.goto 16, 3) := by decide +kernel
theorem dX5_feed_112 : decode cX5_feed 112 = .ok (.iload 7, 2) := by decide +kernel
theorem dX5_feed_114 : decode cX5_feed 114 = .ok (.iconst 3, 1) := by decide +kernel
theorem dX5_feed_115 : decode cX5_feed 115 = .ok (.if_icmp .ne 8, 3) := by decide +kernel
theorem dX5_feed_118 : decode cX5_feed 118 = .ok (.iload 5, 2) := by decide +kernel
theorem dX5_feed_120 : decode cX5_feed 120 = .ok (.goto 5, 3) := by decide +kernel
theorem dX5_feed_123 : decode cX5_feed 123 = .ok (.iload 6, 2) := by decide +kernel
theorem dX5_feed_125 : decode cX5_feed 125 = .ok (.invokevirtual 81, 3) := by decide +kernel
theorem dX5_feed_128 : decode cX5_feed 128 = .ok (.iinc 7 1, 3) := by decide +kernel
theorem dX5_feed_131 : decode cX5_feed 131 = .ok (.goto (-59), 3) := by decide +kernel
theorem dX5_feed_134 : decode cX5_feed 134 = .ok (.aload_n 0, 1) := by decide +kernel
theorem dX5_feed_135 : decode cX5_feed 135 = .ok (.getfield 31, 3) := by decide +kernel
theorem dX5_feed_138 : decode cX5_feed 138 = .ok (.getfield 76, 3) := by decide +kernel
theorem dX5_feed_141 : decode cX5_feed 141 = .ok (.ireturn, 1) := by decide +kernel
theorem dX5_text_0 : decode cX5_text 0 = .ok (.aload_n 0, 1) := by decide +kernel
theorem dX5_text_1 : decode cX5_text 1 = .ok (.aload_n 0, 1) := by decide +kernel
theorem dX5_text_2 : decode cX5_text 2 = .ok (.getfield 62, 3) := by decide +kernel
theorem dX5_text_5 : decode cX5_text 5 = .ok (.invokevirtual 85, 3) := by decide +kernel
theorem dX5_text_8 : decode cX5_text 8 = .ok (.astore_n 1, 1) := by decide +kernel
theorem dX5_text_9 : decode cX5_text 9 = .ok (.aload_n 1, 1) := by decide +kernel
theorem dX5_text_10 : decode cX5_text 10 = .ok (.ifnonnull 6, 3) := by decide +kernel
theorem dX5_text_13 : decode cX5_text 13 = .ok (.bipush (-4), 2) := by decide +kernel
theorem dX5_text_15 : decode cX5_text 15 = .ok (.ireturn, 1) := by decide +kernel
theorem dX5_text_16 : decode cX5_text 16 = .ok (.aload_n 0, 1) := by decide +kernel
theorem dX5_text_17 : decode cX5_text 17 = .ok (.getfield 31, 3) := by decide +kernel
theorem dX5_text_20 : decode cX5_text 20 = .ok (.aload_n 1, 1) := by decide +kernel
theorem dX5_text_21 : decode cX5_text 21 = .ok (.invokevirtual 89, 3) := by decide +kernel
theorem dX5_text_24 : decode cX5_text 24 = .ok (.istore_n 2, 1) := by decide +kernel
theorem dX5_text_25 : decode cX5_text 25 = .ok (.aload_n 0, 1) := by decide +kernel
theorem dX5_text_26 : decode cX5_text 26 = .ok (.getfield 31, 3) := by decide +kernel
theorem dX5_text_29 : decode cX5_text 29 = .ok (.iconst 0, 1) := by decide +kernel
theorem dX5_text_30 : decode cX5_text 30 = .ok (.putfield 76, 3) := by decide +kernel
theorem dX5_text_33 : decode cX5_text 33 = .ok (.iload_n 2, 1) := by decide +kernel
theorem dX5_text_34 : decode cX5_text 34 = .ok (.ifCond .lt 8, 3) := by decide +kernel
theorem dX5_text_37 : decode cX5_text 37 = .ok (.bipush (-100), 2) := by decide +kernel
theorem dX5_text_39 : decode cX5_text 39 = .ok (.iload_n 2, 1) := by decide +kernel
theorem dX5_text_40 : decode cX5_text 40 = .ok (.isub, 1) := by decide +kernel
theorem dX5_text_41 : decode cX5_text 41 = .ok (.ireturn, 1) := by decide +kernel
theorem dX5_text_42 : decode cX5_text 42 = .ok (.aload_n 0, 1) := by decide +kernel
theorem dX5_text_43 : decode cX5_text 43 = .ok (.dup, 1) := by decide +kernel
theorem dX5_text_44 : decode cX5_text 44 = .ok (.getfield 62, 3) := by decide +kernel
theorem dX5_text_47 : decode cX5_text 47 = .ok (.iconst 1, 1) := by decide +kernel
theorem dX5_text_48 : decode cX5_text 48 = .ok (.iadd, 1) := by decide +kernel
theorem dX5_text_49 : decode cX5_text 49 = .ok (.putfield 62, 3) := by decide +kernel
theorem dX5_text_52 : decode cX5_text 52 = .ok (.aload_n 0, 1) := by decide +kernel
theorem dX5_text_53 : decode cX5_text 53 = .ok (.getfield 62, 3) := by decide +kernel
theorem dX5_text_56 : decode cX5_text 56 = .ok (.iconst 1, 1) := by decide +kernel
theorem dX5_text_57 : decode cX5_text 57 = .ok (.isub, 1) := by decide +kernel
theorem dX5_text_58 : decode cX5_text 58 = .ok (.ireturn, 1) := by decide +kernel
theorem dX5_force_0 : decode cX5_force 0 = .ok (.iload_n 1, 1) := by decide +kernel
theorem dX5_force_1 : decode cX5_force 1 = .ok (.ifCond .lt 11, 3) := by decide +kernel
theorem dX5_force_4 : decode cX5_force 4 = .ok (.iload_n 1, 1) := by decide +kernel
theorem dX5_force_5 : decode cX5_force 5 = .ok (.aload_n 0, 1) := by decide +kernel
theorem dX5_force_6 : decode cX5_force 6 = .ok (.getfield 62, 3) := by decide +kernel
theorem dX5_force_9 : decode cX5_force 9 = .ok (.if_icmp .lt 6, 3) := by decide +kernel
theorem dX5_force_12 : decode cX5_force 12 = .ok (.bipush (-2), 2) := by decide +kernel
theorem dX5_force_14 : decode cX5_force 14 = .ok (.ireturn, 1) := by decide +kernel
theorem dX5_force_15 : decode cX5_force 15 = .ok (.aload_n 0, 1) := by decide +kernel
theorem dX5_force_16 : decode cX5_force 16 = .ok (.getfield 73, 3) := by decide +kernel
theorem dX5_force_19 : decode cX5_force 19 = .ok (.istore_n 2, 1) := by decide +kernel
theorem dX5_force_20 : decode cX5_force 20 = .ok (.aload_n 0, 1) := by decide +kernel
theorem dX5_force_21 : decode cX5_force 21 = .ok (.iload_n 1, 1) := by decide +kernel
theorem dX5_force_22 : decode cX5_force 22 = .ok (.putfield 73, 3) := by decide +kernel
theorem dX5_force_25 : decode cX5_force 25 = .ok (.iload_n 2, 1) := by decide +kernel
theorem dX5_force_26 : decode cX5_force 26 = .ok (.ireturn, 1) := by decide +kernel
theorem dX5_asks_0 : decode cX5_asks 0 = .ok (.iload_n 1, 1) := by decide +kernel
theorem dX5_asks_1 : decode cX5_asks 1 = .ok (.ifCond .lt 8, 3) := by decide +kernel
theorem dX5_asks_4 : decode cX5_asks 4 = .ok (.iload_n 1, 1) := by decide +kernel
theorem dX5_asks_5 : decode cX5_asks 5 = .ok (.iconst 3, 1) := by decide +kernel
theorem dX5_asks_6 : decode cX5_asks 6 = .ok (.if_icmp .lt 6, 3) := by decide +kernel
theorem dX5_asks_9 : decode cX5_asks 9 = .ok (.bipush (-2), 2) := by decide +kernel
theorem dX5_asks_11 : decode cX5_asks 11 = .ok (.ireturn, 1) := by decide +kernel
theorem dX5_asks_12 : decode cX5_asks 12 = .ok (.aload_n 0, 1) := by decide +kernel
theorem dX5_asks_13 : decode cX5_asks 13 = .ok (.aload_n 0, 1) := by decide +kernel
theorem dX5_asks_14 : decode cX5_asks 14 = .ok (.getfield 73, 3) := by decide +kernel
theorem dX5_asks_17 : decode cX5_asks 17 = .ok (.iload_n 1, 1) := by decide +kernel
theorem dX5_asks_18 : decode cX5_asks 18 = .ok (.aload_n 0, 1) := by decide +kernel
theorem dX5_asks_19 : decode cX5_asks 19 = .ok (.getfield 9, 3) := by decide +kernel
theorem dX5_asks_22 : decode cX5_asks 22 = .ok (.invokevirtual 93, 3) := by decide +kernel
theorem dX5_asks_25 : decode cX5_asks 25 = .ok (.ireturn, 1) := by decide +kernel
theorem dX5_mostOf_0 : decode cX5_mostOf 0 = .ok (.iload_n 0, 1) := by decide +kernel
theorem dX5_mostOf_1 : decode cX5_mostOf 1 = .ok (.iconst 4, 1) := by decide +kernel
theorem dX5_mostOf_2 : decode cX5_mostOf 2 = .ok (.if_icmp .ne 6, 3) := by decide +kernel
theorem dX5_mostOf_5 : decode cX5_mostOf 5 = .ok (.bipush 99, 2) := by decide +kernel
theorem dX5_mostOf_7 : decode cX5_mostOf 7 = .ok (.ireturn, 1) := by decide +kernel
theorem dX5_mostOf_8 : decode cX5_mostOf 8 = .ok (.iload_n 0, 1) := by decide +kernel
theorem dX5_mostOf_9 : decode cX5_mostOf 9 = .ok (.bipush 6, 2) := by decide +kernel
theorem dX5_mostOf_11 : decode cX5_mostOf 11 = .ok (.if_icmp .ne 8, 3) := by decide +kernel
theorem dX5_mostOf_14 : decode cX5_mostOf 14 = .ok (.bipush 99, 2) := by decide +kernel
theorem dX5_mostOf_16 : decode cX5_mostOf 16 = .ok (.goto 6, 3) := by decide +kernel
theorem dX5_mostOf_19 : decode cX5_mostOf 19 = .ok (.sipush 999, 3) := by decide +kernel
theorem dX5_mostOf_22 : decode cX5_mostOf 22 = .ok (.ireturn, 1) := by decide +kernel
theorem dX5_isByte_0 : decode cX5_isByte 0 = .ok (.iload_n 0, 1) := by decide +kernel
theorem dX5_isByte_1 : decode cX5_isByte 1 = .ok (.ifCond .lt 14, 3) := by decide +kernel
theorem dX5_isByte_4 : decode cX5_isByte 4 = .ok (.iload_n 0, 1) := by decide +kernel
theorem dX5_isByte_5 : decode cX5_isByte 5 = .ok (.sipush 255, 3) := by decide +kernel
theorem dX5_isByte_8 : decode cX5_isByte 8 = .ok (.if_icmp .gt 7, 3) := by decide +kernel
theorem dX5_isByte_11 : decode cX5_isByte 11 = .ok (.iconst 1, 1) := by decide +kernel
theorem dX5_isByte_12 : decode cX5_isByte 12 = .ok (.goto 4, 3) := by decide +kernel
theorem dX5_isByte_15 : decode cX5_isByte 15 = .ok (.iconst 0, 1) := by decide +kernel
theorem dX5_isByte_16 : decode cX5_isByte 16 = .ok (.ireturn, 1) := by decide +kernel
theorem dX5_says_0 : decode cX5_says 0 = .ok (.aload_n 0, 1) := by decide +kernel
theorem dX5_says_1 : decode cX5_says 1 = .ok (.iload_n 1, 1) := by decide +kernel
theorem dX5_says_2 : decode cX5_says 2 = .ok (.invokevirtual 85, 3) := by decide +kernel
theorem dX5_says_5 : decode cX5_says 5 = .ok (.astore 4, 2) := by decide +kernel
theorem dX5_says_7 : decode cX5_says 7 = .ok (.aload 4, 2) := by decide +kernel
theorem dX5_says_9 : decode cX5_says 9 = .ok (.ifnull 15, 3) := by decide +kernel
theorem dX5_says_12 : decode cX5_says 12 = .ok (.iload_n 2, 1) := by decide +kernel
theorem dX5_says_13 : decode cX5_says 13 = .ok (.ifCond .lt 11, 3) := by decide +kernel
theorem dX5_says_16 : decode cX5_says 16 = .ok (.iload_n 2, 1) := by decide +kernel
theorem dX5_says_17 : decode cX5_says 17 = .ok (.getstatic 97, 3) := by decide +kernel
theorem dX5_says_20 : decode cX5_says 20 = .ok (.arraylength, 1) := by decide +kernel
theorem dX5_says_21 : decode cX5_says 21 = .ok (.if_icmp .lt 5, 3) := by decide +kernel
theorem dX5_says_24 : decode cX5_says 24 = .ok (.iconst 0, 1) := by decide +kernel
theorem dX5_says_25 : decode cX5_says 25 = .ok (.ireturn, 1) := by decide +kernel
theorem dX5_says_26 : decode cX5_says 26 = .ok (.iconst 0, 1) := by decide +kernel
theorem dX5_says_27 : decode cX5_says 27 = .ok (.getstatic 97, 3) := by decide +kernel
theorem dX5_says_30 : decode cX5_says 30 = .ok (.iload_n 2, 1) := by decide +kernel
theorem dX5_says_31 : decode cX5_says 31 = .ok (.iaload, 1) := by decide +kernel
theorem dX5_says_32 : decode cX5_says 32 = .ok (.aload 4, 2) := by decide +kernel
theorem dX5_says_34 : decode cX5_says 34 = .ok (.iload_n 2, 1) := by decide +kernel
theorem dX5_says_35 : decode cX5_says 35 = .ok (.aload_n 3, 1) := by decide +kernel
theorem dX5_says_36 : decode cX5_says 36 = .ok (.invokevirtual 100, 3) := by decide +kernel
theorem dX5_says_39 : decode cX5_says 39 = .ok (.invokestatic 104, 3) := by decide +kernel
theorem dX5_says_42 : decode cX5_says 42 = .ok (.invokestatic 110, 3) := by decide +kernel
theorem dX5_says_45 : decode cX5_says 45 = .ok (.ireturn, 1) := by decide +kernel
theorem dX5_textAt_0 : decode cX5_textAt 0 = .ok (.iload_n 1, 1) := by decide +kernel
theorem dX5_textAt_1 : decode cX5_textAt 1 = .ok (.ifCond .lt 21, 3) := by decide +kernel
theorem dX5_textAt_4 : decode cX5_textAt 4 = .ok (.iload_n 1, 1) := by decide +kernel
theorem dX5_textAt_5 : decode cX5_textAt 5 = .ok (.aload_n 0, 1) := by decide +kernel
theorem dX5_textAt_6 : decode cX5_textAt 6 = .ok (.getfield 37, 3) := by decide +kernel
theorem dX5_textAt_9 : decode cX5_textAt 9 = .ok (.arraylength, 1) := by decide +kernel
theorem dX5_textAt_10 : decode cX5_textAt 10 = .ok (.if_icmp .ge 12, 3) := by decide +kernel
theorem dX5_textAt_13 : decode cX5_textAt 13 = .ok (.aload_n 0, 1) := by decide +kernel
theorem dX5_textAt_14 : decode cX5_textAt 14 = .ok (.getfield 37, 3) := by decide +kernel
theorem dX5_textAt_17 : decode cX5_textAt 17 = .ok (.iload_n 1, 1) := by decide +kernel
theorem dX5_textAt_18 : decode cX5_textAt 18 = .ok (.aaload, 1) := by decide +kernel
theorem dX5_textAt_19 : decode cX5_textAt 19 = .ok (.goto 4, 3) := by decide +kernel
theorem dX5_textAt_22 : decode cX5_textAt 22 = .ok (.aconst_null, 1) := by decide +kernel
theorem dX5_textAt_23 : decode cX5_textAt 23 = .ok (.areturn, 1) := by decide +kernel
theorem dX5_rate_0 : decode cX5_rate 0 = .ok (.aload_n 0, 1) := by decide +kernel
theorem dX5_rate_1 : decode cX5_rate 1 = .ok (.getfield 24, 3) := by decide +kernel
theorem dX5_rate_4 : decode cX5_rate 4 = .ok (.iload_n 1, 1) := by decide +kernel
theorem dX5_rate_5 : decode cX5_rate 5 = .ok (.iload_n 2, 1) := by decide +kernel
theorem dX5_rate_6 : decode cX5_rate 6 = .ok (.iload_n 3, 1) := by decide +kernel
theorem dX5_rate_7 : decode cX5_rate 7 = .ok (.invokevirtual 113, 3) := by decide +kernel
theorem dX5_rate_10 : decode cX5_rate 10 = .ok (.ireturn, 1) := by decide +kernel
theorem dX5_change_0 : decode cX5_change 0 = .ok (.aload_n 0, 1) := by decide +kernel
theorem dX5_change_1 : decode cX5_change 1 = .ok (.getfield 24, 3) := by decide +kernel
theorem dX5_change_4 : decode cX5_change 4 = .ok (.iload_n 1, 1) := by decide +kernel
theorem dX5_change_5 : decode cX5_change 5 = .ok (.invokevirtual 117, 3) := by decide +kernel
theorem dX5_change_8 : decode cX5_change 8 = .ok (.ifCond .ne 6, 3) := by decide +kernel
theorem dX5_change_11 : decode cX5_change 11 = .ok (.bipush (-5), 2) := by decide +kernel
theorem dX5_change_13 : decode cX5_change 13 = .ok (.ireturn, 1) := by decide +kernel
theorem dX5_change_14 : decode cX5_change 14 = .ok (.iload_n 2, 1) := by decide +kernel
theorem dX5_change_15 : decode cX5_change 15 = .ok (.invokestatic 120, 3) := by decide +kernel
theorem dX5_change_18 : decode cX5_change 18 = .ok (.ifCond .eq 10, 3) := by decide +kernel
theorem dX5_change_21 : decode cX5_change 21 = .ok (.iload_n 3, 1) := by decide +kernel
theorem dX5_change_22 : decode cX5_change 22 = .ok (.invokestatic 123, 3) := by decide +kernel
theorem dX5_change_25 : decode cX5_change 25 = .ok (.ifCond .ne 6, 3) := by decide +kernel
theorem dX5_change_28 : decode cX5_change 28 = .ok (.bipush (-7), 2) := by decide +kernel
theorem dX5_change_30 : decode cX5_change 30 = .ok (.ireturn, 1) := by decide +kernel
theorem dX5_change_31 : decode cX5_change 31 = .ok (.aload_n 0, 1) := by decide +kernel
theorem dX5_change_32 : decode cX5_change 32 = .ok (.getfield 24, 3) := by decide +kernel
theorem dX5_change_35 : decode cX5_change 35 = .ok (.getfield 126, 3) := by decide +kernel
theorem dX5_change_38 : decode cX5_change 38 = .ok (.iload_n 1, 1) := by decide +kernel
theorem dX5_change_39 : decode cX5_change 39 = .ok (.iaload, 1) := by decide +kernel
theorem dX5_change_40 : decode cX5_change 40 = .ok (.istore 4, 2) := by decide +kernel
theorem dX5_change_42 : decode cX5_change 42 = .ok (.aload_n 0, 1) := by decide +kernel
theorem dX5_change_43 : decode cX5_change 43 = .ok (.getfield 24, 3) := by decide +kernel
theorem dX5_change_46 : decode cX5_change 46 = .ok (.getfield 126, 3) := by decide +kernel
theorem dX5_change_49 : decode cX5_change 49 = .ok (.iload_n 1, 1) := by decide +kernel
theorem dX5_change_50 : decode cX5_change 50 = .ok (.iload_n 2, 1) := by decide +kernel
theorem dX5_change_51 : decode cX5_change 51 = .ok (.iastore, 1) := by decide +kernel
theorem dX5_change_52 : decode cX5_change 52 = .ok (.aload_n 0, 1) := by decide +kernel
theorem dX5_change_53 : decode cX5_change 53 = .ok (.getfield 24, 3) := by decide +kernel
theorem dX5_change_56 : decode cX5_change 56 = .ok (.getfield 129, 3) := by decide +kernel
theorem dX5_change_59 : decode cX5_change 59 = .ok (.iload_n 1, 1) := by decide +kernel
theorem dX5_change_60 : decode cX5_change 60 = .ok (.iload_n 3, 1) := by decide +kernel
theorem dX5_change_61 : decode cX5_change 61 = .ok (.iastore, 1) := by decide +kernel
theorem dX5_change_62 : decode cX5_change 62 = .ok (.iload 4, 2) := by decide +kernel
theorem dX5_change_64 : decode cX5_change 64 = .ok (.ireturn, 1) := by decide +kernel
theorem dX5_told_0 : decode cX5_told 0 = .ok (.aload_n 0, 1) := by decide +kernel
theorem dX5_told_1 : decode cX5_told 1 = .ok (.getfield 24, 3) := by decide +kernel
theorem dX5_told_4 : decode cX5_told 4 = .ok (.iload_n 1, 1) := by decide +kernel
theorem dX5_told_5 : decode cX5_told 5 = .ok (.invokevirtual 117, 3) := by decide +kernel
theorem dX5_told_8 : decode cX5_told 8 = .ok (.ifCond .ne 6, 3) := by decide +kernel
theorem dX5_told_11 : decode cX5_told 11 = .ok (.bipush (-5), 2) := by decide +kernel
theorem dX5_told_13 : decode cX5_told 13 = .ok (.ireturn, 1) := by decide +kernel
theorem dX5_told_14 : decode cX5_told 14 = .ok (.iload_n 2, 1) := by decide +kernel
theorem dX5_told_15 : decode cX5_told 15 = .ok (.tableswitch 122 0 6 #[41, 51, 61, 71, 81, 97, 113], 41) := by decide +kernel
theorem dX5_told_56 : decode cX5_told 56 = .ok (.aload_n 0, 1) := by decide +kernel
theorem dX5_told_57 : decode cX5_told 57 = .ok (.getfield 24, 3) := by decide +kernel
theorem dX5_told_60 : decode cX5_told 60 = .ok (.getfield 126, 3) := by decide +kernel
theorem dX5_told_63 : decode cX5_told 63 = .ok (.iload_n 1, 1) := by decide +kernel
theorem dX5_told_64 : decode cX5_told 64 = .ok (.iaload, 1) := by decide +kernel
theorem dX5_told_65 : decode cX5_told 65 = .ok (.ireturn, 1) := by decide +kernel
theorem dX5_told_66 : decode cX5_told 66 = .ok (.aload_n 0, 1) := by decide +kernel
theorem dX5_told_67 : decode cX5_told 67 = .ok (.getfield 24, 3) := by decide +kernel
theorem dX5_told_70 : decode cX5_told 70 = .ok (.getfield 132, 3) := by decide +kernel
theorem dX5_told_73 : decode cX5_told 73 = .ok (.iload_n 1, 1) := by decide +kernel
theorem dX5_told_74 : decode cX5_told 74 = .ok (.iaload, 1) := by decide +kernel
theorem dX5_told_75 : decode cX5_told 75 = .ok (.ireturn, 1) := by decide +kernel
theorem dX5_told_76 : decode cX5_told 76 = .ok (.aload_n 0, 1) := by decide +kernel
theorem dX5_told_77 : decode cX5_told 77 = .ok (.getfield 24, 3) := by decide +kernel
theorem dX5_told_80 : decode cX5_told 80 = .ok (.getfield 135, 3) := by decide +kernel
theorem dX5_told_83 : decode cX5_told 83 = .ok (.iload_n 1, 1) := by decide +kernel
theorem dX5_told_84 : decode cX5_told 84 = .ok (.iaload, 1) := by decide +kernel
theorem dX5_told_85 : decode cX5_told 85 = .ok (.ireturn, 1) := by decide +kernel
theorem dX5_told_86 : decode cX5_told 86 = .ok (.aload_n 0, 1) := by decide +kernel
theorem dX5_told_87 : decode cX5_told 87 = .ok (.getfield 24, 3) := by decide +kernel
theorem dX5_told_90 : decode cX5_told 90 = .ok (.getfield 129, 3) := by decide +kernel
theorem dX5_told_93 : decode cX5_told 93 = .ok (.iload_n 1, 1) := by decide +kernel
theorem dX5_told_94 : decode cX5_told 94 = .ok (.iaload, 1) := by decide +kernel
theorem dX5_told_95 : decode cX5_told 95 = .ok (.ireturn, 1) := by decide +kernel
theorem dX5_told_96 : decode cX5_told 96 = .ok (.aload_n 0, 1) := by decide +kernel
theorem dX5_told_97 : decode cX5_told 97 = .ok (.getfield 24, 3) := by decide +kernel
theorem dX5_told_100 : decode cX5_told 100 = .ok (.iload_n 1, 1) := by decide +kernel
theorem dX5_told_101 : decode cX5_told 101 = .ok (.aload_n 0, 1) := by decide +kernel
theorem dX5_told_102 : decode cX5_told 102 = .ok (.getfield 9, 3) := by decide +kernel
theorem dX5_told_105 : decode cX5_told 105 = .ok (.bipush 6, 2) := by decide +kernel
theorem dX5_told_107 : decode cX5_told 107 = .ok (.iaload, 1) := by decide +kernel
theorem dX5_told_108 : decode cX5_told 108 = .ok (.invokevirtual 138, 3) := by decide +kernel
theorem dX5_told_111 : decode cX5_told 111 = .ok (.ireturn, 1) := by decide +kernel
theorem dX5_told_112 : decode cX5_told 112 = .ok (.aload_n 0, 1) := by decide +kernel
theorem dX5_told_113 : decode cX5_told 113 = .ok (.getfield 24, 3) := by decide +kernel
theorem dX5_told_116 : decode cX5_told 116 = .ok (.iload_n 1, 1) := by decide +kernel
theorem dX5_told_117 : decode cX5_told 117 = .ok (.aload_n 0, 1) := by decide +kernel
theorem dX5_told_118 : decode cX5_told 118 = .ok (.getfield 9, 3) := by decide +kernel
theorem dX5_told_121 : decode cX5_told 121 = .ok (.bipush 6, 2) := by decide +kernel
theorem dX5_told_123 : decode cX5_told 123 = .ok (.iaload, 1) := by decide +kernel
theorem dX5_told_124 : decode cX5_told 124 = .ok (.invokevirtual 141, 3) := by decide +kernel
theorem dX5_told_127 : decode cX5_told 127 = .ok (.ireturn, 1) := by decide +kernel
theorem dX5_told_128 : decode cX5_told 128 = .ok (.aload_n 0, 1) := by decide +kernel
theorem dX5_told_129 : decode cX5_told 129 = .ok (.getfield 24, 3) := by decide +kernel
theorem dX5_told_132 : decode cX5_told 132 = .ok (.iload_n 1, 1) := by decide +kernel
theorem dX5_told_133 : decode cX5_told 133 = .ok (.invokevirtual 144, 3) := by decide +kernel
theorem dX5_told_136 : decode cX5_told 136 = .ok (.ireturn, 1) := by decide +kernel
theorem dX5_told_137 : decode cX5_told 137 = .ok (.bipush (-7), 2) := by decide +kernel
theorem dX5_told_139 : decode cX5_told 139 = .ok (.ireturn, 1) := by decide +kernel
theorem dX5_can_0 : decode cX5_can 0 = .ok (.aload_n 0, 1) := by decide +kernel
theorem dX5_can_1 : decode cX5_can 1 = .ok (.iload_n 1, 1) := by decide +kernel
theorem dX5_can_2 : decode cX5_can 2 = .ok (.invokevirtual 147, 3) := by decide +kernel
theorem dX5_can_5 : decode cX5_can 5 = .ok (.ifCond .ne 6, 3) := by decide +kernel
theorem dX5_can_8 : decode cX5_can 8 = .ok (.bipush (-5), 2) := by decide +kernel
theorem dX5_can_10 : decode cX5_can 10 = .ok (.ireturn, 1) := by decide +kernel
theorem dX5_can_11 : decode cX5_can 11 = .ok (.aload_n 0, 1) := by decide +kernel
theorem dX5_can_12 : decode cX5_can 12 = .ok (.aload_n 0, 1) := by decide +kernel
theorem dX5_can_13 : decode cX5_can 13 = .ok (.getfield 9, 3) := by decide +kernel
theorem dX5_can_16 : decode cX5_can 16 = .ok (.iload_n 1, 1) := by decide +kernel
theorem dX5_can_17 : decode cX5_can 17 = .ok (.invokevirtual 150, 3) := by decide +kernel
theorem dX5_can_20 : decode cX5_can 20 = .ok (.ifCond .eq 7, 3) := by decide +kernel
theorem dX5_can_23 : decode cX5_can 23 = .ok (.iconst 1, 1) := by decide +kernel
theorem dX5_can_24 : decode cX5_can 24 = .ok (.goto 4, 3) := by decide +kernel
theorem dX5_can_27 : decode cX5_can 27 = .ok (.iconst 0, 1) := by decide +kernel
theorem dX5_can_28 : decode cX5_can 28 = .ok (.ireturn, 1) := by decide +kernel
theorem dX5_move_0 : decode cX5_move 0 = .ok (.aload_n 0, 1) := by decide +kernel
theorem dX5_move_1 : decode cX5_move 1 = .ok (.iload_n 1, 1) := by decide +kernel
theorem dX5_move_2 : decode cX5_move 2 = .ok (.invokevirtual 147, 3) := by decide +kernel
theorem dX5_move_5 : decode cX5_move 5 = .ok (.ifCond .ne 6, 3) := by decide +kernel
theorem dX5_move_8 : decode cX5_move 8 = .ok (.bipush (-5), 2) := by decide +kernel
theorem dX5_move_10 : decode cX5_move 10 = .ok (.ireturn, 1) := by decide +kernel
theorem dX5_move_11 : decode cX5_move 11 = .ok (.aload_n 0, 1) := by decide +kernel
theorem dX5_move_12 : decode cX5_move 12 = .ok (.aload_n 0, 1) := by decide +kernel
theorem dX5_move_13 : decode cX5_move 13 = .ok (.getfield 9, 3) := by decide +kernel
theorem dX5_move_16 : decode cX5_move 16 = .ok (.iload_n 1, 1) := by decide +kernel
theorem dX5_move_17 : decode cX5_move 17 = .ok (.invokevirtual 150, 3) := by decide +kernel
theorem dX5_move_20 : decode cX5_move 20 = .ok (.ifCond .ne 6, 3) := by decide +kernel
theorem dX5_move_23 : decode cX5_move 23 = .ok (.bipush (-3), 2) := by decide +kernel
theorem dX5_move_25 : decode cX5_move 25 = .ok (.ireturn, 1) := by decide +kernel
theorem dX5_move_26 : decode cX5_move 26 = .ok (.aload_n 0, 1) := by decide +kernel
theorem dX5_move_27 : decode cX5_move 27 = .ok (.aload_n 0, 1) := by decide +kernel
theorem dX5_move_28 : decode cX5_move 28 = .ok (.getfield 9, 3) := by decide +kernel
theorem dX5_move_31 : decode cX5_move 31 = .ok (.iload_n 1, 1) := by decide +kernel
theorem dX5_move_32 : decode cX5_move 32 = .ok (.aload_n 0, 1) := by decide +kernel
theorem dX5_move_33 : decode cX5_move 33 = .ok (.getfield 73, 3) := by decide +kernel
theorem dX5_move_36 : decode cX5_move 36 = .ok (.invokevirtual 154, 3) := by decide +kernel
theorem dX5_move_39 : decode cX5_move 39 = .ok (.aload_n 0, 1) := by decide +kernel
theorem dX5_move_40 : decode cX5_move 40 = .ok (.getfield 9, 3) := by decide +kernel
theorem dX5_move_43 : decode cX5_move 43 = .ok (.iconst 5, 1) := by decide +kernel
theorem dX5_move_44 : decode cX5_move 44 = .ok (.iaload, 1) := by decide +kernel
theorem dX5_move_45 : decode cX5_move 45 = .ok (.ireturn, 1) := by decide +kernel
theorem dX5_all_0 : decode cX5_all 0 = .ok (.iload_n 1, 1) := by decide +kernel
theorem dX5_all_1 : decode cX5_all 1 = .ok (.ifCond .lt 9, 3) := by decide +kernel
theorem dX5_all_4 : decode cX5_all 4 = .ok (.iload_n 1, 1) := by decide +kernel
theorem dX5_all_5 : decode cX5_all 5 = .ok (.bipush 6, 2) := by decide +kernel
theorem dX5_all_7 : decode cX5_all 7 = .ok (.if_icmp .le 6, 3) := by decide +kernel
theorem dX5_all_10 : decode cX5_all 10 = .ok (.bipush (-2), 2) := by decide +kernel
theorem dX5_all_12 : decode cX5_all 12 = .ok (.ireturn, 1) := by decide +kernel
theorem dX5_all_13 : decode cX5_all 13 = .ok (.aload_n 0, 1) := by decide +kernel
theorem dX5_all_14 : decode cX5_all 14 = .ok (.invokevirtual 158, 3) := by decide +kernel
theorem dX5_all_17 : decode cX5_all 17 = .ok (.astore_n 2, 1) := by decide +kernel
theorem dX5_all_18 : decode cX5_all 18 = .ok (.aload_n 0, 1) := by decide +kernel
theorem dX5_all_19 : decode cX5_all 19 = .ok (.aload_n 2, 1) := by decide +kernel
theorem dX5_all_20 : decode cX5_all 20 = .ok (.sipush 200, 3) := by decide +kernel
theorem dX5_all_23 : decode cX5_all 23 = .ok (.iconst (-1), 1) := by decide +kernel
theorem dX5_all_24 : decode cX5_all 24 = .ok (.aload_n 0, 1) := by decide +kernel
theorem dX5_all_25 : decode cX5_all 25 = .ok (.getfield 73, 3) := by decide +kernel
theorem dX5_all_28 : decode cX5_all 28 = .ok (.invokevirtual 162, 3) := by decide +kernel
theorem dX5_all_31 : decode cX5_all 31 = .ok (.istore_n 3, 1) := by decide +kernel
theorem dX5_all_32 : decode cX5_all 32 = .ok (.iload_n 1, 1) := by decide +kernel
theorem dX5_all_33 : decode cX5_all 33 = .ok (.ifCond .ne 7, 3) := by decide +kernel
theorem dX5_all_36 : decode cX5_all 36 = .ok (.aload_n 2, 1) := by decide +kernel
theorem dX5_all_37 : decode cX5_all 37 = .ok (.iconst 5, 1) := by decide +kernel
theorem dX5_all_38 : decode cX5_all 38 = .ok (.iaload, 1) := by decide +kernel
theorem dX5_all_39 : decode cX5_all 39 = .ok (.ireturn, 1) := by decide +kernel
theorem dX5_all_40 : decode cX5_all 40 = .ok (.iload_n 1, 1) := by decide +kernel
theorem dX5_all_41 : decode cX5_all 41 = .ok (.iconst 1, 1) := by decide +kernel
theorem dX5_all_42 : decode cX5_all 42 = .ok (.if_icmp .ne 5, 3) := by decide +kernel
theorem dX5_all_45 : decode cX5_all 45 = .ok (.iload_n 3, 1) := by decide +kernel
theorem dX5_all_46 : decode cX5_all 46 = .ok (.ireturn, 1) := by decide +kernel
theorem dX5_all_47 : decode cX5_all 47 = .ok (.aload_n 2, 1) := by decide +kernel
theorem dX5_all_48 : decode cX5_all 48 = .ok (.iload_n 1, 1) := by decide +kernel
theorem dX5_all_49 : decode cX5_all 49 = .ok (.iconst 2, 1) := by decide +kernel
theorem dX5_all_50 : decode cX5_all 50 = .ok (.isub, 1) := by decide +kernel
theorem dX5_all_51 : decode cX5_all 51 = .ok (.iaload, 1) := by decide +kernel
theorem dX5_all_52 : decode cX5_all 52 = .ok (.ireturn, 1) := by decide +kernel
theorem dX5_go_0 : decode cX5_go 0 = .ok (.iload_n 1, 1) := by decide +kernel
theorem dX5_go_1 : decode cX5_go 1 = .ok (.ifCond .lt 10, 3) := by decide +kernel
theorem dX5_go_4 : decode cX5_go 4 = .ok (.iload_n 1, 1) := by decide +kernel
theorem dX5_go_5 : decode cX5_go 5 = .ok (.sipush 200, 3) := by decide +kernel
theorem dX5_go_8 : decode cX5_go 8 = .ok (.if_icmp .le 6, 3) := by decide +kernel
theorem dX5_go_11 : decode cX5_go 11 = .ok (.bipush (-2), 2) := by decide +kernel
theorem dX5_go_13 : decode cX5_go 13 = .ok (.ireturn, 1) := by decide +kernel
theorem dX5_go_14 : decode cX5_go 14 = .ok (.aload_n 0, 1) := by decide +kernel
theorem dX5_go_15 : decode cX5_go 15 = .ok (.aload_n 0, 1) := by decide +kernel
theorem dX5_go_16 : decode cX5_go 16 = .ok (.getfield 9, 3) := by decide +kernel
theorem dX5_go_19 : decode cX5_go 19 = .ok (.iload_n 1, 1) := by decide +kernel
theorem dX5_go_20 : decode cX5_go 20 = .ok (.iconst (-1), 1) := by decide +kernel
theorem dX5_go_21 : decode cX5_go 21 = .ok (.aload_n 0, 1) := by decide +kernel
theorem dX5_go_22 : decode cX5_go 22 = .ok (.getfield 73, 3) := by decide +kernel
theorem dX5_go_25 : decode cX5_go 25 = .ok (.invokevirtual 162, 3) := by decide +kernel
theorem dX5_go_28 : decode cX5_go 28 = .ok (.ireturn, 1) := by decide +kernel
theorem dX5_next_0 : decode cX5_next 0 = .ok (.iload_n 1, 1) := by decide +kernel
theorem dX5_next_1 : decode cX5_next 1 = .ok (.ifCond .lt 10, 3) := by decide +kernel
theorem dX5_next_4 : decode cX5_next 4 = .ok (.iload_n 1, 1) := by decide +kernel
theorem dX5_next_5 : decode cX5_next 5 = .ok (.sipush 200, 3) := by decide +kernel
theorem dX5_next_8 : decode cX5_next 8 = .ok (.if_icmp .lt 6, 3) := by decide +kernel
theorem dX5_next_11 : decode cX5_next 11 = .ok (.bipush (-2), 2) := by decide +kernel
theorem dX5_next_13 : decode cX5_next 13 = .ok (.ireturn, 1) := by decide +kernel
theorem dX5_next_14 : decode cX5_next 14 = .ok (.aload_n 0, 1) := by decide +kernel
theorem dX5_next_15 : decode cX5_next 15 = .ok (.invokevirtual 158, 3) := by decide +kernel
theorem dX5_next_18 : decode cX5_next 18 = .ok (.astore_n 2, 1) := by decide +kernel
theorem dX5_next_19 : decode cX5_next 19 = .ok (.aload_n 0, 1) := by decide +kernel
theorem dX5_next_20 : decode cX5_next 20 = .ok (.aload_n 2, 1) := by decide +kernel
theorem dX5_next_21 : decode cX5_next 21 = .ok (.iload_n 1, 1) := by decide +kernel
theorem dX5_next_22 : decode cX5_next 22 = .ok (.iconst (-1), 1) := by decide +kernel
theorem dX5_next_23 : decode cX5_next 23 = .ok (.aload_n 0, 1) := by decide +kernel
theorem dX5_next_24 : decode cX5_next 24 = .ok (.getfield 73, 3) := by decide +kernel
theorem dX5_next_27 : decode cX5_next 27 = .ok (.invokevirtual 162, 3) := by decide +kernel
theorem dX5_next_30 : decode cX5_next 30 = .ok (.iload_n 1, 1) := by decide +kernel
theorem dX5_next_31 : decode cX5_next 31 = .ok (.if_icmp .ge 5, 3) := by decide +kernel
theorem dX5_next_34 : decode cX5_next 34 = .ok (.iconst (-1), 1) := by decide +kernel
theorem dX5_next_35 : decode cX5_next 35 = .ok (.ireturn, 1) := by decide +kernel
theorem dX5_next_36 : decode cX5_next 36 = .ok (.aload_n 0, 1) := by decide +kernel
theorem dX5_next_37 : decode cX5_next 37 = .ok (.aload_n 2, 1) := by decide +kernel
theorem dX5_next_38 : decode cX5_next 38 = .ok (.iconst (-1), 1) := by decide +kernel
theorem dX5_next_39 : decode cX5_next 39 = .ok (.invokevirtual 166, 3) := by decide +kernel
theorem dX5_next_42 : decode cX5_next 42 = .ok (.ireturn, 1) := by decide +kernel
theorem dX5_best_0 : decode cX5_best 0 = .ok (.iload_n 1, 1) := by decide +kernel
theorem dX5_best_1 : decode cX5_best 1 = .ok (.ifCond .lt 18, 3) := by decide +kernel
theorem dX5_best_4 : decode cX5_best 4 = .ok (.iload_n 1, 1) := by decide +kernel
theorem dX5_best_5 : decode cX5_best 5 = .ok (.bipush 6, 2) := by decide +kernel
theorem dX5_best_7 : decode cX5_best 7 = .ok (.if_icmp .gt 12, 3) := by decide +kernel
theorem dX5_best_10 : decode cX5_best 10 = .ok (.iload_n 2, 1) := by decide +kernel
theorem dX5_best_11 : decode cX5_best 11 = .ok (.ifCond .lt 8, 3) := by decide +kernel
theorem dX5_best_14 : decode cX5_best 14 = .ok (.iload_n 2, 1) := by decide +kernel
theorem dX5_best_15 : decode cX5_best 15 = .ok (.iconst 1, 1) := by decide +kernel
theorem dX5_best_16 : decode cX5_best 16 = .ok (.if_icmp .le 6, 3) := by decide +kernel
theorem dX5_best_19 : decode cX5_best 19 = .ok (.bipush (-2), 2) := by decide +kernel
theorem dX5_best_21 : decode cX5_best 21 = .ok (.ireturn, 1) := by decide +kernel
theorem dX5_best_22 : decode cX5_best 22 = .ok (.aload_n 0, 1) := by decide +kernel
theorem dX5_best_23 : decode cX5_best 23 = .ok (.iconst 0, 1) := by decide +kernel
theorem dX5_best_24 : decode cX5_best 24 = .ok (.putfield 170, 3) := by decide +kernel
theorem dX5_best_27 : decode cX5_best 27 = .ok (.aload_n 0, 1) := by decide +kernel
theorem dX5_best_28 : decode cX5_best 28 = .ok (.iconst 0, 1) := by decide +kernel
theorem dX5_best_29 : decode cX5_best 29 = .ok (.putfield 173, 3) := by decide +kernel
theorem dX5_best_32 : decode cX5_best 32 = .ok (.aload_n 0, 1) := by decide +kernel
theorem dX5_best_33 : decode cX5_best 33 = .ok (.getfield 9, 3) := by decide +kernel
theorem dX5_best_36 : decode cX5_best 36 = .ok (.iconst 0, 1) := by decide +kernel
theorem dX5_best_37 : decode cX5_best 37 = .ok (.aload_n 0, 1) := by decide +kernel
theorem dX5_best_38 : decode cX5_best 38 = .ok (.getfield 18, 3) := by decide +kernel
theorem dX5_best_41 : decode cX5_best 41 = .ok (.iconst 0, 1) := by decide +kernel
theorem dX5_best_42 : decode cX5_best 42 = .ok (.aaload, 1) := by decide +kernel
theorem dX5_best_43 : decode cX5_best 43 = .ok (.iconst 0, 1) := by decide +kernel
theorem dX5_best_44 : decode cX5_best 44 = .ok (.bipush 7, 2) := by decide +kernel
theorem dX5_best_46 : decode cX5_best 46 = .ok (.invokestatic 176, 3) := by decide +kernel
theorem dX5_best_49 : decode cX5_best 49 = .ok (.aload_n 0, 1) := by decide +kernel
theorem dX5_best_50 : decode cX5_best 50 = .ok (.iconst 0, 1) := by decide +kernel
theorem dX5_best_51 : decode cX5_best 51 = .ok (.iload_n 1, 1) := by decide +kernel
theorem dX5_best_52 : decode cX5_best 52 = .ok (.iconst 0, 1) := by decide +kernel
theorem dX5_best_53 : decode cX5_best 53 = .ok (.iconst 0, 1) := by decide +kernel
theorem dX5_best_54 : decode cX5_best 54 = .ok (.invokevirtual 182, 3) := by decide +kernel
theorem dX5_best_57 : decode cX5_best 57 = .ok (.iload_n 2, 1) := by decide +kernel
theorem dX5_best_58 : decode cX5_best 58 = .ok (.ifCond .ne 10, 3) := by decide +kernel
theorem dX5_best_61 : decode cX5_best 61 = .ok (.aload_n 0, 1) := by decide +kernel
theorem dX5_best_62 : decode cX5_best 62 = .ok (.getfield 170, 3) := by decide +kernel
theorem dX5_best_65 : decode cX5_best 65 = .ok (.goto 7, 3) := by decide +kernel
theorem dX5_best_68 : decode cX5_best 68 = .ok (.aload_n 0, 1) := by decide +kernel
theorem dX5_best_69 : decode cX5_best 69 = .ok (.getfield 173, 3) := by decide +kernel
theorem dX5_best_72 : decode cX5_best 72 = .ok (.ireturn, 1) := by decide +kernel
theorem dX5_isMove_0 : decode cX5_isMove 0 = .ok (.iload_n 1, 1) := by decide +kernel
theorem dX5_isMove_1 : decode cX5_isMove 1 = .ok (.ifCond .eq 16, 3) := by decide +kernel
theorem dX5_isMove_4 : decode cX5_isMove 4 = .ok (.aload_n 0, 1) := by decide +kernel
theorem dX5_isMove_5 : decode cX5_isMove 5 = .ok (.getfield 24, 3) := by decide +kernel
theorem dX5_isMove_8 : decode cX5_isMove 8 = .ok (.iload_n 1, 1) := by decide +kernel
theorem dX5_isMove_9 : decode cX5_isMove 9 = .ok (.iconst 1, 1) := by decide +kernel
theorem dX5_isMove_10 : decode cX5_isMove 10 = .ok (.isub, 1) := by decide +kernel
theorem dX5_isMove_11 : decode cX5_isMove 11 = .ok (.invokevirtual 117, 3) := by decide +kernel
theorem dX5_isMove_14 : decode cX5_isMove 14 = .ok (.ifCond .eq 7, 3) := by decide +kernel
theorem dX5_isMove_17 : decode cX5_isMove 17 = .ok (.iconst 1, 1) := by decide +kernel
theorem dX5_isMove_18 : decode cX5_isMove 18 = .ok (.goto 4, 3) := by decide +kernel
theorem dX5_isMove_21 : decode cX5_isMove 21 = .ok (.iconst 0, 1) := by decide +kernel
theorem dX5_isMove_22 : decode cX5_isMove 22 = .ok (.ireturn, 1) := by decide +kernel
theorem dX5_canMake_0 : decode cX5_canMake 0 = .ok (.iload_n 2, 1) := by decide +kernel
theorem dX5_canMake_1 : decode cX5_canMake 1 = .ok (.ifCond .ne 10, 3) := by decide +kernel
theorem dX5_canMake_4 : decode cX5_canMake 4 = .ok (.aload_n 1, 1) := by decide +kernel
theorem dX5_canMake_5 : decode cX5_canMake 5 = .ok (.invokestatic 186, 3) := by decide +kernel
theorem dX5_canMake_8 : decode cX5_canMake 8 = .ok (.goto 11, 3) := by decide +kernel
theorem dX5_canMake_11 : decode cX5_canMake 11 = .ok (.aload_n 0, 1) := by decide +kernel
theorem dX5_canMake_12 : decode cX5_canMake 12 = .ok (.aload_n 1, 1) := by decide +kernel
theorem dX5_canMake_13 : decode cX5_canMake 13 = .ok (.iload_n 2, 1) := by decide +kernel
theorem dX5_canMake_14 : decode cX5_canMake 14 = .ok (.iconst 1, 1) := by decide +kernel
theorem dX5_canMake_15 : decode cX5_canMake 15 = .ok (.isub, 1) := by decide +kernel
theorem dX5_canMake_16 : decode cX5_canMake 16 = .ok (.invokevirtual 190, 3) := by decide +kernel
theorem dX5_canMake_19 : decode cX5_canMake 19 = .ok (.ireturn, 1) := by decide +kernel
theorem dX5_canDrink_0 : decode cX5_canDrink 0 = .ok (.aload_n 0, 1) := by decide +kernel
theorem dX5_canDrink_1 : decode cX5_canDrink 1 = .ok (.iconst 0, 1) := by decide +kernel
theorem dX5_canDrink_2 : decode cX5_canDrink 2 = .ok (.iaload, 1) := by decide +kernel
theorem dX5_canDrink_3 : decode cX5_canDrink 3 = .ok (.ifCond .le 16, 3) := by decide +kernel
theorem dX5_canDrink_6 : decode cX5_canDrink 6 = .ok (.aload_n 0, 1) := by decide +kernel
theorem dX5_canDrink_7 : decode cX5_canDrink 7 = .ok (.iconst 5, 1) := by decide +kernel
theorem dX5_canDrink_8 : decode cX5_canDrink 8 = .ok (.iaload, 1) := by decide +kernel
theorem dX5_canDrink_9 : decode cX5_canDrink 9 = .ok (.sipush 999, 3) := by decide +kernel
theorem dX5_canDrink_12 : decode cX5_canDrink 12 = .ok (.if_icmp .ge 7, 3) := by decide +kernel
theorem dX5_canDrink_15 : decode cX5_canDrink 15 = .ok (.iconst 1, 1) := by decide +kernel
theorem dX5_canDrink_16 : decode cX5_canDrink 16 = .ok (.goto 4, 3) := by decide +kernel
theorem dX5_canDrink_19 : decode cX5_canDrink 19 = .ok (.iconst 0, 1) := by decide +kernel
theorem dX5_canDrink_20 : decode cX5_canDrink 20 = .ok (.ireturn, 1) := by decide +kernel
theorem dX5_canExchange_0 : decode cX5_canExchange 0 = .ok (.aload_n 0, 1) := by decide +kernel
theorem dX5_canExchange_1 : decode cX5_canExchange 1 = .ok (.getfield 24, 3) := by decide +kernel
theorem dX5_canExchange_4 : decode cX5_canExchange 4 = .ok (.iload_n 2, 1) := by decide +kernel
theorem dX5_canExchange_5 : decode cX5_canExchange 5 = .ok (.invokevirtual 117, 3) := by decide +kernel
theorem dX5_canExchange_8 : decode cX5_canExchange 8 = .ok (.ifCond .ne 5, 3) := by decide +kernel
theorem dX5_canExchange_11 : decode cX5_canExchange 11 = .ok (.iconst 0, 1) := by decide +kernel
theorem dX5_canExchange_12 : decode cX5_canExchange 12 = .ok (.ireturn, 1) := by decide +kernel
theorem dX5_canExchange_13 : decode cX5_canExchange 13 = .ok (.aload_n 0, 1) := by decide +kernel
theorem dX5_canExchange_14 : decode cX5_canExchange 14 = .ok (.getfield 24, 3) := by decide +kernel
theorem dX5_canExchange_17 : decode cX5_canExchange 17 = .ok (.iload_n 2, 1) := by decide +kernel
theorem dX5_canExchange_18 : decode cX5_canExchange 18 = .ok (.aload_n 1, 1) := by decide +kernel
theorem dX5_canExchange_19 : decode cX5_canExchange 19 = .ok (.bipush 6, 2) := by decide +kernel
theorem dX5_canExchange_21 : decode cX5_canExchange 21 = .ok (.iaload, 1) := by decide +kernel
theorem dX5_canExchange_22 : decode cX5_canExchange 22 = .ok (.invokevirtual 141, 3) := by decide +kernel
theorem dX5_canExchange_25 : decode cX5_canExchange 25 = .ok (.istore_n 3, 1) := by decide +kernel
theorem dX5_canExchange_26 : decode cX5_canExchange 26 = .ok (.iload_n 3, 1) := by decide +kernel
theorem dX5_canExchange_27 : decode cX5_canExchange 27 = .ok (.ifCond .eq 14, 3) := by decide +kernel
theorem dX5_canExchange_30 : decode cX5_canExchange 30 = .ok (.aload_n 1, 1) := by decide +kernel
theorem dX5_canExchange_31 : decode cX5_canExchange 31 = .ok (.iconst 0, 1) := by decide +kernel
theorem dX5_canExchange_32 : decode cX5_canExchange 32 = .ok (.iaload, 1) := by decide +kernel
theorem dX5_canExchange_33 : decode cX5_canExchange 33 = .ok (.iload_n 3, 1) := by decide +kernel
theorem dX5_canExchange_34 : decode cX5_canExchange 34 = .ok (.iadd, 1) := by decide +kernel
theorem dX5_canExchange_35 : decode cX5_canExchange 35 = .ok (.sipush 999, 3) := by decide +kernel
theorem dX5_canExchange_38 : decode cX5_canExchange 38 = .ok (.if_icmp .le 5, 3) := by decide +kernel
theorem dX5_canExchange_41 : decode cX5_canExchange 41 = .ok (.iconst 0, 1) := by decide +kernel
theorem dX5_canExchange_42 : decode cX5_canExchange 42 = .ok (.ireturn, 1) := by decide +kernel
theorem dX5_canExchange_43 : decode cX5_canExchange 43 = .ok (.aload_n 0, 1) := by decide +kernel
theorem dX5_canExchange_44 : decode cX5_canExchange 44 = .ok (.getfield 24, 3) := by decide +kernel
theorem dX5_canExchange_47 : decode cX5_canExchange 47 = .ok (.getfield 132, 3) := by decide +kernel
theorem dX5_canExchange_50 : decode cX5_canExchange 50 = .ok (.iload_n 2, 1) := by decide +kernel
theorem dX5_canExchange_51 : decode cX5_canExchange 51 = .ok (.iaload, 1) := by decide +kernel
theorem dX5_canExchange_52 : decode cX5_canExchange 52 = .ok (.istore 4, 2) := by decide +kernel
theorem dX5_canExchange_54 : decode cX5_canExchange 54 = .ok (.iload 4, 2) := by decide +kernel
theorem dX5_canExchange_56 : decode cX5_canExchange 56 = .ok (.iconst 1, 1) := by decide +kernel
theorem dX5_canExchange_57 : decode cX5_canExchange 57 = .ok (.if_icmp .lt 9, 3) := by decide +kernel
theorem dX5_canExchange_60 : decode cX5_canExchange 60 = .ok (.iload 4, 2) := by decide +kernel
theorem dX5_canExchange_62 : decode cX5_canExchange 62 = .ok (.iconst 3, 1) := by decide +kernel
theorem dX5_canExchange_63 : decode cX5_canExchange 63 = .ok (.if_icmp .le 5, 3) := by decide +kernel
theorem dX5_canExchange_66 : decode cX5_canExchange 66 = .ok (.iconst 0, 1) := by decide +kernel
theorem dX5_canExchange_67 : decode cX5_canExchange 67 = .ok (.ireturn, 1) := by decide +kernel
theorem dX5_canExchange_68 : decode cX5_canExchange 68 = .ok (.aload_n 0, 1) := by decide +kernel
theorem dX5_canExchange_69 : decode cX5_canExchange 69 = .ok (.getfield 24, 3) := by decide +kernel
theorem dX5_canExchange_72 : decode cX5_canExchange 72 = .ok (.iload_n 2, 1) := by decide +kernel
theorem dX5_canExchange_73 : decode cX5_canExchange 73 = .ok (.aload_n 1, 1) := by decide +kernel
theorem dX5_canExchange_74 : decode cX5_canExchange 74 = .ok (.bipush 6, 2) := by decide +kernel
theorem dX5_canExchange_76 : decode cX5_canExchange 76 = .ok (.iaload, 1) := by decide +kernel
theorem dX5_canExchange_77 : decode cX5_canExchange 77 = .ok (.invokevirtual 138, 3) := by decide +kernel
theorem dX5_canExchange_80 : decode cX5_canExchange 80 = .ok (.aload_n 1, 1) := by decide +kernel
theorem dX5_canExchange_81 : decode cX5_canExchange 81 = .ok (.iload 4, 2) := by decide +kernel
theorem dX5_canExchange_83 : decode cX5_canExchange 83 = .ok (.iaload, 1) := by decide +kernel
theorem dX5_canExchange_84 : decode cX5_canExchange 84 = .ok (.isub, 1) := by decide +kernel
theorem dX5_canExchange_85 : decode cX5_canExchange 85 = .ok (.istore 5, 2) := by decide +kernel
theorem dX5_canExchange_87 : decode cX5_canExchange 87 = .ok (.iload 5, 2) := by decide +kernel
theorem dX5_canExchange_89 : decode cX5_canExchange 89 = .ok (.ifCond .gt 5, 3) := by decide +kernel
theorem dX5_canExchange_92 : decode cX5_canExchange 92 = .ok (.iconst 1, 1) := by decide +kernel
theorem dX5_canExchange_93 : decode cX5_canExchange 93 = .ok (.ireturn, 1) := by decide +kernel
theorem dX5_canExchange_94 : decode cX5_canExchange 94 = .ok (.iload 4, 2) := by decide +kernel
theorem dX5_canExchange_96 : decode cX5_canExchange 96 = .ok (.iconst 1, 1) := by decide +kernel
theorem dX5_canExchange_97 : decode cX5_canExchange 97 = .ok (.if_icmp .ne 24, 3) := by decide +kernel
theorem dX5_canExchange_100 : decode cX5_canExchange 100 = .ok (.iload 5, 2) := by decide +kernel
theorem dX5_canExchange_102 : decode cX5_canExchange 102 = .ok (.aload_n 0, 1) := by decide +kernel
theorem dX5_canExchange_103 : decode cX5_canExchange 103 = .ok (.getfield 24, 3) := by decide +kernel
theorem dX5_canExchange_106 : decode cX5_canExchange 106 = .ok (.iload_n 2, 1) := by decide +kernel
theorem dX5_canExchange_107 : decode cX5_canExchange 107 = .ok (.invokevirtual 144, 3) := by decide +kernel
theorem dX5_canExchange_110 : decode cX5_canExchange 110 = .ok (.aload_n 1, 1) := by decide +kernel
theorem dX5_canExchange_111 : decode cX5_canExchange 111 = .ok (.iconst 4, 1) := by decide +kernel
theorem dX5_canExchange_112 : decode cX5_canExchange 112 = .ok (.iaload, 1) := by decide +kernel
theorem dX5_canExchange_113 : decode cX5_canExchange 113 = .ok (.isub, 1) := by decide +kernel
theorem dX5_canExchange_114 : decode cX5_canExchange 114 = .ok (.if_icmp .gt 7, 3) := by decide +kernel
theorem dX5_canExchange_117 : decode cX5_canExchange 117 = .ok (.iconst 1, 1) := by decide +kernel
theorem dX5_canExchange_118 : decode cX5_canExchange 118 = .ok (.goto 4, 3) := by decide +kernel
theorem dX5_canExchange_121 : decode cX5_canExchange 121 = .ok (.iconst 0, 1) := by decide +kernel
theorem dX5_canExchange_122 : decode cX5_canExchange 122 = .ok (.ireturn, 1) := by decide +kernel
theorem dX5_make_0 : decode cX5_make 0 = .ok (.iload_n 2, 1) := by decide +kernel
theorem dX5_make_1 : decode cX5_make 1 = .ok (.ifCond .ne 17, 3) := by decide +kernel
theorem dX5_make_4 : decode cX5_make 4 = .ok (.aload_n 1, 1) := by decide +kernel
theorem dX5_make_5 : decode cX5_make 5 = .ok (.aload_n 0, 1) := by decide +kernel
theorem dX5_make_6 : decode cX5_make 6 = .ok (.iload_n 3, 1) := by decide +kernel
theorem dX5_make_7 : decode cX5_make 7 = .ok (.iconst 0, 1) := by decide +kernel
theorem dX5_make_8 : decode cX5_make 8 = .ok (.aload_n 1, 1) := by decide +kernel
theorem dX5_make_9 : decode cX5_make 9 = .ok (.invokevirtual 93, 3) := by decide +kernel
theorem dX5_make_12 : decode cX5_make 12 = .ok (.invokestatic 193, 3) := by decide +kernel
theorem dX5_make_15 : decode cX5_make 15 = .ok (.goto 11, 3) := by decide +kernel
theorem dX5_make_18 : decode cX5_make 18 = .ok (.aload_n 0, 1) := by decide +kernel
theorem dX5_make_19 : decode cX5_make 19 = .ok (.aload_n 1, 1) := by decide +kernel
theorem dX5_make_20 : decode cX5_make 20 = .ok (.iload_n 2, 1) := by decide +kernel
theorem dX5_make_21 : decode cX5_make 21 = .ok (.iconst 1, 1) := by decide +kernel
theorem dX5_make_22 : decode cX5_make 22 = .ok (.isub, 1) := by decide +kernel
theorem dX5_make_23 : decode cX5_make 23 = .ok (.invokevirtual 197, 3) := by decide +kernel
theorem dX5_make_26 : decode cX5_make 26 = .ok (.return_, 1) := by decide +kernel
theorem dX5_drink_0 : decode cX5_drink 0 = .ok (.iload_n 1, 1) := by decide +kernel
theorem dX5_drink_1 : decode cX5_drink 1 = .ok (.aload_n 0, 1) := by decide +kernel
theorem dX5_drink_2 : decode cX5_drink 2 = .ok (.iconst 4, 1) := by decide +kernel
theorem dX5_drink_3 : decode cX5_drink 3 = .ok (.iaload, 1) := by decide +kernel
theorem dX5_drink_4 : decode cX5_drink 4 = .ok (.invokestatic 104, 3) := by decide +kernel
theorem dX5_drink_7 : decode cX5_drink 7 = .ok (.istore_n 2, 1) := by decide +kernel
theorem dX5_drink_8 : decode cX5_drink 8 = .ok (.aload_n 0, 1) := by decide +kernel
theorem dX5_drink_9 : decode cX5_drink 9 = .ok (.iconst 0, 1) := by decide +kernel
theorem dX5_drink_10 : decode cX5_drink 10 = .ok (.dup2, 1) := by decide +kernel
theorem dX5_drink_11 : decode cX5_drink 11 = .ok (.iaload, 1) := by decide +kernel
theorem dX5_drink_12 : decode cX5_drink 12 = .ok (.iconst 1, 1) := by decide +kernel
theorem dX5_drink_13 : decode cX5_drink 13 = .ok (.isub, 1) := by decide +kernel
theorem dX5_drink_14 : decode cX5_drink 14 = .ok (.iastore, 1) := by decide +kernel
theorem dX5_drink_15 : decode cX5_drink 15 = .ok (.aload_n 0, 1) := by decide +kernel
theorem dX5_drink_16 : decode cX5_drink 16 = .ok (.iconst 5, 1) := by decide +kernel
theorem dX5_drink_17 : decode cX5_drink 17 = .ok (.dup2, 1) := by decide +kernel
theorem dX5_drink_18 : decode cX5_drink 18 = .ok (.iaload, 1) := by decide +kernel
theorem dX5_drink_19 : decode cX5_drink 19 = .ok (.iconst 1, 1) := by decide +kernel
theorem dX5_drink_20 : decode cX5_drink 20 = .ok (.iadd, 1) := by decide +kernel
theorem dX5_drink_21 : decode cX5_drink 21 = .ok (.iastore, 1) := by decide +kernel
theorem dX5_drink_22 : decode cX5_drink 22 = .ok (.aload_n 0, 1) := by decide +kernel
theorem dX5_drink_23 : decode cX5_drink 23 = .ok (.iconst 4, 1) := by decide +kernel
theorem dX5_drink_24 : decode cX5_drink 24 = .ok (.dup2, 1) := by decide +kernel
theorem dX5_drink_25 : decode cX5_drink 25 = .ok (.iaload, 1) := by decide +kernel
theorem dX5_drink_26 : decode cX5_drink 26 = .ok (.iload_n 2, 1) := by decide +kernel
theorem dX5_drink_27 : decode cX5_drink 27 = .ok (.isub, 1) := by decide +kernel
theorem dX5_drink_28 : decode cX5_drink 28 = .ok (.iastore, 1) := by decide +kernel
theorem dX5_drink_29 : decode cX5_drink 29 = .ok (.aload_n 0, 1) := by decide +kernel
theorem dX5_drink_30 : decode cX5_drink 30 = .ok (.iconst 1, 1) := by decide +kernel
theorem dX5_drink_31 : decode cX5_drink 31 = .ok (.sipush 999, 3) := by decide +kernel
theorem dX5_drink_34 : decode cX5_drink 34 = .ok (.aload_n 0, 1) := by decide +kernel
theorem dX5_drink_35 : decode cX5_drink 35 = .ok (.iconst 1, 1) := by decide +kernel
theorem dX5_drink_36 : decode cX5_drink 36 = .ok (.iaload, 1) := by decide +kernel
theorem dX5_drink_37 : decode cX5_drink 37 = .ok (.iload_n 1, 1) := by decide +kernel
theorem dX5_drink_38 : decode cX5_drink 38 = .ok (.iadd, 1) := by decide +kernel
theorem dX5_drink_39 : decode cX5_drink 39 = .ok (.iload_n 2, 1) := by decide +kernel
theorem dX5_drink_40 : decode cX5_drink 40 = .ok (.isub, 1) := by decide +kernel
theorem dX5_drink_41 : decode cX5_drink 41 = .ok (.invokestatic 104, 3) := by decide +kernel
theorem dX5_drink_44 : decode cX5_drink 44 = .ok (.iastore, 1) := by decide +kernel
theorem dX5_drink_45 : decode cX5_drink 45 = .ok (.aload_n 0, 1) := by decide +kernel
theorem dX5_drink_46 : decode cX5_drink 46 = .ok (.iconst 2, 1) := by decide +kernel
theorem dX5_drink_47 : decode cX5_drink 47 = .ok (.sipush 999, 3) := by decide +kernel
theorem dX5_drink_50 : decode cX5_drink 50 = .ok (.aload_n 0, 1) := by decide +kernel
theorem dX5_drink_51 : decode cX5_drink 51 = .ok (.iconst 2, 1) := by decide +kernel
theorem dX5_drink_52 : decode cX5_drink 52 = .ok (.iaload, 1) := by decide +kernel
theorem dX5_drink_53 : decode cX5_drink 53 = .ok (.iconst 1, 1) := by decide +kernel
theorem dX5_drink_54 : decode cX5_drink 54 = .ok (.iadd, 1) := by decide +kernel
theorem dX5_drink_55 : decode cX5_drink 55 = .ok (.invokestatic 104, 3) := by decide +kernel
theorem dX5_drink_58 : decode cX5_drink 58 = .ok (.iastore, 1) := by decide +kernel
theorem dX5_drink_59 : decode cX5_drink 59 = .ok (.aload_n 0, 1) := by decide +kernel
theorem dX5_drink_60 : decode cX5_drink 60 = .ok (.iconst 3, 1) := by decide +kernel
theorem dX5_drink_61 : decode cX5_drink 61 = .ok (.sipush 999, 3) := by decide +kernel
theorem dX5_drink_64 : decode cX5_drink 64 = .ok (.aload_n 0, 1) := by decide +kernel
theorem dX5_drink_65 : decode cX5_drink 65 = .ok (.iconst 3, 1) := by decide +kernel
theorem dX5_drink_66 : decode cX5_drink 66 = .ok (.iaload, 1) := by decide +kernel
theorem dX5_drink_67 : decode cX5_drink 67 = .ok (.iconst 1, 1) := by decide +kernel
theorem dX5_drink_68 : decode cX5_drink 68 = .ok (.iadd, 1) := by decide +kernel
theorem dX5_drink_69 : decode cX5_drink 69 = .ok (.invokestatic 104, 3) := by decide +kernel
theorem dX5_drink_72 : decode cX5_drink 72 = .ok (.iastore, 1) := by decide +kernel
theorem dX5_drink_73 : decode cX5_drink 73 = .ok (.return_, 1) := by decide +kernel
theorem dX5_exchange_0 : decode cX5_exchange 0 = .ok (.aload_n 0, 1) := by decide +kernel
theorem dX5_exchange_1 : decode cX5_exchange 1 = .ok (.getfield 24, 3) := by decide +kernel
theorem dX5_exchange_4 : decode cX5_exchange 4 = .ok (.iload_n 2, 1) := by decide +kernel
theorem dX5_exchange_5 : decode cX5_exchange 5 = .ok (.invokevirtual 117, 3) := by decide +kernel
theorem dX5_exchange_8 : decode cX5_exchange 8 = .ok (.ifCond .ne 4, 3) := by decide +kernel
theorem dX5_exchange_11 : decode cX5_exchange 11 = .ok (.return_, 1) := by decide +kernel
theorem dX5_exchange_12 : decode cX5_exchange 12 = .ok (.aload_n 0, 1) := by decide +kernel
theorem dX5_exchange_13 : decode cX5_exchange 13 = .ok (.getfield 24, 3) := by decide +kernel
theorem dX5_exchange_16 : decode cX5_exchange 16 = .ok (.getfield 132, 3) := by decide +kernel
theorem dX5_exchange_19 : decode cX5_exchange 19 = .ok (.iload_n 2, 1) := by decide +kernel
theorem dX5_exchange_20 : decode cX5_exchange 20 = .ok (.iaload, 1) := by decide +kernel
theorem dX5_exchange_21 : decode cX5_exchange 21 = .ok (.istore_n 3, 1) := by decide +kernel
theorem dX5_exchange_22 : decode cX5_exchange 22 = .ok (.iload_n 3, 1) := by decide +kernel
theorem dX5_exchange_23 : decode cX5_exchange 23 = .ok (.iconst 1, 1) := by decide +kernel
theorem dX5_exchange_24 : decode cX5_exchange 24 = .ok (.if_icmp .lt 8, 3) := by decide +kernel
theorem dX5_exchange_27 : decode cX5_exchange 27 = .ok (.iload_n 3, 1) := by decide +kernel
theorem dX5_exchange_28 : decode cX5_exchange 28 = .ok (.iconst 3, 1) := by decide +kernel
theorem dX5_exchange_29 : decode cX5_exchange 29 = .ok (.if_icmp .le 4, 3) := by decide +kernel
theorem dX5_exchange_32 : decode cX5_exchange 32 = .ok (.return_, 1) := by decide +kernel
theorem dX5_exchange_33 : decode cX5_exchange 33 = .ok (.aload_n 0, 1) := by decide +kernel
theorem dX5_exchange_34 : decode cX5_exchange 34 = .ok (.getfield 24, 3) := by decide +kernel
theorem dX5_exchange_37 : decode cX5_exchange 37 = .ok (.iload_n 2, 1) := by decide +kernel
theorem dX5_exchange_38 : decode cX5_exchange 38 = .ok (.aload_n 1, 1) := by decide +kernel
theorem dX5_exchange_39 : decode cX5_exchange 39 = .ok (.bipush 6, 2) := by decide +kernel
theorem dX5_exchange_41 : decode cX5_exchange 41 = .ok (.iaload, 1) := by decide +kernel
theorem dX5_exchange_42 : decode cX5_exchange 42 = .ok (.invokevirtual 138, 3) := by decide +kernel
theorem dX5_exchange_45 : decode cX5_exchange 45 = .ok (.istore 4, 2) := by decide +kernel
theorem dX5_exchange_47 : decode cX5_exchange 47 = .ok (.iload 4, 2) := by decide +kernel
theorem dX5_exchange_49 : decode cX5_exchange 49 = .ok (.aload_n 1, 1) := by decide +kernel
theorem dX5_exchange_50 : decode cX5_exchange 50 = .ok (.iload_n 3, 1) := by decide +kernel
theorem dX5_exchange_51 : decode cX5_exchange 51 = .ok (.iaload, 1) := by decide +kernel
theorem dX5_exchange_52 : decode cX5_exchange 52 = .ok (.invokestatic 104, 3) := by decide +kernel
theorem dX5_exchange_55 : decode cX5_exchange 55 = .ok (.istore 5, 2) := by decide +kernel
theorem dX5_exchange_57 : decode cX5_exchange 57 = .ok (.aload_n 1, 1) := by decide +kernel
theorem dX5_exchange_58 : decode cX5_exchange 58 = .ok (.iload_n 3, 1) := by decide +kernel
theorem dX5_exchange_59 : decode cX5_exchange 59 = .ok (.dup2, 1) := by decide +kernel
theorem dX5_exchange_60 : decode cX5_exchange 60 = .ok (.iaload, 1) := by decide +kernel
theorem dX5_exchange_61 : decode cX5_exchange 61 = .ok (.iload 5, 2) := by decide +kernel
theorem dX5_exchange_63 : decode cX5_exchange 63 = .ok (.isub, 1) := by decide +kernel
theorem dX5_exchange_64 : decode cX5_exchange 64 = .ok (.iastore, 1) := by decide +kernel
theorem dX5_exchange_65 : decode cX5_exchange 65 = .ok (.aload_n 1, 1) := by decide +kernel
theorem dX5_exchange_66 : decode cX5_exchange 66 = .ok (.iconst 4, 1) := by decide +kernel
theorem dX5_exchange_67 : decode cX5_exchange 67 = .ok (.dup2, 1) := by decide +kernel
theorem dX5_exchange_68 : decode cX5_exchange 68 = .ok (.iaload, 1) := by decide +kernel
theorem dX5_exchange_69 : decode cX5_exchange 69 = .ok (.iload 4, 2) := by decide +kernel
theorem dX5_exchange_71 : decode cX5_exchange 71 = .ok (.iload 5, 2) := by decide +kernel
theorem dX5_exchange_73 : decode cX5_exchange 73 = .ok (.isub, 1) := by decide +kernel
theorem dX5_exchange_74 : decode cX5_exchange 74 = .ok (.iadd, 1) := by decide +kernel
theorem dX5_exchange_75 : decode cX5_exchange 75 = .ok (.iastore, 1) := by decide +kernel
theorem dX5_exchange_76 : decode cX5_exchange 76 = .ok (.aload_n 1, 1) := by decide +kernel
theorem dX5_exchange_77 : decode cX5_exchange 77 = .ok (.iconst 0, 1) := by decide +kernel
theorem dX5_exchange_78 : decode cX5_exchange 78 = .ok (.dup2, 1) := by decide +kernel
theorem dX5_exchange_79 : decode cX5_exchange 79 = .ok (.iaload, 1) := by decide +kernel
theorem dX5_exchange_80 : decode cX5_exchange 80 = .ok (.aload_n 0, 1) := by decide +kernel
theorem dX5_exchange_81 : decode cX5_exchange 81 = .ok (.getfield 24, 3) := by decide +kernel
theorem dX5_exchange_84 : decode cX5_exchange 84 = .ok (.iload_n 2, 1) := by decide +kernel
theorem dX5_exchange_85 : decode cX5_exchange 85 = .ok (.aload_n 1, 1) := by decide +kernel
theorem dX5_exchange_86 : decode cX5_exchange 86 = .ok (.bipush 6, 2) := by decide +kernel
theorem dX5_exchange_88 : decode cX5_exchange 88 = .ok (.iaload, 1) := by decide +kernel
theorem dX5_exchange_89 : decode cX5_exchange 89 = .ok (.invokevirtual 141, 3) := by decide +kernel
theorem dX5_exchange_92 : decode cX5_exchange 92 = .ok (.iadd, 1) := by decide +kernel
theorem dX5_exchange_93 : decode cX5_exchange 93 = .ok (.iastore, 1) := by decide +kernel
theorem dX5_exchange_94 : decode cX5_exchange 94 = .ok (.return_, 1) := by decide +kernel
theorem dX5_pick_0 : decode cX5_pick 0 = .ok (.aload_n 1, 1) := by decide +kernel
theorem dX5_pick_1 : decode cX5_pick 1 = .ok (.invokestatic 186, 3) := by decide +kernel
theorem dX5_pick_4 : decode cX5_pick 4 = .ok (.ifCond .eq 5, 3) := by decide +kernel
theorem dX5_pick_7 : decode cX5_pick 7 = .ok (.iconst 0, 1) := by decide +kernel
theorem dX5_pick_8 : decode cX5_pick 8 = .ok (.ireturn, 1) := by decide +kernel
theorem dX5_pick_9 : decode cX5_pick 9 = .ok (.iconst 0, 1) := by decide +kernel
theorem dX5_pick_10 : decode cX5_pick 10 = .ok (.istore_n 3, 1) := by decide +kernel
theorem dX5_pick_11 : decode cX5_pick 11 = .ok (.iload_n 3, 1) := by decide +kernel
theorem dX5_pick_12 : decode cX5_pick 12 = .ok (.aload_n 0, 1) := by decide +kernel
theorem dX5_pick_13 : decode cX5_pick 13 = .ok (.getfield 24, 3) := by decide +kernel
theorem dX5_pick_16 : decode cX5_pick 16 = .ok (.getfield 70, 3) := by decide +kernel
theorem dX5_pick_19 : decode cX5_pick 19 = .ok (.if_icmp .ge 27, 3) := by decide +kernel
theorem dX5_pick_22 : decode cX5_pick 22 = .ok (.iload_n 3, 1) := by decide +kernel
theorem dX5_pick_23 : decode cX5_pick 23 = .ok (.iload_n 2, 1) := by decide +kernel
theorem dX5_pick_24 : decode cX5_pick 24 = .ok (.if_icmp .eq 16, 3) := by decide +kernel
theorem dX5_pick_27 : decode cX5_pick 27 = .ok (.aload_n 0, 1) := by decide +kernel
theorem dX5_pick_28 : decode cX5_pick 28 = .ok (.aload_n 1, 1) := by decide +kernel
theorem dX5_pick_29 : decode cX5_pick 29 = .ok (.iload_n 3, 1) := by decide +kernel
theorem dX5_pick_30 : decode cX5_pick 30 = .ok (.invokevirtual 190, 3) := by decide +kernel
theorem dX5_pick_33 : decode cX5_pick 33 = .ok (.ifCond .eq 7, 3) := by decide +kernel
theorem dX5_pick_36 : decode cX5_pick 36 = .ok (.iload_n 3, 1) := by decide +kernel
theorem dX5_pick_37 : decode cX5_pick 37 = .ok (.iconst 1, 1) := by decide +kernel
theorem dX5_pick_38 : decode cX5_pick 38 = .ok (.iadd, 1) := by decide +kernel
theorem dX5_pick_39 : decode cX5_pick 39 = .ok (.ireturn, 1) := by decide +kernel
theorem dX5_pick_40 : decode cX5_pick 40 = .ok (.iinc 3 1, 3) := by decide +kernel
theorem dX5_pick_43 : decode cX5_pick 43 = .ok (.goto (-32), 3) := by decide +kernel
theorem dX5_pick_46 : decode cX5_pick 46 = .ok (.iconst (-1), 1) := by decide +kernel
theorem dX5_pick_47 : decode cX5_pick 47 = .ok (.ireturn, 1) := by decide +kernel
theorem dX5_runGreedily_0 : decode cX5_runGreedily 0 = .ok (.iconst 0, 1) := by decide +kernel
theorem dX5_runGreedily_1 : decode cX5_runGreedily 1 = .ok (.istore 5, 2) := by decide +kernel
theorem dX5_runGreedily_3 : decode cX5_runGreedily 3 = .ok (.iload 5, 2) := by decide +kernel
theorem dX5_runGreedily_5 : decode cX5_runGreedily 5 = .ok (.iload_n 2, 1) := by decide +kernel
theorem dX5_runGreedily_6 : decode cX5_runGreedily 6 = .ok (.if_icmp .ge 35, 3) := by decide +kernel
theorem dX5_runGreedily_9 : decode cX5_runGreedily 9 = .ok (.aload_n 0, 1) := by decide +kernel
theorem dX5_runGreedily_10 : decode cX5_runGreedily 10 = .ok (.aload_n 1, 1) := by decide +kernel
theorem dX5_runGreedily_11 : decode cX5_runGreedily 11 = .ok (.iload_n 3, 1) := by decide +kernel
theorem dX5_runGreedily_12 : decode cX5_runGreedily 12 = .ok (.invokevirtual 166, 3) := by decide +kernel
theorem dX5_runGreedily_15 : decode cX5_runGreedily 15 = .ok (.istore 6, 2) := by decide +kernel
theorem dX5_runGreedily_17 : decode cX5_runGreedily 17 = .ok (.iload 6, 2) := by decide +kernel
theorem dX5_runGreedily_19 : decode cX5_runGreedily 19 = .ok (.iconst (-1), 1) := by decide +kernel
theorem dX5_runGreedily_20 : decode cX5_runGreedily 20 = .ok (.if_icmp .ne 6, 3) := by decide +kernel
theorem dX5_runGreedily_23 : decode cX5_runGreedily 23 = .ok (.iload 5, 2) := by decide +kernel
theorem dX5_runGreedily_25 : decode cX5_runGreedily 25 = .ok (.ireturn, 1) := by decide +kernel
theorem dX5_runGreedily_26 : decode cX5_runGreedily 26 = .ok (.aload_n 0, 1) := by decide +kernel
theorem dX5_runGreedily_27 : decode cX5_runGreedily 27 = .ok (.aload_n 1, 1) := by decide +kernel
theorem dX5_runGreedily_28 : decode cX5_runGreedily 28 = .ok (.iload 6, 2) := by decide +kernel
theorem dX5_runGreedily_30 : decode cX5_runGreedily 30 = .ok (.iload 4, 2) := by decide +kernel
theorem dX5_runGreedily_32 : decode cX5_runGreedily 32 = .ok (.invokevirtual 154, 3) := by decide +kernel
theorem dX5_runGreedily_35 : decode cX5_runGreedily 35 = .ok (.iinc 5 1, 3) := by decide +kernel
theorem dX5_runGreedily_38 : decode cX5_runGreedily 38 = .ok (.goto (-35), 3) := by decide +kernel
theorem dX5_runGreedily_41 : decode cX5_runGreedily 41 = .ok (.iload_n 2, 1) := by decide +kernel
theorem dX5_runGreedily_42 : decode cX5_runGreedily 42 = .ok (.ireturn, 1) := by decide +kernel
theorem dX5_startThought_0 : decode cX5_startThought 0 = .ok (.aload_n 0, 1) := by decide +kernel
theorem dX5_startThought_1 : decode cX5_startThought 1 = .ok (.getfield 9, 3) := by decide +kernel
theorem dX5_startThought_4 : decode cX5_startThought 4 = .ok (.iconst 0, 1) := by decide +kernel
theorem dX5_startThought_5 : decode cX5_startThought 5 = .ok (.aload_n 0, 1) := by decide +kernel
theorem dX5_startThought_6 : decode cX5_startThought 6 = .ok (.getfield 13, 3) := by decide +kernel
theorem dX5_startThought_9 : decode cX5_startThought 9 = .ok (.iconst 0, 1) := by decide +kernel
theorem dX5_startThought_10 : decode cX5_startThought 10 = .ok (.bipush 7, 2) := by decide +kernel
theorem dX5_startThought_12 : decode cX5_startThought 12 = .ok (.invokestatic 176, 3) := by decide +kernel
theorem dX5_startThought_15 : decode cX5_startThought 15 = .ok (.aload_n 0, 1) := by decide +kernel
theorem dX5_startThought_16 : decode cX5_startThought 16 = .ok (.getfield 13, 3) := by decide +kernel
theorem dX5_startThought_19 : decode cX5_startThought 19 = .ok (.areturn, 1) := by decide +kernel
theorem dX5_tryRows_0 : decode cX5_tryRows 0 = .ok (.iload_n 3, 1) := by decide +kernel
theorem dX5_tryRows_1 : decode cX5_tryRows 1 = .ok (.aload_n 0, 1) := by decide +kernel
theorem dX5_tryRows_2 : decode cX5_tryRows 2 = .ok (.getfield 170, 3) := by decide +kernel
theorem dX5_tryRows_5 : decode cX5_tryRows 5 = .ok (.if_icmp .le 14, 3) := by decide +kernel
theorem dX5_tryRows_8 : decode cX5_tryRows 8 = .ok (.aload_n 0, 1) := by decide +kernel
theorem dX5_tryRows_9 : decode cX5_tryRows 9 = .ok (.iload_n 3, 1) := by decide +kernel
theorem dX5_tryRows_10 : decode cX5_tryRows 10 = .ok (.putfield 170, 3) := by decide +kernel
theorem dX5_tryRows_13 : decode cX5_tryRows 13 = .ok (.aload_n 0, 1) := by decide +kernel
theorem dX5_tryRows_14 : decode cX5_tryRows 14 = .ok (.iload 4, 2) := by decide +kernel
theorem dX5_tryRows_16 : decode cX5_tryRows 16 = .ok (.putfield 173, 3) := by decide +kernel
theorem dX5_tryRows_19 : decode cX5_tryRows 19 = .ok (.iload_n 1, 1) := by decide +kernel
theorem dX5_tryRows_20 : decode cX5_tryRows 20 = .ok (.iload_n 2, 1) := by decide +kernel
theorem dX5_tryRows_21 : decode cX5_tryRows 21 = .ok (.if_icmp .lt 4, 3) := by decide +kernel
theorem dX5_tryRows_24 : decode cX5_tryRows 24 = .ok (.return_, 1) := by decide +kernel
theorem dX5_tryRows_25 : decode cX5_tryRows 25 = .ok (.iload_n 1, 1) := by decide +kernel
theorem dX5_tryRows_26 : decode cX5_tryRows 26 = .ok (.iconst 1, 1) := by decide +kernel
theorem dX5_tryRows_27 : decode cX5_tryRows 27 = .ok (.iadd, 1) := by decide +kernel
theorem dX5_tryRows_28 : decode cX5_tryRows 28 = .ok (.iload_n 2, 1) := by decide +kernel
theorem dX5_tryRows_29 : decode cX5_tryRows 29 = .ok (.if_icmp .ne 7, 3) := by decide +kernel
theorem dX5_tryRows_32 : decode cX5_tryRows 32 = .ok (.iconst 0, 1) := by decide +kernel
theorem dX5_tryRows_33 : decode cX5_tryRows 33 = .ok (.goto 10, 3) := by decide +kernel
theorem dX5_tryRows_36 : decode cX5_tryRows 36 = .ok (.aload_n 0, 1) := by decide +kernel
theorem dX5_tryRows_37 : decode cX5_tryRows 37 = .ok (.getfield 24, 3) := by decide +kernel
theorem dX5_tryRows_40 : decode cX5_tryRows 40 = .ok (.getfield 70, 3) := by decide +kernel
theorem dX5_tryRows_43 : decode cX5_tryRows 43 = .ok (.istore 5, 2) := by decide +kernel
theorem dX5_tryRows_45 : decode cX5_tryRows 45 = .ok (.iconst 0, 1) := by decide +kernel
theorem dX5_tryRows_46 : decode cX5_tryRows 46 = .ok (.istore 6, 2) := by decide +kernel
theorem dX5_tryRows_48 : decode cX5_tryRows 48 = .ok (.iload 6, 2) := by decide +kernel
theorem dX5_tryRows_50 : decode cX5_tryRows 50 = .ok (.iload 5, 2) := by decide +kernel
theorem dX5_tryRows_52 : decode cX5_tryRows 52 = .ok (.if_icmp .gt 20, 3) := by decide +kernel
theorem dX5_tryRows_55 : decode cX5_tryRows 55 = .ok (.aload_n 0, 1) := by decide +kernel
theorem dX5_tryRows_56 : decode cX5_tryRows 56 = .ok (.iload 6, 2) := by decide +kernel
theorem dX5_tryRows_58 : decode cX5_tryRows 58 = .ok (.iload_n 1, 1) := by decide +kernel
theorem dX5_tryRows_59 : decode cX5_tryRows 59 = .ok (.iload_n 2, 1) := by decide +kernel
theorem dX5_tryRows_60 : decode cX5_tryRows 60 = .ok (.iload_n 3, 1) := by decide +kernel
theorem dX5_tryRows_61 : decode cX5_tryRows 61 = .ok (.iload 4, 2) := by decide +kernel
theorem dX5_tryRows_63 : decode cX5_tryRows 63 = .ok (.invokevirtual 200, 3) := by decide +kernel
theorem dX5_tryRows_66 : decode cX5_tryRows 66 = .ok (.iinc 6 1, 3) := by decide +kernel
theorem dX5_tryRows_69 : decode cX5_tryRows 69 = .ok (.goto (-21), 3) := by decide +kernel
theorem dX5_tryRows_72 : decode cX5_tryRows 72 = .ok (.return_, 1) := by decide +kernel
theorem dX5_tryMove_0 : decode cX5_tryMove 0 = .ok (.iload_n 2, 1) := by decide +kernel
theorem dX5_tryMove_1 : decode cX5_tryMove 1 = .ok (.ifCond .lt 28, 3) := by decide +kernel
theorem dX5_tryMove_4 : decode cX5_tryMove 4 = .ok (.iload_n 2, 1) := by decide +kernel
theorem dX5_tryMove_5 : decode cX5_tryMove 5 = .ok (.iconst 1, 1) := by decide +kernel
theorem dX5_tryMove_6 : decode cX5_tryMove 6 = .ok (.iadd, 1) := by decide +kernel
theorem dX5_tryMove_7 : decode cX5_tryMove 7 = .ok (.aload_n 0, 1) := by decide +kernel
theorem dX5_tryMove_8 : decode cX5_tryMove 8 = .ok (.getfield 18, 3) := by decide +kernel
theorem dX5_tryMove_11 : decode cX5_tryMove 11 = .ok (.arraylength, 1) := by decide +kernel
theorem dX5_tryMove_12 : decode cX5_tryMove 12 = .ok (.if_icmp .ge 17, 3) := by decide +kernel
theorem dX5_tryMove_15 : decode cX5_tryMove 15 = .ok (.aload_n 0, 1) := by decide +kernel
theorem dX5_tryMove_16 : decode cX5_tryMove 16 = .ok (.aload_n 0, 1) := by decide +kernel
theorem dX5_tryMove_17 : decode cX5_tryMove 17 = .ok (.getfield 18, 3) := by decide +kernel
theorem dX5_tryMove_20 : decode cX5_tryMove 20 = .ok (.iload_n 2, 1) := by decide +kernel
theorem dX5_tryMove_21 : decode cX5_tryMove 21 = .ok (.aaload, 1) := by decide +kernel
theorem dX5_tryMove_22 : decode cX5_tryMove 22 = .ok (.iload_n 1, 1) := by decide +kernel
theorem dX5_tryMove_23 : decode cX5_tryMove 23 = .ok (.invokevirtual 150, 3) := by decide +kernel
theorem dX5_tryMove_26 : decode cX5_tryMove 26 = .ok (.ifCond .ne 4, 3) := by decide +kernel
theorem dX5_tryMove_29 : decode cX5_tryMove 29 = .ok (.return_, 1) := by decide +kernel
theorem dX5_tryMove_30 : decode cX5_tryMove 30 = .ok (.aload_n 0, 1) := by decide +kernel
theorem dX5_tryMove_31 : decode cX5_tryMove 31 = .ok (.getfield 18, 3) := by decide +kernel
theorem dX5_tryMove_34 : decode cX5_tryMove 34 = .ok (.iload_n 2, 1) := by decide +kernel
theorem dX5_tryMove_35 : decode cX5_tryMove 35 = .ok (.aaload, 1) := by decide +kernel
theorem dX5_tryMove_36 : decode cX5_tryMove 36 = .ok (.astore 6, 2) := by decide +kernel
theorem dX5_tryMove_38 : decode cX5_tryMove 38 = .ok (.aload_n 0, 1) := by decide +kernel
theorem dX5_tryMove_39 : decode cX5_tryMove 39 = .ok (.getfield 18, 3) := by decide +kernel
theorem dX5_tryMove_42 : decode cX5_tryMove 42 = .ok (.iload_n 2, 1) := by decide +kernel
theorem dX5_tryMove_43 : decode cX5_tryMove 43 = .ok (.iconst 1, 1) := by decide +kernel
theorem dX5_tryMove_44 : decode cX5_tryMove 44 = .ok (.iadd, 1) := by decide +kernel
theorem dX5_tryMove_45 : decode cX5_tryMove 45 = .ok (.aaload, 1) := by decide +kernel
theorem dX5_tryMove_46 : decode cX5_tryMove 46 = .ok (.astore 7, 2) := by decide +kernel
theorem dX5_tryMove_48 : decode cX5_tryMove 48 = .ok (.iload_n 1, 1) := by decide +kernel
theorem dX5_tryMove_49 : decode cX5_tryMove 49 = .ok (.ifCond .ne 17, 3) := by decide +kernel
theorem dX5_tryMove_52 : decode cX5_tryMove 52 = .ok (.aload_n 0, 1) := by decide +kernel
theorem dX5_tryMove_53 : decode cX5_tryMove 53 = .ok (.aload_n 0, 1) := by decide +kernel
theorem dX5_tryMove_54 : decode cX5_tryMove 54 = .ok (.getfield 73, 3) := by decide +kernel
theorem dX5_tryMove_57 : decode cX5_tryMove 57 = .ok (.iconst 1, 1) := by decide +kernel
theorem dX5_tryMove_58 : decode cX5_tryMove 58 = .ok (.aload 6, 2) := by decide +kernel
theorem dX5_tryMove_60 : decode cX5_tryMove 60 = .ok (.invokevirtual 93, 3) := by decide +kernel
theorem dX5_tryMove_63 : decode cX5_tryMove 63 = .ok (.goto 4, 3) := by decide +kernel
theorem dX5_tryMove_66 : decode cX5_tryMove 66 = .ok (.iconst 0, 1) := by decide +kernel
theorem dX5_tryMove_67 : decode cX5_tryMove 67 = .ok (.istore 8, 2) := by decide +kernel
theorem dX5_tryMove_69 : decode cX5_tryMove 69 = .ok (.aload 6, 2) := by decide +kernel
theorem dX5_tryMove_71 : decode cX5_tryMove 71 = .ok (.iconst 0, 1) := by decide +kernel
theorem dX5_tryMove_72 : decode cX5_tryMove 72 = .ok (.aload 7, 2) := by decide +kernel
theorem dX5_tryMove_74 : decode cX5_tryMove 74 = .ok (.iconst 0, 1) := by decide +kernel
theorem dX5_tryMove_75 : decode cX5_tryMove 75 = .ok (.bipush 7, 2) := by decide +kernel
theorem dX5_tryMove_77 : decode cX5_tryMove 77 = .ok (.invokestatic 176, 3) := by decide +kernel
theorem dX5_tryMove_80 : decode cX5_tryMove 80 = .ok (.aload_n 0, 1) := by decide +kernel
theorem dX5_tryMove_81 : decode cX5_tryMove 81 = .ok (.aload 7, 2) := by decide +kernel
theorem dX5_tryMove_83 : decode cX5_tryMove 83 = .ok (.iload_n 1, 1) := by decide +kernel
theorem dX5_tryMove_84 : decode cX5_tryMove 84 = .ok (.aload_n 0, 1) := by decide +kernel
theorem dX5_tryMove_85 : decode cX5_tryMove 85 = .ok (.getfield 73, 3) := by decide +kernel
theorem dX5_tryMove_88 : decode cX5_tryMove 88 = .ok (.invokevirtual 154, 3) := by decide +kernel
theorem dX5_tryMove_91 : decode cX5_tryMove 91 = .ok (.aload_n 0, 1) := by decide +kernel
theorem dX5_tryMove_92 : decode cX5_tryMove 92 = .ok (.iload_n 2, 1) := by decide +kernel
theorem dX5_tryMove_93 : decode cX5_tryMove 93 = .ok (.iconst 1, 1) := by decide +kernel
theorem dX5_tryMove_94 : decode cX5_tryMove 94 = .ok (.iadd, 1) := by decide +kernel
theorem dX5_tryMove_95 : decode cX5_tryMove 95 = .ok (.iload_n 3, 1) := by decide +kernel
theorem dX5_tryMove_96 : decode cX5_tryMove 96 = .ok (.iload 4, 2) := by decide +kernel
theorem dX5_tryMove_98 : decode cX5_tryMove 98 = .ok (.iload 8, 2) := by decide +kernel
theorem dX5_tryMove_100 : decode cX5_tryMove 100 = .ok (.iadd, 1) := by decide +kernel
theorem dX5_tryMove_101 : decode cX5_tryMove 101 = .ok (.iload 5, 2) := by decide +kernel
theorem dX5_tryMove_103 : decode cX5_tryMove 103 = .ok (.bipush 10, 2) := by decide +kernel
theorem dX5_tryMove_105 : decode cX5_tryMove 105 = .ok (.imul, 1) := by decide +kernel
theorem dX5_tryMove_106 : decode cX5_tryMove 106 = .ok (.iload_n 1, 1) := by decide +kernel
theorem dX5_tryMove_107 : decode cX5_tryMove 107 = .ok (.iadd, 1) := by decide +kernel
theorem dX5_tryMove_108 : decode cX5_tryMove 108 = .ok (.iconst 1, 1) := by decide +kernel
theorem dX5_tryMove_109 : decode cX5_tryMove 109 = .ok (.iadd, 1) := by decide +kernel
theorem dX5_tryMove_110 : decode cX5_tryMove 110 = .ok (.invokevirtual 182, 3) := by decide +kernel
theorem dX5_tryMove_113 : decode cX5_tryMove 113 = .ok (.return_, 1) := by decide +kernel
theorem dX5_least_0 : decode cX5_least 0 = .ok (.iload_n 1, 1) := by decide +kernel
theorem dX5_least_1 : decode cX5_least 1 = .ok (.ifCond .lt 19, 3) := by decide +kernel
theorem dX5_least_4 : decode cX5_least 4 = .ok (.iload_n 1, 1) := by decide +kernel
theorem dX5_least_5 : decode cX5_least 5 = .ok (.sipush 999, 3) := by decide +kernel
theorem dX5_least_8 : decode cX5_least 8 = .ok (.if_icmp .gt 12, 3) := by decide +kernel
theorem dX5_least_11 : decode cX5_least 11 = .ok (.iload_n 2, 1) := by decide +kernel
theorem dX5_least_12 : decode cX5_least 12 = .ok (.ifCond .lt 8, 3) := by decide +kernel
theorem dX5_least_15 : decode cX5_least 15 = .ok (.iload_n 2, 1) := by decide +kernel
theorem dX5_least_16 : decode cX5_least 16 = .ok (.iconst 1, 1) := by decide +kernel
theorem dX5_least_17 : decode cX5_least 17 = .ok (.if_icmp .le 6, 3) := by decide +kernel
theorem dX5_least_20 : decode cX5_least 20 = .ok (.bipush (-2), 2) := by decide +kernel
theorem dX5_least_22 : decode cX5_least 22 = .ok (.ireturn, 1) := by decide +kernel
theorem dX5_least_23 : decode cX5_least 23 = .ok (.iconst 0, 1) := by decide +kernel
theorem dX5_least_24 : decode cX5_least 24 = .ok (.istore_n 3, 1) := by decide +kernel
theorem dX5_least_25 : decode cX5_least 25 = .ok (.iload_n 3, 1) := by decide +kernel
theorem dX5_least_26 : decode cX5_least 26 = .ok (.bipush 60, 2) := by decide +kernel
theorem dX5_least_28 : decode cX5_least 28 = .ok (.if_icmp .gt 63, 3) := by decide +kernel
theorem dX5_least_31 : decode cX5_least 31 = .ok (.aload_n 0, 1) := by decide +kernel
theorem dX5_least_32 : decode cX5_least 32 = .ok (.iload_n 3, 1) := by decide +kernel
theorem dX5_least_33 : decode cX5_least 33 = .ok (.invokevirtual 204, 3) := by decide +kernel
theorem dX5_least_36 : decode cX5_least 36 = .ok (.astore 4, 2) := by decide +kernel
theorem dX5_least_38 : decode cX5_least 38 = .ok (.aload 4, 2) := by decide +kernel
theorem dX5_least_40 : decode cX5_least 40 = .ok (.iconst 0, 1) := by decide +kernel
theorem dX5_least_41 : decode cX5_least 41 = .ok (.iaload, 1) := by decide +kernel
theorem dX5_least_42 : decode cX5_least 42 = .ok (.ifCond .ne 21, 3) := by decide +kernel
theorem dX5_least_45 : decode cX5_least 45 = .ok (.aload 4, 2) := by decide +kernel
theorem dX5_least_47 : decode cX5_least 47 = .ok (.iconst 1, 1) := by decide +kernel
theorem dX5_least_48 : decode cX5_least 48 = .ok (.iaload, 1) := by decide +kernel
theorem dX5_least_49 : decode cX5_least 49 = .ok (.ifCond .ne 14, 3) := by decide +kernel
theorem dX5_least_52 : decode cX5_least 52 = .ok (.aload 4, 2) := by decide +kernel
theorem dX5_least_54 : decode cX5_least 54 = .ok (.iconst 4, 1) := by decide +kernel
theorem dX5_least_55 : decode cX5_least 55 = .ok (.iaload, 1) := by decide +kernel
theorem dX5_least_56 : decode cX5_least 56 = .ok (.ifCond .ne 7, 3) := by decide +kernel
theorem dX5_least_59 : decode cX5_least 59 = .ok (.iconst 1, 1) := by decide +kernel
theorem dX5_least_60 : decode cX5_least 60 = .ok (.goto 4, 3) := by decide +kernel
theorem dX5_least_63 : decode cX5_least 63 = .ok (.iconst 0, 1) := by decide +kernel
theorem dX5_least_64 : decode cX5_least 64 = .ok (.istore 5, 2) := by decide +kernel
theorem dX5_least_66 : decode cX5_least 66 = .ok (.aload 4, 2) := by decide +kernel
theorem dX5_least_68 : decode cX5_least 68 = .ok (.iconst 5, 1) := by decide +kernel
theorem dX5_least_69 : decode cX5_least 69 = .ok (.iaload, 1) := by decide +kernel
theorem dX5_least_70 : decode cX5_least 70 = .ok (.iload_n 1, 1) := by decide +kernel
theorem dX5_least_71 : decode cX5_least 71 = .ok (.if_icmp .lt 14, 3) := by decide +kernel
theorem dX5_least_74 : decode cX5_least 74 = .ok (.iload_n 2, 1) := by decide +kernel
theorem dX5_least_75 : decode cX5_least 75 = .ok (.ifCond .eq 8, 3) := by decide +kernel
theorem dX5_least_78 : decode cX5_least 78 = .ok (.iload 5, 2) := by decide +kernel
theorem dX5_least_80 : decode cX5_least 80 = .ok (.ifCond .eq 5, 3) := by decide +kernel
theorem dX5_least_83 : decode cX5_least 83 = .ok (.iload_n 3, 1) := by decide +kernel
theorem dX5_least_84 : decode cX5_least 84 = .ok (.ireturn, 1) := by decide +kernel
theorem dX5_least_85 : decode cX5_least 85 = .ok (.iinc 3 1, 3) := by decide +kernel
theorem dX5_least_88 : decode cX5_least 88 = .ok (.goto (-63), 3) := by decide +kernel
theorem dX5_least_91 : decode cX5_least 91 = .ok (.iconst (-1), 1) := by decide +kernel
theorem dX5_least_92 : decode cX5_least 92 = .ok (.ireturn, 1) := by decide +kernel
theorem dX5_bought_0 : decode cX5_bought 0 = .ok (.iload_n 1, 1) := by decide +kernel
theorem dX5_bought_1 : decode cX5_bought 1 = .ok (.ifCond .lt 21, 3) := by decide +kernel
theorem dX5_bought_4 : decode cX5_bought 4 = .ok (.iload_n 1, 1) := by decide +kernel
theorem dX5_bought_5 : decode cX5_bought 5 = .ok (.sipush 999, 3) := by decide +kernel
theorem dX5_bought_8 : decode cX5_bought 8 = .ok (.if_icmp .gt 14, 3) := by decide +kernel
theorem dX5_bought_11 : decode cX5_bought 11 = .ok (.iload_n 2, 1) := by decide +kernel
theorem dX5_bought_12 : decode cX5_bought 12 = .ok (.ifCond .lt 10, 3) := by decide +kernel
theorem dX5_bought_15 : decode cX5_bought 15 = .ok (.iload_n 2, 1) := by decide +kernel
theorem dX5_bought_16 : decode cX5_bought 16 = .ok (.sipush 999, 3) := by decide +kernel
theorem dX5_bought_19 : decode cX5_bought 19 = .ok (.if_icmp .le 7, 3) := by decide +kernel
theorem dX5_bought_22 : decode cX5_bought 22 = .ok (.ldc2_w 208, 3) := by decide +kernel
theorem dX5_bought_25 : decode cX5_bought 25 = .ok (.lreturn, 1) := by decide +kernel
theorem dX5_bought_26 : decode cX5_bought 26 = .ok (.lconst 0, 1) := by decide +kernel
theorem dX5_bought_27 : decode cX5_bought 27 = .ok (.lstore_n 3, 1) := by decide +kernel
theorem dX5_bought_28 : decode cX5_bought 28 = .ok (.iconst 0, 1) := by decide +kernel
theorem dX5_bought_29 : decode cX5_bought 29 = .ok (.istore 5, 2) := by decide +kernel
theorem dX5_bought_31 : decode cX5_bought 31 = .ok (.iload 5, 2) := by decide +kernel
theorem dX5_bought_33 : decode cX5_bought 33 = .ok (.bipush 60, 2) := by decide +kernel
theorem dX5_bought_35 : decode cX5_bought 35 = .ok (.if_icmp .gt 40, 3) := by decide +kernel
theorem dX5_bought_38 : decode cX5_bought 38 = .ok (.aload_n 0, 1) := by decide +kernel
theorem dX5_bought_39 : decode cX5_bought 39 = .ok (.iload 5, 2) := by decide +kernel
theorem dX5_bought_41 : decode cX5_bought 41 = .ok (.invokevirtual 204, 3) := by decide +kernel
theorem dX5_bought_44 : decode cX5_bought 44 = .ok (.astore 6, 2) := by decide +kernel
theorem dX5_bought_46 : decode cX5_bought 46 = .ok (.aload 6, 2) := by decide +kernel
theorem dX5_bought_48 : decode cX5_bought 48 = .ok (.iconst 5, 1) := by decide +kernel
theorem dX5_bought_49 : decode cX5_bought 49 = .ok (.iaload, 1) := by decide +kernel
theorem dX5_bought_50 : decode cX5_bought 50 = .ok (.iload_n 1, 1) := by decide +kernel
theorem dX5_bought_51 : decode cX5_bought 51 = .ok (.if_icmp .ne 18, 3) := by decide +kernel
theorem dX5_bought_54 : decode cX5_bought 54 = .ok (.aload 6, 2) := by decide +kernel
theorem dX5_bought_56 : decode cX5_bought 56 = .ok (.iconst 1, 1) := by decide +kernel
theorem dX5_bought_57 : decode cX5_bought 57 = .ok (.iaload, 1) := by decide +kernel
theorem dX5_bought_58 : decode cX5_bought 58 = .ok (.iload_n 2, 1) := by decide +kernel
theorem dX5_bought_59 : decode cX5_bought 59 = .ok (.if_icmp .ne 10, 3) := by decide +kernel
theorem dX5_bought_62 : decode cX5_bought 62 = .ok (.lload_n 3, 1) := by decide +kernel
theorem dX5_bought_63 : decode cX5_bought 63 = .ok (.lconst 1, 1) := by decide +kernel
theorem dX5_bought_64 : decode cX5_bought 64 = .ok (.iload 5, 2) := by decide +kernel
theorem dX5_bought_66 : decode cX5_bought 66 = .ok (.lshl, 1) := by decide +kernel
theorem dX5_bought_67 : decode cX5_bought 67 = .ok (.lor, 1) := by decide +kernel
theorem dX5_bought_68 : decode cX5_bought 68 = .ok (.lstore_n 3, 1) := by decide +kernel
theorem dX5_bought_69 : decode cX5_bought 69 = .ok (.iinc 5 1, 3) := by decide +kernel
theorem dX5_bought_72 : decode cX5_bought 72 = .ok (.goto (-41), 3) := by decide +kernel
theorem dX5_bought_75 : decode cX5_bought 75 = .ok (.lload_n 3, 1) := by decide +kernel
theorem dX5_bought_76 : decode cX5_bought 76 = .ok (.lreturn, 1) := by decide +kernel
theorem dX5_friends_0 : decode cX5_friends 0 = .ok (.iload_n 1, 1) := by decide +kernel
theorem dX5_friends_1 : decode cX5_friends 1 = .ok (.ifCond .lt 19, 3) := by decide +kernel
theorem dX5_friends_4 : decode cX5_friends 4 = .ok (.iload_n 1, 1) := by decide +kernel
theorem dX5_friends_5 : decode cX5_friends 5 = .ok (.bipush 60, 2) := by decide +kernel
theorem dX5_friends_7 : decode cX5_friends 7 = .ok (.if_icmp .gt 13, 3) := by decide +kernel
theorem dX5_friends_10 : decode cX5_friends 10 = .ok (.iload_n 2, 1) := by decide +kernel
theorem dX5_friends_11 : decode cX5_friends 11 = .ok (.ifCond .lt 9, 3) := by decide +kernel
theorem dX5_friends_14 : decode cX5_friends 14 = .ok (.iload_n 2, 1) := by decide +kernel
theorem dX5_friends_15 : decode cX5_friends 15 = .ok (.bipush 60, 2) := by decide +kernel
theorem dX5_friends_17 : decode cX5_friends 17 = .ok (.if_icmp .le 6, 3) := by decide +kernel
theorem dX5_friends_20 : decode cX5_friends 20 = .ok (.ldc 210, 2) := by decide +kernel
theorem dX5_friends_22 : decode cX5_friends 22 = .ok (.ireturn, 1) := by decide +kernel
theorem dX5_friends_23 : decode cX5_friends 23 = .ok (.aload_n 0, 1) := by decide +kernel
theorem dX5_friends_24 : decode cX5_friends 24 = .ok (.iload_n 1, 1) := by decide +kernel
theorem dX5_friends_25 : decode cX5_friends 25 = .ok (.iload_n 2, 1) := by decide +kernel
theorem dX5_friends_26 : decode cX5_friends 26 = .ok (.iadd, 1) := by decide +kernel
theorem dX5_friends_27 : decode cX5_friends 27 = .ok (.invokevirtual 204, 3) := by decide +kernel
theorem dX5_friends_30 : decode cX5_friends 30 = .ok (.iconst 5, 1) := by decide +kernel
theorem dX5_friends_31 : decode cX5_friends 31 = .ok (.iaload, 1) := by decide +kernel
theorem dX5_friends_32 : decode cX5_friends 32 = .ok (.aload_n 0, 1) := by decide +kernel
theorem dX5_friends_33 : decode cX5_friends 33 = .ok (.getfield 9, 3) := by decide +kernel
theorem dX5_friends_36 : decode cX5_friends 36 = .ok (.iconst 5, 1) := by decide +kernel
theorem dX5_friends_37 : decode cX5_friends 37 = .ok (.iaload, 1) := by decide +kernel
theorem dX5_friends_38 : decode cX5_friends 38 = .ok (.isub, 1) := by decide +kernel
theorem dX5_friends_39 : decode cX5_friends 39 = .ok (.istore_n 3, 1) := by decide +kernel
theorem dX5_friends_40 : decode cX5_friends 40 = .ok (.aload_n 0, 1) := by decide +kernel
theorem dX5_friends_41 : decode cX5_friends 41 = .ok (.iload_n 1, 1) := by decide +kernel
theorem dX5_friends_42 : decode cX5_friends 42 = .ok (.invokevirtual 204, 3) := by decide +kernel
theorem dX5_friends_45 : decode cX5_friends 45 = .ok (.iconst 5, 1) := by decide +kernel
theorem dX5_friends_46 : decode cX5_friends 46 = .ok (.iaload, 1) := by decide +kernel
theorem dX5_friends_47 : decode cX5_friends 47 = .ok (.aload_n 0, 1) := by decide +kernel
theorem dX5_friends_48 : decode cX5_friends 48 = .ok (.getfield 9, 3) := by decide +kernel
theorem dX5_friends_51 : decode cX5_friends 51 = .ok (.iconst 5, 1) := by decide +kernel
theorem dX5_friends_52 : decode cX5_friends 52 = .ok (.iaload, 1) := by decide +kernel
theorem dX5_friends_53 : decode cX5_friends 53 = .ok (.isub, 1) := by decide +kernel
theorem dX5_friends_54 : decode cX5_friends 54 = .ok (.istore 4, 2) := by decide +kernel
theorem dX5_friends_56 : decode cX5_friends 56 = .ok (.aload_n 0, 1) := by decide +kernel
theorem dX5_friends_57 : decode cX5_friends 57 = .ok (.iload_n 2, 1) := by decide +kernel
theorem dX5_friends_58 : decode cX5_friends 58 = .ok (.invokevirtual 204, 3) := by decide +kernel
theorem dX5_friends_61 : decode cX5_friends 61 = .ok (.iconst 5, 1) := by decide +kernel
theorem dX5_friends_62 : decode cX5_friends 62 = .ok (.iaload, 1) := by decide +kernel
theorem dX5_friends_63 : decode cX5_friends 63 = .ok (.aload_n 0, 1) := by decide +kernel
theorem dX5_friends_64 : decode cX5_friends 64 = .ok (.getfield 9, 3) := by decide +kernel
theorem dX5_friends_67 : decode cX5_friends 67 = .ok (.iconst 5, 1) := by decide +kernel
theorem dX5_friends_68 : decode cX5_friends 68 = .ok (.iaload, 1) := by decide +kernel
theorem dX5_friends_69 : decode cX5_friends 69 = .ok (.isub, 1) := by decide +kernel
theorem dX5_friends_70 : decode cX5_friends 70 = .ok (.istore 5, 2) := by decide +kernel
theorem dX5_friends_72 : decode cX5_friends 72 = .ok (.iload_n 3, 1) := by decide +kernel
theorem dX5_friends_73 : decode cX5_friends 73 = .ok (.iload 4, 2) := by decide +kernel
theorem dX5_friends_75 : decode cX5_friends 75 = .ok (.isub, 1) := by decide +kernel
theorem dX5_friends_76 : decode cX5_friends 76 = .ok (.iload 5, 2) := by decide +kernel
theorem dX5_friends_78 : decode cX5_friends 78 = .ok (.isub, 1) := by decide +kernel
theorem dX5_friends_79 : decode cX5_friends 79 = .ok (.ireturn, 1) := by decide +kernel
theorem dX5_worth_0 : decode cX5_worth 0 = .ok (.aload_n 0, 1) := by decide +kernel
theorem dX5_worth_1 : decode cX5_worth 1 = .ok (.getfield 24, 3) := by decide +kernel
theorem dX5_worth_4 : decode cX5_worth 4 = .ok (.iload_n 1, 1) := by decide +kernel
theorem dX5_worth_5 : decode cX5_worth 5 = .ok (.invokevirtual 117, 3) := by decide +kernel
theorem dX5_worth_8 : decode cX5_worth 8 = .ok (.ifCond .ne 6, 3) := by decide +kernel
theorem dX5_worth_11 : decode cX5_worth 11 = .ok (.ldc 210, 2) := by decide +kernel
theorem dX5_worth_13 : decode cX5_worth 13 = .ok (.ireturn, 1) := by decide +kernel
theorem dX5_worth_14 : decode cX5_worth 14 = .ok (.aload_n 0, 1) := by decide +kernel
theorem dX5_worth_15 : decode cX5_worth 15 = .ok (.invokevirtual 158, 3) := by decide +kernel
theorem dX5_worth_18 : decode cX5_worth 18 = .ok (.astore_n 2, 1) := by decide +kernel
theorem dX5_worth_19 : decode cX5_worth 19 = .ok (.aload_n 0, 1) := by decide +kernel
theorem dX5_worth_20 : decode cX5_worth 20 = .ok (.aload_n 2, 1) := by decide +kernel
theorem dX5_worth_21 : decode cX5_worth 21 = .ok (.sipush 200, 3) := by decide +kernel
theorem dX5_worth_24 : decode cX5_worth 24 = .ok (.iconst (-1), 1) := by decide +kernel
theorem dX5_worth_25 : decode cX5_worth 25 = .ok (.aload_n 0, 1) := by decide +kernel
theorem dX5_worth_26 : decode cX5_worth 26 = .ok (.getfield 73, 3) := by decide +kernel
theorem dX5_worth_29 : decode cX5_worth 29 = .ok (.invokevirtual 162, 3) := by decide +kernel
theorem dX5_worth_32 : decode cX5_worth 32 = .ok (.pop, 1) := by decide +kernel
theorem dX5_worth_33 : decode cX5_worth 33 = .ok (.aload_n 2, 1) := by decide +kernel
theorem dX5_worth_34 : decode cX5_worth 34 = .ok (.iconst 5, 1) := by decide +kernel
theorem dX5_worth_35 : decode cX5_worth 35 = .ok (.iaload, 1) := by decide +kernel
theorem dX5_worth_36 : decode cX5_worth 36 = .ok (.istore_n 3, 1) := by decide +kernel
theorem dX5_worth_37 : decode cX5_worth 37 = .ok (.aload_n 0, 1) := by decide +kernel
theorem dX5_worth_38 : decode cX5_worth 38 = .ok (.invokevirtual 158, 3) := by decide +kernel
theorem dX5_worth_41 : decode cX5_worth 41 = .ok (.astore_n 2, 1) := by decide +kernel
theorem dX5_worth_42 : decode cX5_worth 42 = .ok (.aload_n 0, 1) := by decide +kernel
theorem dX5_worth_43 : decode cX5_worth 43 = .ok (.aload_n 2, 1) := by decide +kernel
theorem dX5_worth_44 : decode cX5_worth 44 = .ok (.sipush 200, 3) := by decide +kernel
theorem dX5_worth_47 : decode cX5_worth 47 = .ok (.iload_n 1, 1) := by decide +kernel
theorem dX5_worth_48 : decode cX5_worth 48 = .ok (.aload_n 0, 1) := by decide +kernel
theorem dX5_worth_49 : decode cX5_worth 49 = .ok (.getfield 73, 3) := by decide +kernel
theorem dX5_worth_52 : decode cX5_worth 52 = .ok (.invokevirtual 162, 3) := by decide +kernel
theorem dX5_worth_55 : decode cX5_worth 55 = .ok (.pop, 1) := by decide +kernel
theorem dX5_worth_56 : decode cX5_worth 56 = .ok (.iload_n 3, 1) := by decide +kernel
theorem dX5_worth_57 : decode cX5_worth 57 = .ok (.aload_n 2, 1) := by decide +kernel
theorem dX5_worth_58 : decode cX5_worth 58 = .ok (.iconst 5, 1) := by decide +kernel
theorem dX5_worth_59 : decode cX5_worth 59 = .ok (.iaload, 1) := by decide +kernel
theorem dX5_worth_60 : decode cX5_worth 60 = .ok (.isub, 1) := by decide +kernel
theorem dX5_worth_61 : decode cX5_worth 61 = .ok (.ireturn, 1) := by decide +kernel
theorem dX5_endWith_0 : decode cX5_endWith 0 = .ok (.aload_n 0, 1) := by decide +kernel
theorem dX5_endWith_1 : decode cX5_endWith 1 = .ok (.invokevirtual 158, 3) := by decide +kernel
theorem dX5_endWith_4 : decode cX5_endWith 4 = .ok (.astore_n 2, 1) := by decide +kernel
theorem dX5_endWith_5 : decode cX5_endWith 5 = .ok (.aload_n 2, 1) := by decide +kernel
theorem dX5_endWith_6 : decode cX5_endWith 6 = .ok (.iconst 0, 1) := by decide +kernel
theorem dX5_endWith_7 : decode cX5_endWith 7 = .ok (.iload_n 1, 1) := by decide +kernel
theorem dX5_endWith_8 : decode cX5_endWith 8 = .ok (.iastore, 1) := by decide +kernel
theorem dX5_endWith_9 : decode cX5_endWith 9 = .ok (.aload_n 0, 1) := by decide +kernel
theorem dX5_endWith_10 : decode cX5_endWith 10 = .ok (.aload_n 2, 1) := by decide +kernel
theorem dX5_endWith_11 : decode cX5_endWith 11 = .ok (.sipush 200, 3) := by decide +kernel
theorem dX5_endWith_14 : decode cX5_endWith 14 = .ok (.iconst (-1), 1) := by decide +kernel
theorem dX5_endWith_15 : decode cX5_endWith 15 = .ok (.aload_n 0, 1) := by decide +kernel
theorem dX5_endWith_16 : decode cX5_endWith 16 = .ok (.getfield 73, 3) := by decide +kernel
theorem dX5_endWith_19 : decode cX5_endWith 19 = .ok (.invokevirtual 162, 3) := by decide +kernel
theorem dX5_endWith_22 : decode cX5_endWith 22 = .ok (.pop, 1) := by decide +kernel
theorem dX5_endWith_23 : decode cX5_endWith 23 = .ok (.aload_n 2, 1) := by decide +kernel
theorem dX5_endWith_24 : decode cX5_endWith 24 = .ok (.areturn, 1) := by decide +kernel
theorem dX5_never_0 : decode cX5_never 0 = .ok (.iload_n 1, 1) := by decide +kernel
theorem dX5_never_1 : decode cX5_never 1 = .ok (.ifCond .lt 8, 3) := by decide +kernel
theorem dX5_never_4 : decode cX5_never 4 = .ok (.iload_n 1, 1) := by decide +kernel
theorem dX5_never_5 : decode cX5_never 5 = .ok (.iconst 1, 1) := by decide +kernel
theorem dX5_never_6 : decode cX5_never 6 = .ok (.if_icmp .le 6, 3) := by decide +kernel
theorem dX5_never_9 : decode cX5_never 9 = .ok (.bipush (-2), 2) := by decide +kernel
theorem dX5_never_11 : decode cX5_never 11 = .ok (.ireturn, 1) := by decide +kernel
theorem dX5_never_12 : decode cX5_never 12 = .ok (.aload_n 0, 1) := by decide +kernel
theorem dX5_never_13 : decode cX5_never 13 = .ok (.aload_n 0, 1) := by decide +kernel
theorem dX5_never_14 : decode cX5_never 14 = .ok (.getfield 73, 3) := by decide +kernel
theorem dX5_never_17 : decode cX5_never 17 = .ok (.iconst 0, 1) := by decide +kernel
theorem dX5_never_18 : decode cX5_never 18 = .ok (.aload_n 0, 1) := by decide +kernel
theorem dX5_never_19 : decode cX5_never 19 = .ok (.getfield 9, 3) := by decide +kernel
theorem dX5_never_22 : decode cX5_never 22 = .ok (.invokevirtual 93, 3) := by decide +kernel
theorem dX5_never_25 : decode cX5_never 25 = .ok (.istore_n 2, 1) := by decide +kernel
theorem dX5_never_26 : decode cX5_never 26 = .ok (.iconst 1, 1) := by decide +kernel
theorem dX5_never_27 : decode cX5_never 27 = .ok (.iconst 2, 1) := by decide +kernel
theorem dX5_never_28 : decode cX5_never 28 = .ok (.aload_n 0, 1) := by decide +kernel
theorem dX5_never_29 : decode cX5_never 29 = .ok (.getfield 24, 3) := by decide +kernel
theorem dX5_never_32 : decode cX5_never 32 = .ok (.getfield 70, 3) := by decide +kernel
theorem dX5_never_35 : decode cX5_never 35 = .ok (.imul, 1) := by decide +kernel
theorem dX5_never_36 : decode cX5_never 36 = .ok (.ishl, 1) := by decide +kernel
theorem dX5_never_37 : decode cX5_never 37 = .ok (.istore_n 3, 1) := by decide +kernel
theorem dX5_never_38 : decode cX5_never 38 = .ok (.iconst 0, 1) := by decide +kernel
theorem dX5_never_39 : decode cX5_never 39 = .ok (.istore 4, 2) := by decide +kernel
theorem dX5_never_41 : decode cX5_never 41 = .ok (.iconst 1, 1) := by decide +kernel
theorem dX5_never_42 : decode cX5_never 42 = .ok (.istore 5, 2) := by decide +kernel
theorem dX5_never_44 : decode cX5_never 44 = .ok (.iload 5, 2) := by decide +kernel
theorem dX5_never_46 : decode cX5_never 46 = .ok (.iload_n 3, 1) := by decide +kernel
theorem dX5_never_47 : decode cX5_never 47 = .ok (.if_icmp .ge 33, 3) := by decide +kernel
theorem dX5_never_50 : decode cX5_never 50 = .ok (.aload_n 0, 1) := by decide +kernel
theorem dX5_never_51 : decode cX5_never 51 = .ok (.iload 5, 2) := by decide +kernel
theorem dX5_never_53 : decode cX5_never 53 = .ok (.iload_n 2, 1) := by decide +kernel
theorem dX5_never_54 : decode cX5_never 54 = .ok (.invokevirtual 211, 3) := by decide +kernel
theorem dX5_never_57 : decode cX5_never 57 = .ok (.ifCond .eq 17, 3) := by decide +kernel
theorem dX5_never_60 : decode cX5_never 60 = .ok (.iload_n 1, 1) := by decide +kernel
theorem dX5_never_61 : decode cX5_never 61 = .ok (.ifCond .ne 10, 3) := by decide +kernel
theorem dX5_never_64 : decode cX5_never 64 = .ok (.aload_n 0, 1) := by decide +kernel
theorem dX5_never_65 : decode cX5_never 65 = .ok (.iload 5, 2) := by decide +kernel
theorem dX5_never_67 : decode cX5_never 67 = .ok (.invokevirtual 215, 3) := by decide +kernel
theorem dX5_never_70 : decode cX5_never 70 = .ok (.ireturn, 1) := by decide +kernel
theorem dX5_never_71 : decode cX5_never 71 = .ok (.iinc 4 1, 3) := by decide +kernel
theorem dX5_never_74 : decode cX5_never 74 = .ok (.iinc 5 1, 3) := by decide +kernel
theorem dX5_never_77 : decode cX5_never 77 = .ok (.goto (-33), 3) := by decide +kernel
theorem dX5_never_80 : decode cX5_never 80 = .ok (.iload_n 1, 1) := by decide +kernel
theorem dX5_never_81 : decode cX5_never 81 = .ok (.ifCond .ne 7, 3) := by decide +kernel
theorem dX5_never_84 : decode cX5_never 84 = .ok (.iconst (-1), 1) := by decide +kernel
theorem dX5_never_85 : decode cX5_never 85 = .ok (.goto 5, 3) := by decide +kernel
theorem dX5_never_88 : decode cX5_never 88 = .ok (.iload 4, 2) := by decide +kernel
theorem dX5_never_90 : decode cX5_never 90 = .ok (.ireturn, 1) := by decide +kernel
theorem dX5_when_0 : decode cX5_when 0 = .ok (.iload_n 1, 1) := by decide +kernel
theorem dX5_when_1 : decode cX5_when 1 = .ok (.ifCond .lt 8, 3) := by decide +kernel
theorem dX5_when_4 : decode cX5_when 4 = .ok (.iload_n 1, 1) := by decide +kernel
theorem dX5_when_5 : decode cX5_when 5 = .ok (.iconst 1, 1) := by decide +kernel
theorem dX5_when_6 : decode cX5_when 6 = .ok (.if_icmp .le 6, 3) := by decide +kernel
theorem dX5_when_9 : decode cX5_when 9 = .ok (.bipush (-2), 2) := by decide +kernel
theorem dX5_when_11 : decode cX5_when 11 = .ok (.ireturn, 1) := by decide +kernel
theorem dX5_when_12 : decode cX5_when 12 = .ok (.iconst (-1), 1) := by decide +kernel
theorem dX5_when_13 : decode cX5_when 13 = .ok (.istore_n 2, 1) := by decide +kernel
theorem dX5_when_14 : decode cX5_when 14 = .ok (.iconst 0, 1) := by decide +kernel
theorem dX5_when_15 : decode cX5_when 15 = .ok (.istore_n 3, 1) := by decide +kernel
theorem dX5_when_16 : decode cX5_when 16 = .ok (.iconst 0, 1) := by decide +kernel
theorem dX5_when_17 : decode cX5_when 17 = .ok (.istore 4, 2) := by decide +kernel
theorem dX5_when_19 : decode cX5_when 19 = .ok (.iload 4, 2) := by decide +kernel
theorem dX5_when_21 : decode cX5_when 21 = .ok (.bipush 14, 2) := by decide +kernel
theorem dX5_when_23 : decode cX5_when 23 = .ok (.if_icmp .ge 56, 3) := by decide +kernel
theorem dX5_when_26 : decode cX5_when 26 = .ok (.aload_n 0, 1) := by decide +kernel
theorem dX5_when_27 : decode cX5_when 27 = .ok (.invokevirtual 158, 3) := by decide +kernel
theorem dX5_when_30 : decode cX5_when 30 = .ok (.astore 5, 2) := by decide +kernel
theorem dX5_when_32 : decode cX5_when 32 = .ok (.aload 5, 2) := by decide +kernel
theorem dX5_when_34 : decode cX5_when 34 = .ok (.bipush 6, 2) := by decide +kernel
theorem dX5_when_36 : decode cX5_when 36 = .ok (.dup2, 1) := by decide +kernel
theorem dX5_when_37 : decode cX5_when 37 = .ok (.iaload, 1) := by decide +kernel
theorem dX5_when_38 : decode cX5_when 38 = .ok (.iload 4, 2) := by decide +kernel
theorem dX5_when_40 : decode cX5_when 40 = .ok (.iadd, 1) := by decide +kernel
theorem dX5_when_41 : decode cX5_when 41 = .ok (.iastore, 1) := by decide +kernel
theorem dX5_when_42 : decode cX5_when 42 = .ok (.aload_n 0, 1) := by decide +kernel
theorem dX5_when_43 : decode cX5_when 43 = .ok (.aload 5, 2) := by decide +kernel
theorem dX5_when_45 : decode cX5_when 45 = .ok (.sipush 200, 3) := by decide +kernel
theorem dX5_when_48 : decode cX5_when 48 = .ok (.iconst (-1), 1) := by decide +kernel
theorem dX5_when_49 : decode cX5_when 49 = .ok (.aload_n 0, 1) := by decide +kernel
theorem dX5_when_50 : decode cX5_when 50 = .ok (.getfield 73, 3) := by decide +kernel
theorem dX5_when_53 : decode cX5_when 53 = .ok (.invokevirtual 162, 3) := by decide +kernel
theorem dX5_when_56 : decode cX5_when 56 = .ok (.pop, 1) := by decide +kernel
theorem dX5_when_57 : decode cX5_when 57 = .ok (.aload 5, 2) := by decide +kernel
theorem dX5_when_59 : decode cX5_when 59 = .ok (.iconst 5, 1) := by decide +kernel
theorem dX5_when_60 : decode cX5_when 60 = .ok (.iaload, 1) := by decide +kernel
theorem dX5_when_61 : decode cX5_when 61 = .ok (.iload_n 2, 1) := by decide +kernel
theorem dX5_when_62 : decode cX5_when 62 = .ok (.if_icmp .le 11, 3) := by decide +kernel
theorem dX5_when_65 : decode cX5_when 65 = .ok (.aload 5, 2) := by decide +kernel
theorem dX5_when_67 : decode cX5_when 67 = .ok (.iconst 5, 1) := by decide +kernel
theorem dX5_when_68 : decode cX5_when 68 = .ok (.iaload, 1) := by decide +kernel
theorem dX5_when_69 : decode cX5_when 69 = .ok (.istore_n 2, 1) := by decide +kernel
theorem dX5_when_70 : decode cX5_when 70 = .ok (.iload 4, 2) := by decide +kernel
theorem dX5_when_72 : decode cX5_when 72 = .ok (.istore_n 3, 1) := by decide +kernel
theorem dX5_when_73 : decode cX5_when 73 = .ok (.iinc 4 1, 3) := by decide +kernel
theorem dX5_when_76 : decode cX5_when 76 = .ok (.goto (-57), 3) := by decide +kernel
theorem dX5_when_79 : decode cX5_when 79 = .ok (.iload_n 1, 1) := by decide +kernel
theorem dX5_when_80 : decode cX5_when 80 = .ok (.ifCond .ne 7, 3) := by decide +kernel
theorem dX5_when_83 : decode cX5_when 83 = .ok (.iload_n 3, 1) := by decide +kernel
theorem dX5_when_84 : decode cX5_when 84 = .ok (.goto 4, 3) := by decide +kernel
theorem dX5_when_87 : decode cX5_when 87 = .ok (.iload_n 2, 1) := by decide +kernel
theorem dX5_when_88 : decode cX5_when 88 = .ok (.ireturn, 1) := by decide +kernel
theorem dX5_neverEnds_0 : decode cX5_neverEnds 0 = .ok (.iconst 0, 1) := by decide +kernel
theorem dX5_neverEnds_1 : decode cX5_neverEnds 1 = .ok (.istore_n 3, 1) := by decide +kernel
theorem dX5_neverEnds_2 : decode cX5_neverEnds 2 = .ok (.iconst 0, 1) := by decide +kernel
theorem dX5_neverEnds_3 : decode cX5_neverEnds 3 = .ok (.istore 4, 2) := by decide +kernel
theorem dX5_neverEnds_5 : decode cX5_neverEnds 5 = .ok (.iconst 0, 1) := by decide +kernel
theorem dX5_neverEnds_6 : decode cX5_neverEnds 6 = .ok (.istore 5, 2) := by decide +kernel
theorem dX5_neverEnds_8 : decode cX5_neverEnds 8 = .ok (.iconst 0, 1) := by decide +kernel
theorem dX5_neverEnds_9 : decode cX5_neverEnds 9 = .ok (.istore 6, 2) := by decide +kernel
theorem dX5_neverEnds_11 : decode cX5_neverEnds 11 = .ok (.iload_n 1, 1) := by decide +kernel
theorem dX5_neverEnds_12 : decode cX5_neverEnds 12 = .ok (.istore 7, 2) := by decide +kernel
theorem dX5_neverEnds_14 : decode cX5_neverEnds 14 = .ok (.aload_n 0, 1) := by decide +kernel
theorem dX5_neverEnds_15 : decode cX5_neverEnds 15 = .ok (.getfield 24, 3) := by decide +kernel
theorem dX5_neverEnds_18 : decode cX5_neverEnds 18 = .ok (.getfield 70, 3) := by decide +kernel
theorem dX5_neverEnds_21 : decode cX5_neverEnds 21 = .ok (.iconst 1, 1) := by decide +kernel
theorem dX5_neverEnds_22 : decode cX5_neverEnds 22 = .ok (.isub, 1) := by decide +kernel
theorem dX5_neverEnds_23 : decode cX5_neverEnds 23 = .ok (.istore 8, 2) := by decide +kernel
theorem dX5_neverEnds_25 : decode cX5_neverEnds 25 = .ok (.iload 8, 2) := by decide +kernel
theorem dX5_neverEnds_27 : decode cX5_neverEnds 27 = .ok (.ifCond .lt 155, 3) := by decide +kernel
theorem dX5_neverEnds_30 : decode cX5_neverEnds 30 = .ok (.aload_n 0, 1) := by decide +kernel
theorem dX5_neverEnds_31 : decode cX5_neverEnds 31 = .ok (.getfield 24, 3) := by decide +kernel
theorem dX5_neverEnds_34 : decode cX5_neverEnds 34 = .ok (.iload 8, 2) := by decide +kernel
theorem dX5_neverEnds_36 : decode cX5_neverEnds 36 = .ok (.invokevirtual 117, 3) := by decide +kernel
theorem dX5_neverEnds_39 : decode cX5_neverEnds 39 = .ok (.ifCond .eq 143, 3) := by decide +kernel
theorem dX5_neverEnds_42 : decode cX5_neverEnds 42 = .ok (.iload 7, 2) := by decide +kernel
theorem dX5_neverEnds_44 : decode cX5_neverEnds 44 = .ok (.iconst 3, 1) := by decide +kernel
theorem dX5_neverEnds_45 : decode cX5_neverEnds 45 = .ok (.iand, 1) := by decide +kernel
theorem dX5_neverEnds_46 : decode cX5_neverEnds 46 = .ok (.istore 9, 2) := by decide +kernel
theorem dX5_neverEnds_48 : decode cX5_neverEnds 48 = .ok (.iload 7, 2) := by decide +kernel
theorem dX5_neverEnds_50 : decode cX5_neverEnds 50 = .ok (.iconst 2, 1) := by decide +kernel
theorem dX5_neverEnds_51 : decode cX5_neverEnds 51 = .ok (.ishr, 1) := by decide +kernel
theorem dX5_neverEnds_52 : decode cX5_neverEnds 52 = .ok (.istore 7, 2) := by decide +kernel
theorem dX5_neverEnds_54 : decode cX5_neverEnds 54 = .ok (.aload_n 0, 1) := by decide +kernel
theorem dX5_neverEnds_55 : decode cX5_neverEnds 55 = .ok (.getfield 24, 3) := by decide +kernel
theorem dX5_neverEnds_58 : decode cX5_neverEnds 58 = .ok (.iload 8, 2) := by decide +kernel
theorem dX5_neverEnds_60 : decode cX5_neverEnds 60 = .ok (.aload_n 0, 1) := by decide +kernel
theorem dX5_neverEnds_61 : decode cX5_neverEnds 61 = .ok (.getfield 9, 3) := by decide +kernel
theorem dX5_neverEnds_64 : decode cX5_neverEnds 64 = .ok (.bipush 6, 2) := by decide +kernel
theorem dX5_neverEnds_66 : decode cX5_neverEnds 66 = .ok (.iaload, 1) := by decide +kernel
theorem dX5_neverEnds_67 : decode cX5_neverEnds 67 = .ok (.invokevirtual 141, 3) := by decide +kernel
theorem dX5_neverEnds_70 : decode cX5_neverEnds 70 = .ok (.istore 10, 2) := by decide +kernel
theorem dX5_neverEnds_72 : decode cX5_neverEnds 72 = .ok (.iload 9, 2) := by decide +kernel
theorem dX5_neverEnds_74 : decode cX5_neverEnds 74 = .ok (.ifCond .le 10, 3) := by decide +kernel
theorem dX5_neverEnds_77 : decode cX5_neverEnds 77 = .ok (.iload 10, 2) := by decide +kernel
theorem dX5_neverEnds_79 : decode cX5_neverEnds 79 = .ok (.ifCond .ne 5, 3) := by decide +kernel
theorem dX5_neverEnds_82 : decode cX5_neverEnds 82 = .ok (.iconst 0, 1) := by decide +kernel
theorem dX5_neverEnds_83 : decode cX5_neverEnds 83 = .ok (.ireturn, 1) := by decide +kernel
theorem dX5_neverEnds_84 : decode cX5_neverEnds 84 = .ok (.iload 9, 2) := by decide +kernel
theorem dX5_neverEnds_86 : decode cX5_neverEnds 86 = .ok (.aload_n 0, 1) := by decide +kernel
theorem dX5_neverEnds_87 : decode cX5_neverEnds 87 = .ok (.getfield 24, 3) := by decide +kernel
theorem dX5_neverEnds_90 : decode cX5_neverEnds 90 = .ok (.iload 8, 2) := by decide +kernel
theorem dX5_neverEnds_92 : decode cX5_neverEnds 92 = .ok (.aload_n 0, 1) := by decide +kernel
theorem dX5_neverEnds_93 : decode cX5_neverEnds 93 = .ok (.getfield 9, 3) := by decide +kernel
theorem dX5_neverEnds_96 : decode cX5_neverEnds 96 = .ok (.bipush 6, 2) := by decide +kernel
theorem dX5_neverEnds_98 : decode cX5_neverEnds 98 = .ok (.iaload, 1) := by decide +kernel
theorem dX5_neverEnds_99 : decode cX5_neverEnds 99 = .ok (.invokevirtual 138, 3) := by decide +kernel
theorem dX5_neverEnds_102 : decode cX5_neverEnds 102 = .ok (.imul, 1) := by decide +kernel
theorem dX5_neverEnds_103 : decode cX5_neverEnds 103 = .ok (.istore 11, 2) := by decide +kernel
theorem dX5_neverEnds_105 : decode cX5_neverEnds 105 = .ok (.aload_n 0, 1) := by decide +kernel
theorem dX5_neverEnds_106 : decode cX5_neverEnds 106 = .ok (.getfield 24, 3) := by decide +kernel
theorem dX5_neverEnds_109 : decode cX5_neverEnds 109 = .ok (.getfield 132, 3) := by decide +kernel
theorem dX5_neverEnds_112 : decode cX5_neverEnds 112 = .ok (.iload 8, 2) := by decide +kernel
theorem dX5_neverEnds_114 : decode cX5_neverEnds 114 = .ok (.iaload, 1) := by decide +kernel
theorem dX5_neverEnds_115 : decode cX5_neverEnds 115 = .ok (.istore 12, 2) := by decide +kernel
theorem dX5_neverEnds_117 : decode cX5_neverEnds 117 = .ok (.iload_n 3, 1) := by decide +kernel
theorem dX5_neverEnds_118 : decode cX5_neverEnds 118 = .ok (.iload 9, 2) := by decide +kernel
theorem dX5_neverEnds_120 : decode cX5_neverEnds 120 = .ok (.iload 10, 2) := by decide +kernel
theorem dX5_neverEnds_122 : decode cX5_neverEnds 122 = .ok (.imul, 1) := by decide +kernel
theorem dX5_neverEnds_123 : decode cX5_neverEnds 123 = .ok (.iadd, 1) := by decide +kernel
theorem dX5_neverEnds_124 : decode cX5_neverEnds 124 = .ok (.istore_n 3, 1) := by decide +kernel
theorem dX5_neverEnds_125 : decode cX5_neverEnds 125 = .ok (.iload 4, 2) := by decide +kernel
theorem dX5_neverEnds_127 : decode cX5_neverEnds 127 = .ok (.iload 12, 2) := by decide +kernel
theorem dX5_neverEnds_129 : decode cX5_neverEnds 129 = .ok (.iconst 1, 1) := by decide +kernel
theorem dX5_neverEnds_130 : decode cX5_neverEnds 130 = .ok (.if_icmp .ne 8, 3) := by decide +kernel
theorem dX5_neverEnds_133 : decode cX5_neverEnds 133 = .ok (.iload 11, 2) := by decide +kernel
theorem dX5_neverEnds_135 : decode cX5_neverEnds 135 = .ok (.goto 4, 3) := by decide +kernel
theorem dX5_neverEnds_138 : decode cX5_neverEnds 138 = .ok (.iconst 0, 1) := by decide +kernel
theorem dX5_neverEnds_139 : decode cX5_neverEnds 139 = .ok (.iadd, 1) := by decide +kernel
theorem dX5_neverEnds_140 : decode cX5_neverEnds 140 = .ok (.istore 4, 2) := by decide +kernel
theorem dX5_neverEnds_142 : decode cX5_neverEnds 142 = .ok (.iload 5, 2) := by decide +kernel
theorem dX5_neverEnds_144 : decode cX5_neverEnds 144 = .ok (.iload 12, 2) := by decide +kernel
theorem dX5_neverEnds_146 : decode cX5_neverEnds 146 = .ok (.iconst 2, 1) := by decide +kernel
theorem dX5_neverEnds_147 : decode cX5_neverEnds 147 = .ok (.if_icmp .ne 8, 3) := by decide +kernel
theorem dX5_neverEnds_150 : decode cX5_neverEnds 150 = .ok (.iload 11, 2) := by decide +kernel
theorem dX5_neverEnds_152 : decode cX5_neverEnds 152 = .ok (.goto 4, 3) := by decide +kernel
theorem dX5_neverEnds_155 : decode cX5_neverEnds 155 = .ok (.iconst 0, 1) := by decide +kernel
theorem dX5_neverEnds_156 : decode cX5_neverEnds 156 = .ok (.iadd, 1) := by decide +kernel
theorem dX5_neverEnds_157 : decode cX5_neverEnds 157 = .ok (.istore 5, 2) := by decide +kernel
theorem dX5_neverEnds_159 : decode cX5_neverEnds 159 = .ok (.iload 6, 2) := by decide +kernel
theorem dX5_neverEnds_161 : decode cX5_neverEnds 161 = .ok (.iload 12, 2) := by decide +kernel
theorem dX5_neverEnds_163 : decode cX5_neverEnds 163 = .ok (.iconst 3, 1) := by decide +kernel
theorem dX5_neverEnds_164 : decode cX5_neverEnds 164 = .ok (.if_icmp .ne 8, 3) := by decide +kernel
theorem dX5_neverEnds_167 : decode cX5_neverEnds 167 = .ok (.iload 11, 2) := by decide +kernel
theorem dX5_neverEnds_169 : decode cX5_neverEnds 169 = .ok (.goto 4, 3) := by decide +kernel
theorem dX5_neverEnds_172 : decode cX5_neverEnds 172 = .ok (.iconst 0, 1) := by decide +kernel
theorem dX5_neverEnds_173 : decode cX5_neverEnds 173 = .ok (.iadd, 1) := by decide +kernel
theorem dX5_neverEnds_174 : decode cX5_neverEnds 174 = .ok (.istore 6, 2) := by decide +kernel
theorem dX5_neverEnds_176 : decode cX5_neverEnds 176 = .ok (.iinc 8 (-1), 3) := by decide +kernel
theorem dX5_neverEnds_179 : decode cX5_neverEnds 179 = .ok (.goto (-154), 3) := by decide +kernel
theorem dX5_neverEnds_182 : decode cX5_neverEnds 182 = .ok (.iload_n 3, 1) := by decide +kernel
theorem dX5_neverEnds_183 : decode cX5_neverEnds 183 = .ok (.ifCond .le 27, 3) := by decide +kernel
theorem dX5_neverEnds_186 : decode cX5_neverEnds 186 = .ok (.iload 4, 2) := by decide +kernel
theorem dX5_neverEnds_188 : decode cX5_neverEnds 188 = .ok (.iload_n 3, 1) := by decide +kernel
theorem dX5_neverEnds_189 : decode cX5_neverEnds 189 = .ok (.iload_n 2, 1) := by decide +kernel
theorem dX5_neverEnds_190 : decode cX5_neverEnds 190 = .ok (.imul, 1) := by decide +kernel
theorem dX5_neverEnds_191 : decode cX5_neverEnds 191 = .ok (.if_icmp .gt 19, 3) := by decide +kernel
theorem dX5_neverEnds_194 : decode cX5_neverEnds 194 = .ok (.iload 5, 2) := by decide +kernel
theorem dX5_neverEnds_196 : decode cX5_neverEnds 196 = .ok (.iload_n 3, 1) := by decide +kernel
theorem dX5_neverEnds_197 : decode cX5_neverEnds 197 = .ok (.if_icmp .gt 13, 3) := by decide +kernel
theorem dX5_neverEnds_200 : decode cX5_neverEnds 200 = .ok (.iload 6, 2) := by decide +kernel
theorem dX5_neverEnds_202 : decode cX5_neverEnds 202 = .ok (.iload_n 3, 1) := by decide +kernel
theorem dX5_neverEnds_203 : decode cX5_neverEnds 203 = .ok (.if_icmp .gt 7, 3) := by decide +kernel
theorem dX5_neverEnds_206 : decode cX5_neverEnds 206 = .ok (.iconst 1, 1) := by decide +kernel
theorem dX5_neverEnds_207 : decode cX5_neverEnds 207 = .ok (.goto 4, 3) := by decide +kernel
theorem dX5_neverEnds_210 : decode cX5_neverEnds 210 = .ok (.iconst 0, 1) := by decide +kernel
theorem dX5_neverEnds_211 : decode cX5_neverEnds 211 = .ok (.ireturn, 1) := by decide +kernel
theorem dX5_inDigits_0 : decode cX5_inDigits 0 = .ok (.iconst 0, 1) := by decide +kernel
theorem dX5_inDigits_1 : decode cX5_inDigits 1 = .ok (.istore_n 2, 1) := by decide +kernel
theorem dX5_inDigits_2 : decode cX5_inDigits 2 = .ok (.iconst 0, 1) := by decide +kernel
theorem dX5_inDigits_3 : decode cX5_inDigits 3 = .ok (.istore_n 3, 1) := by decide +kernel
theorem dX5_inDigits_4 : decode cX5_inDigits 4 = .ok (.iload_n 3, 1) := by decide +kernel
theorem dX5_inDigits_5 : decode cX5_inDigits 5 = .ok (.aload_n 0, 1) := by decide +kernel
theorem dX5_inDigits_6 : decode cX5_inDigits 6 = .ok (.getfield 24, 3) := by decide +kernel
theorem dX5_inDigits_9 : decode cX5_inDigits 9 = .ok (.getfield 70, 3) := by decide +kernel
theorem dX5_inDigits_12 : decode cX5_inDigits 12 = .ok (.if_icmp .ge 36, 3) := by decide +kernel
theorem dX5_inDigits_15 : decode cX5_inDigits 15 = .ok (.iload_n 1, 1) := by decide +kernel
theorem dX5_inDigits_16 : decode cX5_inDigits 16 = .ok (.iconst 2, 1) := by decide +kernel
theorem dX5_inDigits_17 : decode cX5_inDigits 17 = .ok (.aload_n 0, 1) := by decide +kernel
theorem dX5_inDigits_18 : decode cX5_inDigits 18 = .ok (.getfield 24, 3) := by decide +kernel
theorem dX5_inDigits_21 : decode cX5_inDigits 21 = .ok (.getfield 70, 3) := by decide +kernel
theorem dX5_inDigits_24 : decode cX5_inDigits 24 = .ok (.iconst 1, 1) := by decide +kernel
theorem dX5_inDigits_25 : decode cX5_inDigits 25 = .ok (.isub, 1) := by decide +kernel
theorem dX5_inDigits_26 : decode cX5_inDigits 26 = .ok (.iload_n 3, 1) := by decide +kernel
theorem dX5_inDigits_27 : decode cX5_inDigits 27 = .ok (.isub, 1) := by decide +kernel
theorem dX5_inDigits_28 : decode cX5_inDigits 28 = .ok (.imul, 1) := by decide +kernel
theorem dX5_inDigits_29 : decode cX5_inDigits 29 = .ok (.ishr, 1) := by decide +kernel
theorem dX5_inDigits_30 : decode cX5_inDigits 30 = .ok (.iconst 3, 1) := by decide +kernel
theorem dX5_inDigits_31 : decode cX5_inDigits 31 = .ok (.iand, 1) := by decide +kernel
theorem dX5_inDigits_32 : decode cX5_inDigits 32 = .ok (.istore 4, 2) := by decide +kernel
theorem dX5_inDigits_34 : decode cX5_inDigits 34 = .ok (.iload_n 2, 1) := by decide +kernel
theorem dX5_inDigits_35 : decode cX5_inDigits 35 = .ok (.bipush 10, 2) := by decide +kernel
theorem dX5_inDigits_37 : decode cX5_inDigits 37 = .ok (.imul, 1) := by decide +kernel
theorem dX5_inDigits_38 : decode cX5_inDigits 38 = .ok (.iload 4, 2) := by decide +kernel
theorem dX5_inDigits_40 : decode cX5_inDigits 40 = .ok (.iadd, 1) := by decide +kernel
theorem dX5_inDigits_41 : decode cX5_inDigits 41 = .ok (.istore_n 2, 1) := by decide +kernel
theorem dX5_inDigits_42 : decode cX5_inDigits 42 = .ok (.iinc 3 1, 3) := by decide +kernel
theorem dX5_inDigits_45 : decode cX5_inDigits 45 = .ok (.goto (-41), 3) := by decide +kernel
theorem dX5_inDigits_48 : decode cX5_inDigits 48 = .ok (.iload_n 2, 1) := by decide +kernel
theorem dX5_inDigits_49 : decode cX5_inDigits 49 = .ok (.ireturn, 1) := by decide +kernel
theorem dX5_judge_0 : decode cX5_judge 0 = .ok (.aload_n 0, 1) := by decide +kernel
theorem dX5_judge_1 : decode cX5_judge 1 = .ok (.getfield 44, 3) := by decide +kernel
theorem dX5_judge_4 : decode cX5_judge 4 = .ok (.iload_n 1, 1) := by decide +kernel
theorem dX5_judge_5 : decode cX5_judge 5 = .ok (.invokevirtual 218, 3) := by decide +kernel
theorem dX5_judge_8 : decode cX5_judge 8 = .ok (.istore_n 2, 1) := by decide +kernel
theorem dX5_judge_9 : decode cX5_judge 9 = .ok (.iload_n 2, 1) := by decide +kernel
theorem dX5_judge_10 : decode cX5_judge 10 = .ok (.ifCond .eq 7, 3) := by decide +kernel
theorem dX5_judge_13 : decode cX5_judge 13 = .ok (.iload_n 2, 1) := by decide +kernel
theorem dX5_judge_14 : decode cX5_judge 14 = .ok (.goto 8, 3) := by decide +kernel
theorem dX5_judge_17 : decode cX5_judge 17 = .ok (.aload_n 0, 1) := by decide +kernel
theorem dX5_judge_18 : decode cX5_judge 18 = .ok (.iload_n 1, 1) := by decide +kernel
theorem dX5_judge_19 : decode cX5_judge 19 = .ok (.invokevirtual 221, 3) := by decide +kernel
theorem dX5_judge_22 : decode cX5_judge 22 = .ok (.ireturn, 1) := by decide +kernel
theorem dX5_behind_0 : decode cX5_behind 0 = .ok (.aload_n 0, 1) := by decide +kernel
theorem dX5_behind_1 : decode cX5_behind 1 = .ok (.getfield 44, 3) := by decide +kernel
theorem dX5_behind_4 : decode cX5_behind 4 = .ok (.iload_n 1, 1) := by decide +kernel
theorem dX5_behind_5 : decode cX5_behind 5 = .ok (.invokevirtual 218, 3) := by decide +kernel
theorem dX5_behind_8 : decode cX5_behind 8 = .ok (.istore_n 3, 1) := by decide +kernel
theorem dX5_behind_9 : decode cX5_behind 9 = .ok (.iload_n 3, 1) := by decide +kernel
theorem dX5_behind_10 : decode cX5_behind 10 = .ok (.ifCond .eq 5, 3) := by decide +kernel
theorem dX5_behind_13 : decode cX5_behind 13 = .ok (.iload_n 3, 1) := by decide +kernel
theorem dX5_behind_14 : decode cX5_behind 14 = .ok (.ireturn, 1) := by decide +kernel
theorem dX5_behind_15 : decode cX5_behind 15 = .ok (.iload_n 2, 1) := by decide +kernel
theorem dX5_behind_16 : decode cX5_behind 16 = .ok (.ifCond .lt 9, 3) := by decide +kernel
theorem dX5_behind_19 : decode cX5_behind 19 = .ok (.iload_n 2, 1) := by decide +kernel
theorem dX5_behind_20 : decode cX5_behind 20 = .ok (.bipush 7, 2) := by decide +kernel
theorem dX5_behind_22 : decode cX5_behind 22 = .ok (.if_icmp .lt 6, 3) := by decide +kernel
theorem dX5_behind_25 : decode cX5_behind 25 = .ok (.bipush (-7), 2) := by decide +kernel
theorem dX5_behind_27 : decode cX5_behind 27 = .ok (.ireturn, 1) := by decide +kernel
theorem dX5_behind_28 : decode cX5_behind 28 = .ok (.aload_n 0, 1) := by decide +kernel
theorem dX5_behind_29 : decode cX5_behind 29 = .ok (.iload_n 1, 1) := by decide +kernel
theorem dX5_behind_30 : decode cX5_behind 30 = .ok (.invokevirtual 221, 3) := by decide +kernel
theorem dX5_behind_33 : decode cX5_behind 33 = .ok (.iconst (-1), 1) := by decide +kernel
theorem dX5_behind_34 : decode cX5_behind 34 = .ok (.if_icmp .eq 6, 3) := by decide +kernel
theorem dX5_behind_37 : decode cX5_behind 37 = .ok (.bipush (-9), 2) := by decide +kernel
theorem dX5_behind_39 : decode cX5_behind 39 = .ok (.ireturn, 1) := by decide +kernel
theorem dX5_behind_40 : decode cX5_behind 40 = .ok (.aload_n 0, 1) := by decide +kernel
theorem dX5_behind_41 : decode cX5_behind 41 = .ok (.getfield 13, 3) := by decide +kernel
theorem dX5_behind_44 : decode cX5_behind 44 = .ok (.iload_n 2, 1) := by decide +kernel
theorem dX5_behind_45 : decode cX5_behind 45 = .ok (.iaload, 1) := by decide +kernel
theorem dX5_behind_46 : decode cX5_behind 46 = .ok (.ireturn, 1) := by decide +kernel
theorem dX5_film_0 : decode cX5_film 0 = .ok (.iload_n 1, 1) := by decide +kernel
theorem dX5_film_1 : decode cX5_film 1 = .ok (.invokestatic 224, 3) := by decide +kernel
theorem dX5_film_4 : decode cX5_film 4 = .ok (.ifCond .ne 6, 3) := by decide +kernel
theorem dX5_film_7 : decode cX5_film 7 = .ok (.bipush (-2), 2) := by decide +kernel
theorem dX5_film_9 : decode cX5_film 9 = .ok (.ireturn, 1) := by decide +kernel
theorem dX5_film_10 : decode cX5_film 10 = .ok (.iload_n 2, 1) := by decide +kernel
theorem dX5_film_11 : decode cX5_film 11 = .ok (.ifCond .lt 9, 3) := by decide +kernel
theorem dX5_film_14 : decode cX5_film 14 = .ok (.iload_n 2, 1) := by decide +kernel
theorem dX5_film_15 : decode cX5_film 15 = .ok (.bipush 40, 2) := by decide +kernel
theorem dX5_film_17 : decode cX5_film 17 = .ok (.if_icmp .le 6, 3) := by decide +kernel
theorem dX5_film_20 : decode cX5_film 20 = .ok (.bipush (-7), 2) := by decide +kernel
theorem dX5_film_22 : decode cX5_film 22 = .ok (.ireturn, 1) := by decide +kernel
theorem dX5_film_23 : decode cX5_film 23 = .ok (.aload_n 0, 1) := by decide +kernel
theorem dX5_film_24 : decode cX5_film 24 = .ok (.getfield 44, 3) := by decide +kernel
theorem dX5_film_27 : decode cX5_film 27 = .ok (.iload_n 1, 1) := by decide +kernel
theorem dX5_film_28 : decode cX5_film 28 = .ok (.iconst 2, 1) := by decide +kernel
theorem dX5_film_29 : decode cX5_film 29 = .ok (.iload_n 2, 1) := by decide +kernel
theorem dX5_film_30 : decode cX5_film 30 = .ok (.invokevirtual 227, 3) := by decide +kernel
theorem dX5_film_33 : decode cX5_film 33 = .ok (.aload_n 0, 1) := by decide +kernel
theorem dX5_film_34 : decode cX5_film 34 = .ok (.invokevirtual 158, 3) := by decide +kernel
theorem dX5_film_37 : decode cX5_film 37 = .ok (.astore_n 3, 1) := by decide +kernel
theorem dX5_film_38 : decode cX5_film 38 = .ok (.iconst 0, 1) := by decide +kernel
theorem dX5_film_39 : decode cX5_film 39 = .ok (.istore 4, 2) := by decide +kernel
theorem dX5_film_41 : decode cX5_film 41 = .ok (.iload 4, 2) := by decide +kernel
theorem dX5_film_43 : decode cX5_film 43 = .ok (.iload_n 2, 1) := by decide +kernel
theorem dX5_film_44 : decode cX5_film 44 = .ok (.if_icmp .ge 59, 3) := by decide +kernel
theorem dX5_film_47 : decode cX5_film 47 = .ok (.aload_n 0, 1) := by decide +kernel
theorem dX5_film_48 : decode cX5_film 48 = .ok (.aload_n 3, 1) := by decide +kernel
theorem dX5_film_49 : decode cX5_film 49 = .ok (.iconst (-1), 1) := by decide +kernel
theorem dX5_film_50 : decode cX5_film 50 = .ok (.invokevirtual 166, 3) := by decide +kernel
theorem dX5_film_53 : decode cX5_film 53 = .ok (.istore 5, 2) := by decide +kernel
theorem dX5_film_55 : decode cX5_film 55 = .ok (.iload 5, 2) := by decide +kernel
theorem dX5_film_57 : decode cX5_film 57 = .ok (.iconst (-1), 1) := by decide +kernel
theorem dX5_film_58 : decode cX5_film 58 = .ok (.if_icmp .ne 16, 3) := by decide +kernel
theorem dX5_film_61 : decode cX5_film 61 = .ok (.aload_n 0, 1) := by decide +kernel
theorem dX5_film_62 : decode cX5_film 62 = .ok (.getfield 44, 3) := by decide +kernel
theorem dX5_film_65 : decode cX5_film 65 = .ok (.iload_n 1, 1) := by decide +kernel
theorem dX5_film_66 : decode cX5_film 66 = .ok (.iload 4, 2) := by decide +kernel
theorem dX5_film_68 : decode cX5_film 68 = .ok (.invokevirtual 230, 3) := by decide +kernel
theorem dX5_film_71 : decode cX5_film 71 = .ok (.iload 4, 2) := by decide +kernel
theorem dX5_film_73 : decode cX5_film 73 = .ok (.ireturn, 1) := by decide +kernel
theorem dX5_film_74 : decode cX5_film 74 = .ok (.aload_n 0, 1) := by decide +kernel
theorem dX5_film_75 : decode cX5_film 75 = .ok (.getfield 44, 3) := by decide +kernel
theorem dX5_film_78 : decode cX5_film 78 = .ok (.iload_n 1, 1) := by decide +kernel
theorem dX5_film_79 : decode cX5_film 79 = .ok (.iload 4, 2) := by decide +kernel
theorem dX5_film_81 : decode cX5_film 81 = .ok (.iload 5, 2) := by decide +kernel
theorem dX5_film_83 : decode cX5_film 83 = .ok (.invokevirtual 234, 3) := by decide +kernel
theorem dX5_film_86 : decode cX5_film 86 = .ok (.aload_n 0, 1) := by decide +kernel
theorem dX5_film_87 : decode cX5_film 87 = .ok (.aload_n 3, 1) := by decide +kernel
theorem dX5_film_88 : decode cX5_film 88 = .ok (.iload 5, 2) := by decide +kernel
theorem dX5_film_90 : decode cX5_film 90 = .ok (.aload_n 0, 1) := by decide +kernel
theorem dX5_film_91 : decode cX5_film 91 = .ok (.getfield 73, 3) := by decide +kernel
theorem dX5_film_94 : decode cX5_film 94 = .ok (.invokevirtual 154, 3) := by decide +kernel
theorem dX5_film_97 : decode cX5_film 97 = .ok (.iinc 4 1, 3) := by decide +kernel
theorem dX5_film_100 : decode cX5_film 100 = .ok (.goto (-59), 3) := by decide +kernel
theorem dX5_film_103 : decode cX5_film 103 = .ok (.iload_n 2, 1) := by decide +kernel
theorem dX5_film_104 : decode cX5_film 104 = .ok (.ireturn, 1) := by decide +kernel
theorem dX5_laws_0 : decode cX5_laws 0 = .ok (.iload_n 1, 1) := by decide +kernel
theorem dX5_laws_1 : decode cX5_laws 1 = .ok (.ifCond .lt 10, 3) := by decide +kernel
theorem dX5_laws_4 : decode cX5_laws 4 = .ok (.iload_n 1, 1) := by decide +kernel
theorem dX5_laws_5 : decode cX5_laws 5 = .ok (.sipush 999, 3) := by decide +kernel
theorem dX5_laws_8 : decode cX5_laws 8 = .ok (.if_icmp .le 6, 3) := by decide +kernel
theorem dX5_laws_11 : decode cX5_laws 11 = .ok (.bipush (-2), 2) := by decide +kernel
theorem dX5_laws_13 : decode cX5_laws 13 = .ok (.ireturn, 1) := by decide +kernel
theorem dX5_laws_14 : decode cX5_laws 14 = .ok (.iconst 0, 1) := by decide +kernel
theorem dX5_laws_15 : decode cX5_laws 15 = .ok (.istore_n 2, 1) := by decide +kernel
theorem dX5_laws_16 : decode cX5_laws 16 = .ok (.iconst 0, 1) := by decide +kernel
theorem dX5_laws_17 : decode cX5_laws 17 = .ok (.istore_n 3, 1) := by decide +kernel
theorem dX5_laws_18 : decode cX5_laws 18 = .ok (.iload_n 3, 1) := by decide +kernel
theorem dX5_laws_19 : decode cX5_laws 19 = .ok (.aload_n 0, 1) := by decide +kernel
theorem dX5_laws_20 : decode cX5_laws 20 = .ok (.getfield 62, 3) := by decide +kernel
theorem dX5_laws_23 : decode cX5_laws 23 = .ok (.if_icmp .ge 41, 3) := by decide +kernel
theorem dX5_laws_26 : decode cX5_laws 26 = .ok (.aload_n 0, 1) := by decide +kernel
theorem dX5_laws_27 : decode cX5_laws 27 = .ok (.invokevirtual 158, 3) := by decide +kernel
theorem dX5_laws_30 : decode cX5_laws 30 = .ok (.astore 4, 2) := by decide +kernel
theorem dX5_laws_32 : decode cX5_laws 32 = .ok (.aload_n 0, 1) := by decide +kernel
theorem dX5_laws_33 : decode cX5_laws 33 = .ok (.aload 4, 2) := by decide +kernel
theorem dX5_laws_35 : decode cX5_laws 35 = .ok (.sipush 200, 3) := by decide +kernel
theorem dX5_laws_38 : decode cX5_laws 38 = .ok (.iconst (-1), 1) := by decide +kernel
theorem dX5_laws_39 : decode cX5_laws 39 = .ok (.iload_n 3, 1) := by decide +kernel
theorem dX5_laws_40 : decode cX5_laws 40 = .ok (.invokevirtual 162, 3) := by decide +kernel
theorem dX5_laws_43 : decode cX5_laws 43 = .ok (.pop, 1) := by decide +kernel
theorem dX5_laws_44 : decode cX5_laws 44 = .ok (.aload 4, 2) := by decide +kernel
theorem dX5_laws_46 : decode cX5_laws 46 = .ok (.iconst 5, 1) := by decide +kernel
theorem dX5_laws_47 : decode cX5_laws 47 = .ok (.iaload, 1) := by decide +kernel
theorem dX5_laws_48 : decode cX5_laws 48 = .ok (.iload_n 1, 1) := by decide +kernel
theorem dX5_laws_49 : decode cX5_laws 49 = .ok (.if_icmp .ne 9, 3) := by decide +kernel
theorem dX5_laws_52 : decode cX5_laws 52 = .ok (.iload_n 2, 1) := by decide +kernel
theorem dX5_laws_53 : decode cX5_laws 53 = .ok (.iconst 1, 1) := by decide +kernel
theorem dX5_laws_54 : decode cX5_laws 54 = .ok (.iload_n 3, 1) := by decide +kernel
theorem dX5_laws_55 : decode cX5_laws 55 = .ok (.ishl, 1) := by decide +kernel
theorem dX5_laws_56 : decode cX5_laws 56 = .ok (.ior, 1) := by decide +kernel
theorem dX5_laws_57 : decode cX5_laws 57 = .ok (.istore_n 2, 1) := by decide +kernel
theorem dX5_laws_58 : decode cX5_laws 58 = .ok (.iinc 3 1, 3) := by decide +kernel
theorem dX5_laws_61 : decode cX5_laws 61 = .ok (.goto (-43), 3) := by decide +kernel
theorem dX5_laws_64 : decode cX5_laws 64 = .ok (.iload_n 2, 1) := by decide +kernel
theorem dX5_laws_65 : decode cX5_laws 65 = .ok (.ireturn, 1) := by decide +kernel
theorem dX5_firstWrong_0 : decode cX5_firstWrong 0 = .ok (.aload_n 0, 1) := by decide +kernel
theorem dX5_firstWrong_1 : decode cX5_firstWrong 1 = .ok (.invokevirtual 158, 3) := by decide +kernel
theorem dX5_firstWrong_4 : decode cX5_firstWrong 4 = .ok (.astore_n 2, 1) := by decide +kernel
theorem dX5_firstWrong_5 : decode cX5_firstWrong 5 = .ok (.aload_n 0, 1) := by decide +kernel
theorem dX5_firstWrong_6 : decode cX5_firstWrong 6 = .ok (.getfield 44, 3) := by decide +kernel
theorem dX5_firstWrong_9 : decode cX5_firstWrong 9 = .ok (.iload_n 1, 1) := by decide +kernel
theorem dX5_firstWrong_10 : decode cX5_firstWrong 10 = .ok (.invokevirtual 236, 3) := by decide +kernel
theorem dX5_firstWrong_13 : decode cX5_firstWrong 13 = .ok (.istore_n 3, 1) := by decide +kernel
theorem dX5_firstWrong_14 : decode cX5_firstWrong 14 = .ok (.iconst 0, 1) := by decide +kernel
theorem dX5_firstWrong_15 : decode cX5_firstWrong 15 = .ok (.istore 4, 2) := by decide +kernel
theorem dX5_firstWrong_17 : decode cX5_firstWrong 17 = .ok (.iload 4, 2) := by decide +kernel
theorem dX5_firstWrong_19 : decode cX5_firstWrong 19 = .ok (.iload_n 3, 1) := by decide +kernel
theorem dX5_firstWrong_20 : decode cX5_firstWrong 20 = .ok (.if_icmp .ge 54, 3) := by decide +kernel
theorem dX5_firstWrong_23 : decode cX5_firstWrong 23 = .ok (.aload_n 0, 1) := by decide +kernel
theorem dX5_firstWrong_24 : decode cX5_firstWrong 24 = .ok (.getfield 44, 3) := by decide +kernel
theorem dX5_firstWrong_27 : decode cX5_firstWrong 27 = .ok (.iload_n 1, 1) := by decide +kernel
theorem dX5_firstWrong_28 : decode cX5_firstWrong 28 = .ok (.iload 4, 2) := by decide +kernel
theorem dX5_firstWrong_30 : decode cX5_firstWrong 30 = .ok (.invokevirtual 239, 3) := by decide +kernel
theorem dX5_firstWrong_33 : decode cX5_firstWrong 33 = .ok (.istore 5, 2) := by decide +kernel
theorem dX5_firstWrong_35 : decode cX5_firstWrong 35 = .ok (.aload_n 0, 1) := by decide +kernel
theorem dX5_firstWrong_36 : decode cX5_firstWrong 36 = .ok (.iload 5, 2) := by decide +kernel
theorem dX5_firstWrong_38 : decode cX5_firstWrong 38 = .ok (.invokevirtual 147, 3) := by decide +kernel
theorem dX5_firstWrong_41 : decode cX5_firstWrong 41 = .ok (.ifCond .eq 13, 3) := by decide +kernel
theorem dX5_firstWrong_44 : decode cX5_firstWrong 44 = .ok (.aload_n 0, 1) := by decide +kernel
theorem dX5_firstWrong_45 : decode cX5_firstWrong 45 = .ok (.aload_n 2, 1) := by decide +kernel
theorem dX5_firstWrong_46 : decode cX5_firstWrong 46 = .ok (.iload 5, 2) := by decide +kernel
theorem dX5_firstWrong_48 : decode cX5_firstWrong 48 = .ok (.invokevirtual 150, 3) := by decide +kernel
theorem dX5_firstWrong_51 : decode cX5_firstWrong 51 = .ok (.ifCond .ne 6, 3) := by decide +kernel
theorem dX5_firstWrong_54 : decode cX5_firstWrong 54 = .ok (.iload 4, 2) := by decide +kernel
theorem dX5_firstWrong_56 : decode cX5_firstWrong 56 = .ok (.ireturn, 1) := by decide +kernel
theorem dX5_firstWrong_57 : decode cX5_firstWrong 57 = .ok (.aload_n 0, 1) := by decide +kernel
theorem dX5_firstWrong_58 : decode cX5_firstWrong 58 = .ok (.aload_n 2, 1) := by decide +kernel
theorem dX5_firstWrong_59 : decode cX5_firstWrong 59 = .ok (.iload 5, 2) := by decide +kernel
theorem dX5_firstWrong_61 : decode cX5_firstWrong 61 = .ok (.aload_n 0, 1) := by decide +kernel
theorem dX5_firstWrong_62 : decode cX5_firstWrong 62 = .ok (.getfield 73, 3) := by decide +kernel
theorem dX5_firstWrong_65 : decode cX5_firstWrong 65 = .ok (.invokevirtual 154, 3) := by decide +kernel
theorem dX5_firstWrong_68 : decode cX5_firstWrong 68 = .ok (.iinc 4 1, 3) := by decide +kernel
theorem dX5_firstWrong_71 : decode cX5_firstWrong 71 = .ok (.goto (-54), 3) := by decide +kernel
theorem dX5_firstWrong_74 : decode cX5_firstWrong 74 = .ok (.iconst (-1), 1) := by decide +kernel
theorem dX5_firstWrong_75 : decode cX5_firstWrong 75 = .ok (.ireturn, 1) := by decide +kernel
theorem dX5_drawn_0 : decode cX5_drawn 0 = .ok (.iload_n 1, 1) := by decide +kernel
theorem dX5_drawn_1 : decode cX5_drawn 1 = .ok (.ifCond .lt 20, 3) := by decide +kernel
theorem dX5_drawn_4 : decode cX5_drawn 4 = .ok (.iload_n 1, 1) := by decide +kernel
theorem dX5_drawn_5 : decode cX5_drawn 5 = .ok (.ldc 242, 2) := by decide +kernel
theorem dX5_drawn_7 : decode cX5_drawn 7 = .ok (.if_icmp .gt 14, 3) := by decide +kernel
theorem dX5_drawn_10 : decode cX5_drawn 10 = .ok (.iload_n 2, 1) := by decide +kernel
theorem dX5_drawn_11 : decode cX5_drawn 11 = .ok (.ifCond .lt 10, 3) := by decide +kernel
theorem dX5_drawn_14 : decode cX5_drawn 14 = .ok (.iload_n 2, 1) := by decide +kernel
theorem dX5_drawn_15 : decode cX5_drawn 15 = .ok (.sipush 200, 3) := by decide +kernel
theorem dX5_drawn_18 : decode cX5_drawn 18 = .ok (.if_icmp .le 6, 3) := by decide +kernel
theorem dX5_drawn_21 : decode cX5_drawn 21 = .ok (.bipush (-2), 2) := by decide +kernel
theorem dX5_drawn_23 : decode cX5_drawn 23 = .ok (.ireturn, 1) := by decide +kernel
theorem dX5_drawn_24 : decode cX5_drawn 24 = .ok (.aload_n 0, 1) := by decide +kernel
theorem dX5_drawn_25 : decode cX5_drawn 25 = .ok (.iload_n 1, 1) := by decide +kernel
theorem dX5_drawn_26 : decode cX5_drawn 26 = .ok (.iload_n 2, 1) := by decide +kernel
theorem dX5_drawn_27 : decode cX5_drawn 27 = .ok (.invokevirtual 243, 3) := by decide +kernel
theorem dX5_drawn_30 : decode cX5_drawn 30 = .ok (.ireturn, 1) := by decide +kernel
theorem dX5_mean_0 : decode cX5_mean 0 = .ok (.iload_n 1, 1) := by decide +kernel
theorem dX5_mean_1 : decode cX5_mean 1 = .ok (.ifCond .lt 20, 3) := by decide +kernel
theorem dX5_mean_4 : decode cX5_mean 4 = .ok (.iload_n 1, 1) := by decide +kernel
theorem dX5_mean_5 : decode cX5_mean 5 = .ok (.ldc 242, 2) := by decide +kernel
theorem dX5_mean_7 : decode cX5_mean 7 = .ok (.if_icmp .gt 14, 3) := by decide +kernel
theorem dX5_mean_10 : decode cX5_mean 10 = .ok (.iload_n 2, 1) := by decide +kernel
theorem dX5_mean_11 : decode cX5_mean 11 = .ok (.iconst 1, 1) := by decide +kernel
theorem dX5_mean_12 : decode cX5_mean 12 = .ok (.if_icmp .lt 9, 3) := by decide +kernel
theorem dX5_mean_15 : decode cX5_mean 15 = .ok (.iload_n 2, 1) := by decide +kernel
theorem dX5_mean_16 : decode cX5_mean 16 = .ok (.bipush 30, 2) := by decide +kernel
theorem dX5_mean_18 : decode cX5_mean 18 = .ok (.if_icmp .le 7, 3) := by decide +kernel
theorem dX5_mean_21 : decode cX5_mean 21 = .ok (.ldc2_w 208, 3) := by decide +kernel
theorem dX5_mean_24 : decode cX5_mean 24 = .ok (.lreturn, 1) := by decide +kernel
theorem dX5_mean_25 : decode cX5_mean 25 = .ok (.iload_n 3, 1) := by decide +kernel
theorem dX5_mean_26 : decode cX5_mean 26 = .ok (.ifCond .lt 21, 3) := by decide +kernel
theorem dX5_mean_29 : decode cX5_mean 29 = .ok (.iload_n 3, 1) := by decide +kernel
theorem dX5_mean_30 : decode cX5_mean 30 = .ok (.sipush 200, 3) := by decide +kernel
theorem dX5_mean_33 : decode cX5_mean 33 = .ok (.if_icmp .gt 14, 3) := by decide +kernel
theorem dX5_mean_36 : decode cX5_mean 36 = .ok (.iload 4, 2) := by decide +kernel
theorem dX5_mean_38 : decode cX5_mean 38 = .ok (.ifCond .lt 9, 3) := by decide +kernel
theorem dX5_mean_41 : decode cX5_mean 41 = .ok (.iload 4, 2) := by decide +kernel
theorem dX5_mean_43 : decode cX5_mean 43 = .ok (.iconst 1, 1) := by decide +kernel
theorem dX5_mean_44 : decode cX5_mean 44 = .ok (.if_icmp .le 7, 3) := by decide +kernel
theorem dX5_mean_47 : decode cX5_mean 47 = .ok (.ldc2_w 208, 3) := by decide +kernel
theorem dX5_mean_50 : decode cX5_mean 50 = .ok (.lreturn, 1) := by decide +kernel
theorem dX5_mean_51 : decode cX5_mean 51 = .ok (.iconst 0, 1) := by decide +kernel
theorem dX5_mean_52 : decode cX5_mean 52 = .ok (.istore 5, 2) := by decide +kernel
theorem dX5_mean_54 : decode cX5_mean 54 = .ok (.iconst 0, 1) := by decide +kernel
theorem dX5_mean_55 : decode cX5_mean 55 = .ok (.istore 6, 2) := by decide +kernel
theorem dX5_mean_57 : decode cX5_mean 57 = .ok (.iload 6, 2) := by decide +kernel
theorem dX5_mean_59 : decode cX5_mean 59 = .ok (.iload_n 2, 1) := by decide +kernel
theorem dX5_mean_60 : decode cX5_mean 60 = .ok (.if_icmp .ge 23, 3) := by decide +kernel
theorem dX5_mean_63 : decode cX5_mean 63 = .ok (.iload 5, 2) := by decide +kernel
theorem dX5_mean_65 : decode cX5_mean 65 = .ok (.aload_n 0, 1) := by decide +kernel
theorem dX5_mean_66 : decode cX5_mean 66 = .ok (.iload_n 1, 1) := by decide +kernel
theorem dX5_mean_67 : decode cX5_mean 67 = .ok (.iload 6, 2) := by decide +kernel
theorem dX5_mean_69 : decode cX5_mean 69 = .ok (.iadd, 1) := by decide +kernel
theorem dX5_mean_70 : decode cX5_mean 70 = .ok (.iload_n 3, 1) := by decide +kernel
theorem dX5_mean_71 : decode cX5_mean 71 = .ok (.invokevirtual 243, 3) := by decide +kernel
theorem dX5_mean_74 : decode cX5_mean 74 = .ok (.iadd, 1) := by decide +kernel
theorem dX5_mean_75 : decode cX5_mean 75 = .ok (.istore 5, 2) := by decide +kernel
theorem dX5_mean_77 : decode cX5_mean 77 = .ok (.iinc 6 1, 3) := by decide +kernel
theorem dX5_mean_80 : decode cX5_mean 80 = .ok (.goto (-23), 3) := by decide +kernel
theorem dX5_mean_83 : decode cX5_mean 83 = .ok (.iload 5, 2) := by decide +kernel
theorem dX5_mean_85 : decode cX5_mean 85 = .ok (.iload_n 2, 1) := by decide +kernel
theorem dX5_mean_86 : decode cX5_mean 86 = .ok (.invokestatic 246, 3) := by decide +kernel
theorem dX5_mean_89 : decode cX5_mean 89 = .ok (.istore 6, 2) := by decide +kernel
theorem dX5_mean_91 : decode cX5_mean 91 = .ok (.iload 6, 2) := by decide +kernel
theorem dX5_mean_93 : decode cX5_mean 93 = .ok (.ifCond .ne 7, 3) := by decide +kernel
theorem dX5_mean_96 : decode cX5_mean 96 = .ok (.ldc2_w 208, 3) := by decide +kernel
theorem dX5_mean_99 : decode cX5_mean 99 = .ok (.lreturn, 1) := by decide +kernel
theorem dX5_mean_100 : decode cX5_mean 100 = .ok (.iload 4, 2) := by decide +kernel
theorem dX5_mean_102 : decode cX5_mean 102 = .ok (.ifCond .ne 8, 3) := by decide +kernel
theorem dX5_mean_105 : decode cX5_mean 105 = .ok (.iload 5, 2) := by decide +kernel
theorem dX5_mean_107 : decode cX5_mean 107 = .ok (.goto 4, 3) := by decide +kernel
theorem dX5_mean_110 : decode cX5_mean 110 = .ok (.iload_n 2, 1) := by decide +kernel
theorem dX5_mean_111 : decode cX5_mean 111 = .ok (.iload 6, 2) := by decide +kernel
theorem dX5_mean_113 : decode cX5_mean 113 = .ok (.idiv, 1) := by decide +kernel
theorem dX5_mean_114 : decode cX5_mean 114 = .ok (.i2l, 1) := by decide +kernel
theorem dX5_mean_115 : decode cX5_mean 115 = .ok (.lreturn, 1) := by decide +kernel
theorem dX5_image_0 : decode cX5_image 0 = .ok (.aload_n 0, 1) := by decide +kernel
theorem dX5_image_1 : decode cX5_image 1 = .ok (.getfield 9, 3) := by decide +kernel
theorem dX5_image_4 : decode cX5_image 4 = .ok (.iconst 0, 1) := by decide +kernel
theorem dX5_image_5 : decode cX5_image 5 = .ok (.aload_n 0, 1) := by decide +kernel
theorem dX5_image_6 : decode cX5_image 6 = .ok (.getfield 51, 3) := by decide +kernel
theorem dX5_image_9 : decode cX5_image 9 = .ok (.getfield 249, 3) := by decide +kernel
theorem dX5_image_12 : decode cX5_image 12 = .ok (.iconst 0, 1) := by decide +kernel
theorem dX5_image_13 : decode cX5_image 13 = .ok (.bipush 7, 2) := by decide +kernel
theorem dX5_image_15 : decode cX5_image 15 = .ok (.invokestatic 176, 3) := by decide +kernel
theorem dX5_image_18 : decode cX5_image 18 = .ok (.aload_n 0, 1) := by decide +kernel
theorem dX5_image_19 : decode cX5_image 19 = .ok (.getfield 24, 3) := by decide +kernel
theorem dX5_image_22 : decode cX5_image 22 = .ok (.getfield 126, 3) := by decide +kernel
theorem dX5_image_25 : decode cX5_image 25 = .ok (.iconst 0, 1) := by decide +kernel
theorem dX5_image_26 : decode cX5_image 26 = .ok (.aload_n 0, 1) := by decide +kernel
theorem dX5_image_27 : decode cX5_image 27 = .ok (.getfield 51, 3) := by decide +kernel
theorem dX5_image_30 : decode cX5_image 30 = .ok (.getfield 252, 3) := by decide +kernel
theorem dX5_image_33 : decode cX5_image 33 = .ok (.iconst 0, 1) := by decide +kernel
theorem dX5_image_34 : decode cX5_image 34 = .ok (.iconst 5, 1) := by decide +kernel
theorem dX5_image_35 : decode cX5_image 35 = .ok (.invokestatic 176, 3) := by decide +kernel
theorem dX5_image_38 : decode cX5_image 38 = .ok (.aload_n 0, 1) := by decide +kernel
theorem dX5_image_39 : decode cX5_image 39 = .ok (.getfield 24, 3) := by decide +kernel
theorem dX5_image_42 : decode cX5_image 42 = .ok (.getfield 129, 3) := by decide +kernel
theorem dX5_image_45 : decode cX5_image 45 = .ok (.iconst 0, 1) := by decide +kernel
theorem dX5_image_46 : decode cX5_image 46 = .ok (.aload_n 0, 1) := by decide +kernel
theorem dX5_image_47 : decode cX5_image 47 = .ok (.getfield 51, 3) := by decide +kernel
theorem dX5_image_50 : decode cX5_image 50 = .ok (.getfield 253, 3) := by decide +kernel
theorem dX5_image_53 : decode cX5_image 53 = .ok (.iconst 0, 1) := by decide +kernel
theorem dX5_image_54 : decode cX5_image 54 = .ok (.iconst 5, 1) := by decide +kernel
theorem dX5_image_55 : decode cX5_image 55 = .ok (.invokestatic 176, 3) := by decide +kernel
theorem dX5_image_58 : decode cX5_image 58 = .ok (.aload_n 0, 1) := by decide +kernel
theorem dX5_image_59 : decode cX5_image 59 = .ok (.getfield 51, 3) := by decide +kernel
theorem dX5_image_62 : decode cX5_image 62 = .ok (.aload_n 0, 1) := by decide +kernel
theorem dX5_image_63 : decode cX5_image 63 = .ok (.getfield 24, 3) := by decide +kernel
theorem dX5_image_66 : decode cX5_image 66 = .ok (.getfield 70, 3) := by decide +kernel
theorem dX5_image_69 : decode cX5_image 69 = .ok (.putfield 254, 3) := by decide +kernel
theorem dX5_image_72 : decode cX5_image 72 = .ok (.aload_n 0, 1) := by decide +kernel
theorem dX5_image_73 : decode cX5_image 73 = .ok (.getfield 51, 3) := by decide +kernel
theorem dX5_image_76 : decode cX5_image 76 = .ok (.aload_n 0, 1) := by decide +kernel
theorem dX5_image_77 : decode cX5_image 77 = .ok (.getfield 73, 3) := by decide +kernel
theorem dX5_image_80 : decode cX5_image 80 = .ok (.putfield 256, 3) := by decide +kernel
theorem dX5_image_83 : decode cX5_image 83 = .ok (.aload_n 0, 1) := by decide +kernel
theorem dX5_image_84 : decode cX5_image 84 = .ok (.getfield 51, 3) := by decide +kernel
theorem dX5_image_87 : decode cX5_image 87 = .ok (.iconst 1, 1) := by decide +kernel
theorem dX5_image_88 : decode cX5_image 88 = .ok (.putfield 257, 3) := by decide +kernel
theorem dX5_image_91 : decode cX5_image 91 = .ok (.aload_n 0, 1) := by decide +kernel
theorem dX5_image_92 : decode cX5_image 92 = .ok (.getfield 24, 3) := by decide +kernel
theorem dX5_image_95 : decode cX5_image 95 = .ok (.getfield 70, 3) := by decide +kernel
theorem dX5_image_98 : decode cX5_image 98 = .ok (.ireturn, 1) := by decide +kernel
theorem dX5_back_0 : decode cX5_back 0 = .ok (.aload_n 0, 1) := by decide +kernel
theorem dX5_back_1 : decode cX5_back 1 = .ok (.getfield 51, 3) := by decide +kernel
theorem dX5_back_4 : decode cX5_back 4 = .ok (.getfield 257, 3) := by decide +kernel
theorem dX5_back_7 : decode cX5_back 7 = .ok (.ifCond .ne 6, 3) := by decide +kernel
theorem dX5_back_10 : decode cX5_back 10 = .ok (.bipush (-3), 2) := by decide +kernel
theorem dX5_back_12 : decode cX5_back 12 = .ok (.ireturn, 1) := by decide +kernel
theorem dX5_back_13 : decode cX5_back 13 = .ok (.aload_n 0, 1) := by decide +kernel
theorem dX5_back_14 : decode cX5_back 14 = .ok (.getfield 51, 3) := by decide +kernel
theorem dX5_back_17 : decode cX5_back 17 = .ok (.getfield 249, 3) := by decide +kernel
theorem dX5_back_20 : decode cX5_back 20 = .ok (.iconst 0, 1) := by decide +kernel
theorem dX5_back_21 : decode cX5_back 21 = .ok (.aload_n 0, 1) := by decide +kernel
theorem dX5_back_22 : decode cX5_back 22 = .ok (.getfield 9, 3) := by decide +kernel
theorem dX5_back_25 : decode cX5_back 25 = .ok (.iconst 0, 1) := by decide +kernel
theorem dX5_back_26 : decode cX5_back 26 = .ok (.bipush 7, 2) := by decide +kernel
theorem dX5_back_28 : decode cX5_back 28 = .ok (.invokestatic 176, 3) := by decide +kernel
theorem dX5_back_31 : decode cX5_back 31 = .ok (.aload_n 0, 1) := by decide +kernel
theorem dX5_back_32 : decode cX5_back 32 = .ok (.getfield 51, 3) := by decide +kernel
theorem dX5_back_35 : decode cX5_back 35 = .ok (.getfield 252, 3) := by decide +kernel
theorem dX5_back_38 : decode cX5_back 38 = .ok (.iconst 0, 1) := by decide +kernel
theorem dX5_back_39 : decode cX5_back 39 = .ok (.aload_n 0, 1) := by decide +kernel
theorem dX5_back_40 : decode cX5_back 40 = .ok (.getfield 24, 3) := by decide +kernel
theorem dX5_back_43 : decode cX5_back 43 = .ok (.getfield 126, 3) := by decide +kernel
theorem dX5_back_46 : decode cX5_back 46 = .ok (.iconst 0, 1) := by decide +kernel
theorem dX5_back_47 : decode cX5_back 47 = .ok (.iconst 5, 1) := by decide +kernel
theorem dX5_back_48 : decode cX5_back 48 = .ok (.invokestatic 176, 3) := by decide +kernel
theorem dX5_back_51 : decode cX5_back 51 = .ok (.aload_n 0, 1) := by decide +kernel
theorem dX5_back_52 : decode cX5_back 52 = .ok (.getfield 51, 3) := by decide +kernel
theorem dX5_back_55 : decode cX5_back 55 = .ok (.getfield 253, 3) := by decide +kernel
theorem dX5_back_58 : decode cX5_back 58 = .ok (.iconst 0, 1) := by decide +kernel
theorem dX5_back_59 : decode cX5_back 59 = .ok (.aload_n 0, 1) := by decide +kernel
theorem dX5_back_60 : decode cX5_back 60 = .ok (.getfield 24, 3) := by decide +kernel
theorem dX5_back_63 : decode cX5_back 63 = .ok (.getfield 129, 3) := by decide +kernel
theorem dX5_back_66 : decode cX5_back 66 = .ok (.iconst 0, 1) := by decide +kernel
theorem dX5_back_67 : decode cX5_back 67 = .ok (.iconst 5, 1) := by decide +kernel
theorem dX5_back_68 : decode cX5_back 68 = .ok (.invokestatic 176, 3) := by decide +kernel
theorem dX5_back_71 : decode cX5_back 71 = .ok (.aload_n 0, 1) := by decide +kernel
theorem dX5_back_72 : decode cX5_back 72 = .ok (.getfield 24, 3) := by decide +kernel
theorem dX5_back_75 : decode cX5_back 75 = .ok (.aload_n 0, 1) := by decide +kernel
theorem dX5_back_76 : decode cX5_back 76 = .ok (.getfield 51, 3) := by decide +kernel
theorem dX5_back_79 : decode cX5_back 79 = .ok (.getfield 254, 3) := by decide +kernel
theorem dX5_back_82 : decode cX5_back 82 = .ok (.putfield 70, 3) := by decide +kernel
theorem dX5_back_85 : decode cX5_back 85 = .ok (.aload_n 0, 1) := by decide +kernel
theorem dX5_back_86 : decode cX5_back 86 = .ok (.aload_n 0, 1) := by decide +kernel
theorem dX5_back_87 : decode cX5_back 87 = .ok (.getfield 51, 3) := by decide +kernel
theorem dX5_back_90 : decode cX5_back 90 = .ok (.getfield 256, 3) := by decide +kernel
theorem dX5_back_93 : decode cX5_back 93 = .ok (.putfield 73, 3) := by decide +kernel
theorem dX5_back_96 : decode cX5_back 96 = .ok (.aload_n 0, 1) := by decide +kernel
theorem dX5_back_97 : decode cX5_back 97 = .ok (.getfield 24, 3) := by decide +kernel
theorem dX5_back_100 : decode cX5_back 100 = .ok (.getfield 70, 3) := by decide +kernel
theorem dX5_back_103 : decode cX5_back 103 = .ok (.ireturn, 1) := by decide +kernel
theorem dX5_drunkByLot_0 : decode cX5_drunkByLot 0 = .ok (.aload_n 0, 1) := by decide +kernel
theorem dX5_drunkByLot_1 : decode cX5_drunkByLot 1 = .ok (.invokevirtual 158, 3) := by decide +kernel
theorem dX5_drunkByLot_4 : decode cX5_drunkByLot 4 = .ok (.astore_n 3, 1) := by decide +kernel
theorem dX5_drunkByLot_5 : decode cX5_drunkByLot 5 = .ok (.iload_n 1, 1) := by decide +kernel
theorem dX5_drunkByLot_6 : decode cX5_drunkByLot 6 = .ok (.i2l, 1) := by decide +kernel
theorem dX5_drunkByLot_7 : decode cX5_drunkByLot 7 = .ok (.lconst 1, 1) := by decide +kernel
theorem dX5_drunkByLot_8 : decode cX5_drunkByLot 8 = .ok (.ladd, 1) := by decide +kernel
theorem dX5_drunkByLot_9 : decode cX5_drunkByLot 9 = .ok (.lstore 4, 2) := by decide +kernel
theorem dX5_drunkByLot_11 : decode cX5_drunkByLot 11 = .ok (.iconst 0, 1) := by decide +kernel
theorem dX5_drunkByLot_12 : decode cX5_drunkByLot 12 = .ok (.istore 6, 2) := by decide +kernel
theorem dX5_drunkByLot_14 : decode cX5_drunkByLot 14 = .ok (.iload 6, 2) := by decide +kernel
theorem dX5_drunkByLot_16 : decode cX5_drunkByLot 16 = .ok (.iload_n 2, 1) := by decide +kernel
theorem dX5_drunkByLot_17 : decode cX5_drunkByLot 17 = .ok (.if_icmp .ge 102, 3) := by decide +kernel
theorem dX5_drunkByLot_20 : decode cX5_drunkByLot 20 = .ok (.aload_n 0, 1) := by decide +kernel
theorem dX5_drunkByLot_21 : decode cX5_drunkByLot 21 = .ok (.aload_n 3, 1) := by decide +kernel
theorem dX5_drunkByLot_22 : decode cX5_drunkByLot 22 = .ok (.iconst (-1), 1) := by decide +kernel
theorem dX5_drunkByLot_23 : decode cX5_drunkByLot 23 = .ok (.invokevirtual 166, 3) := by decide +kernel
theorem dX5_drunkByLot_26 : decode cX5_drunkByLot 26 = .ok (.istore 7, 2) := by decide +kernel
theorem dX5_drunkByLot_28 : decode cX5_drunkByLot 28 = .ok (.iload 7, 2) := by decide +kernel
theorem dX5_drunkByLot_30 : decode cX5_drunkByLot 30 = .ok (.iconst (-1), 1) := by decide +kernel
theorem dX5_drunkByLot_31 : decode cX5_drunkByLot 31 = .ok (.if_icmp .ne 7, 3) := by decide +kernel
theorem dX5_drunkByLot_34 : decode cX5_drunkByLot 34 = .ok (.aload_n 3, 1) := by decide +kernel
theorem dX5_drunkByLot_35 : decode cX5_drunkByLot 35 = .ok (.iconst 5, 1) := by decide +kernel
theorem dX5_drunkByLot_36 : decode cX5_drunkByLot 36 = .ok (.iaload, 1) := by decide +kernel
theorem dX5_drunkByLot_37 : decode cX5_drunkByLot 37 = .ok (.ireturn, 1) := by decide +kernel
theorem dX5_drunkByLot_38 : decode cX5_drunkByLot 38 = .ok (.iload 7, 2) := by decide +kernel
theorem dX5_drunkByLot_40 : decode cX5_drunkByLot 40 = .ok (.ifCond .ne 16, 3) := by decide +kernel
theorem dX5_drunkByLot_43 : decode cX5_drunkByLot 43 = .ok (.aload_n 0, 1) := by decide +kernel
theorem dX5_drunkByLot_44 : decode cX5_drunkByLot 44 = .ok (.aload_n 0, 1) := by decide +kernel
theorem dX5_drunkByLot_45 : decode cX5_drunkByLot 45 = .ok (.getfield 73, 3) := by decide +kernel
theorem dX5_drunkByLot_48 : decode cX5_drunkByLot 48 = .ok (.iconst 2, 1) := by decide +kernel
theorem dX5_drunkByLot_49 : decode cX5_drunkByLot 49 = .ok (.aload_n 3, 1) := by decide +kernel
theorem dX5_drunkByLot_50 : decode cX5_drunkByLot 50 = .ok (.invokevirtual 93, 3) := by decide +kernel
theorem dX5_drunkByLot_53 : decode cX5_drunkByLot 53 = .ok (.goto 4, 3) := by decide +kernel
theorem dX5_drunkByLot_56 : decode cX5_drunkByLot 56 = .ok (.iconst 0, 1) := by decide +kernel
theorem dX5_drunkByLot_57 : decode cX5_drunkByLot 57 = .ok (.istore 8, 2) := by decide +kernel
theorem dX5_drunkByLot_59 : decode cX5_drunkByLot 59 = .ok (.aload_n 0, 1) := by decide +kernel
theorem dX5_drunkByLot_60 : decode cX5_drunkByLot 60 = .ok (.aload_n 3, 1) := by decide +kernel
theorem dX5_drunkByLot_61 : decode cX5_drunkByLot 61 = .ok (.iload 7, 2) := by decide +kernel
theorem dX5_drunkByLot_63 : decode cX5_drunkByLot 63 = .ok (.aload_n 0, 1) := by decide +kernel
theorem dX5_drunkByLot_64 : decode cX5_drunkByLot 64 = .ok (.getfield 73, 3) := by decide +kernel
theorem dX5_drunkByLot_67 : decode cX5_drunkByLot 67 = .ok (.invokevirtual 154, 3) := by decide +kernel
theorem dX5_drunkByLot_70 : decode cX5_drunkByLot 70 = .ok (.iload 7, 2) := by decide +kernel
theorem dX5_drunkByLot_72 : decode cX5_drunkByLot 72 = .ok (.ifCond .ne 41, 3) := by decide +kernel
theorem dX5_drunkByLot_75 : decode cX5_drunkByLot 75 = .ok (.lload 4, 2) := by decide +kernel
theorem dX5_drunkByLot_77 : decode cX5_drunkByLot 77 = .ok (.ldc2_w 261, 3) := by decide +kernel
theorem dX5_drunkByLot_80 : decode cX5_drunkByLot 80 = .ok (.lmul, 1) := by decide +kernel
theorem dX5_drunkByLot_81 : decode cX5_drunkByLot 81 = .ok (.ldc2_w 263, 3) := by decide +kernel
theorem dX5_drunkByLot_84 : decode cX5_drunkByLot 84 = .ok (.lrem, 1) := by decide +kernel
theorem dX5_drunkByLot_85 : decode cX5_drunkByLot 85 = .ok (.lstore 4, 2) := by decide +kernel
theorem dX5_drunkByLot_87 : decode cX5_drunkByLot 87 = .ok (.lload 4, 2) := by decide +kernel
theorem dX5_drunkByLot_89 : decode cX5_drunkByLot 89 = .ok (.ldc2_w 265, 3) := by decide +kernel
theorem dX5_drunkByLot_92 : decode cX5_drunkByLot 92 = .ok (.lrem, 1) := by decide +kernel
theorem dX5_drunkByLot_93 : decode cX5_drunkByLot 93 = .ok (.iload 8, 2) := by decide +kernel
theorem dX5_drunkByLot_95 : decode cX5_drunkByLot 95 = .ok (.i2l, 1) := by decide +kernel
theorem dX5_drunkByLot_96 : decode cX5_drunkByLot 96 = .ok (.lcmp, 1) := by decide +kernel
theorem dX5_drunkByLot_97 : decode cX5_drunkByLot 97 = .ok (.ifCond .ge 16, 3) := by decide +kernel
theorem dX5_drunkByLot_100 : decode cX5_drunkByLot 100 = .ok (.aload_n 3, 1) := by decide +kernel
theorem dX5_drunkByLot_101 : decode cX5_drunkByLot 101 = .ok (.iconst 1, 1) := by decide +kernel
theorem dX5_drunkByLot_102 : decode cX5_drunkByLot 102 = .ok (.iaload, 1) := by decide +kernel
theorem dX5_drunkByLot_103 : decode cX5_drunkByLot 103 = .ok (.ifCond .le 10, 3) := by decide +kernel
theorem dX5_drunkByLot_106 : decode cX5_drunkByLot 106 = .ok (.aload_n 3, 1) := by decide +kernel
theorem dX5_drunkByLot_107 : decode cX5_drunkByLot 107 = .ok (.iconst 1, 1) := by decide +kernel
theorem dX5_drunkByLot_108 : decode cX5_drunkByLot 108 = .ok (.dup2, 1) := by decide +kernel
theorem dX5_drunkByLot_109 : decode cX5_drunkByLot 109 = .ok (.iaload, 1) := by decide +kernel
theorem dX5_drunkByLot_110 : decode cX5_drunkByLot 110 = .ok (.iconst 1, 1) := by decide +kernel
theorem dX5_drunkByLot_111 : decode cX5_drunkByLot 111 = .ok (.isub, 1) := by decide +kernel
theorem dX5_drunkByLot_112 : decode cX5_drunkByLot 112 = .ok (.iastore, 1) := by decide +kernel
theorem dX5_drunkByLot_113 : decode cX5_drunkByLot 113 = .ok (.iinc 6 1, 3) := by decide +kernel
theorem dX5_drunkByLot_116 : decode cX5_drunkByLot 116 = .ok (.goto (-102), 3) := by decide +kernel
theorem dX5_drunkByLot_119 : decode cX5_drunkByLot 119 = .ok (.aload_n 3, 1) := by decide +kernel
theorem dX5_drunkByLot_120 : decode cX5_drunkByLot 120 = .ok (.iconst 5, 1) := by decide +kernel
theorem dX5_drunkByLot_121 : decode cX5_drunkByLot 121 = .ok (.iaload, 1) := by decide +kernel
theorem dX5_drunkByLot_122 : decode cX5_drunkByLot 122 = .ok (.ireturn, 1) := by decide +kernel
theorem dX5_commonDivisor_0 : decode cX5_commonDivisor 0 = .ok (.iload_n 0, 1) := by decide +kernel
theorem dX5_commonDivisor_1 : decode cX5_commonDivisor 1 = .ok (.istore_n 2, 1) := by decide +kernel
theorem dX5_commonDivisor_2 : decode cX5_commonDivisor 2 = .ok (.iload_n 1, 1) := by decide +kernel
theorem dX5_commonDivisor_3 : decode cX5_commonDivisor 3 = .ok (.istore_n 3, 1) := by decide +kernel
theorem dX5_commonDivisor_4 : decode cX5_commonDivisor 4 = .ok (.iconst 0, 1) := by decide +kernel
theorem dX5_commonDivisor_5 : decode cX5_commonDivisor 5 = .ok (.istore 4, 2) := by decide +kernel
theorem dX5_commonDivisor_7 : decode cX5_commonDivisor 7 = .ok (.iload 4, 2) := by decide +kernel
theorem dX5_commonDivisor_9 : decode cX5_commonDivisor 9 = .ok (.bipush 40, 2) := by decide +kernel
theorem dX5_commonDivisor_11 : decode cX5_commonDivisor 11 = .ok (.if_icmp .ge 23, 3) := by decide +kernel
theorem dX5_commonDivisor_14 : decode cX5_commonDivisor 14 = .ok (.iload_n 3, 1) := by decide +kernel
theorem dX5_commonDivisor_15 : decode cX5_commonDivisor 15 = .ok (.ifCond .eq 19, 3) := by decide +kernel
theorem dX5_commonDivisor_18 : decode cX5_commonDivisor 18 = .ok (.iload_n 2, 1) := by decide +kernel
theorem dX5_commonDivisor_19 : decode cX5_commonDivisor 19 = .ok (.iload_n 3, 1) := by decide +kernel
theorem dX5_commonDivisor_20 : decode cX5_commonDivisor 20 = .ok (.irem, 1) := by decide +kernel
theorem dX5_commonDivisor_21 : decode cX5_commonDivisor 21 = .ok (.istore 5, 2) := by decide +kernel
theorem dX5_commonDivisor_23 : decode cX5_commonDivisor 23 = .ok (.iload_n 3, 1) := by decide +kernel
theorem dX5_commonDivisor_24 : decode cX5_commonDivisor 24 = .ok (.istore_n 2, 1) := by decide +kernel
theorem dX5_commonDivisor_25 : decode cX5_commonDivisor 25 = .ok (.iload 5, 2) := by decide +kernel
theorem dX5_commonDivisor_27 : decode cX5_commonDivisor 27 = .ok (.istore_n 3, 1) := by decide +kernel
theorem dX5_commonDivisor_28 : decode cX5_commonDivisor 28 = .ok (.iinc 4 1, 3) := by decide +kernel
theorem dX5_commonDivisor_31 : decode cX5_commonDivisor 31 = .ok (.goto (-24), 3) := by decide +kernel
theorem dX5_commonDivisor_34 : decode cX5_commonDivisor 34 = .ok (.iload_n 2, 1) := by decide +kernel
theorem dX5_commonDivisor_35 : decode cX5_commonDivisor 35 = .ok (.ireturn, 1) := by decide +kernel
theorem dX5_sheet_0 : decode cX5_sheet 0 = .ok (.iload_n 1, 1) := by decide +kernel
theorem dX5_sheet_1 : decode cX5_sheet 1 = .ok (.invokestatic 224, 3) := by decide +kernel
theorem dX5_sheet_4 : decode cX5_sheet 4 = .ok (.ifCond .ne 6, 3) := by decide +kernel
theorem dX5_sheet_7 : decode cX5_sheet 7 = .ok (.bipush (-2), 2) := by decide +kernel
theorem dX5_sheet_9 : decode cX5_sheet 9 = .ok (.ireturn, 1) := by decide +kernel
theorem dX5_sheet_10 : decode cX5_sheet 10 = .ok (.iload_n 2, 1) := by decide +kernel
theorem dX5_sheet_11 : decode cX5_sheet 11 = .ok (.iconst (-1), 1) := by decide +kernel
theorem dX5_sheet_12 : decode cX5_sheet 12 = .ok (.if_icmp .ne 13, 3) := by decide +kernel
theorem dX5_sheet_15 : decode cX5_sheet 15 = .ok (.aload_n 0, 1) := by decide +kernel
theorem dX5_sheet_16 : decode cX5_sheet 16 = .ok (.getfield 44, 3) := by decide +kernel
theorem dX5_sheet_19 : decode cX5_sheet 19 = .ok (.iload_n 1, 1) := by decide +kernel
theorem dX5_sheet_20 : decode cX5_sheet 20 = .ok (.invokevirtual 267, 3) := by decide +kernel
theorem dX5_sheet_23 : decode cX5_sheet 23 = .ok (.iconst 1, 1) := by decide +kernel
theorem dX5_sheet_24 : decode cX5_sheet 24 = .ok (.ireturn, 1) := by decide +kernel
theorem dX5_sheet_25 : decode cX5_sheet 25 = .ok (.iload_n 2, 1) := by decide +kernel
theorem dX5_sheet_26 : decode cX5_sheet 26 = .ok (.invokestatic 270, 3) := by decide +kernel
theorem dX5_sheet_29 : decode cX5_sheet 29 = .ok (.ifCond .eq 9, 3) := by decide +kernel
theorem dX5_sheet_32 : decode cX5_sheet 32 = .ok (.iload_n 3, 1) := by decide +kernel
theorem dX5_sheet_33 : decode cX5_sheet 33 = .ok (.bipush 40, 2) := by decide +kernel
theorem dX5_sheet_35 : decode cX5_sheet 35 = .ok (.if_icmp .le 6, 3) := by decide +kernel
theorem dX5_sheet_38 : decode cX5_sheet 38 = .ok (.bipush (-2), 2) := by decide +kernel
theorem dX5_sheet_40 : decode cX5_sheet 40 = .ok (.ireturn, 1) := by decide +kernel
theorem dX5_sheet_41 : decode cX5_sheet 41 = .ok (.iload_n 3, 1) := by decide +kernel
theorem dX5_sheet_42 : decode cX5_sheet 42 = .ok (.ifCond .ge 6, 3) := by decide +kernel
theorem dX5_sheet_45 : decode cX5_sheet 45 = .ok (.bipush (-14), 2) := by decide +kernel
theorem dX5_sheet_47 : decode cX5_sheet 47 = .ok (.ireturn, 1) := by decide +kernel
theorem dX5_sheet_48 : decode cX5_sheet 48 = .ok (.aload_n 0, 1) := by decide +kernel
theorem dX5_sheet_49 : decode cX5_sheet 49 = .ok (.getfield 44, 3) := by decide +kernel
theorem dX5_sheet_52 : decode cX5_sheet 52 = .ok (.iload_n 1, 1) := by decide +kernel
theorem dX5_sheet_53 : decode cX5_sheet 53 = .ok (.iload_n 2, 1) := by decide +kernel
theorem dX5_sheet_54 : decode cX5_sheet 54 = .ok (.iload_n 3, 1) := by decide +kernel
theorem dX5_sheet_55 : decode cX5_sheet 55 = .ok (.invokevirtual 227, 3) := by decide +kernel
theorem dX5_sheet_58 : decode cX5_sheet 58 = .ok (.iconst 1, 1) := by decide +kernel
theorem dX5_sheet_59 : decode cX5_sheet 59 = .ok (.ireturn, 1) := by decide +kernel
theorem dX5_cell_0 : decode cX5_cell 0 = .ok (.aload_n 0, 1) := by decide +kernel
theorem dX5_cell_1 : decode cX5_cell 1 = .ok (.getfield 44, 3) := by decide +kernel
theorem dX5_cell_4 : decode cX5_cell 4 = .ok (.iload_n 1, 1) := by decide +kernel
theorem dX5_cell_5 : decode cX5_cell 5 = .ok (.invokevirtual 218, 3) := by decide +kernel
theorem dX5_cell_8 : decode cX5_cell 8 = .ok (.istore 4, 2) := by decide +kernel
theorem dX5_cell_10 : decode cX5_cell 10 = .ok (.iload 4, 2) := by decide +kernel
theorem dX5_cell_12 : decode cX5_cell 12 = .ok (.ifCond .eq 6, 3) := by decide +kernel
theorem dX5_cell_15 : decode cX5_cell 15 = .ok (.iload 4, 2) := by decide +kernel
theorem dX5_cell_17 : decode cX5_cell 17 = .ok (.ireturn, 1) := by decide +kernel
theorem dX5_cell_18 : decode cX5_cell 18 = .ok (.iload_n 2, 1) := by decide +kernel
theorem dX5_cell_19 : decode cX5_cell 19 = .ok (.ifCond .lt 15, 3) := by decide +kernel
theorem dX5_cell_22 : decode cX5_cell 22 = .ok (.iload_n 2, 1) := by decide +kernel
theorem dX5_cell_23 : decode cX5_cell 23 = .ok (.aload_n 0, 1) := by decide +kernel
theorem dX5_cell_24 : decode cX5_cell 24 = .ok (.getfield 44, 3) := by decide +kernel
theorem dX5_cell_27 : decode cX5_cell 27 = .ok (.iload_n 1, 1) := by decide +kernel
theorem dX5_cell_28 : decode cX5_cell 28 = .ok (.invokevirtual 236, 3) := by decide +kernel
theorem dX5_cell_31 : decode cX5_cell 31 = .ok (.if_icmp .lt 6, 3) := by decide +kernel
theorem dX5_cell_34 : decode cX5_cell 34 = .ok (.bipush (-12), 2) := by decide +kernel
theorem dX5_cell_36 : decode cX5_cell 36 = .ok (.ireturn, 1) := by decide +kernel
theorem dX5_cell_37 : decode cX5_cell 37 = .ok (.aload_n 0, 1) := by decide +kernel
theorem dX5_cell_38 : decode cX5_cell 38 = .ok (.getfield 44, 3) := by decide +kernel
theorem dX5_cell_41 : decode cX5_cell 41 = .ok (.iload_n 1, 1) := by decide +kernel
theorem dX5_cell_42 : decode cX5_cell 42 = .ok (.iload_n 2, 1) := by decide +kernel
theorem dX5_cell_43 : decode cX5_cell 43 = .ok (.iload_n 3, 1) := by decide +kernel
theorem dX5_cell_44 : decode cX5_cell 44 = .ok (.invokevirtual 234, 3) := by decide +kernel
theorem dX5_cell_47 : decode cX5_cell 47 = .ok (.iconst 1, 1) := by decide +kernel
theorem dX5_cell_48 : decode cX5_cell 48 = .ok (.ireturn, 1) := by decide +kernel
theorem dX5_copy_0 : decode cX5_copy 0 = .ok (.iload_n 1, 1) := by decide +kernel
theorem dX5_copy_1 : decode cX5_copy 1 = .ok (.invokestatic 224, 3) := by decide +kernel
theorem dX5_copy_4 : decode cX5_copy 4 = .ok (.ifCond .eq 10, 3) := by decide +kernel
theorem dX5_copy_7 : decode cX5_copy 7 = .ok (.iload_n 3, 1) := by decide +kernel
theorem dX5_copy_8 : decode cX5_copy 8 = .ok (.invokestatic 224, 3) := by decide +kernel
theorem dX5_copy_11 : decode cX5_copy 11 = .ok (.ifCond .ne 6, 3) := by decide +kernel
theorem dX5_copy_14 : decode cX5_copy 14 = .ok (.bipush (-2), 2) := by decide +kernel
theorem dX5_copy_16 : decode cX5_copy 16 = .ok (.ireturn, 1) := by decide +kernel
theorem dX5_copy_17 : decode cX5_copy 17 = .ok (.aload_n 0, 1) := by decide +kernel
theorem dX5_copy_18 : decode cX5_copy 18 = .ok (.getfield 44, 3) := by decide +kernel
theorem dX5_copy_21 : decode cX5_copy 21 = .ok (.iload_n 1, 1) := by decide +kernel
theorem dX5_copy_22 : decode cX5_copy 22 = .ok (.invokevirtual 218, 3) := by decide +kernel
theorem dX5_copy_25 : decode cX5_copy 25 = .ok (.ifCond .ne 14, 3) := by decide +kernel
theorem dX5_copy_28 : decode cX5_copy 28 = .ok (.aload_n 0, 1) := by decide +kernel
theorem dX5_copy_29 : decode cX5_copy 29 = .ok (.getfield 44, 3) := by decide +kernel
theorem dX5_copy_32 : decode cX5_copy 32 = .ok (.iload_n 3, 1) := by decide +kernel
theorem dX5_copy_33 : decode cX5_copy 33 = .ok (.invokevirtual 218, 3) := by decide +kernel
theorem dX5_copy_36 : decode cX5_copy 36 = .ok (.ifCond .eq 6, 3) := by decide +kernel
theorem dX5_copy_39 : decode cX5_copy 39 = .ok (.bipush (-11), 2) := by decide +kernel
theorem dX5_copy_41 : decode cX5_copy 41 = .ok (.ireturn, 1) := by decide +kernel
theorem dX5_copy_42 : decode cX5_copy 42 = .ok (.aload_n 0, 1) := by decide +kernel
theorem dX5_copy_43 : decode cX5_copy 43 = .ok (.getfield 44, 3) := by decide +kernel
theorem dX5_copy_46 : decode cX5_copy 46 = .ok (.getfield 273, 3) := by decide +kernel
theorem dX5_copy_49 : decode cX5_copy 49 = .ok (.iload_n 1, 1) := by decide +kernel
theorem dX5_copy_50 : decode cX5_copy 50 = .ok (.iaload, 1) := by decide +kernel
theorem dX5_copy_51 : decode cX5_copy 51 = .ok (.aload_n 0, 1) := by decide +kernel
theorem dX5_copy_52 : decode cX5_copy 52 = .ok (.getfield 44, 3) := by decide +kernel
theorem dX5_copy_55 : decode cX5_copy 55 = .ok (.getfield 273, 3) := by decide +kernel
theorem dX5_copy_58 : decode cX5_copy 58 = .ok (.iload_n 3, 1) := by decide +kernel
theorem dX5_copy_59 : decode cX5_copy 59 = .ok (.iaload, 1) := by decide +kernel
theorem dX5_copy_60 : decode cX5_copy 60 = .ok (.if_icmp .eq 6, 3) := by decide +kernel
theorem dX5_copy_63 : decode cX5_copy 63 = .ok (.bipush (-13), 2) := by decide +kernel
theorem dX5_copy_65 : decode cX5_copy 65 = .ok (.ireturn, 1) := by decide +kernel
theorem dX5_copy_66 : decode cX5_copy 66 = .ok (.iload_n 2, 1) := by decide +kernel
theorem dX5_copy_67 : decode cX5_copy 67 = .ok (.ifCond .lt 13, 3) := by decide +kernel
theorem dX5_copy_70 : decode cX5_copy 70 = .ok (.iload 4, 2) := by decide +kernel
theorem dX5_copy_72 : decode cX5_copy 72 = .ok (.ifCond .lt 8, 3) := by decide +kernel
theorem dX5_copy_75 : decode cX5_copy 75 = .ok (.iload 5, 2) := by decide +kernel
theorem dX5_copy_77 : decode cX5_copy 77 = .ok (.ifCond .ge 6, 3) := by decide +kernel
theorem dX5_copy_80 : decode cX5_copy 80 = .ok (.bipush (-12), 2) := by decide +kernel
theorem dX5_copy_82 : decode cX5_copy 82 = .ok (.ireturn, 1) := by decide +kernel
theorem dX5_copy_83 : decode cX5_copy 83 = .ok (.iload 5, 2) := by decide +kernel
theorem dX5_copy_85 : decode cX5_copy 85 = .ok (.aload_n 0, 1) := by decide +kernel
theorem dX5_copy_86 : decode cX5_copy 86 = .ok (.getfield 44, 3) := by decide +kernel
theorem dX5_copy_89 : decode cX5_copy 89 = .ok (.iload_n 1, 1) := by decide +kernel
theorem dX5_copy_90 : decode cX5_copy 90 = .ok (.invokevirtual 236, 3) := by decide +kernel
theorem dX5_copy_93 : decode cX5_copy 93 = .ok (.iload_n 2, 1) := by decide +kernel
theorem dX5_copy_94 : decode cX5_copy 94 = .ok (.isub, 1) := by decide +kernel
theorem dX5_copy_95 : decode cX5_copy 95 = .ok (.if_icmp .gt 19, 3) := by decide +kernel
theorem dX5_copy_98 : decode cX5_copy 98 = .ok (.iload 5, 2) := by decide +kernel
theorem dX5_copy_100 : decode cX5_copy 100 = .ok (.aload_n 0, 1) := by decide +kernel
theorem dX5_copy_101 : decode cX5_copy 101 = .ok (.getfield 44, 3) := by decide +kernel
theorem dX5_copy_104 : decode cX5_copy 104 = .ok (.iload_n 3, 1) := by decide +kernel
theorem dX5_copy_105 : decode cX5_copy 105 = .ok (.invokevirtual 236, 3) := by decide +kernel
theorem dX5_copy_108 : decode cX5_copy 108 = .ok (.iload 4, 2) := by decide +kernel
theorem dX5_copy_110 : decode cX5_copy 110 = .ok (.isub, 1) := by decide +kernel
theorem dX5_copy_111 : decode cX5_copy 111 = .ok (.if_icmp .le 6, 3) := by decide +kernel
theorem dX5_copy_114 : decode cX5_copy 114 = .ok (.bipush (-12), 2) := by decide +kernel
theorem dX5_copy_116 : decode cX5_copy 116 = .ok (.ireturn, 1) := by decide +kernel
theorem dX5_copy_117 : decode cX5_copy 117 = .ok (.aload_n 0, 1) := by decide +kernel
theorem dX5_copy_118 : decode cX5_copy 118 = .ok (.getfield 44, 3) := by decide +kernel
theorem dX5_copy_121 : decode cX5_copy 121 = .ok (.getfield 274, 3) := by decide +kernel
theorem dX5_copy_124 : decode cX5_copy 124 = .ok (.iload_n 1, 1) := by decide +kernel
theorem dX5_copy_125 : decode cX5_copy 125 = .ok (.aaload, 1) := by decide +kernel
theorem dX5_copy_126 : decode cX5_copy 126 = .ok (.iload_n 2, 1) := by decide +kernel
theorem dX5_copy_127 : decode cX5_copy 127 = .ok (.aload_n 0, 1) := by decide +kernel
theorem dX5_copy_128 : decode cX5_copy 128 = .ok (.getfield 44, 3) := by decide +kernel
theorem dX5_copy_131 : decode cX5_copy 131 = .ok (.getfield 274, 3) := by decide +kernel
theorem dX5_copy_134 : decode cX5_copy 134 = .ok (.iload_n 3, 1) := by decide +kernel
theorem dX5_copy_135 : decode cX5_copy 135 = .ok (.aaload, 1) := by decide +kernel
theorem dX5_copy_136 : decode cX5_copy 136 = .ok (.iload 4, 2) := by decide +kernel
theorem dX5_copy_138 : decode cX5_copy 138 = .ok (.iload 5, 2) := by decide +kernel
theorem dX5_copy_140 : decode cX5_copy 140 = .ok (.invokestatic 176, 3) := by decide +kernel
theorem dX5_copy_143 : decode cX5_copy 143 = .ok (.iload 5, 2) := by decide +kernel
theorem dX5_copy_145 : decode cX5_copy 145 = .ok (.ireturn, 1) := by decide +kernel
theorem dX5_ratesBy_0 : decode cX5_ratesBy 0 = .ok (.iload_n 1, 1) := by decide +kernel
theorem dX5_ratesBy_1 : decode cX5_ratesBy 1 = .ok (.invokestatic 224, 3) := by decide +kernel
theorem dX5_ratesBy_4 : decode cX5_ratesBy 4 = .ok (.ifCond .eq 21, 3) := by decide +kernel
theorem dX5_ratesBy_7 : decode cX5_ratesBy 7 = .ok (.iload_n 2, 1) := by decide +kernel
theorem dX5_ratesBy_8 : decode cX5_ratesBy 8 = .ok (.invokestatic 270, 3) := by decide +kernel
theorem dX5_ratesBy_11 : decode cX5_ratesBy 11 = .ok (.ifCond .eq 14, 3) := by decide +kernel
theorem dX5_ratesBy_14 : decode cX5_ratesBy 14 = .ok (.iload 4, 2) := by decide +kernel
theorem dX5_ratesBy_16 : decode cX5_ratesBy 16 = .ok (.ifCond .lt 9, 3) := by decide +kernel
theorem dX5_ratesBy_19 : decode cX5_ratesBy 19 = .ok (.iload 4, 2) := by decide +kernel
theorem dX5_ratesBy_21 : decode cX5_ratesBy 21 = .ok (.iconst 5, 1) := by decide +kernel
theorem dX5_ratesBy_22 : decode cX5_ratesBy 22 = .ok (.if_icmp .le 6, 3) := by decide +kernel
theorem dX5_ratesBy_25 : decode cX5_ratesBy 25 = .ok (.bipush (-2), 2) := by decide +kernel
theorem dX5_ratesBy_27 : decode cX5_ratesBy 27 = .ok (.ireturn, 1) := by decide +kernel
theorem dX5_ratesBy_28 : decode cX5_ratesBy 28 = .ok (.aload_n 0, 1) := by decide +kernel
theorem dX5_ratesBy_29 : decode cX5_ratesBy 29 = .ok (.getfield 44, 3) := by decide +kernel
theorem dX5_ratesBy_32 : decode cX5_ratesBy 32 = .ok (.iload_n 1, 1) := by decide +kernel
theorem dX5_ratesBy_33 : decode cX5_ratesBy 33 = .ok (.invokevirtual 218, 3) := by decide +kernel
theorem dX5_ratesBy_36 : decode cX5_ratesBy 36 = .ok (.istore 5, 2) := by decide +kernel
theorem dX5_ratesBy_38 : decode cX5_ratesBy 38 = .ok (.iload 5, 2) := by decide +kernel
theorem dX5_ratesBy_40 : decode cX5_ratesBy 40 = .ok (.ifCond .eq 6, 3) := by decide +kernel
theorem dX5_ratesBy_43 : decode cX5_ratesBy 43 = .ok (.iload 5, 2) := by decide +kernel
theorem dX5_ratesBy_45 : decode cX5_ratesBy 45 = .ok (.ireturn, 1) := by decide +kernel
theorem dX5_ratesBy_46 : decode cX5_ratesBy 46 = .ok (.aload_n 0, 1) := by decide +kernel
theorem dX5_ratesBy_47 : decode cX5_ratesBy 47 = .ok (.getfield 44, 3) := by decide +kernel
theorem dX5_ratesBy_50 : decode cX5_ratesBy 50 = .ok (.getfield 273, 3) := by decide +kernel
theorem dX5_ratesBy_53 : decode cX5_ratesBy 53 = .ok (.iload_n 1, 1) := by decide +kernel
theorem dX5_ratesBy_54 : decode cX5_ratesBy 54 = .ok (.iaload, 1) := by decide +kernel
theorem dX5_ratesBy_55 : decode cX5_ratesBy 55 = .ok (.iload_n 2, 1) := by decide +kernel
theorem dX5_ratesBy_56 : decode cX5_ratesBy 56 = .ok (.if_icmp .eq 6, 3) := by decide +kernel
theorem dX5_ratesBy_59 : decode cX5_ratesBy 59 = .ok (.bipush (-13), 2) := by decide +kernel
theorem dX5_ratesBy_61 : decode cX5_ratesBy 61 = .ok (.ireturn, 1) := by decide +kernel
theorem dX5_ratesBy_62 : decode cX5_ratesBy 62 = .ok (.iconst 0, 1) := by decide +kernel
theorem dX5_ratesBy_63 : decode cX5_ratesBy 63 = .ok (.istore 6, 2) := by decide +kernel
theorem dX5_ratesBy_65 : decode cX5_ratesBy 65 = .ok (.iconst 0, 1) := by decide +kernel
theorem dX5_ratesBy_66 : decode cX5_ratesBy 66 = .ok (.istore 7, 2) := by decide +kernel
theorem dX5_ratesBy_68 : decode cX5_ratesBy 68 = .ok (.iload 7, 2) := by decide +kernel
theorem dX5_ratesBy_70 : decode cX5_ratesBy 70 = .ok (.iload 4, 2) := by decide +kernel
theorem dX5_ratesBy_72 : decode cX5_ratesBy 72 = .ok (.if_icmp .ge 101, 3) := by decide +kernel
theorem dX5_ratesBy_75 : decode cX5_ratesBy 75 = .ok (.iload_n 3, 1) := by decide +kernel
theorem dX5_ratesBy_76 : decode cX5_ratesBy 76 = .ok (.ifCond .lt 22, 3) := by decide +kernel
theorem dX5_ratesBy_79 : decode cX5_ratesBy 79 = .ok (.iload_n 3, 1) := by decide +kernel
theorem dX5_ratesBy_80 : decode cX5_ratesBy 80 = .ok (.aload_n 0, 1) := by decide +kernel
theorem dX5_ratesBy_81 : decode cX5_ratesBy 81 = .ok (.getfield 44, 3) := by decide +kernel
theorem dX5_ratesBy_84 : decode cX5_ratesBy 84 = .ok (.iload_n 1, 1) := by decide +kernel
theorem dX5_ratesBy_85 : decode cX5_ratesBy 85 = .ok (.invokevirtual 236, 3) := by decide +kernel
theorem dX5_ratesBy_88 : decode cX5_ratesBy 88 = .ok (.iconst 3, 1) := by decide +kernel
theorem dX5_ratesBy_89 : decode cX5_ratesBy 89 = .ok (.iload 7, 2) := by decide +kernel
theorem dX5_ratesBy_91 : decode cX5_ratesBy 91 = .ok (.iconst 1, 1) := by decide +kernel
theorem dX5_ratesBy_92 : decode cX5_ratesBy 92 = .ok (.iadd, 1) := by decide +kernel
theorem dX5_ratesBy_93 : decode cX5_ratesBy 93 = .ok (.imul, 1) := by decide +kernel
theorem dX5_ratesBy_94 : decode cX5_ratesBy 94 = .ok (.isub, 1) := by decide +kernel
theorem dX5_ratesBy_95 : decode cX5_ratesBy 95 = .ok (.if_icmp .le 6, 3) := by decide +kernel
theorem dX5_ratesBy_98 : decode cX5_ratesBy 98 = .ok (.bipush (-12), 2) := by decide +kernel
theorem dX5_ratesBy_100 : decode cX5_ratesBy 100 = .ok (.ireturn, 1) := by decide +kernel
theorem dX5_ratesBy_101 : decode cX5_ratesBy 101 = .ok (.iload_n 3, 1) := by decide +kernel
theorem dX5_ratesBy_102 : decode cX5_ratesBy 102 = .ok (.iconst 3, 1) := by decide +kernel
theorem dX5_ratesBy_103 : decode cX5_ratesBy 103 = .ok (.iload 7, 2) := by decide +kernel
theorem dX5_ratesBy_105 : decode cX5_ratesBy 105 = .ok (.imul, 1) := by decide +kernel
theorem dX5_ratesBy_106 : decode cX5_ratesBy 106 = .ok (.iadd, 1) := by decide +kernel
theorem dX5_ratesBy_107 : decode cX5_ratesBy 107 = .ok (.istore 8, 2) := by decide +kernel
theorem dX5_ratesBy_109 : decode cX5_ratesBy 109 = .ok (.aload_n 0, 1) := by decide +kernel
theorem dX5_ratesBy_110 : decode cX5_ratesBy 110 = .ok (.getfield 24, 3) := by decide +kernel
theorem dX5_ratesBy_113 : decode cX5_ratesBy 113 = .ok (.aload_n 0, 1) := by decide +kernel
theorem dX5_ratesBy_114 : decode cX5_ratesBy 114 = .ok (.getfield 44, 3) := by decide +kernel
theorem dX5_ratesBy_117 : decode cX5_ratesBy 117 = .ok (.iload_n 1, 1) := by decide +kernel
theorem dX5_ratesBy_118 : decode cX5_ratesBy 118 = .ok (.iload 8, 2) := by decide +kernel
theorem dX5_ratesBy_120 : decode cX5_ratesBy 120 = .ok (.invokevirtual 239, 3) := by decide +kernel
theorem dX5_ratesBy_123 : decode cX5_ratesBy 123 = .ok (.aload_n 0, 1) := by decide +kernel
theorem dX5_ratesBy_124 : decode cX5_ratesBy 124 = .ok (.getfield 44, 3) := by decide +kernel
theorem dX5_ratesBy_127 : decode cX5_ratesBy 127 = .ok (.iload_n 1, 1) := by decide +kernel
theorem dX5_ratesBy_128 : decode cX5_ratesBy 128 = .ok (.iload 8, 2) := by decide +kernel
theorem dX5_ratesBy_130 : decode cX5_ratesBy 130 = .ok (.iconst 1, 1) := by decide +kernel
theorem dX5_ratesBy_131 : decode cX5_ratesBy 131 = .ok (.iadd, 1) := by decide +kernel
theorem dX5_ratesBy_132 : decode cX5_ratesBy 132 = .ok (.invokevirtual 239, 3) := by decide +kernel
theorem dX5_ratesBy_135 : decode cX5_ratesBy 135 = .ok (.aload_n 0, 1) := by decide +kernel
theorem dX5_ratesBy_136 : decode cX5_ratesBy 136 = .ok (.getfield 44, 3) := by decide +kernel
theorem dX5_ratesBy_139 : decode cX5_ratesBy 139 = .ok (.iload_n 1, 1) := by decide +kernel
theorem dX5_ratesBy_140 : decode cX5_ratesBy 140 = .ok (.iload 8, 2) := by decide +kernel
theorem dX5_ratesBy_142 : decode cX5_ratesBy 142 = .ok (.iconst 2, 1) := by decide +kernel
theorem dX5_ratesBy_143 : decode cX5_ratesBy 143 = .ok (.iadd, 1) := by decide +kernel
theorem dX5_ratesBy_144 : decode cX5_ratesBy 144 = .ok (.invokevirtual 239, 3) := by decide +kernel
theorem dX5_ratesBy_147 : decode cX5_ratesBy 147 = .ok (.invokevirtual 113, 3) := by decide +kernel
theorem dX5_ratesBy_150 : decode cX5_ratesBy 150 = .ok (.istore 9, 2) := by decide +kernel
theorem dX5_ratesBy_152 : decode cX5_ratesBy 152 = .ok (.iload 6, 2) := by decide +kernel
theorem dX5_ratesBy_154 : decode cX5_ratesBy 154 = .ok (.iload 9, 2) := by decide +kernel
theorem dX5_ratesBy_156 : decode cX5_ratesBy 156 = .ok (.ifCond .lt 7, 3) := by decide +kernel
theorem dX5_ratesBy_159 : decode cX5_ratesBy 159 = .ok (.iconst 1, 1) := by decide +kernel
theorem dX5_ratesBy_160 : decode cX5_ratesBy 160 = .ok (.goto 4, 3) := by decide +kernel
theorem dX5_ratesBy_163 : decode cX5_ratesBy 163 = .ok (.iconst 0, 1) := by decide +kernel
theorem dX5_ratesBy_164 : decode cX5_ratesBy 164 = .ok (.iadd, 1) := by decide +kernel
theorem dX5_ratesBy_165 : decode cX5_ratesBy 165 = .ok (.istore 6, 2) := by decide +kernel
theorem dX5_ratesBy_167 : decode cX5_ratesBy 167 = .ok (.iinc 7 1, 3) := by decide +kernel
theorem dX5_ratesBy_170 : decode cX5_ratesBy 170 = .ok (.goto (-102), 3) := by decide +kernel
theorem dX5_ratesBy_173 : decode cX5_ratesBy 173 = .ok (.iload 6, 2) := by decide +kernel
theorem dX5_ratesBy_175 : decode cX5_ratesBy 175 = .ok (.ireturn, 1) := by decide +kernel
theorem dX5_taken_0 : decode cX5_taken 0 = .ok (.iload_n 2, 1) := by decide +kernel
theorem dX5_taken_1 : decode cX5_taken 1 = .ok (.ifCond .lt 9, 3) := by decide +kernel
theorem dX5_taken_4 : decode cX5_taken 4 = .ok (.iload_n 2, 1) := by decide +kernel
theorem dX5_taken_5 : decode cX5_taken 5 = .ok (.bipush 6, 2) := by decide +kernel
theorem dX5_taken_7 : decode cX5_taken 7 = .ok (.if_icmp .le 6, 3) := by decide +kernel
theorem dX5_taken_10 : decode cX5_taken 10 = .ok (.bipush (-2), 2) := by decide +kernel
theorem dX5_taken_12 : decode cX5_taken 12 = .ok (.ireturn, 1) := by decide +kernel
theorem dX5_taken_13 : decode cX5_taken 13 = .ok (.iload_n 1, 1) := by decide +kernel
theorem dX5_taken_14 : decode cX5_taken 14 = .ok (.ifCond .lt 9, 3) := by decide +kernel
theorem dX5_taken_17 : decode cX5_taken 17 = .ok (.iload_n 1, 1) := by decide +kernel
theorem dX5_taken_18 : decode cX5_taken 18 = .ok (.bipush 9, 2) := by decide +kernel
theorem dX5_taken_20 : decode cX5_taken 20 = .ok (.if_icmp .lt 6, 3) := by decide +kernel
theorem dX5_taken_23 : decode cX5_taken 23 = .ok (.bipush (-12), 2) := by decide +kernel
theorem dX5_taken_25 : decode cX5_taken 25 = .ok (.ireturn, 1) := by decide +kernel
theorem dX5_taken_26 : decode cX5_taken 26 = .ok (.iload_n 1, 1) := by decide +kernel
theorem dX5_taken_27 : decode cX5_taken 27 = .ok (.iconst 3, 1) := by decide +kernel
theorem dX5_taken_28 : decode cX5_taken 28 = .ok (.if_icmp .gt 33, 3) := by decide +kernel
theorem dX5_taken_31 : decode cX5_taken 31 = .ok (.aload_n 0, 1) := by decide +kernel
theorem dX5_taken_32 : decode cX5_taken 32 = .ok (.getfield 9, 3) := by decide +kernel
theorem dX5_taken_35 : decode cX5_taken 35 = .ok (.iload_n 1, 1) := by decide +kernel
theorem dX5_taken_36 : decode cX5_taken 36 = .ok (.iaload, 1) := by decide +kernel
theorem dX5_taken_37 : decode cX5_taken 37 = .ok (.ifCond .ne 6, 3) := by decide +kernel
theorem dX5_taken_40 : decode cX5_taken 40 = .ok (.bipush (-11), 2) := by decide +kernel
theorem dX5_taken_42 : decode cX5_taken 42 = .ok (.ireturn, 1) := by decide +kernel
theorem dX5_taken_43 : decode cX5_taken 43 = .ok (.iload_n 2, 1) := by decide +kernel
theorem dX5_taken_44 : decode cX5_taken 44 = .ok (.bipush 6, 2) := by decide +kernel
theorem dX5_taken_46 : decode cX5_taken 46 = .ok (.if_icmp .ne 12, 3) := by decide +kernel
theorem dX5_taken_49 : decode cX5_taken 49 = .ok (.aload_n 0, 1) := by decide +kernel
theorem dX5_taken_50 : decode cX5_taken 50 = .ok (.getfield 9, 3) := by decide +kernel
theorem dX5_taken_53 : decode cX5_taken 53 = .ok (.iload_n 1, 1) := by decide +kernel
theorem dX5_taken_54 : decode cX5_taken 54 = .ok (.iaload, 1) := by decide +kernel
theorem dX5_taken_55 : decode cX5_taken 55 = .ok (.goto 5, 3) := by decide +kernel
theorem dX5_taken_58 : decode cX5_taken 58 = .ok (.bipush (-13), 2) := by decide +kernel
theorem dX5_taken_60 : decode cX5_taken 60 = .ok (.ireturn, 1) := by decide +kernel
theorem dX5_taken_61 : decode cX5_taken 61 = .ok (.iload_n 1, 1) := by decide +kernel
theorem dX5_taken_62 : decode cX5_taken 62 = .ok (.iconst 4, 1) := by decide +kernel
theorem dX5_taken_63 : decode cX5_taken 63 = .ok (.isub, 1) := by decide +kernel
theorem dX5_taken_64 : decode cX5_taken 64 = .ok (.istore_n 3, 1) := by decide +kernel
theorem dX5_taken_65 : decode cX5_taken 65 = .ok (.aload_n 0, 1) := by decide +kernel
theorem dX5_taken_66 : decode cX5_taken 66 = .ok (.getfield 24, 3) := by decide +kernel
theorem dX5_taken_69 : decode cX5_taken 69 = .ok (.iload_n 3, 1) := by decide +kernel
theorem dX5_taken_70 : decode cX5_taken 70 = .ok (.invokevirtual 117, 3) := by decide +kernel
theorem dX5_taken_73 : decode cX5_taken 73 = .ok (.ifCond .ne 6, 3) := by decide +kernel
theorem dX5_taken_76 : decode cX5_taken 76 = .ok (.bipush (-11), 2) := by decide +kernel
theorem dX5_taken_78 : decode cX5_taken 78 = .ok (.ireturn, 1) := by decide +kernel
theorem dX5_taken_79 : decode cX5_taken 79 = .ok (.aload_n 0, 1) := by decide +kernel
theorem dX5_taken_80 : decode cX5_taken 80 = .ok (.getfield 24, 3) := by decide +kernel
theorem dX5_taken_83 : decode cX5_taken 83 = .ok (.getfield 126, 3) := by decide +kernel
theorem dX5_taken_86 : decode cX5_taken 86 = .ok (.iload_n 3, 1) := by decide +kernel
theorem dX5_taken_87 : decode cX5_taken 87 = .ok (.iaload, 1) := by decide +kernel
theorem dX5_taken_88 : decode cX5_taken 88 = .ok (.iload_n 2, 1) := by decide +kernel
theorem dX5_taken_89 : decode cX5_taken 89 = .ok (.invokestatic 277, 3) := by decide +kernel
theorem dX5_taken_92 : decode cX5_taken 92 = .ok (.ifCond .eq 7, 3) := by decide +kernel
theorem dX5_taken_95 : decode cX5_taken 95 = .ok (.iload_n 3, 1) := by decide +kernel
theorem dX5_taken_96 : decode cX5_taken 96 = .ok (.goto 5, 3) := by decide +kernel
theorem dX5_taken_99 : decode cX5_taken 99 = .ok (.bipush (-13), 2) := by decide +kernel
theorem dX5_taken_101 : decode cX5_taken 101 = .ok (.ireturn, 1) := by decide +kernel
theorem dX6_init_0 : decode cX6_init 0 = .ok (.aload_n 0, 1) := by decide +kernel
theorem dX6_init_1 : decode cX6_init 1 = .ok (.invokespecial 1, 3) := by decide +kernel
theorem dX6_init_4 : decode cX6_init 4 = .ok (.aload_n 0, 1) := by decide +kernel
theorem dX6_init_5 : decode cX6_init 5 = .ok (.bipush 7, 2) := by decide +kernel
theorem dX6_init_7 : decode cX6_init 7 = .ok (.newarray .int, 2) := by decide +kernel
theorem dX6_init_9 : decode cX6_init 9 = .ok (.putfield 7, 3) := by decide +kernel
theorem dX6_init_12 : decode cX6_init 12 = .ok (.aload_n 0, 1) := by decide +kernel
theorem dX6_init_13 : decode cX6_init 13 = .ok (.iconst 5, 1) := by decide +kernel
theorem dX6_init_14 : decode cX6_init 14 = .ok (.newarray .int, 2) := by decide +kernel
theorem dX6_init_16 : decode cX6_init 16 = .ok (.putfield 13, 3) := by decide +kernel
theorem dX6_init_19 : decode cX6_init 19 = .ok (.aload_n 0, 1) := by decide +kernel
theorem dX6_init_20 : decode cX6_init 20 = .ok (.iconst 5, 1) := by decide +kernel
theorem dX6_init_21 : decode cX6_init 21 = .ok (.newarray .int, 2) := by decide +kernel
theorem dX6_init_23 : decode cX6_init 23 = .ok (.putfield 16, 3) := by decide +kernel
theorem dX6_init_26 : decode cX6_init 26 = .ok (.aload_n 0, 1) := by decide +kernel
theorem dX6_init_27 : decode cX6_init 27 = .ok (.iconst 5, 1) := by decide +kernel
theorem dX6_init_28 : decode cX6_init 28 = .ok (.newarray .int, 2) := by decide +kernel
theorem dX6_init_30 : decode cX6_init 30 = .ok (.putfield 19, 3) := by decide +kernel
theorem dX6_init_33 : decode cX6_init 33 = .ok (.aload_n 0, 1) := by decide +kernel
theorem dX6_init_34 : decode cX6_init 34 = .ok (.iconst 5, 1) := by decide +kernel
theorem dX6_init_35 : decode cX6_init 35 = .ok (.newarray .int, 2) := by decide +kernel
theorem dX6_init_37 : decode cX6_init 37 = .ok (.putfield 22, 3) := by decide +kernel
theorem dX6_init_40 : decode cX6_init 40 = .ok (.aload_n 0, 1) := by decide +kernel
theorem dX6_init_41 : decode cX6_init 41 = .ok (.iconst (-1), 1) := by decide +kernel
theorem dX6_init_42 : decode cX6_init 42 = .ok (.putfield 25, 3) := by decide +kernel
theorem dX6_init_45 : decode cX6_init 45 = .ok (.aload_n 0, 1) := by decide +kernel
theorem dX6_init_46 : decode cX6_init 46 = .ok (.sipush 160, 3) := by decide +kernel
theorem dX6_init_49 : decode cX6_init 49 = .ok (.newarray .int, 2) := by decide +kernel
theorem dX6_init_51 : decode cX6_init 51 = .ok (.putfield 29, 3) := by decide +kernel
theorem dX6_init_54 : decode cX6_init 54 = .ok (.aload_n 0, 1) := by decide +kernel
theorem dX6_init_55 : decode cX6_init 55 = .ok (.sipush 1200, 3) := by decide +kernel
theorem dX6_init_58 : decode cX6_init 58 = .ok (.newarray .int, 2) := by decide +kernel
theorem dX6_init_60 : decode cX6_init 60 = .ok (.putfield 32, 3) := by decide +kernel
theorem dX6_init_63 : decode cX6_init 63 = .ok (.aload_n 0, 1) := by decide +kernel
theorem dX6_init_64 : decode cX6_init 64 = .ok (.bipush 24, 2) := by decide +kernel
theorem dX6_init_66 : decode cX6_init 66 = .ok (.newarray .int, 2) := by decide +kernel
theorem dX6_init_68 : decode cX6_init 68 = .ok (.putfield 35, 3) := by decide +kernel
theorem dX6_init_71 : decode cX6_init 71 = .ok (.aload_n 0, 1) := by decide +kernel
theorem dX6_init_72 : decode cX6_init 72 = .ok (.bipush 17, 2) := by decide +kernel
theorem dX6_init_74 : decode cX6_init 74 = .ok (.newarray .int, 2) := by decide +kernel
theorem dX6_init_76 : decode cX6_init 76 = .ok (.putfield 38, 3) := by decide +kernel
theorem dX6_init_79 : decode cX6_init 79 = .ok (.aload_n 0, 1) := by decide +kernel
theorem dX6_init_80 : decode cX6_init 80 = .ok (.iconst 4, 1) := by decide +kernel
theorem dX6_init_81 : decode cX6_init 81 = .ok (.newarray .int, 2) := by decide +kernel
theorem dX6_init_83 : decode cX6_init 83 = .ok (.dup, 1) := by decide +kernel
theorem dX6_init_84 : decode cX6_init 84 = .ok (.iconst 0, 1) := by decide +kernel
theorem dX6_init_85 : decode cX6_init 85 = .ok (.iconst (-1), 1) := by decide +kernel
theorem dX6_init_86 : decode cX6_init 86 = .ok (.iastore, 1) := by decide +kernel
theorem dX6_init_87 : decode cX6_init 87 = .ok (.dup, 1) := by decide +kernel
theorem dX6_init_88 : decode cX6_init 88 = .ok (.iconst 1, 1) := by decide +kernel
theorem dX6_init_89 : decode cX6_init 89 = .ok (.iconst (-1), 1) := by decide +kernel
theorem dX6_init_90 : decode cX6_init 90 = .ok (.iastore, 1) := by decide +kernel
theorem dX6_init_91 : decode cX6_init 91 = .ok (.dup, 1) := by decide +kernel
theorem dX6_init_92 : decode cX6_init 92 = .ok (.iconst 2, 1) := by decide +kernel
theorem dX6_init_93 : decode cX6_init 93 = .ok (.iconst (-1), 1) := by decide +kernel
theorem dX6_init_94 : decode cX6_init 94 = .ok (.iastore, 1) := by decide +kernel
theorem dX6_init_95 : decode cX6_init 95 = .ok (.dup, 1) := by decide +kernel
theorem dX6_init_96 : decode cX6_init 96 = .ok (.iconst 3, 1) := by decide +kernel
theorem dX6_init_97 : decode cX6_init 97 = .ok (.iconst (-1), 1) := by decide +kernel
theorem dX6_init_98 : decode cX6_init 98 = .ok (.iastore, 1) := by decide +kernel
theorem dX6_init_99 : decode cX6_init 99 = .ok (.putfield 41, 3) := by decide +kernel
theorem dX6_init_102 : decode cX6_init 102 = .ok (.aload_n 0, 1) := by decide +kernel
theorem dX6_init_103 : decode cX6_init 103 = .ok (.iconst 4, 1) := by decide +kernel
theorem dX6_init_104 : decode cX6_init 104 = .ok (.newarray .int, 2) := by decide +kernel
theorem dX6_init_106 : decode cX6_init 106 = .ok (.putfield 44, 3) := by decide +kernel
theorem dX6_init_109 : decode cX6_init 109 = .ok (.aload_n 0, 1) := by decide +kernel
theorem dX6_init_110 : decode cX6_init 110 = .ok (.sipush 160, 3) := by decide +kernel
theorem dX6_init_113 : decode cX6_init 113 = .ok (.newarray .int, 2) := by decide +kernel
theorem dX6_init_115 : decode cX6_init 115 = .ok (.putfield 47, 3) := by decide +kernel
theorem dX6_init_118 : decode cX6_init 118 = .ok (.aload_n 0, 1) := by decide +kernel
theorem dX6_init_119 : decode cX6_init 119 = .ok (.bipush 32, 2) := by decide +kernel
theorem dX6_init_121 : decode cX6_init 121 = .ok (.newarray .int, 2) := by decide +kernel
theorem dX6_init_123 : decode cX6_init 123 = .ok (.dup, 1) := by decide +kernel
theorem dX6_init_124 : decode cX6_init 124 = .ok (.iconst 0, 1) := by decide +kernel
theorem dX6_init_125 : decode cX6_init 125 = .ok (.bipush 100, 2) := by decide +kernel
theorem dX6_init_127 : decode cX6_init 127 = .ok (.iastore, 1) := by decide +kernel
theorem dX6_init_128 : decode cX6_init 128 = .ok (.dup, 1) := by decide +kernel
theorem dX6_init_129 : decode cX6_init 129 = .ok (.iconst 1, 1) := by decide +kernel
theorem dX6_init_130 : decode cX6_init 130 = .ok (.bipush 114, 2) := by decide +kernel
theorem dX6_init_132 : decode cX6_init 132 = .ok (.iastore, 1) := by decide +kernel
theorem dX6_init_133 : decode cX6_init 133 = .ok (.dup, 1) := by decide +kernel
theorem dX6_init_134 : decode cX6_init 134 = .ok (.iconst 2, 1) := by decide +kernel
theorem dX6_init_135 : decode cX6_init 135 = .ok (.bipush 105, 2) := by decide +kernel
theorem dX6_init_137 : decode cX6_init 137 = .ok (.iastore, 1) := by decide +kernel
theorem dX6_init_138 : decode cX6_init 138 = .ok (.dup, 1) := by decide +kernel
theorem dX6_init_139 : decode cX6_init 139 = .ok (.iconst 3, 1) := by decide +kernel
theorem dX6_init_140 : decode cX6_init 140 = .ok (.bipush 110, 2) := by decide +kernel
theorem dX6_init_142 : decode cX6_init 142 = .ok (.iastore, 1) := by decide +kernel
theorem dX6_init_143 : decode cX6_init 143 = .ok (.dup, 1) := by decide +kernel
theorem dX6_init_144 : decode cX6_init 144 = .ok (.iconst 4, 1) := by decide +kernel
theorem dX6_init_145 : decode cX6_init 145 = .ok (.bipush 107, 2) := by decide +kernel
theorem dX6_init_147 : decode cX6_init 147 = .ok (.iastore, 1) := by decide +kernel
theorem dX6_init_148 : decode cX6_init 148 = .ok (.dup, 1) := by decide +kernel
theorem dX6_init_149 : decode cX6_init 149 = .ok (.iconst 5, 1) := by decide +kernel
theorem dX6_init_150 : decode cX6_init 150 = .ok (.bipush 115, 2) := by decide +kernel
theorem dX6_init_152 : decode cX6_init 152 = .ok (.iastore, 1) := by decide +kernel
theorem dX6_init_153 : decode cX6_init 153 = .ok (.dup, 1) := by decide +kernel
theorem dX6_init_154 : decode cX6_init 154 = .ok (.bipush 6, 2) := by decide +kernel
theorem dX6_init_156 : decode cX6_init 156 = .ok (.bipush 32, 2) := by decide +kernel
theorem dX6_init_158 : decode cX6_init 158 = .ok (.iastore, 1) := by decide +kernel
theorem dX6_init_159 : decode cX6_init 159 = .ok (.dup, 1) := by decide +kernel
theorem dX6_init_160 : decode cX6_init 160 = .ok (.bipush 7, 2) := by decide +kernel
theorem dX6_init_162 : decode cX6_init 162 = .ok (.bipush 49, 2) := by decide +kernel
theorem dX6_init_164 : decode cX6_init 164 = .ok (.iastore, 1) := by decide +kernel
theorem dX6_init_165 : decode cX6_init 165 = .ok (.dup, 1) := by decide +kernel
theorem dX6_init_166 : decode cX6_init 166 = .ok (.bipush 8, 2) := by decide +kernel
theorem dX6_init_168 : decode cX6_init 168 = .ok (.bipush 32, 2) := by decide +kernel
theorem dX6_init_170 : decode cX6_init 170 = .ok (.iastore, 1) := by decide +kernel
theorem dX6_init_171 : decode cX6_init 171 = .ok (.dup, 1) := by decide +kernel
theorem dX6_init_172 : decode cX6_init 172 = .ok (.bipush 9, 2) := by decide +kernel
theorem dX6_init_174 : decode cX6_init 174 = .ok (.bipush 59, 2) := by decide +kernel
theorem dX6_init_176 : decode cX6_init 176 = .ok (.iastore, 1) := by decide +kernel
theorem dX6_init_177 : decode cX6_init 177 = .ok (.dup, 1) := by decide +kernel
theorem dX6_init_178 : decode cX6_init 178 = .ok (.bipush 10, 2) := by decide +kernel
theorem dX6_init_180 : decode cX6_init 180 = .ok (.bipush 32, 2) := by decide +kernel
theorem dX6_init_182 : decode cX6_init 182 = .ok (.iastore, 1) := by decide +kernel
theorem dX6_init_183 : decode cX6_init 183 = .ok (.dup, 1) := by decide +kernel
theorem dX6_init_184 : decode cX6_init 184 = .ok (.bipush 11, 2) := by decide +kernel
theorem dX6_init_186 : decode cX6_init 186 = .ok (.bipush 119, 2) := by decide +kernel
theorem dX6_init_188 : decode cX6_init 188 = .ok (.iastore, 1) := by decide +kernel
theorem dX6_init_189 : decode cX6_init 189 = .ok (.dup, 1) := by decide +kernel
theorem dX6_init_190 : decode cX6_init 190 = .ok (.bipush 12, 2) := by decide +kernel
theorem dX6_init_192 : decode cX6_init 192 = .ok (.bipush 111, 2) := by decide +kernel
theorem dX6_init_194 : decode cX6_init 194 = .ok (.iastore, 1) := by decide +kernel
theorem dX6_init_195 : decode cX6_init 195 = .ok (.dup, 1) := by decide +kernel
theorem dX6_init_196 : decode cX6_init 196 = .ok (.bipush 13, 2) := by decide +kernel
theorem dX6_init_198 : decode cX6_init 198 = .ok (.bipush 114, 2) := by decide +kernel
theorem dX6_init_200 : decode cX6_init 200 = .ok (.iastore, 1) := by decide +kernel
theorem dX6_init_201 : decode cX6_init 201 = .ok (.dup, 1) := by decide +kernel
theorem dX6_init_202 : decode cX6_init 202 = .ok (.bipush 14, 2) := by decide +kernel
theorem dX6_init_204 : decode cX6_init 204 = .ok (.bipush 116, 2) := by decide +kernel
theorem dX6_init_206 : decode cX6_init 206 = .ok (.iastore, 1) := by decide +kernel
theorem dX6_init_207 : decode cX6_init 207 = .ok (.dup, 1) := by decide +kernel
theorem dX6_init_208 : decode cX6_init 208 = .ok (.bipush 15, 2) := by decide +kernel
theorem dX6_init_210 : decode cX6_init 210 = .ok (.bipush 104, 2) := by decide +kernel
theorem dX6_init_212 : decode cX6_init 212 = .ok (.iastore, 1) := by decide +kernel
theorem dX6_init_213 : decode cX6_init 213 = .ok (.dup, 1) := by decide +kernel
theorem dX6_init_214 : decode cX6_init 214 = .ok (.bipush 16, 2) := by decide +kernel
theorem dX6_init_216 : decode cX6_init 216 = .ok (.bipush 32, 2) := by decide +kernel
theorem dX6_init_218 : decode cX6_init 218 = .ok (.iastore, 1) := by decide +kernel
theorem dX6_init_219 : decode cX6_init 219 = .ok (.dup, 1) := by decide +kernel
theorem dX6_init_220 : decode cX6_init 220 = .ok (.bipush 17, 2) := by decide +kernel
theorem dX6_init_222 : decode cX6_init 222 = .ok (.bipush 53, 2) := by decide +kernel
theorem dX6_init_224 : decode cX6_init 224 = .ok (.iastore, 1) := by decide +kernel
theorem dX6_init_225 : decode cX6_init 225 = .ok (.dup, 1) := by decide +kernel
theorem dX6_init_226 : decode cX6_init 226 = .ok (.bipush 18, 2) := by decide +kernel
theorem dX6_init_228 : decode cX6_init 228 = .ok (.bipush 32, 2) := by decide +kernel
theorem dX6_init_230 : decode cX6_init 230 = .ok (.iastore, 1) := by decide +kernel
theorem dX6_init_231 : decode cX6_init 231 = .ok (.dup, 1) := by decide +kernel
theorem dX6_init_232 : decode cX6_init 232 = .ok (.bipush 19, 2) := by decide +kernel
theorem dX6_init_234 : decode cX6_init 234 = .ok (.bipush 59, 2) := by decide +kernel
theorem dX6_init_236 : decode cX6_init 236 = .ok (.iastore, 1) := by decide +kernel
theorem dX6_init_237 : decode cX6_init 237 = .ok (.dup, 1) := by decide +kernel
theorem dX6_init_238 : decode cX6_init 238 = .ok (.bipush 20, 2) := by decide +kernel
theorem dX6_init_240 : decode cX6_init 240 = .ok (.bipush 32, 2) := by decide +kernel
theorem dX6_init_242 : decode cX6_init 242 = .ok (.iastore, 1) := by decide +kernel
theorem dX6_init_243 : decode cX6_init 243 = .ok (.dup, 1) := by decide +kernel
theorem dX6_init_244 : decode cX6_init 244 = .ok (.bipush 21, 2) := by decide +kernel
theorem dX6_init_246 : decode cX6_init 246 = .ok (.bipush 98, 2) := by decide +kernel
theorem dX6_init_248 : decode cX6_init 248 = .ok (.iastore, 1) := by decide +kernel
theorem dX6_init_249 : decode cX6_init 249 = .ok (.dup, 1) := by decide +kernel
theorem dX6_init_250 : decode cX6_init 250 = .ok (.bipush 22, 2) := by decide +kernel
theorem dX6_init_252 : decode cX6_init 252 = .ok (.bipush 114, 2) := by decide +kernel
theorem dX6_init_254 : decode cX6_init 254 = .ok (.iastore, 1) := by decide +kernel
theorem dX6_init_255 : decode cX6_init 255 = .ok (.dup, 1) := by decide +kernel
theorem dX6_init_256 : decode cX6_init 256 = .ok (.bipush 23, 2) := by decide +kernel
theorem dX6_init_258 : decode cX6_init 258 = .ok (.bipush 101, 2) := by decide +kernel
theorem dX6_init_260 : decode cX6_init 260 = .ok (.iastore, 1) := by decide +kernel
theorem dX6_init_261 : decode cX6_init 261 = .ok (.dup, 1) := by decide +kernel
theorem dX6_init_262 : decode cX6_init 262 = .ok (.bipush 24, 2) := by decide +kernel
theorem dX6_init_264 : decode cX6_init 264 = .ok (.bipush 97, 2) := by decide +kernel
theorem dX6_init_266 : decode cX6_init 266 = .ok (.iastore, 1) := by decide +kernel
theorem dX6_init_267 : decode cX6_init 267 = .ok (.dup, 1) := by decide +kernel
theorem dX6_init_268 : decode cX6_init 268 = .ok (.bipush 25, 2) := by decide +kernel
theorem dX6_init_270 : decode cX6_init 270 = .ok (.bipush 107, 2) := by decide +kernel
theorem dX6_init_272 : decode cX6_init 272 = .ok (.iastore, 1) := by decide +kernel
theorem dX6_init_273 : decode cX6_init 273 = .ok (.dup, 1) := by decide +kernel
theorem dX6_init_274 : decode cX6_init 274 = .ok (.bipush 26, 2) := by decide +kernel
theorem dX6_init_276 : decode cX6_init 276 = .ok (.bipush 115, 2) := by decide +kernel
theorem dX6_init_278 : decode cX6_init 278 = .ok (.iastore, 1) := by decide +kernel
theorem dX6_init_279 : decode cX6_init 279 = .ok (.dup, 1) := by decide +kernel
theorem dX6_init_280 : decode cX6_init 280 = .ok (.bipush 27, 2) := by decide +kernel
theorem dX6_init_282 : decode cX6_init 282 = .ok (.bipush 32, 2) := by decide +kernel
theorem dX6_init_284 : decode cX6_init 284 = .ok (.iastore, 1) := by decide +kernel
theorem dX6_init_285 : decode cX6_init 285 = .ok (.dup, 1) := by decide +kernel
theorem dX6_init_286 : decode cX6_init 286 = .ok (.bipush 28, 2) := by decide +kernel
theorem dX6_init_288 : decode cX6_init 288 = .ok (.bipush 49, 2) := by decide +kernel
theorem dX6_init_290 : decode cX6_init 290 = .ok (.iastore, 1) := by decide +kernel
theorem dX6_init_291 : decode cX6_init 291 = .ok (.dup, 1) := by decide +kernel
theorem dX6_init_292 : decode cX6_init 292 = .ok (.bipush 29, 2) := by decide +kernel
theorem dX6_init_294 : decode cX6_init 294 = .ok (.bipush 48, 2) := by decide +kernel
theorem dX6_init_296 : decode cX6_init 296 = .ok (.iastore, 1) := by decide +kernel
theorem dX6_init_297 : decode cX6_init 297 = .ok (.dup, 1) := by decide +kernel
theorem dX6_init_298 : decode cX6_init 298 = .ok (.bipush 30, 2) := by decide +kernel
theorem dX6_init_300 : decode cX6_init 300 = .ok (.bipush 32, 2) := by decide +kernel
theorem dX6_init_302 : decode cX6_init 302 = .ok (.iastore, 1) := by decide +kernel
theorem dX6_init_303 : decode cX6_init 303 = .ok (.dup, 1) := by decide +kernel
theorem dX6_init_304 : decode cX6_init 304 = .ok (.bipush 31, 2) := by decide +kernel
theorem dX6_init_306 : decode cX6_init 306 = .ok (.bipush 59, 2) := by decide +kernel
theorem dX6_init_308 : decode cX6_init 308 = .ok (.iastore, 1) := by decide +kernel
theorem dX6_init_309 : decode cX6_init 309 = .ok (.putfield 50, 3) := by decide +kernel
theorem dX6_init_312 : decode cX6_init 312 = .ok (.aload_n 0, 1) := by decide +kernel
theorem dX6_init_313 : decode cX6_init 313 = .ok (.bipush 96, 2) := by decide +kernel
theorem dX6_init_315 : decode cX6_init 315 = .ok (.newarray .int, 2) := by decide +kernel
theorem dX6_init_317 : decode cX6_init 317 = .ok (.dup, 1) := by decide +kernel
theorem dX6_init_318 : decode cX6_init 318 = .ok (.iconst 0, 1) := by decide +kernel
theorem dX6_init_319 : decode cX6_init 319 = .ok (.bipush 100, 2) := by decide +kernel
theorem dX6_init_321 : decode cX6_init 321 = .ok (.iastore, 1) := by decide +kernel
theorem dX6_init_322 : decode cX6_init 322 = .ok (.dup, 1) := by decide +kernel
theorem dX6_init_323 : decode cX6_init 323 = .ok (.iconst 1, 1) := by decide +kernel
theorem dX6_init_324 : decode cX6_init 324 = .ok (.bipush 114, 2) := by decide +kernel
theorem dX6_init_326 : decode cX6_init 326 = .ok (.iastore, 1) := by decide +kernel
theorem dX6_init_327 : decode cX6_init 327 = .ok (.dup, 1) := by decide +kernel
theorem dX6_init_328 : decode cX6_init 328 = .ok (.iconst 2, 1) := by decide +kernel
theorem dX6_init_329 : decode cX6_init 329 = .ok (.bipush 105, 2) := by decide +kernel
theorem dX6_init_331 : decode cX6_init 331 = .ok (.iastore, 1) := by decide +kernel
theorem dX6_init_332 : decode cX6_init 332 = .ok (.dup, 1) := by decide +kernel
theorem dX6_init_333 : decode cX6_init 333 = .ok (.iconst 3, 1) := by decide +kernel
theorem dX6_init_334 : decode cX6_init 334 = .ok (.bipush 110, 2) := by decide +kernel
theorem dX6_init_336 : decode cX6_init 336 = .ok (.iastore, 1) := by decide +kernel
theorem dX6_init_337 : decode cX6_init 337 = .ok (.dup, 1) := by decide +kernel
theorem dX6_init_338 : decode cX6_init 338 = .ok (.iconst 4, 1) := by decide +kernel
theorem dX6_init_339 : decode cX6_init 339 = .ok (.bipush 107, 2) := by decide +kernel
theorem dX6_init_341 : decode cX6_init 341 = .ok (.iastore, 1) := by decide +kernel
theorem dX6_init_342 : decode cX6_init 342 = .ok (.dup, 1) := by decide +kernel
theorem dX6_init_343 : decode cX6_init 343 = .ok (.iconst 5, 1) := by decide +kernel
theorem dX6_init_344 : decode cX6_init 344 = .ok (.bipush 115, 2) := by decide +kernel
theorem dX6_init_346 : decode cX6_init 346 = .ok (.iastore, 1) := by decide +kernel
theorem dX6_init_347 : decode cX6_init 347 = .ok (.dup, 1) := by decide +kernel
theorem dX6_init_348 : decode cX6_init 348 = .ok (.bipush 6, 2) := by decide +kernel
theorem dX6_init_350 : decode cX6_init 350 = .ok (.bipush 32, 2) := by decide +kernel
theorem dX6_init_352 : decode cX6_init 352 = .ok (.iastore, 1) := by decide +kernel
theorem dX6_init_353 : decode cX6_init 353 = .ok (.dup, 1) := by decide +kernel
theorem dX6_init_354 : decode cX6_init 354 = .ok (.bipush 7, 2) := by decide +kernel
theorem dX6_init_356 : decode cX6_init 356 = .ok (.bipush 32, 2) := by decide +kernel
theorem dX6_init_358 : decode cX6_init 358 = .ok (.iastore, 1) := by decide +kernel
theorem dX6_init_359 : decode cX6_init 359 = .ok (.dup, 1) := by decide +kernel
theorem dX6_init_360 : decode cX6_init 360 = .ok (.bipush 8, 2) := by decide +kernel
theorem dX6_init_362 : decode cX6_init 362 = .ok (.bipush 119, 2) := by decide +kernel
theorem dX6_init_364 : decode cX6_init 364 = .ok (.iastore, 1) := by decide +kernel
theorem dX6_init_365 : decode cX6_init 365 = .ok (.dup, 1) := by decide +kernel
theorem dX6_init_366 : decode cX6_init 366 = .ok (.bipush 9, 2) := by decide +kernel
theorem dX6_init_368 : decode cX6_init 368 = .ok (.bipush 111, 2) := by decide +kernel
theorem dX6_init_370 : decode cX6_init 370 = .ok (.iastore, 1) := by decide +kernel
theorem dX6_init_371 : decode cX6_init 371 = .ok (.dup, 1) := by decide +kernel
theorem dX6_init_372 : decode cX6_init 372 = .ok (.bipush 10, 2) := by decide +kernel
theorem dX6_init_374 : decode cX6_init 374 = .ok (.bipush 114, 2) := by decide +kernel
theorem dX6_init_376 : decode cX6_init 376 = .ok (.iastore, 1) := by decide +kernel
theorem dX6_init_377 : decode cX6_init 377 = .ok (.dup, 1) := by decide +kernel
theorem dX6_init_378 : decode cX6_init 378 = .ok (.bipush 11, 2) := by decide +kernel
theorem dX6_init_380 : decode cX6_init 380 = .ok (.bipush 116, 2) := by decide +kernel
theorem dX6_init_382 : decode cX6_init 382 = .ok (.iastore, 1) := by decide +kernel
theorem dX6_init_383 : decode cX6_init 383 = .ok (.dup, 1) := by decide +kernel
theorem dX6_init_384 : decode cX6_init 384 = .ok (.bipush 12, 2) := by decide +kernel
theorem dX6_init_386 : decode cX6_init 386 = .ok (.bipush 104, 2) := by decide +kernel
theorem dX6_init_388 : decode cX6_init 388 = .ok (.iastore, 1) := by decide +kernel
theorem dX6_init_389 : decode cX6_init 389 = .ok (.dup, 1) := by decide +kernel
theorem dX6_init_390 : decode cX6_init 390 = .ok (.bipush 13, 2) := by decide +kernel
theorem dX6_init_392 : decode cX6_init 392 = .ok (.bipush 32, 2) := by decide +kernel
theorem dX6_init_394 : decode cX6_init 394 = .ok (.iastore, 1) := by decide +kernel
theorem dX6_init_395 : decode cX6_init 395 = .ok (.dup, 1) := by decide +kernel
theorem dX6_init_396 : decode cX6_init 396 = .ok (.bipush 14, 2) := by decide +kernel
theorem dX6_init_398 : decode cX6_init 398 = .ok (.bipush 32, 2) := by decide +kernel
theorem dX6_init_400 : decode cX6_init 400 = .ok (.iastore, 1) := by decide +kernel
theorem dX6_init_401 : decode cX6_init 401 = .ok (.dup, 1) := by decide +kernel
theorem dX6_init_402 : decode cX6_init 402 = .ok (.bipush 15, 2) := by decide +kernel
theorem dX6_init_404 : decode cX6_init 404 = .ok (.bipush 32, 2) := by decide +kernel
theorem dX6_init_406 : decode cX6_init 406 = .ok (.iastore, 1) := by decide +kernel
theorem dX6_init_407 : decode cX6_init 407 = .ok (.dup, 1) := by decide +kernel
theorem dX6_init_408 : decode cX6_init 408 = .ok (.bipush 16, 2) := by decide +kernel
theorem dX6_init_410 : decode cX6_init 410 = .ok (.bipush 98, 2) := by decide +kernel
theorem dX6_init_412 : decode cX6_init 412 = .ok (.iastore, 1) := by decide +kernel
theorem dX6_init_413 : decode cX6_init 413 = .ok (.dup, 1) := by decide +kernel
theorem dX6_init_414 : decode cX6_init 414 = .ok (.bipush 17, 2) := by decide +kernel
theorem dX6_init_416 : decode cX6_init 416 = .ok (.bipush 114, 2) := by decide +kernel
theorem dX6_init_418 : decode cX6_init 418 = .ok (.iastore, 1) := by decide +kernel
theorem dX6_init_419 : decode cX6_init 419 = .ok (.dup, 1) := by decide +kernel
theorem dX6_init_420 : decode cX6_init 420 = .ok (.bipush 18, 2) := by decide +kernel
theorem dX6_init_422 : decode cX6_init 422 = .ok (.bipush 101, 2) := by decide +kernel
theorem dX6_init_424 : decode cX6_init 424 = .ok (.iastore, 1) := by decide +kernel
theorem dX6_init_425 : decode cX6_init 425 = .ok (.dup, 1) := by decide +kernel
theorem dX6_init_426 : decode cX6_init 426 = .ok (.bipush 19, 2) := by decide +kernel
theorem dX6_init_428 : decode cX6_init 428 = .ok (.bipush 97, 2) := by decide +kernel
theorem dX6_init_430 : decode cX6_init 430 = .ok (.iastore, 1) := by decide +kernel
theorem dX6_init_431 : decode cX6_init 431 = .ok (.dup, 1) := by decide +kernel
theorem dX6_init_432 : decode cX6_init 432 = .ok (.bipush 20, 2) := by decide +kernel
theorem dX6_init_434 : decode cX6_init 434 = .ok (.bipush 107, 2) := by decide +kernel
theorem dX6_init_436 : decode cX6_init 436 = .ok (.iastore, 1) := by decide +kernel
theorem dX6_init_437 : decode cX6_init 437 = .ok (.dup, 1) := by decide +kernel
theorem dX6_init_438 : decode cX6_init 438 = .ok (.bipush 21, 2) := by decide +kernel
theorem dX6_init_440 : decode cX6_init 440 = .ok (.bipush 115, 2) := by decide +kernel
theorem dX6_init_442 : decode cX6_init 442 = .ok (.iastore, 1) := by decide +kernel
theorem dX6_init_443 : decode cX6_init 443 = .ok (.dup, 1) := by decide +kernel
theorem dX6_init_444 : decode cX6_init 444 = .ok (.bipush 22, 2) := by decide +kernel
theorem dX6_init_446 : decode cX6_init 446 = .ok (.bipush 32, 2) := by decide +kernel
theorem dX6_init_448 : decode cX6_init 448 = .ok (.iastore, 1) := by decide +kernel
theorem dX6_init_449 : decode cX6_init 449 = .ok (.dup, 1) := by decide +kernel
theorem dX6_init_450 : decode cX6_init 450 = .ok (.bipush 23, 2) := by decide +kernel
theorem dX6_init_452 : decode cX6_init 452 = .ok (.bipush 32, 2) := by decide +kernel
theorem dX6_init_454 : decode cX6_init 454 = .ok (.iastore, 1) := by decide +kernel
theorem dX6_init_455 : decode cX6_init 455 = .ok (.dup, 1) := by decide +kernel
theorem dX6_init_456 : decode cX6_init 456 = .ok (.bipush 24, 2) := by decide +kernel
theorem dX6_init_458 : decode cX6_init 458 = .ok (.bipush 100, 2) := by decide +kernel
theorem dX6_init_460 : decode cX6_init 460 = .ok (.iastore, 1) := by decide +kernel
theorem dX6_init_461 : decode cX6_init 461 = .ok (.dup, 1) := by decide +kernel
theorem dX6_init_462 : decode cX6_init 462 = .ok (.bipush 25, 2) := by decide +kernel
theorem dX6_init_464 : decode cX6_init 464 = .ok (.bipush 97, 2) := by decide +kernel
theorem dX6_init_466 : decode cX6_init 466 = .ok (.iastore, 1) := by decide +kernel
theorem dX6_init_467 : decode cX6_init 467 = .ok (.dup, 1) := by decide +kernel
theorem dX6_init_468 : decode cX6_init 468 = .ok (.bipush 26, 2) := by decide +kernel
theorem dX6_init_470 : decode cX6_init 470 = .ok (.bipush 121, 2) := by decide +kernel
theorem dX6_init_472 : decode cX6_init 472 = .ok (.iastore, 1) := by decide +kernel
theorem dX6_init_473 : decode cX6_init 473 = .ok (.dup, 1) := by decide +kernel
theorem dX6_init_474 : decode cX6_init 474 = .ok (.bipush 27, 2) := by decide +kernel
theorem dX6_init_476 : decode cX6_init 476 = .ok (.bipush 32, 2) := by decide +kernel
theorem dX6_init_478 : decode cX6_init 478 = .ok (.iastore, 1) := by decide +kernel
theorem dX6_init_479 : decode cX6_init 479 = .ok (.dup, 1) := by decide +kernel
theorem dX6_init_480 : decode cX6_init 480 = .ok (.bipush 28, 2) := by decide +kernel
theorem dX6_init_482 : decode cX6_init 482 = .ok (.bipush 32, 2) := by decide +kernel
theorem dX6_init_484 : decode cX6_init 484 = .ok (.iastore, 1) := by decide +kernel
theorem dX6_init_485 : decode cX6_init 485 = .ok (.dup, 1) := by decide +kernel
theorem dX6_init_486 : decode cX6_init 486 = .ok (.bipush 29, 2) := by decide +kernel
theorem dX6_init_488 : decode cX6_init 488 = .ok (.bipush 32, 2) := by decide +kernel
theorem dX6_init_490 : decode cX6_init 490 = .ok (.iastore, 1) := by decide +kernel
theorem dX6_init_491 : decode cX6_init 491 = .ok (.dup, 1) := by decide +kernel
theorem dX6_init_492 : decode cX6_init 492 = .ok (.bipush 30, 2) := by decide +kernel
theorem dX6_init_494 : decode cX6_init 494 = .ok (.bipush 32, 2) := by decide +kernel
theorem dX6_init_496 : decode cX6_init 496 = .ok (.iastore, 1) := by decide +kernel
theorem dX6_init_497 : decode cX6_init 497 = .ok (.dup, 1) := by decide +kernel
theorem dX6_init_498 : decode cX6_init 498 = .ok (.bipush 31, 2) := by decide +kernel
theorem dX6_init_500 : decode cX6_init 500 = .ok (.bipush 32, 2) := by decide +kernel
theorem dX6_init_502 : decode cX6_init 502 = .ok (.iastore, 1) := by decide +kernel
theorem dX6_init_503 : decode cX6_init 503 = .ok (.dup, 1) := by decide +kernel
theorem dX6_init_504 : decode cX6_init 504 = .ok (.bipush 32, 2) := by decide +kernel
theorem dX6_init_506 : decode cX6_init 506 = .ok (.bipush 100, 2) := by decide +kernel
theorem dX6_init_508 : decode cX6_init 508 = .ok (.iastore, 1) := by decide +kernel
theorem dX6_init_509 : decode cX6_init 509 = .ok (.dup, 1) := by decide +kernel
theorem dX6_init_510 : decode cX6_init 510 = .ok (.bipush 33, 2) := by decide +kernel
theorem dX6_init_512 : decode cX6_init 512 = .ok (.bipush 114, 2) := by decide +kernel
theorem dX6_init_514 : decode cX6_init 514 = .ok (.iastore, 1) := by decide +kernel
theorem dX6_init_515 : decode cX6_init 515 = .ok (.dup, 1) := by decide +kernel
theorem dX6_init_516 : decode cX6_init 516 = .ok (.bipush 34, 2) := by decide +kernel
theorem dX6_init_518 : decode cX6_init 518 = .ok (.bipush 117, 2) := by decide +kernel
theorem dX6_init_520 : decode cX6_init 520 = .ok (.iastore, 1) := by decide +kernel
theorem dX6_init_521 : decode cX6_init 521 = .ok (.dup, 1) := by decide +kernel
theorem dX6_init_522 : decode cX6_init 522 = .ok (.bipush 35, 2) := by decide +kernel
theorem dX6_init_524 : decode cX6_init 524 = .ok (.bipush 110, 2) := by decide +kernel
theorem dX6_init_526 : decode cX6_init 526 = .ok (.iastore, 1) := by decide +kernel
theorem dX6_init_527 : decode cX6_init 527 = .ok (.dup, 1) := by decide +kernel
theorem dX6_init_528 : decode cX6_init 528 = .ok (.bipush 36, 2) := by decide +kernel
theorem dX6_init_530 : decode cX6_init 530 = .ok (.bipush 107, 2) := by decide +kernel
theorem dX6_init_532 : decode cX6_init 532 = .ok (.iastore, 1) := by decide +kernel
theorem dX6_init_533 : decode cX6_init 533 = .ok (.dup, 1) := by decide +kernel
theorem dX6_init_534 : decode cX6_init 534 = .ok (.bipush 37, 2) := by decide +kernel
theorem dX6_init_536 : decode cX6_init 536 = .ok (.bipush 32, 2) := by decide +kernel
theorem dX6_init_538 : decode cX6_init 538 = .ok (.iastore, 1) := by decide +kernel
theorem dX6_init_539 : decode cX6_init 539 = .ok (.dup, 1) := by decide +kernel
theorem dX6_init_540 : decode cX6_init 540 = .ok (.bipush 38, 2) := by decide +kernel
theorem dX6_init_542 : decode cX6_init 542 = .ok (.bipush 32, 2) := by decide +kernel
theorem dX6_init_544 : decode cX6_init 544 = .ok (.iastore, 1) := by decide +kernel
theorem dX6_init_545 : decode cX6_init 545 = .ok (.dup, 1) := by decide +kernel
theorem dX6_init_546 : decode cX6_init 546 = .ok (.bipush 39, 2) := by decide +kernel
theorem dX6_init_548 : decode cX6_init 548 = .ok (.bipush 32, 2) := by decide +kernel
theorem dX6_init_550 : decode cX6_init 550 = .ok (.iastore, 1) := by decide +kernel
theorem dX6_init_551 : decode cX6_init 551 = .ok (.dup, 1) := by decide +kernel
theorem dX6_init_552 : decode cX6_init 552 = .ok (.bipush 40, 2) := by decide +kernel
theorem dX6_init_554 : decode cX6_init 554 = .ok (.bipush 102, 2) := by decide +kernel
theorem dX6_init_556 : decode cX6_init 556 = .ok (.iastore, 1) := by decide +kernel
theorem dX6_init_557 : decode cX6_init 557 = .ok (.dup, 1) := by decide +kernel
theorem dX6_init_558 : decode cX6_init 558 = .ok (.bipush 41, 2) := by decide +kernel
theorem dX6_init_560 : decode cX6_init 560 = .ok (.bipush 117, 2) := by decide +kernel
theorem dX6_init_562 : decode cX6_init 562 = .ok (.iastore, 1) := by decide +kernel
theorem dX6_init_563 : decode cX6_init 563 = .ok (.dup, 1) := by decide +kernel
theorem dX6_init_564 : decode cX6_init 564 = .ok (.bipush 42, 2) := by decide +kernel
theorem dX6_init_566 : decode cX6_init 566 = .ok (.bipush 108, 2) := by decide +kernel
theorem dX6_init_568 : decode cX6_init 568 = .ok (.iastore, 1) := by decide +kernel
theorem dX6_init_569 : decode cX6_init 569 = .ok (.dup, 1) := by decide +kernel
theorem dX6_init_570 : decode cX6_init 570 = .ok (.bipush 43, 2) := by decide +kernel
theorem dX6_init_572 : decode cX6_init 572 = .ok (.bipush 108, 2) := by decide +kernel
theorem dX6_init_574 : decode cX6_init 574 = .ok (.iastore, 1) := by decide +kernel
theorem dX6_init_575 : decode cX6_init 575 = .ok (.dup, 1) := by decide +kernel
theorem dX6_init_576 : decode cX6_init 576 = .ok (.bipush 44, 2) := by decide +kernel
theorem dX6_init_578 : decode cX6_init 578 = .ok (.bipush 32, 2) := by decide +kernel
theorem dX6_init_580 : decode cX6_init 580 = .ok (.iastore, 1) := by decide +kernel
theorem dX6_init_581 : decode cX6_init 581 = .ok (.dup, 1) := by decide +kernel
theorem dX6_init_582 : decode cX6_init 582 = .ok (.bipush 45, 2) := by decide +kernel
theorem dX6_init_584 : decode cX6_init 584 = .ok (.bipush 32, 2) := by decide +kernel
theorem dX6_init_586 : decode cX6_init 586 = .ok (.iastore, 1) := by decide +kernel
theorem dX6_init_587 : decode cX6_init 587 = .ok (.dup, 1) := by decide +kernel
theorem dX6_init_588 : decode cX6_init 588 = .ok (.bipush 46, 2) := by decide +kernel
theorem dX6_init_590 : decode cX6_init 590 = .ok (.bipush 32, 2) := by decide +kernel
theorem dX6_init_592 : decode cX6_init 592 = .ok (.iastore, 1) := by decide +kernel
theorem dX6_init_593 : decode cX6_init 593 = .ok (.dup, 1) := by decide +kernel
theorem dX6_init_594 : decode cX6_init 594 = .ok (.bipush 47, 2) := by decide +kernel
theorem dX6_init_596 : decode cX6_init 596 = .ok (.bipush 32, 2) := by decide +kernel
theorem dX6_init_598 : decode cX6_init 598 = .ok (.iastore, 1) := by decide +kernel
theorem dX6_init_599 : decode cX6_init 599 = .ok (.dup, 1) := by decide +kernel
theorem dX6_init_600 : decode cX6_init 600 = .ok (.bipush 48, 2) := by decide +kernel
theorem dX6_init_602 : decode cX6_init 602 = .ok (.bipush 101, 2) := by decide +kernel
theorem dX6_init_604 : decode cX6_init 604 = .ok (.iastore, 1) := by decide +kernel
theorem dX6_init_605 : decode cX6_init 605 = .ok (.dup, 1) := by decide +kernel
theorem dX6_init_606 : decode cX6_init 606 = .ok (.bipush 49, 2) := by decide +kernel
theorem dX6_init_608 : decode cX6_init 608 = .ok (.bipush 109, 2) := by decide +kernel
theorem dX6_init_610 : decode cX6_init 610 = .ok (.iastore, 1) := by decide +kernel
theorem dX6_init_611 : decode cX6_init 611 = .ok (.dup, 1) := by decide +kernel
theorem dX6_init_612 : decode cX6_init 612 = .ok (.bipush 50, 2) := by decide +kernel
theorem dX6_init_614 : decode cX6_init 614 = .ok (.bipush 112, 2) := by decide +kernel
theorem dX6_init_616 : decode cX6_init 616 = .ok (.iastore, 1) := by decide +kernel
theorem dX6_init_617 : decode cX6_init 617 = .ok (.dup, 1) := by decide +kernel
theorem dX6_init_618 : decode cX6_init 618 = .ok (.bipush 51, 2) := by decide +kernel
theorem dX6_init_620 : decode cX6_init 620 = .ok (.bipush 116, 2) := by decide +kernel
theorem dX6_init_622 : decode cX6_init 622 = .ok (.iastore, 1) := by decide +kernel
theorem dX6_init_623 : decode cX6_init 623 = .ok (.dup, 1) := by decide +kernel
theorem dX6_init_624 : decode cX6_init 624 = .ok (.bipush 52, 2) := by decide +kernel
theorem dX6_init_626 : decode cX6_init 626 = .ok (.bipush 121, 2) := by decide +kernel
theorem dX6_init_628 : decode cX6_init 628 = .ok (.iastore, 1) := by decide +kernel
theorem dX6_init_629 : decode cX6_init 629 = .ok (.dup, 1) := by decide +kernel
theorem dX6_init_630 : decode cX6_init 630 = .ok (.bipush 53, 2) := by decide +kernel
theorem dX6_init_632 : decode cX6_init 632 = .ok (.bipush 32, 2) := by decide +kernel
theorem dX6_init_634 : decode cX6_init 634 = .ok (.iastore, 1) := by decide +kernel
theorem dX6_init_635 : decode cX6_init 635 = .ok (.dup, 1) := by decide +kernel
theorem dX6_init_636 : decode cX6_init 636 = .ok (.bipush 54, 2) := by decide +kernel
theorem dX6_init_638 : decode cX6_init 638 = .ok (.bipush 32, 2) := by decide +kernel
theorem dX6_init_640 : decode cX6_init 640 = .ok (.iastore, 1) := by decide +kernel
theorem dX6_init_641 : decode cX6_init 641 = .ok (.dup, 1) := by decide +kernel
theorem dX6_init_642 : decode cX6_init 642 = .ok (.bipush 55, 2) := by decide +kernel
theorem dX6_init_644 : decode cX6_init 644 = .ok (.bipush 32, 2) := by decide +kernel
theorem dX6_init_646 : decode cX6_init 646 = .ok (.iastore, 1) := by decide +kernel
theorem dX6_init_647 : decode cX6_init 647 = .ok (.dup, 1) := by decide +kernel
theorem dX6_init_648 : decode cX6_init 648 = .ok (.bipush 56, 2) := by decide +kernel
theorem dX6_init_650 : decode cX6_init 650 = .ok (.bipush 99, 2) := by decide +kernel
theorem dX6_init_652 : decode cX6_init 652 = .ok (.iastore, 1) := by decide +kernel
theorem dX6_init_653 : decode cX6_init 653 = .ok (.dup, 1) := by decide +kernel
theorem dX6_init_654 : decode cX6_init 654 = .ok (.bipush 57, 2) := by decide +kernel
theorem dX6_init_656 : decode cX6_init 656 = .ok (.bipush 111, 2) := by decide +kernel
theorem dX6_init_658 : decode cX6_init 658 = .ok (.iastore, 1) := by decide +kernel
theorem dX6_init_659 : decode cX6_init 659 = .ok (.dup, 1) := by decide +kernel
theorem dX6_init_660 : decode cX6_init 660 = .ok (.bipush 58, 2) := by decide +kernel
theorem dX6_init_662 : decode cX6_init 662 = .ok (.bipush 114, 2) := by decide +kernel
theorem dX6_init_664 : decode cX6_init 664 = .ok (.iastore, 1) := by decide +kernel
theorem dX6_init_665 : decode cX6_init 665 = .ok (.dup, 1) := by decide +kernel
theorem dX6_init_666 : decode cX6_init 666 = .ok (.bipush 59, 2) := by decide +kernel
theorem dX6_init_668 : decode cX6_init 668 = .ok (.bipush 107, 2) := by decide +kernel
theorem dX6_init_670 : decode cX6_init 670 = .ok (.iastore, 1) := by decide +kernel
theorem dX6_init_671 : decode cX6_init 671 = .ok (.dup, 1) := by decide +kernel
theorem dX6_init_672 : decode cX6_init 672 = .ok (.bipush 60, 2) := by decide +kernel
theorem dX6_init_674 : decode cX6_init 674 = .ok (.bipush 32, 2) := by decide +kernel
theorem dX6_init_676 : decode cX6_init 676 = .ok (.iastore, 1) := by decide +kernel
theorem dX6_init_677 : decode cX6_init 677 = .ok (.dup, 1) := by decide +kernel
theorem dX6_init_678 : decode cX6_init 678 = .ok (.bipush 61, 2) := by decide +kernel
theorem dX6_init_680 : decode cX6_init 680 = .ok (.bipush 32, 2) := by decide +kernel
theorem dX6_init_682 : decode cX6_init 682 = .ok (.iastore, 1) := by decide +kernel
theorem dX6_init_683 : decode cX6_init 683 = .ok (.dup, 1) := by decide +kernel
theorem dX6_init_684 : decode cX6_init 684 = .ok (.bipush 62, 2) := by decide +kernel
theorem dX6_init_686 : decode cX6_init 686 = .ok (.bipush 32, 2) := by decide +kernel
theorem dX6_init_688 : decode cX6_init 688 = .ok (.iastore, 1) := by decide +kernel
theorem dX6_init_689 : decode cX6_init 689 = .ok (.dup, 1) := by decide +kernel
theorem dX6_init_690 : decode cX6_init 690 = .ok (.bipush 63, 2) := by decide +kernel
theorem dX6_init_692 : decode cX6_init 692 = .ok (.bipush 32, 2) := by decide +kernel
theorem dX6_init_694 : decode cX6_init 694 = .ok (.iastore, 1) := by decide +kernel
theorem dX6_init_695 : decode cX6_init 695 = .ok (.dup, 1) := by decide +kernel
theorem dX6_init_696 : decode cX6_init 696 = .ok (.bipush 64, 2) := by decide +kernel
theorem dX6_init_698 : decode cX6_init 698 = .ok (.bipush 108, 2) := by decide +kernel
theorem dX6_init_700 : decode cX6_init 700 = .ok (.iastore, 1) := by decide +kernel
theorem dX6_init_701 : decode cX6_init 701 = .ok (.dup, 1) := by decide +kernel
theorem dX6_init_702 : decode cX6_init 702 = .ok (.bipush 65, 2) := by decide +kernel
theorem dX6_init_704 : decode cX6_init 704 = .ok (.bipush 97, 2) := by decide +kernel
theorem dX6_init_706 : decode cX6_init 706 = .ok (.iastore, 1) := by decide +kernel
theorem dX6_init_707 : decode cX6_init 707 = .ok (.dup, 1) := by decide +kernel
theorem dX6_init_708 : decode cX6_init 708 = .ok (.bipush 66, 2) := by decide +kernel
theorem dX6_init_710 : decode cX6_init 710 = .ok (.bipush 98, 2) := by decide +kernel
theorem dX6_init_712 : decode cX6_init 712 = .ok (.iastore, 1) := by decide +kernel
theorem dX6_init_713 : decode cX6_init 713 = .ok (.dup, 1) := by decide +kernel
theorem dX6_init_714 : decode cX6_init 714 = .ok (.bipush 67, 2) := by decide +kernel
theorem dX6_init_716 : decode cX6_init 716 = .ok (.bipush 101, 2) := by decide +kernel
theorem dX6_init_718 : decode cX6_init 718 = .ok (.iastore, 1) := by decide +kernel
theorem dX6_init_719 : decode cX6_init 719 = .ok (.dup, 1) := by decide +kernel
theorem dX6_init_720 : decode cX6_init 720 = .ok (.bipush 68, 2) := by decide +kernel
theorem dX6_init_722 : decode cX6_init 722 = .ok (.bipush 108, 2) := by decide +kernel
theorem dX6_init_724 : decode cX6_init 724 = .ok (.iastore, 1) := by decide +kernel
theorem dX6_init_725 : decode cX6_init 725 = .ok (.dup, 1) := by decide +kernel
theorem dX6_init_726 : decode cX6_init 726 = .ok (.bipush 69, 2) := by decide +kernel
theorem dX6_init_728 : decode cX6_init 728 = .ok (.bipush 32, 2) := by decide +kernel
theorem dX6_init_730 : decode cX6_init 730 = .ok (.iastore, 1) := by decide +kernel
theorem dX6_init_731 : decode cX6_init 731 = .ok (.dup, 1) := by decide +kernel
theorem dX6_init_732 : decode cX6_init 732 = .ok (.bipush 70, 2) := by decide +kernel
theorem dX6_init_734 : decode cX6_init 734 = .ok (.bipush 32, 2) := by decide +kernel
theorem dX6_init_736 : decode cX6_init 736 = .ok (.iastore, 1) := by decide +kernel
theorem dX6_init_737 : decode cX6_init 737 = .ok (.dup, 1) := by decide +kernel
theorem dX6_init_738 : decode cX6_init 738 = .ok (.bipush 71, 2) := by decide +kernel
theorem dX6_init_740 : decode cX6_init 740 = .ok (.bipush 32, 2) := by decide +kernel
theorem dX6_init_742 : decode cX6_init 742 = .ok (.iastore, 1) := by decide +kernel
theorem dX6_init_743 : decode cX6_init 743 = .ok (.dup, 1) := by decide +kernel
theorem dX6_init_744 : decode cX6_init 744 = .ok (.bipush 72, 2) := by decide +kernel
theorem dX6_init_746 : decode cX6_init 746 = .ok (.bipush 111, 2) := by decide +kernel
theorem dX6_init_748 : decode cX6_init 748 = .ok (.iastore, 1) := by decide +kernel
theorem dX6_init_749 : decode cX6_init 749 = .ok (.dup, 1) := by decide +kernel
theorem dX6_init_750 : decode cX6_init 750 = .ok (.bipush 73, 2) := by decide +kernel
theorem dX6_init_752 : decode cX6_init 752 = .ok (.bipush 114, 2) := by decide +kernel
theorem dX6_init_754 : decode cX6_init 754 = .ok (.iastore, 1) := by decide +kernel
theorem dX6_init_755 : decode cX6_init 755 = .ok (.dup, 1) := by decide +kernel
theorem dX6_init_756 : decode cX6_init 756 = .ok (.bipush 74, 2) := by decide +kernel
theorem dX6_init_758 : decode cX6_init 758 = .ok (.bipush 32, 2) := by decide +kernel
theorem dX6_init_760 : decode cX6_init 760 = .ok (.iastore, 1) := by decide +kernel
theorem dX6_init_761 : decode cX6_init 761 = .ok (.dup, 1) := by decide +kernel
theorem dX6_init_762 : decode cX6_init 762 = .ok (.bipush 75, 2) := by decide +kernel
theorem dX6_init_764 : decode cX6_init 764 = .ok (.bipush 32, 2) := by decide +kernel
theorem dX6_init_766 : decode cX6_init 766 = .ok (.iastore, 1) := by decide +kernel
theorem dX6_init_767 : decode cX6_init 767 = .ok (.dup, 1) := by decide +kernel
theorem dX6_init_768 : decode cX6_init 768 = .ok (.bipush 76, 2) := by decide +kernel
theorem dX6_init_770 : decode cX6_init 770 = .ok (.bipush 32, 2) := by decide +kernel
theorem dX6_init_772 : decode cX6_init 772 = .ok (.iastore, 1) := by decide +kernel
theorem dX6_init_773 : decode cX6_init 773 = .ok (.dup, 1) := by decide +kernel
theorem dX6_init_774 : decode cX6_init 774 = .ok (.bipush 77, 2) := by decide +kernel
theorem dX6_init_776 : decode cX6_init 776 = .ok (.bipush 32, 2) := by decide +kernel
theorem dX6_init_778 : decode cX6_init 778 = .ok (.iastore, 1) := by decide +kernel
theorem dX6_init_779 : decode cX6_init 779 = .ok (.dup, 1) := by decide +kernel
theorem dX6_init_780 : decode cX6_init 780 = .ok (.bipush 78, 2) := by decide +kernel
theorem dX6_init_782 : decode cX6_init 782 = .ok (.bipush 32, 2) := by decide +kernel
theorem dX6_init_784 : decode cX6_init 784 = .ok (.iastore, 1) := by decide +kernel
theorem dX6_init_785 : decode cX6_init 785 = .ok (.dup, 1) := by decide +kernel
theorem dX6_init_786 : decode cX6_init 786 = .ok (.bipush 79, 2) := by decide +kernel
theorem dX6_init_788 : decode cX6_init 788 = .ok (.bipush 32, 2) := by decide +kernel
theorem dX6_init_790 : decode cX6_init 790 = .ok (.iastore, 1) := by decide +kernel
theorem dX6_init_791 : decode cX6_init 791 = .ok (.dup, 1) := by decide +kernel
theorem dX6_init_792 : decode cX6_init 792 = .ok (.bipush 80, 2) := by decide +kernel
theorem dX6_init_794 : decode cX6_init 794 = .ok (.bipush 97, 2) := by decide +kernel
theorem dX6_init_796 : decode cX6_init 796 = .ok (.iastore, 1) := by decide +kernel
theorem dX6_init_797 : decode cX6_init 797 = .ok (.dup, 1) := by decide +kernel
theorem dX6_init_798 : decode cX6_init 798 = .ok (.bipush 81, 2) := by decide +kernel
theorem dX6_init_800 : decode cX6_init 800 = .ok (.bipush 110, 2) := by decide +kernel
theorem dX6_init_802 : decode cX6_init 802 = .ok (.iastore, 1) := by decide +kernel
theorem dX6_init_803 : decode cX6_init 803 = .ok (.dup, 1) := by decide +kernel
theorem dX6_init_804 : decode cX6_init 804 = .ok (.bipush 82, 2) := by decide +kernel
theorem dX6_init_806 : decode cX6_init 806 = .ok (.bipush 100, 2) := by decide +kernel
theorem dX6_init_808 : decode cX6_init 808 = .ok (.iastore, 1) := by decide +kernel
theorem dX6_init_809 : decode cX6_init 809 = .ok (.dup, 1) := by decide +kernel
theorem dX6_init_810 : decode cX6_init 810 = .ok (.bipush 83, 2) := by decide +kernel
theorem dX6_init_812 : decode cX6_init 812 = .ok (.bipush 32, 2) := by decide +kernel
theorem dX6_init_814 : decode cX6_init 814 = .ok (.iastore, 1) := by decide +kernel
theorem dX6_init_815 : decode cX6_init 815 = .ok (.dup, 1) := by decide +kernel
theorem dX6_init_816 : decode cX6_init 816 = .ok (.bipush 84, 2) := by decide +kernel
theorem dX6_init_818 : decode cX6_init 818 = .ok (.bipush 32, 2) := by decide +kernel
theorem dX6_init_820 : decode cX6_init 820 = .ok (.iastore, 1) := by decide +kernel
theorem dX6_init_821 : decode cX6_init 821 = .ok (.dup, 1) := by decide +kernel
theorem dX6_init_822 : decode cX6_init 822 = .ok (.bipush 85, 2) := by decide +kernel
theorem dX6_init_824 : decode cX6_init 824 = .ok (.bipush 32, 2) := by decide +kernel
theorem dX6_init_826 : decode cX6_init 826 = .ok (.iastore, 1) := by decide +kernel
theorem dX6_init_827 : decode cX6_init 827 = .ok (.dup, 1) := by decide +kernel
theorem dX6_init_828 : decode cX6_init 828 = .ok (.bipush 86, 2) := by decide +kernel
theorem dX6_init_830 : decode cX6_init 830 = .ok (.bipush 32, 2) := by decide +kernel
theorem dX6_init_832 : decode cX6_init 832 = .ok (.iastore, 1) := by decide +kernel
theorem dX6_init_833 : decode cX6_init 833 = .ok (.dup, 1) := by decide +kernel
theorem dX6_init_834 : decode cX6_init 834 = .ok (.bipush 87, 2) := by decide +kernel
theorem dX6_init_836 : decode cX6_init 836 = .ok (.bipush 32, 2) := by decide +kernel
theorem dX6_init_838 : decode cX6_init 838 = .ok (.iastore, 1) := by decide +kernel
theorem dX6_init_839 : decode cX6_init 839 = .ok (.dup, 1) := by decide +kernel
theorem dX6_init_840 : decode cX6_init 840 = .ok (.bipush 88, 2) := by decide +kernel
theorem dX6_init_842 : decode cX6_init 842 = .ok (.bipush 110, 2) := by decide +kernel
theorem dX6_init_844 : decode cX6_init 844 = .ok (.iastore, 1) := by decide +kernel
theorem dX6_init_845 : decode cX6_init 845 = .ok (.dup, 1) := by decide +kernel
theorem dX6_init_846 : decode cX6_init 846 = .ok (.bipush 89, 2) := by decide +kernel
theorem dX6_init_848 : decode cX6_init 848 = .ok (.bipush 111, 2) := by decide +kernel
theorem dX6_init_850 : decode cX6_init 850 = .ok (.iastore, 1) := by decide +kernel
theorem dX6_init_851 : decode cX6_init 851 = .ok (.dup, 1) := by decide +kernel
theorem dX6_init_852 : decode cX6_init 852 = .ok (.bipush 90, 2) := by decide +kernel
theorem dX6_init_854 : decode cX6_init 854 = .ok (.bipush 116, 2) := by decide +kernel
theorem dX6_init_856 : decode cX6_init 856 = .ok (.iastore, 1) := by decide +kernel
theorem dX6_init_857 : decode cX6_init 857 = .ok (.dup, 1) := by decide +kernel
theorem dX6_init_858 : decode cX6_init 858 = .ok (.bipush 91, 2) := by decide +kernel
theorem dX6_init_860 : decode cX6_init 860 = .ok (.bipush 32, 2) := by decide +kernel
theorem dX6_init_862 : decode cX6_init 862 = .ok (.iastore, 1) := by decide +kernel
theorem dX6_init_863 : decode cX6_init 863 = .ok (.dup, 1) := by decide +kernel
theorem dX6_init_864 : decode cX6_init 864 = .ok (.bipush 92, 2) := by decide +kernel
theorem dX6_init_866 : decode cX6_init 866 = .ok (.bipush 32, 2) := by decide +kernel
theorem dX6_init_868 : decode cX6_init 868 = .ok (.iastore, 1) := by decide +kernel
theorem dX6_init_869 : decode cX6_init 869 = .ok (.dup, 1) := by decide +kernel
theorem dX6_init_870 : decode cX6_init 870 = .ok (.bipush 93, 2) := by decide +kernel
theorem dX6_init_872 : decode cX6_init 872 = .ok (.bipush 32, 2) := by decide +kernel
theorem dX6_init_874 : decode cX6_init 874 = .ok (.iastore, 1) := by decide +kernel
theorem dX6_init_875 : decode cX6_init 875 = .ok (.dup, 1) := by decide +kernel
theorem dX6_init_876 : decode cX6_init 876 = .ok (.bipush 94, 2) := by decide +kernel
theorem dX6_init_878 : decode cX6_init 878 = .ok (.bipush 32, 2) := by decide +kernel
theorem dX6_init_880 : decode cX6_init 880 = .ok (.iastore, 1) := by decide +kernel
theorem dX6_init_881 : decode cX6_init 881 = .ok (.dup, 1) := by decide +kernel
theorem dX6_init_882 : decode cX6_init 882 = .ok (.bipush 95, 2) := by decide +kernel
theorem dX6_init_884 : decode cX6_init 884 = .ok (.bipush 32, 2) := by decide +kernel
theorem dX6_init_886 : decode cX6_init 886 = .ok (.iastore, 1) := by decide +kernel
theorem dX6_init_887 : decode cX6_init 887 = .ok (.putfield 53, 3) := by decide +kernel
theorem dX6_init_890 : decode cX6_init 890 = .ok (.aload_n 0, 1) := by decide +kernel
theorem dX6_init_891 : decode cX6_init 891 = .ok (.sipush 200, 3) := by decide +kernel
theorem dX6_init_894 : decode cX6_init 894 = .ok (.newarray .int, 2) := by decide +kernel
theorem dX6_init_896 : decode cX6_init 896 = .ok (.putfield 56, 3) := by decide +kernel
theorem dX6_init_899 : decode cX6_init 899 = .ok (.aload_n 0, 1) := by decide +kernel
theorem dX6_init_900 : decode cX6_init 900 = .ok (.sipush 200, 3) := by decide +kernel
theorem dX6_init_903 : decode cX6_init 903 = .ok (.newarray .int, 2) := by decide +kernel
theorem dX6_init_905 : decode cX6_init 905 = .ok (.putfield 59, 3) := by decide +kernel
theorem dX6_init_908 : decode cX6_init 908 = .ok (.aload_n 0, 1) := by decide +kernel
theorem dX6_init_909 : decode cX6_init 909 = .ok (.bipush 6, 2) := by decide +kernel
theorem dX6_init_911 : decode cX6_init 911 = .ok (.newarray .int, 2) := by decide +kernel
theorem dX6_init_913 : decode cX6_init 913 = .ok (.putfield 62, 3) := by decide +kernel
theorem dX6_init_916 : decode cX6_init 916 = .ok (.aload_n 0, 1) := by decide +kernel
theorem dX6_init_917 : decode cX6_init 917 = .ok (.bipush 70, 2) := by decide +kernel
theorem dX6_init_919 : decode cX6_init 919 = .ok (.newarray .int, 2) := by decide +kernel
theorem dX6_init_921 : decode cX6_init 921 = .ok (.putfield 65, 3) := by decide +kernel
theorem dX6_init_924 : decode cX6_init 924 = .ok (.iconst 0, 1) := by decide +kernel
theorem dX6_init_925 : decode cX6_init 925 = .ok (.istore_n 1, 1) := by decide +kernel
theorem dX6_init_926 : decode cX6_init 926 = .ok (.iload_n 1, 1) := by decide +kernel
theorem dX6_init_927 : decode cX6_init 927 = .ok (.bipush 32, 2) := by decide +kernel
theorem dX6_init_929 : decode cX6_init 929 = .ok (.if_icmp .ge 21, 3) := by decide +kernel
theorem dX6_init_932 : decode cX6_init 932 = .ok (.aload_n 0, 1) := by decide +kernel
theorem dX6_init_933 : decode cX6_init 933 = .ok (.getfield 29, 3) := by decide +kernel
theorem dX6_init_936 : decode cX6_init 936 = .ok (.iload_n 1, 1) := by decide +kernel
theorem dX6_init_937 : decode cX6_init 937 = .ok (.aload_n 0, 1) := by decide +kernel
theorem dX6_init_938 : decode cX6_init 938 = .ok (.getfield 50, 3) := by decide +kernel
theorem dX6_init_941 : decode cX6_init 941 = .ok (.iload_n 1, 1) := by decide +kernel
theorem dX6_init_942 : decode cX6_init 942 = .ok (.iaload, 1) := by decide +kernel
theorem dX6_init_943 : decode cX6_init 943 = .ok (.iastore, 1) := by decide +kernel
theorem dX6_init_944 : decode cX6_init 944 = .ok (.iinc 1 1, 3) := by decide +kernel
theorem dX6_init_947 : decode cX6_init 947 = .ok (.goto (-21), 3) := by decide +kernel
theorem dX6_init_950 : decode cX6_init 950 = .ok (.aload_n 0, 1) := by decide +kernel
theorem dX6_init_951 : decode cX6_init 951 = .ok (.bipush 32, 2) := by decide +kernel
theorem dX6_init_953 : decode cX6_init 953 = .ok (.putfield 68, 3) := by decide +kernel
theorem dX6_init_956 : decode cX6_init 956 = .ok (.aload_n 0, 1) := by decide +kernel
theorem dX6_init_957 : decode cX6_init 957 = .ok (.invokevirtual 71, 3) := by decide +kernel
theorem dX6_init_960 : decode cX6_init 960 = .ok (.pop, 1) := by decide +kernel
theorem dX6_init_961 : decode cX6_init 961 = .ok (.return_, 1) := by decide +kernel
theorem dX6_in_0 : decode cX6_in 0 = .ok (.iload_n 0, 1) := by decide +kernel
theorem dX6_in_1 : decode cX6_in 1 = .ok (.iload_n 1, 1) := by decide +kernel
theorem dX6_in_2 : decode cX6_in 2 = .ok (.if_icmp .lt 12, 3) := by decide +kernel
theorem dX6_in_5 : decode cX6_in 5 = .ok (.iload_n 0, 1) := by decide +kernel
theorem dX6_in_6 : decode cX6_in 6 = .ok (.iload_n 2, 1) := by decide +kernel
theorem dX6_in_7 : decode cX6_in 7 = .ok (.if_icmp .gt 7, 3) := by decide +kernel
theorem dX6_in_10 : decode cX6_in 10 = .ok (.iconst 1, 1) := by decide +kernel
theorem dX6_in_11 : decode cX6_in 11 = .ok (.goto 4, 3) := by decide +kernel
theorem dX6_in_14 : decode cX6_in 14 = .ok (.iconst 0, 1) := by decide +kernel
theorem dX6_in_15 : decode cX6_in 15 = .ok (.ireturn, 1) := by decide +kernel
theorem dX6_within_0 : decode cX6_within 0 = .ok (.iload_n 0, 1) := by decide +kernel
theorem dX6_within_1 : decode cX6_within 1 = .ok (.iload_n 1, 1) := by decide +kernel
theorem dX6_within_2 : decode cX6_within 2 = .ok (.if_icmp .ge 7, 3) := by decide +kernel
theorem dX6_within_5 : decode cX6_within 5 = .ok (.iload_n 1, 1) := by decide +kernel
theorem dX6_within_6 : decode cX6_within 6 = .ok (.goto 13, 3) := by decide +kernel
theorem dX6_within_9 : decode cX6_within 9 = .ok (.iload_n 0, 1) := by decide +kernel
theorem dX6_within_10 : decode cX6_within 10 = .ok (.iload_n 2, 1) := by decide +kernel
theorem dX6_within_11 : decode cX6_within 11 = .ok (.if_icmp .le 7, 3) := by decide +kernel
theorem dX6_within_14 : decode cX6_within 14 = .ok (.iload_n 2, 1) := by decide +kernel
theorem dX6_within_15 : decode cX6_within 15 = .ok (.goto 4, 3) := by decide +kernel
theorem dX6_within_18 : decode cX6_within 18 = .ok (.iload_n 0, 1) := by decide +kernel
theorem dX6_within_19 : decode cX6_within 19 = .ok (.ireturn, 1) := by decide +kernel
theorem dX6_isRate_0 : decode cX6_isRate 0 = .ok (.iload_n 1, 1) := by decide +kernel
theorem dX6_isRate_1 : decode cX6_isRate 1 = .ok (.iconst 0, 1) := by decide +kernel
theorem dX6_isRate_2 : decode cX6_isRate 2 = .ok (.aload_n 0, 1) := by decide +kernel
theorem dX6_isRate_3 : decode cX6_isRate 3 = .ok (.getfield 75, 3) := by decide +kernel
theorem dX6_isRate_6 : decode cX6_isRate 6 = .ok (.iconst 1, 1) := by decide +kernel
theorem dX6_isRate_7 : decode cX6_isRate 7 = .ok (.isub, 1) := by decide +kernel
theorem dX6_isRate_8 : decode cX6_isRate 8 = .ok (.invokestatic 78, 3) := by decide +kernel
theorem dX6_isRate_11 : decode cX6_isRate 11 = .ok (.ireturn, 1) := by decide +kernel
theorem dX6_isMove_0 : decode cX6_isMove 0 = .ok (.iload_n 1, 1) := by decide +kernel
theorem dX6_isMove_1 : decode cX6_isMove 1 = .ok (.iconst 0, 1) := by decide +kernel
theorem dX6_isMove_2 : decode cX6_isMove 2 = .ok (.aload_n 0, 1) := by decide +kernel
theorem dX6_isMove_3 : decode cX6_isMove 3 = .ok (.getfield 75, 3) := by decide +kernel
theorem dX6_isMove_6 : decode cX6_isMove 6 = .ok (.invokestatic 78, 3) := by decide +kernel
theorem dX6_isMove_9 : decode cX6_isMove 9 = .ok (.ireturn, 1) := by decide +kernel
theorem dX6_set_0 : decode cX6_set 0 = .ok (.iload_n 1, 1) := by decide +kernel
theorem dX6_set_1 : decode cX6_set 1 = .ok (.iconst 0, 1) := by decide +kernel
theorem dX6_set_2 : decode cX6_set 2 = .ok (.bipush 6, 2) := by decide +kernel
theorem dX6_set_4 : decode cX6_set 4 = .ok (.invokestatic 78, 3) := by decide +kernel
theorem dX6_set_7 : decode cX6_set 7 = .ok (.ifCond .ne 5, 3) := by decide +kernel
theorem dX6_set_10 : decode cX6_set 10 = .ok (.iconst (-1), 1) := by decide +kernel
theorem dX6_set_11 : decode cX6_set 11 = .ok (.ireturn, 1) := by decide +kernel
theorem dX6_set_12 : decode cX6_set 12 = .ok (.iload_n 2, 1) := by decide +kernel
theorem dX6_set_13 : decode cX6_set 13 = .ok (.iconst 0, 1) := by decide +kernel
theorem dX6_set_14 : decode cX6_set 14 = .ok (.iload_n 1, 1) := by decide +kernel
theorem dX6_set_15 : decode cX6_set 15 = .ok (.iconst 4, 1) := by decide +kernel
theorem dX6_set_16 : decode cX6_set 16 = .ok (.if_icmp .eq 9, 3) := by decide +kernel
theorem dX6_set_19 : decode cX6_set 19 = .ok (.iload_n 1, 1) := by decide +kernel
theorem dX6_set_20 : decode cX6_set 20 = .ok (.bipush 6, 2) := by decide +kernel
theorem dX6_set_22 : decode cX6_set 22 = .ok (.if_icmp .ne 8, 3) := by decide +kernel
theorem dX6_set_25 : decode cX6_set 25 = .ok (.bipush 99, 2) := by decide +kernel
theorem dX6_set_27 : decode cX6_set 27 = .ok (.goto 6, 3) := by decide +kernel
theorem dX6_set_30 : decode cX6_set 30 = .ok (.sipush 999, 3) := by decide +kernel
theorem dX6_set_33 : decode cX6_set 33 = .ok (.invokestatic 78, 3) := by decide +kernel
theorem dX6_set_36 : decode cX6_set 36 = .ok (.ifCond .ne 6, 3) := by decide +kernel
theorem dX6_set_39 : decode cX6_set 39 = .ok (.bipush (-2), 2) := by decide +kernel
theorem dX6_set_41 : decode cX6_set 41 = .ok (.ireturn, 1) := by decide +kernel
theorem dX6_set_42 : decode cX6_set 42 = .ok (.aload_n 0, 1) := by decide +kernel
theorem dX6_set_43 : decode cX6_set 43 = .ok (.getfield 7, 3) := by decide +kernel
theorem dX6_set_46 : decode cX6_set 46 = .ok (.iload_n 1, 1) := by decide +kernel
theorem dX6_set_47 : decode cX6_set 47 = .ok (.iaload, 1) := by decide +kernel
theorem dX6_set_48 : decode cX6_set 48 = .ok (.istore_n 3, 1) := by decide +kernel
theorem dX6_set_49 : decode cX6_set 49 = .ok (.aload_n 0, 1) := by decide +kernel
theorem dX6_set_50 : decode cX6_set 50 = .ok (.getfield 7, 3) := by decide +kernel
theorem dX6_set_53 : decode cX6_set 53 = .ok (.iload_n 1, 1) := by decide +kernel
theorem dX6_set_54 : decode cX6_set 54 = .ok (.iload_n 2, 1) := by decide +kernel
theorem dX6_set_55 : decode cX6_set 55 = .ok (.iastore, 1) := by decide +kernel
theorem dX6_set_56 : decode cX6_set 56 = .ok (.iload_n 3, 1) := by decide +kernel
theorem dX6_set_57 : decode cX6_set 57 = .ok (.ireturn, 1) := by decide +kernel
theorem dX6_count_0 : decode cX6_count 0 = .ok (.iload_n 1, 1) := by decide +kernel
theorem dX6_count_1 : decode cX6_count 1 = .ok (.iconst 0, 1) := by decide +kernel
theorem dX6_count_2 : decode cX6_count 2 = .ok (.bipush 6, 2) := by decide +kernel
theorem dX6_count_4 : decode cX6_count 4 = .ok (.invokestatic 78, 3) := by decide +kernel
theorem dX6_count_7 : decode cX6_count 7 = .ok (.ifCond .eq 10, 3) := by decide +kernel
theorem dX6_count_10 : decode cX6_count 10 = .ok (.aload_n 0, 1) := by decide +kernel
theorem dX6_count_11 : decode cX6_count 11 = .ok (.getfield 7, 3) := by decide +kernel
theorem dX6_count_14 : decode cX6_count 14 = .ok (.iload_n 1, 1) := by decide +kernel
theorem dX6_count_15 : decode cX6_count 15 = .ok (.iaload, 1) := by decide +kernel
theorem dX6_count_16 : decode cX6_count 16 = .ok (.ireturn, 1) := by decide +kernel
theorem dX6_count_17 : decode cX6_count 17 = .ok (.iload_n 1, 1) := by decide +kernel
theorem dX6_count_18 : decode cX6_count 18 = .ok (.tableswitch 50 7 10 #[30, 35, 40, 45], 30) := by decide +kernel
theorem dX6_count_48 : decode cX6_count 48 = .ok (.aload_n 0, 1) := by decide +kernel
theorem dX6_count_49 : decode cX6_count 49 = .ok (.getfield 75, 3) := by decide +kernel
theorem dX6_count_52 : decode cX6_count 52 = .ok (.ireturn, 1) := by decide +kernel
theorem dX6_count_53 : decode cX6_count 53 = .ok (.aload_n 0, 1) := by decide +kernel
theorem dX6_count_54 : decode cX6_count 54 = .ok (.getfield 82, 3) := by decide +kernel
theorem dX6_count_57 : decode cX6_count 57 = .ok (.ireturn, 1) := by decide +kernel
theorem dX6_count_58 : decode cX6_count 58 = .ok (.aload_n 0, 1) := by decide +kernel
theorem dX6_count_59 : decode cX6_count 59 = .ok (.getfield 85, 3) := by decide +kernel
theorem dX6_count_62 : decode cX6_count 62 = .ok (.ireturn, 1) := by decide +kernel
theorem dX6_count_63 : decode cX6_count 63 = .ok (.aload_n 0, 1) := by decide +kernel
theorem dX6_count_64 : decode cX6_count 64 = .ok (.getfield 68, 3) := by decide +kernel
theorem dX6_count_67 : decode cX6_count 67 = .ok (.ireturn, 1) := by decide +kernel
theorem dX6_count_68 : decode cX6_count 68 = .ok (.bipush (-2), 2) := by decide +kernel
theorem dX6_count_70 : decode cX6_count 70 = .ok (.ireturn, 1) := by decide +kernel
theorem dX6_isByte_0 : decode cX6_isByte 0 = .ok (.iload_n 0, 1) := by decide +kernel
theorem dX6_isByte_1 : decode cX6_isByte 1 = .ok (.iconst 0, 1) := by decide +kernel
theorem dX6_isByte_2 : decode cX6_isByte 2 = .ok (.sipush 255, 3) := by decide +kernel
theorem dX6_isByte_5 : decode cX6_isByte 5 = .ok (.invokestatic 78, 3) := by decide +kernel
theorem dX6_isByte_8 : decode cX6_isByte 8 = .ok (.ireturn, 1) := by decide +kernel
theorem dX6_feed_0 : decode cX6_feed 0 = .ok (.iload_n 1, 1) := by decide +kernel
theorem dX6_feed_1 : decode cX6_feed 1 = .ok (.iconst 1, 1) := by decide +kernel
theorem dX6_feed_2 : decode cX6_feed 2 = .ok (.iconst 5, 1) := by decide +kernel
theorem dX6_feed_3 : decode cX6_feed 3 = .ok (.invokestatic 78, 3) := by decide +kernel
theorem dX6_feed_6 : decode cX6_feed 6 = .ok (.ifCond .eq 41, 3) := by decide +kernel
theorem dX6_feed_9 : decode cX6_feed 9 = .ok (.iload_n 2, 1) := by decide +kernel
theorem dX6_feed_10 : decode cX6_feed 10 = .ok (.invokestatic 88, 3) := by decide +kernel
theorem dX6_feed_13 : decode cX6_feed 13 = .ok (.ifCond .eq 34, 3) := by decide +kernel
theorem dX6_feed_16 : decode cX6_feed 16 = .ok (.iload_n 3, 1) := by decide +kernel
theorem dX6_feed_17 : decode cX6_feed 17 = .ok (.invokestatic 88, 3) := by decide +kernel
theorem dX6_feed_20 : decode cX6_feed 20 = .ok (.ifCond .eq 27, 3) := by decide +kernel
theorem dX6_feed_23 : decode cX6_feed 23 = .ok (.iload 4, 2) := by decide +kernel
theorem dX6_feed_25 : decode cX6_feed 25 = .ok (.invokestatic 88, 3) := by decide +kernel
theorem dX6_feed_28 : decode cX6_feed 28 = .ok (.ifCond .eq 19, 3) := by decide +kernel
theorem dX6_feed_31 : decode cX6_feed 31 = .ok (.iload 5, 2) := by decide +kernel
theorem dX6_feed_33 : decode cX6_feed 33 = .ok (.invokestatic 88, 3) := by decide +kernel
theorem dX6_feed_36 : decode cX6_feed 36 = .ok (.ifCond .eq 11, 3) := by decide +kernel
theorem dX6_feed_39 : decode cX6_feed 39 = .ok (.iload 6, 2) := by decide +kernel
theorem dX6_feed_41 : decode cX6_feed 41 = .ok (.invokestatic 88, 3) := by decide +kernel
theorem dX6_feed_44 : decode cX6_feed 44 = .ok (.ifCond .ne 6, 3) := by decide +kernel
theorem dX6_feed_47 : decode cX6_feed 47 = .ok (.bipush (-2), 2) := by decide +kernel
theorem dX6_feed_49 : decode cX6_feed 49 = .ok (.ireturn, 1) := by decide +kernel
theorem dX6_feed_50 : decode cX6_feed 50 = .ok (.aload_n 0, 1) := by decide +kernel
theorem dX6_feed_51 : decode cX6_feed 51 = .ok (.getfield 68, 3) := by decide +kernel
theorem dX6_feed_54 : decode cX6_feed 54 = .ok (.iload_n 1, 1) := by decide +kernel
theorem dX6_feed_55 : decode cX6_feed 55 = .ok (.iadd, 1) := by decide +kernel
theorem dX6_feed_56 : decode cX6_feed 56 = .ok (.sipush 160, 3) := by decide +kernel
theorem dX6_feed_59 : decode cX6_feed 59 = .ok (.if_icmp .le 6, 3) := by decide +kernel
theorem dX6_feed_62 : decode cX6_feed 62 = .ok (.bipush (-4), 2) := by decide +kernel
theorem dX6_feed_64 : decode cX6_feed 64 = .ok (.ireturn, 1) := by decide +kernel
theorem dX6_feed_65 : decode cX6_feed 65 = .ok (.iconst 0, 1) := by decide +kernel
theorem dX6_feed_66 : decode cX6_feed 66 = .ok (.istore 7, 2) := by decide +kernel
theorem dX6_feed_68 : decode cX6_feed 68 = .ok (.iload 7, 2) := by decide +kernel
theorem dX6_feed_70 : decode cX6_feed 70 = .ok (.iload_n 1, 1) := by decide +kernel
theorem dX6_feed_71 : decode cX6_feed 71 = .ok (.if_icmp .ge 71, 3) := by decide +kernel
theorem dX6_feed_74 : decode cX6_feed 74 = .ok (.aload_n 0, 1) := by decide +kernel
theorem dX6_feed_75 : decode cX6_feed 75 = .ok (.getfield 29, 3) := by decide +kernel
theorem dX6_feed_78 : decode cX6_feed 78 = .ok (.aload_n 0, 1) := by decide +kernel
theorem dX6_feed_79 : decode cX6_feed 79 = .ok (.getfield 68, 3) := by decide +kernel
theorem dX6_feed_82 : decode cX6_feed 82 = .ok (.iload 7, 2) := by decide +kernel
theorem dX6_feed_84 : decode cX6_feed 84 = .ok (.ifCond .ne 7, 3) := by decide +kernel
theorem dX6_feed_87 : decode cX6_feed 87 = .ok (.iload_n 2, 1) := by decide +kernel
theorem dX6_feed_88 : decode cX6_feed 88 = .ok (.goto 37, 3) := by decide +kernel
theorem dX6_feed_91 : decode cX6_feed 91 = .ok (.iload 7, 2) := by decide +kernel
theorem dX6_feed_93 : decode cX6_feed 93 = .ok (.iconst 1, 1) := by decide +kernel
theorem dX6_feed_94 : decode cX6_feed 94 = .ok (.if_icmp .ne 7, 3) := by decide +kernel
theorem dX6_feed_97 : decode cX6_feed 97 = .ok (.iload_n 3, 1) := by decide +kernel
theorem dX6_feed_98 : decode cX6_feed 98 = .ok (.goto 27, 3) := by decide +kernel
theorem dX6_feed_101 : decode cX6_feed 101 = .ok (.iload 7, 2) := by decide +kernel
theorem dX6_feed_103 : decode cX6_feed 103 = .ok (.iconst 2, 1) := by decide +kernel
theorem dX6_feed_104 : decode cX6_feed 104 = .ok (.if_icmp .ne 8, 3) := by decide +kernel
theorem dX6_feed_107 : decode cX6_feed 107 = .ok (.iload 4, 2) := by decide +kernel
theorem dX6_feed_109 : decode cX6_feed 109 = .ok (.goto 16, 3) := by decide +kernel
theorem dX6_feed_112 : decode cX6_feed 112 = .ok (.iload 7, 2) := by decide +kernel
theorem dX6_feed_114 : decode cX6_feed 114 = .ok (.iconst 3, 1) := by decide +kernel
theorem dX6_feed_115 : decode cX6_feed 115 = .ok (.if_icmp .ne 8, 3) := by decide +kernel
theorem dX6_feed_118 : decode cX6_feed 118 = .ok (.iload 5, 2) := by decide +kernel
theorem dX6_feed_120 : decode cX6_feed 120 = .ok (.goto 5, 3) := by decide +kernel
theorem dX6_feed_123 : decode cX6_feed 123 = .ok (.iload 6, 2) := by decide +kernel
theorem dX6_feed_125 : decode cX6_feed 125 = .ok (.iastore, 1) := by decide +kernel
theorem dX6_feed_126 : decode cX6_feed 126 = .ok (.aload_n 0, 1) := by decide +kernel
theorem dX6_feed_127 : decode cX6_feed 127 = .ok (.dup, 1) := by decide +kernel
theorem dX6_feed_128 : decode cX6_feed 128 = .ok (.getfield 68, 3) := by decide +kernel
theorem dX6_feed_131 : decode cX6_feed 131 = .ok (.iconst 1, 1) := by decide +kernel
theorem dX6_feed_132 : decode cX6_feed 132 = .ok (.iadd, 1) := by decide +kernel
theorem dX6_feed_133 : decode cX6_feed 133 = .ok (.putfield 68, 3) := by decide +kernel
theorem dX6_feed_136 : decode cX6_feed 136 = .ok (.iinc 7 1, 3) := by decide +kernel
theorem dX6_feed_139 : decode cX6_feed 139 = .ok (.goto (-71), 3) := by decide +kernel
theorem dX6_feed_142 : decode cX6_feed 142 = .ok (.aload_n 0, 1) := by decide +kernel
theorem dX6_feed_143 : decode cX6_feed 143 = .ok (.getfield 68, 3) := by decide +kernel
theorem dX6_feed_146 : decode cX6_feed 146 = .ok (.ireturn, 1) := by decide +kernel
theorem dX6_wordFrom_0 : decode cX6_wordFrom 0 = .ok (.iconst 0, 1) := by decide +kernel
theorem dX6_wordFrom_1 : decode cX6_wordFrom 1 = .ok (.istore_n 3, 1) := by decide +kernel
theorem dX6_wordFrom_2 : decode cX6_wordFrom 2 = .ok (.iload_n 3, 1) := by decide +kernel
theorem dX6_wordFrom_3 : decode cX6_wordFrom 3 = .ok (.bipush 12, 2) := by decide +kernel
theorem dX6_wordFrom_5 : decode cX6_wordFrom 5 = .ok (.if_icmp .ge 96, 3) := by decide +kernel
theorem dX6_wordFrom_8 : decode cX6_wordFrom 8 = .ok (.iload_n 2, 1) := by decide +kernel
theorem dX6_wordFrom_9 : decode cX6_wordFrom 9 = .ok (.iload_n 1, 1) := by decide +kernel
theorem dX6_wordFrom_10 : decode cX6_wordFrom 10 = .ok (.isub, 1) := by decide +kernel
theorem dX6_wordFrom_11 : decode cX6_wordFrom 11 = .ok (.bipush 8, 2) := by decide +kernel
theorem dX6_wordFrom_13 : decode cX6_wordFrom 13 = .ok (.if_icmp .gt 7, 3) := by decide +kernel
theorem dX6_wordFrom_16 : decode cX6_wordFrom 16 = .ok (.iconst 1, 1) := by decide +kernel
theorem dX6_wordFrom_17 : decode cX6_wordFrom 17 = .ok (.goto 4, 3) := by decide +kernel
theorem dX6_wordFrom_20 : decode cX6_wordFrom 20 = .ok (.iconst 0, 1) := by decide +kernel
theorem dX6_wordFrom_21 : decode cX6_wordFrom 21 = .ok (.istore 4, 2) := by decide +kernel
theorem dX6_wordFrom_23 : decode cX6_wordFrom 23 = .ok (.iconst 0, 1) := by decide +kernel
theorem dX6_wordFrom_24 : decode cX6_wordFrom 24 = .ok (.istore 5, 2) := by decide +kernel
theorem dX6_wordFrom_26 : decode cX6_wordFrom 26 = .ok (.iload 5, 2) := by decide +kernel
theorem dX6_wordFrom_28 : decode cX6_wordFrom 28 = .ok (.bipush 8, 2) := by decide +kernel
theorem dX6_wordFrom_30 : decode cX6_wordFrom 30 = .ok (.if_icmp .ge 58, 3) := by decide +kernel
theorem dX6_wordFrom_33 : decode cX6_wordFrom 33 = .ok (.iload 4, 2) := by decide +kernel
theorem dX6_wordFrom_35 : decode cX6_wordFrom 35 = .ok (.ifCond .eq 53, 3) := by decide +kernel
theorem dX6_wordFrom_38 : decode cX6_wordFrom 38 = .ok (.aload_n 0, 1) := by decide +kernel
theorem dX6_wordFrom_39 : decode cX6_wordFrom 39 = .ok (.getfield 53, 3) := by decide +kernel
theorem dX6_wordFrom_42 : decode cX6_wordFrom 42 = .ok (.bipush 8, 2) := by decide +kernel
theorem dX6_wordFrom_44 : decode cX6_wordFrom 44 = .ok (.iload_n 3, 1) := by decide +kernel
theorem dX6_wordFrom_45 : decode cX6_wordFrom 45 = .ok (.imul, 1) := by decide +kernel
theorem dX6_wordFrom_46 : decode cX6_wordFrom 46 = .ok (.iload 5, 2) := by decide +kernel
theorem dX6_wordFrom_48 : decode cX6_wordFrom 48 = .ok (.iadd, 1) := by decide +kernel
theorem dX6_wordFrom_49 : decode cX6_wordFrom 49 = .ok (.iaload, 1) := by decide +kernel
theorem dX6_wordFrom_50 : decode cX6_wordFrom 50 = .ok (.iload_n 1, 1) := by decide +kernel
theorem dX6_wordFrom_51 : decode cX6_wordFrom 51 = .ok (.iload 5, 2) := by decide +kernel
theorem dX6_wordFrom_53 : decode cX6_wordFrom 53 = .ok (.iadd, 1) := by decide +kernel
theorem dX6_wordFrom_54 : decode cX6_wordFrom 54 = .ok (.iload_n 2, 1) := by decide +kernel
theorem dX6_wordFrom_55 : decode cX6_wordFrom 55 = .ok (.if_icmp .ge 15, 3) := by decide +kernel
theorem dX6_wordFrom_58 : decode cX6_wordFrom 58 = .ok (.aload_n 0, 1) := by decide +kernel
theorem dX6_wordFrom_59 : decode cX6_wordFrom 59 = .ok (.getfield 29, 3) := by decide +kernel
theorem dX6_wordFrom_62 : decode cX6_wordFrom 62 = .ok (.iload_n 1, 1) := by decide +kernel
theorem dX6_wordFrom_63 : decode cX6_wordFrom 63 = .ok (.iload 5, 2) := by decide +kernel
theorem dX6_wordFrom_65 : decode cX6_wordFrom 65 = .ok (.iadd, 1) := by decide +kernel
theorem dX6_wordFrom_66 : decode cX6_wordFrom 66 = .ok (.iaload, 1) := by decide +kernel
theorem dX6_wordFrom_67 : decode cX6_wordFrom 67 = .ok (.goto 5, 3) := by decide +kernel
theorem dX6_wordFrom_70 : decode cX6_wordFrom 70 = .ok (.bipush 32, 2) := by decide +kernel
theorem dX6_wordFrom_72 : decode cX6_wordFrom 72 = .ok (.if_icmp .ne 7, 3) := by decide +kernel
theorem dX6_wordFrom_75 : decode cX6_wordFrom 75 = .ok (.iconst 1, 1) := by decide +kernel
theorem dX6_wordFrom_76 : decode cX6_wordFrom 76 = .ok (.goto 4, 3) := by decide +kernel
theorem dX6_wordFrom_79 : decode cX6_wordFrom 79 = .ok (.iconst 0, 1) := by decide +kernel
theorem dX6_wordFrom_80 : decode cX6_wordFrom 80 = .ok (.istore 4, 2) := by decide +kernel
theorem dX6_wordFrom_82 : decode cX6_wordFrom 82 = .ok (.iinc 5 1, 3) := by decide +kernel
theorem dX6_wordFrom_85 : decode cX6_wordFrom 85 = .ok (.goto (-59), 3) := by decide +kernel
theorem dX6_wordFrom_88 : decode cX6_wordFrom 88 = .ok (.iload 4, 2) := by decide +kernel
theorem dX6_wordFrom_90 : decode cX6_wordFrom 90 = .ok (.ifCond .eq 5, 3) := by decide +kernel
theorem dX6_wordFrom_93 : decode cX6_wordFrom 93 = .ok (.iload_n 3, 1) := by decide +kernel
theorem dX6_wordFrom_94 : decode cX6_wordFrom 94 = .ok (.ireturn, 1) := by decide +kernel
theorem dX6_wordFrom_95 : decode cX6_wordFrom 95 = .ok (.iinc 3 1, 3) := by decide +kernel
theorem dX6_wordFrom_98 : decode cX6_wordFrom 98 = .ok (.goto (-96), 3) := by decide +kernel
theorem dX6_wordFrom_101 : decode cX6_wordFrom 101 = .ok (.bipush 12, 2) := by decide +kernel
theorem dX6_wordFrom_103 : decode cX6_wordFrom 103 = .ok (.ireturn, 1) := by decide +kernel
theorem dX6_next_0 : decode cX6_next 0 = .ok (.aload_n 0, 1) := by decide +kernel
theorem dX6_next_1 : decode cX6_next 1 = .ok (.getfield 92, 3) := by decide +kernel
theorem dX6_next_4 : decode cX6_next 4 = .ok (.aload_n 0, 1) := by decide +kernel
theorem dX6_next_5 : decode cX6_next 5 = .ok (.getfield 68, 3) := by decide +kernel
theorem dX6_next_8 : decode cX6_next 8 = .ok (.if_icmp .ge 44, 3) := by decide +kernel
theorem dX6_next_11 : decode cX6_next 11 = .ok (.aload_n 0, 1) := by decide +kernel
theorem dX6_next_12 : decode cX6_next 12 = .ok (.getfield 29, 3) := by decide +kernel
theorem dX6_next_15 : decode cX6_next 15 = .ok (.aload_n 0, 1) := by decide +kernel
theorem dX6_next_16 : decode cX6_next 16 = .ok (.getfield 92, 3) := by decide +kernel
theorem dX6_next_19 : decode cX6_next 19 = .ok (.iaload, 1) := by decide +kernel
theorem dX6_next_20 : decode cX6_next 20 = .ok (.bipush 32, 2) := by decide +kernel
theorem dX6_next_22 : decode cX6_next 22 = .ok (.if_icmp .eq 17, 3) := by decide +kernel
theorem dX6_next_25 : decode cX6_next 25 = .ok (.aload_n 0, 1) := by decide +kernel
theorem dX6_next_26 : decode cX6_next 26 = .ok (.getfield 29, 3) := by decide +kernel
theorem dX6_next_29 : decode cX6_next 29 = .ok (.aload_n 0, 1) := by decide +kernel
theorem dX6_next_30 : decode cX6_next 30 = .ok (.getfield 92, 3) := by decide +kernel
theorem dX6_next_33 : decode cX6_next 33 = .ok (.iaload, 1) := by decide +kernel
theorem dX6_next_34 : decode cX6_next 34 = .ok (.bipush 10, 2) := by decide +kernel
theorem dX6_next_36 : decode cX6_next 36 = .ok (.if_icmp .ne 16, 3) := by decide +kernel
theorem dX6_next_39 : decode cX6_next 39 = .ok (.aload_n 0, 1) := by decide +kernel
theorem dX6_next_40 : decode cX6_next 40 = .ok (.dup, 1) := by decide +kernel
theorem dX6_next_41 : decode cX6_next 41 = .ok (.getfield 92, 3) := by decide +kernel
theorem dX6_next_44 : decode cX6_next 44 = .ok (.iconst 1, 1) := by decide +kernel
theorem dX6_next_45 : decode cX6_next 45 = .ok (.iadd, 1) := by decide +kernel
theorem dX6_next_46 : decode cX6_next 46 = .ok (.putfield 92, 3) := by decide +kernel
theorem dX6_next_49 : decode cX6_next 49 = .ok (.goto (-49), 3) := by decide +kernel
theorem dX6_next_52 : decode cX6_next 52 = .ok (.aload_n 0, 1) := by decide +kernel
theorem dX6_next_53 : decode cX6_next 53 = .ok (.aload_n 0, 1) := by decide +kernel
theorem dX6_next_54 : decode cX6_next 54 = .ok (.getfield 92, 3) := by decide +kernel
theorem dX6_next_57 : decode cX6_next 57 = .ok (.putfield 95, 3) := by decide +kernel
theorem dX6_next_60 : decode cX6_next 60 = .ok (.aload_n 0, 1) := by decide +kernel
theorem dX6_next_61 : decode cX6_next 61 = .ok (.iconst 0, 1) := by decide +kernel
theorem dX6_next_62 : decode cX6_next 62 = .ok (.putfield 98, 3) := by decide +kernel
theorem dX6_next_65 : decode cX6_next 65 = .ok (.aload_n 0, 1) := by decide +kernel
theorem dX6_next_66 : decode cX6_next 66 = .ok (.iconst 0, 1) := by decide +kernel
theorem dX6_next_67 : decode cX6_next 67 = .ok (.putfield 101, 3) := by decide +kernel
theorem dX6_next_70 : decode cX6_next 70 = .ok (.aload_n 0, 1) := by decide +kernel
theorem dX6_next_71 : decode cX6_next 71 = .ok (.getfield 92, 3) := by decide +kernel
theorem dX6_next_74 : decode cX6_next 74 = .ok (.aload_n 0, 1) := by decide +kernel
theorem dX6_next_75 : decode cX6_next 75 = .ok (.getfield 68, 3) := by decide +kernel
theorem dX6_next_78 : decode cX6_next 78 = .ok (.if_icmp .ne 4, 3) := by decide +kernel
theorem dX6_next_81 : decode cX6_next 81 = .ok (.return_, 1) := by decide +kernel
theorem dX6_next_82 : decode cX6_next 82 = .ok (.aload_n 0, 1) := by decide +kernel
theorem dX6_next_83 : decode cX6_next 83 = .ok (.getfield 29, 3) := by decide +kernel
theorem dX6_next_86 : decode cX6_next 86 = .ok (.aload_n 0, 1) := by decide +kernel
theorem dX6_next_87 : decode cX6_next 87 = .ok (.getfield 92, 3) := by decide +kernel
theorem dX6_next_90 : decode cX6_next 90 = .ok (.iaload, 1) := by decide +kernel
theorem dX6_next_91 : decode cX6_next 91 = .ok (.istore_n 1, 1) := by decide +kernel
theorem dX6_next_92 : decode cX6_next 92 = .ok (.iload_n 1, 1) := by decide +kernel
theorem dX6_next_93 : decode cX6_next 93 = .ok (.bipush 97, 2) := by decide +kernel
theorem dX6_next_95 : decode cX6_next 95 = .ok (.bipush 122, 2) := by decide +kernel
theorem dX6_next_97 : decode cX6_next 97 = .ok (.invokestatic 78, 3) := by decide +kernel
theorem dX6_next_100 : decode cX6_next 100 = .ok (.ifCond .eq 117, 3) := by decide +kernel
theorem dX6_next_103 : decode cX6_next 103 = .ok (.aload_n 0, 1) := by decide +kernel
theorem dX6_next_104 : decode cX6_next 104 = .ok (.getfield 92, 3) := by decide +kernel
theorem dX6_next_107 : decode cX6_next 107 = .ok (.aload_n 0, 1) := by decide +kernel
theorem dX6_next_108 : decode cX6_next 108 = .ok (.getfield 68, 3) := by decide +kernel
theorem dX6_next_111 : decode cX6_next 111 = .ok (.if_icmp .ge 35, 3) := by decide +kernel
theorem dX6_next_114 : decode cX6_next 114 = .ok (.aload_n 0, 1) := by decide +kernel
theorem dX6_next_115 : decode cX6_next 115 = .ok (.getfield 29, 3) := by decide +kernel
theorem dX6_next_118 : decode cX6_next 118 = .ok (.aload_n 0, 1) := by decide +kernel
theorem dX6_next_119 : decode cX6_next 119 = .ok (.getfield 92, 3) := by decide +kernel
theorem dX6_next_122 : decode cX6_next 122 = .ok (.iaload, 1) := by decide +kernel
theorem dX6_next_123 : decode cX6_next 123 = .ok (.bipush 97, 2) := by decide +kernel
theorem dX6_next_125 : decode cX6_next 125 = .ok (.bipush 122, 2) := by decide +kernel
theorem dX6_next_127 : decode cX6_next 127 = .ok (.invokestatic 78, 3) := by decide +kernel
theorem dX6_next_130 : decode cX6_next 130 = .ok (.ifCond .eq 16, 3) := by decide +kernel
theorem dX6_next_133 : decode cX6_next 133 = .ok (.aload_n 0, 1) := by decide +kernel
theorem dX6_next_134 : decode cX6_next 134 = .ok (.dup, 1) := by decide +kernel
theorem dX6_next_135 : decode cX6_next 135 = .ok (.getfield 92, 3) := by decide +kernel
theorem dX6_next_138 : decode cX6_next 138 = .ok (.iconst 1, 1) := by decide +kernel
theorem dX6_next_139 : decode cX6_next 139 = .ok (.iadd, 1) := by decide +kernel
theorem dX6_next_140 : decode cX6_next 140 = .ok (.putfield 92, 3) := by decide +kernel
theorem dX6_next_143 : decode cX6_next 143 = .ok (.goto (-40), 3) := by decide +kernel
theorem dX6_next_146 : decode cX6_next 146 = .ok (.aload_n 0, 1) := by decide +kernel
theorem dX6_next_147 : decode cX6_next 147 = .ok (.aload_n 0, 1) := by decide +kernel
theorem dX6_next_148 : decode cX6_next 148 = .ok (.getfield 95, 3) := by decide +kernel
theorem dX6_next_151 : decode cX6_next 151 = .ok (.aload_n 0, 1) := by decide +kernel
theorem dX6_next_152 : decode cX6_next 152 = .ok (.getfield 92, 3) := by decide +kernel
theorem dX6_next_155 : decode cX6_next 155 = .ok (.invokevirtual 104, 3) := by decide +kernel
theorem dX6_next_158 : decode cX6_next 158 = .ok (.istore_n 2, 1) := by decide +kernel
theorem dX6_next_159 : decode cX6_next 159 = .ok (.aload_n 0, 1) := by decide +kernel
theorem dX6_next_160 : decode cX6_next 160 = .ok (.iload_n 2, 1) := by decide +kernel
theorem dX6_next_161 : decode cX6_next 161 = .ok (.iconst 3, 1) := by decide +kernel
theorem dX6_next_162 : decode cX6_next 162 = .ok (.if_icmp .ge 7, 3) := by decide +kernel
theorem dX6_next_165 : decode cX6_next 165 = .ok (.iconst 3, 1) := by decide +kernel
theorem dX6_next_166 : decode cX6_next 166 = .ok (.goto 29, 3) := by decide +kernel
theorem dX6_next_169 : decode cX6_next 169 = .ok (.iload_n 2, 1) := by decide +kernel
theorem dX6_next_170 : decode cX6_next 170 = .ok (.bipush 9, 2) := by decide +kernel
theorem dX6_next_172 : decode cX6_next 172 = .ok (.if_icmp .ge 7, 3) := by decide +kernel
theorem dX6_next_175 : decode cX6_next 175 = .ok (.iconst 2, 1) := by decide +kernel
theorem dX6_next_176 : decode cX6_next 176 = .ok (.goto 19, 3) := by decide +kernel
theorem dX6_next_179 : decode cX6_next 179 = .ok (.iload_n 2, 1) := by decide +kernel
theorem dX6_next_180 : decode cX6_next 180 = .ok (.bipush 12, 2) := by decide +kernel
theorem dX6_next_182 : decode cX6_next 182 = .ok (.if_icmp .ne 7, 3) := by decide +kernel
theorem dX6_next_185 : decode cX6_next 185 = .ok (.iconst (-1), 1) := by decide +kernel
theorem dX6_next_186 : decode cX6_next 186 = .ok (.goto 9, 3) := by decide +kernel
theorem dX6_next_189 : decode cX6_next 189 = .ok (.iconst 4, 1) := by decide +kernel
theorem dX6_next_190 : decode cX6_next 190 = .ok (.iload_n 2, 1) := by decide +kernel
theorem dX6_next_191 : decode cX6_next 191 = .ok (.iadd, 1) := by decide +kernel
theorem dX6_next_192 : decode cX6_next 192 = .ok (.bipush 9, 2) := by decide +kernel
theorem dX6_next_194 : decode cX6_next 194 = .ok (.isub, 1) := by decide +kernel
theorem dX6_next_195 : decode cX6_next 195 = .ok (.putfield 98, 3) := by decide +kernel
theorem dX6_next_198 : decode cX6_next 198 = .ok (.aload_n 0, 1) := by decide +kernel
theorem dX6_next_199 : decode cX6_next 199 = .ok (.iload_n 2, 1) := by decide +kernel
theorem dX6_next_200 : decode cX6_next 200 = .ok (.iconst 3, 1) := by decide +kernel
theorem dX6_next_201 : decode cX6_next 201 = .ok (.if_icmp .ge 7, 3) := by decide +kernel
theorem dX6_next_204 : decode cX6_next 204 = .ok (.iload_n 2, 1) := by decide +kernel
theorem dX6_next_205 : decode cX6_next 205 = .ok (.goto 6, 3) := by decide +kernel
theorem dX6_next_208 : decode cX6_next 208 = .ok (.iload_n 2, 1) := by decide +kernel
theorem dX6_next_209 : decode cX6_next 209 = .ok (.iconst 3, 1) := by decide +kernel
theorem dX6_next_210 : decode cX6_next 210 = .ok (.isub, 1) := by decide +kernel
theorem dX6_next_211 : decode cX6_next 211 = .ok (.putfield 101, 3) := by decide +kernel
theorem dX6_next_214 : decode cX6_next 214 = .ok (.goto 189, 3) := by decide +kernel
theorem dX6_next_217 : decode cX6_next 217 = .ok (.iload_n 1, 1) := by decide +kernel
theorem dX6_next_218 : decode cX6_next 218 = .ok (.bipush 48, 2) := by decide +kernel
theorem dX6_next_220 : decode cX6_next 220 = .ok (.bipush 57, 2) := by decide +kernel
theorem dX6_next_222 : decode cX6_next 222 = .ok (.invokestatic 78, 3) := by decide +kernel
theorem dX6_next_225 : decode cX6_next 225 = .ok (.ifCond .eq 101, 3) := by decide +kernel
theorem dX6_next_228 : decode cX6_next 228 = .ok (.iconst 0, 1) := by decide +kernel
theorem dX6_next_229 : decode cX6_next 229 = .ok (.istore_n 2, 1) := by decide +kernel
theorem dX6_next_230 : decode cX6_next 230 = .ok (.aload_n 0, 1) := by decide +kernel
theorem dX6_next_231 : decode cX6_next 231 = .ok (.getfield 92, 3) := by decide +kernel
theorem dX6_next_234 : decode cX6_next 234 = .ok (.aload_n 0, 1) := by decide +kernel
theorem dX6_next_235 : decode cX6_next 235 = .ok (.getfield 68, 3) := by decide +kernel
theorem dX6_next_238 : decode cX6_next 238 = .ok (.if_icmp .ge 71, 3) := by decide +kernel
theorem dX6_next_241 : decode cX6_next 241 = .ok (.aload_n 0, 1) := by decide +kernel
theorem dX6_next_242 : decode cX6_next 242 = .ok (.getfield 29, 3) := by decide +kernel
theorem dX6_next_245 : decode cX6_next 245 = .ok (.aload_n 0, 1) := by decide +kernel
theorem dX6_next_246 : decode cX6_next 246 = .ok (.getfield 92, 3) := by decide +kernel
theorem dX6_next_249 : decode cX6_next 249 = .ok (.iaload, 1) := by decide +kernel
theorem dX6_next_250 : decode cX6_next 250 = .ok (.bipush 48, 2) := by decide +kernel
theorem dX6_next_252 : decode cX6_next 252 = .ok (.bipush 57, 2) := by decide +kernel
theorem dX6_next_254 : decode cX6_next 254 = .ok (.invokestatic 78, 3) := by decide +kernel
theorem dX6_next_257 : decode cX6_next 257 = .ok (.ifCond .eq 52, 3) := by decide +kernel
theorem dX6_next_260 : decode cX6_next 260 = .ok (.aload_n 0, 1) := by decide +kernel
theorem dX6_next_261 : decode cX6_next 261 = .ok (.iload_n 2, 1) := by decide +kernel
theorem dX6_next_262 : decode cX6_next 262 = .ok (.iconst 4, 1) := by decide +kernel
theorem dX6_next_263 : decode cX6_next 263 = .ok (.if_icmp .ge 26, 3) := by decide +kernel
theorem dX6_next_266 : decode cX6_next 266 = .ok (.bipush 10, 2) := by decide +kernel
theorem dX6_next_268 : decode cX6_next 268 = .ok (.aload_n 0, 1) := by decide +kernel
theorem dX6_next_269 : decode cX6_next 269 = .ok (.getfield 101, 3) := by decide +kernel
theorem dX6_next_272 : decode cX6_next 272 = .ok (.imul, 1) := by decide +kernel
theorem dX6_next_273 : decode cX6_next 273 = .ok (.aload_n 0, 1) := by decide +kernel
theorem dX6_next_274 : decode cX6_next 274 = .ok (.getfield 29, 3) := by decide +kernel
theorem dX6_next_277 : decode cX6_next 277 = .ok (.aload_n 0, 1) := by decide +kernel
theorem dX6_next_278 : decode cX6_next 278 = .ok (.getfield 92, 3) := by decide +kernel
theorem dX6_next_281 : decode cX6_next 281 = .ok (.iaload, 1) := by decide +kernel
theorem dX6_next_282 : decode cX6_next 282 = .ok (.iadd, 1) := by decide +kernel
theorem dX6_next_283 : decode cX6_next 283 = .ok (.bipush 48, 2) := by decide +kernel
theorem dX6_next_285 : decode cX6_next 285 = .ok (.isub, 1) := by decide +kernel
theorem dX6_next_286 : decode cX6_next 286 = .ok (.goto 4, 3) := by decide +kernel
theorem dX6_next_289 : decode cX6_next 289 = .ok (.iconst 0, 1) := by decide +kernel
theorem dX6_next_290 : decode cX6_next 290 = .ok (.putfield 101, 3) := by decide +kernel
theorem dX6_next_293 : decode cX6_next 293 = .ok (.iinc 2 1, 3) := by decide +kernel
theorem dX6_next_296 : decode cX6_next 296 = .ok (.aload_n 0, 1) := by decide +kernel
theorem dX6_next_297 : decode cX6_next 297 = .ok (.dup, 1) := by decide +kernel
theorem dX6_next_298 : decode cX6_next 298 = .ok (.getfield 92, 3) := by decide +kernel
theorem dX6_next_301 : decode cX6_next 301 = .ok (.iconst 1, 1) := by decide +kernel
theorem dX6_next_302 : decode cX6_next 302 = .ok (.iadd, 1) := by decide +kernel
theorem dX6_next_303 : decode cX6_next 303 = .ok (.putfield 92, 3) := by decide +kernel
theorem dX6_next_306 : decode cX6_next 306 = .ok (.goto (-76), 3) := by decide +kernel
theorem dX6_next_309 : decode cX6_next 309 = .ok (.aload_n 0, 1) := by decide +kernel
theorem dX6_next_310 : decode cX6_next 310 = .ok (.iload_n 2, 1) := by decide +kernel
theorem dX6_next_311 : decode cX6_next 311 = .ok (.iconst 4, 1) := by decide +kernel
theorem dX6_next_312 : decode cX6_next 312 = .ok (.if_icmp .le 7, 3) := by decide +kernel
theorem dX6_next_315 : decode cX6_next 315 = .ok (.iconst (-1), 1) := by decide +kernel
theorem dX6_next_316 : decode cX6_next 316 = .ok (.goto 4, 3) := by decide +kernel
theorem dX6_next_319 : decode cX6_next 319 = .ok (.iconst 1, 1) := by decide +kernel
theorem dX6_next_320 : decode cX6_next 320 = .ok (.putfield 98, 3) := by decide +kernel
theorem dX6_next_323 : decode cX6_next 323 = .ok (.goto 80, 3) := by decide +kernel
theorem dX6_next_326 : decode cX6_next 326 = .ok (.iload_n 1, 1) := by decide +kernel
theorem dX6_next_327 : decode cX6_next 327 = .ok (.bipush 40, 2) := by decide +kernel
theorem dX6_next_329 : decode cX6_next 329 = .ok (.if_icmp .eq 45, 3) := by decide +kernel
theorem dX6_next_332 : decode cX6_next 332 = .ok (.iload_n 1, 1) := by decide +kernel
theorem dX6_next_333 : decode cX6_next 333 = .ok (.bipush 41, 2) := by decide +kernel
theorem dX6_next_335 : decode cX6_next 335 = .ok (.if_icmp .eq 39, 3) := by decide +kernel
theorem dX6_next_338 : decode cX6_next 338 = .ok (.iload_n 1, 1) := by decide +kernel
theorem dX6_next_339 : decode cX6_next 339 = .ok (.bipush 59, 2) := by decide +kernel
theorem dX6_next_341 : decode cX6_next 341 = .ok (.if_icmp .eq 33, 3) := by decide +kernel
theorem dX6_next_344 : decode cX6_next 344 = .ok (.iload_n 1, 1) := by decide +kernel
theorem dX6_next_345 : decode cX6_next 345 = .ok (.bipush 43, 2) := by decide +kernel
theorem dX6_next_347 : decode cX6_next 347 = .ok (.if_icmp .eq 27, 3) := by decide +kernel
theorem dX6_next_350 : decode cX6_next 350 = .ok (.iload_n 1, 1) := by decide +kernel
theorem dX6_next_351 : decode cX6_next 351 = .ok (.bipush 45, 2) := by decide +kernel
theorem dX6_next_353 : decode cX6_next 353 = .ok (.if_icmp .eq 21, 3) := by decide +kernel
theorem dX6_next_356 : decode cX6_next 356 = .ok (.iload_n 1, 1) := by decide +kernel
theorem dX6_next_357 : decode cX6_next 357 = .ok (.bipush 42, 2) := by decide +kernel
theorem dX6_next_359 : decode cX6_next 359 = .ok (.if_icmp .eq 15, 3) := by decide +kernel
theorem dX6_next_362 : decode cX6_next 362 = .ok (.iload_n 1, 1) := by decide +kernel
theorem dX6_next_363 : decode cX6_next 363 = .ok (.bipush 60, 2) := by decide +kernel
theorem dX6_next_365 : decode cX6_next 365 = .ok (.if_icmp .eq 9, 3) := by decide +kernel
theorem dX6_next_368 : decode cX6_next 368 = .ok (.iload_n 1, 1) := by decide +kernel
theorem dX6_next_369 : decode cX6_next 369 = .ok (.bipush 61, 2) := by decide +kernel
theorem dX6_next_371 : decode cX6_next 371 = .ok (.if_icmp .ne 7, 3) := by decide +kernel
theorem dX6_next_374 : decode cX6_next 374 = .ok (.iconst 1, 1) := by decide +kernel
theorem dX6_next_375 : decode cX6_next 375 = .ok (.goto 4, 3) := by decide +kernel
theorem dX6_next_378 : decode cX6_next 378 = .ok (.iconst 0, 1) := by decide +kernel
theorem dX6_next_379 : decode cX6_next 379 = .ok (.istore_n 2, 1) := by decide +kernel
theorem dX6_next_380 : decode cX6_next 380 = .ok (.aload_n 0, 1) := by decide +kernel
theorem dX6_next_381 : decode cX6_next 381 = .ok (.iload_n 2, 1) := by decide +kernel
theorem dX6_next_382 : decode cX6_next 382 = .ok (.ifCond .eq 7, 3) := by decide +kernel
theorem dX6_next_385 : decode cX6_next 385 = .ok (.iload_n 1, 1) := by decide +kernel
theorem dX6_next_386 : decode cX6_next 386 = .ok (.goto 4, 3) := by decide +kernel
theorem dX6_next_389 : decode cX6_next 389 = .ok (.iconst (-1), 1) := by decide +kernel
theorem dX6_next_390 : decode cX6_next 390 = .ok (.putfield 98, 3) := by decide +kernel
theorem dX6_next_393 : decode cX6_next 393 = .ok (.aload_n 0, 1) := by decide +kernel
theorem dX6_next_394 : decode cX6_next 394 = .ok (.dup, 1) := by decide +kernel
theorem dX6_next_395 : decode cX6_next 395 = .ok (.getfield 92, 3) := by decide +kernel
theorem dX6_next_398 : decode cX6_next 398 = .ok (.iconst 1, 1) := by decide +kernel
theorem dX6_next_399 : decode cX6_next 399 = .ok (.iadd, 1) := by decide +kernel
theorem dX6_next_400 : decode cX6_next 400 = .ok (.putfield 92, 3) := by decide +kernel
theorem dX6_next_403 : decode cX6_next 403 = .ok (.return_, 1) := by decide +kernel
theorem dX6_rank_0 : decode cX6_rank 0 = .ok (.iload_n 0, 1) := by decide +kernel
theorem dX6_rank_1 : decode cX6_rank 1 = .ok (.ifCond .ne 7, 3) := by decide +kernel
theorem dX6_rank_4 : decode cX6_rank 4 = .ok (.iconst 0, 1) := by decide +kernel
theorem dX6_rank_5 : decode cX6_rank 5 = .ok (.goto 66, 3) := by decide +kernel
theorem dX6_rank_8 : decode cX6_rank 8 = .ok (.iload_n 0, 1) := by decide +kernel
theorem dX6_rank_9 : decode cX6_rank 9 = .ok (.bipush 11, 2) := by decide +kernel
theorem dX6_rank_11 : decode cX6_rank 11 = .ok (.if_icmp .ne 7, 3) := by decide +kernel
theorem dX6_rank_14 : decode cX6_rank 14 = .ok (.iconst 1, 1) := by decide +kernel
theorem dX6_rank_15 : decode cX6_rank 15 = .ok (.goto 56, 3) := by decide +kernel
theorem dX6_rank_18 : decode cX6_rank 18 = .ok (.iload_n 0, 1) := by decide +kernel
theorem dX6_rank_19 : decode cX6_rank 19 = .ok (.bipush 12, 2) := by decide +kernel
theorem dX6_rank_21 : decode cX6_rank 21 = .ok (.if_icmp .ne 7, 3) := by decide +kernel
theorem dX6_rank_24 : decode cX6_rank 24 = .ok (.iconst 2, 1) := by decide +kernel
theorem dX6_rank_25 : decode cX6_rank 25 = .ok (.goto 46, 3) := by decide +kernel
theorem dX6_rank_28 : decode cX6_rank 28 = .ok (.iload_n 0, 1) := by decide +kernel
theorem dX6_rank_29 : decode cX6_rank 29 = .ok (.bipush 13, 2) := by decide +kernel
theorem dX6_rank_31 : decode cX6_rank 31 = .ok (.if_icmp .ne 7, 3) := by decide +kernel
theorem dX6_rank_34 : decode cX6_rank 34 = .ok (.iconst 3, 1) := by decide +kernel
theorem dX6_rank_35 : decode cX6_rank 35 = .ok (.goto 36, 3) := by decide +kernel
theorem dX6_rank_38 : decode cX6_rank 38 = .ok (.iload_n 0, 1) := by decide +kernel
theorem dX6_rank_39 : decode cX6_rank 39 = .ok (.bipush 15, 2) := by decide +kernel
theorem dX6_rank_41 : decode cX6_rank 41 = .ok (.if_icmp .gt 7, 3) := by decide +kernel
theorem dX6_rank_44 : decode cX6_rank 44 = .ok (.iconst 4, 1) := by decide +kernel
theorem dX6_rank_45 : decode cX6_rank 45 = .ok (.goto 26, 3) := by decide +kernel
theorem dX6_rank_48 : decode cX6_rank 48 = .ok (.iload_n 0, 1) := by decide +kernel
theorem dX6_rank_49 : decode cX6_rank 49 = .ok (.bipush 17, 2) := by decide +kernel
theorem dX6_rank_51 : decode cX6_rank 51 = .ok (.if_icmp .gt 7, 3) := by decide +kernel
theorem dX6_rank_54 : decode cX6_rank 54 = .ok (.iconst 5, 1) := by decide +kernel
theorem dX6_rank_55 : decode cX6_rank 55 = .ok (.goto 16, 3) := by decide +kernel
theorem dX6_rank_58 : decode cX6_rank 58 = .ok (.iload_n 0, 1) := by decide +kernel
theorem dX6_rank_59 : decode cX6_rank 59 = .ok (.bipush 18, 2) := by decide +kernel
theorem dX6_rank_61 : decode cX6_rank 61 = .ok (.if_icmp .ne 8, 3) := by decide +kernel
theorem dX6_rank_64 : decode cX6_rank 64 = .ok (.bipush 6, 2) := by decide +kernel
theorem dX6_rank_66 : decode cX6_rank 66 = .ok (.goto 5, 3) := by decide +kernel
theorem dX6_rank_69 : decode cX6_rank 69 = .ok (.bipush 7, 2) := by decide +kernel
theorem dX6_rank_71 : decode cX6_rank 71 = .ok (.ireturn, 1) := by decide +kernel
theorem dX6_puts_0 : decode cX6_puts 0 = .ok (.aload_n 0, 1) := by decide +kernel
theorem dX6_puts_1 : decode cX6_puts 1 = .ok (.getfield 32, 3) := by decide +kernel
theorem dX6_puts_4 : decode cX6_puts 4 = .ok (.sipush 200, 3) := by decide +kernel
theorem dX6_puts_7 : decode cX6_puts 7 = .ok (.aload_n 0, 1) := by decide +kernel
theorem dX6_puts_8 : decode cX6_puts 8 = .ok (.getfield 82, 3) := by decide +kernel
theorem dX6_puts_11 : decode cX6_puts 11 = .ok (.imul, 1) := by decide +kernel
theorem dX6_puts_12 : decode cX6_puts 12 = .ok (.aload_n 0, 1) := by decide +kernel
theorem dX6_puts_13 : decode cX6_puts 13 = .ok (.getfield 108, 3) := by decide +kernel
theorem dX6_puts_16 : decode cX6_puts 16 = .ok (.iadd, 1) := by decide +kernel
theorem dX6_puts_17 : decode cX6_puts 17 = .ok (.iload_n 1, 1) := by decide +kernel
theorem dX6_puts_18 : decode cX6_puts 18 = .ok (.iastore, 1) := by decide +kernel
theorem dX6_puts_19 : decode cX6_puts 19 = .ok (.aload_n 0, 1) := by decide +kernel
theorem dX6_puts_20 : decode cX6_puts 20 = .ok (.dup, 1) := by decide +kernel
theorem dX6_puts_21 : decode cX6_puts 21 = .ok (.getfield 108, 3) := by decide +kernel
theorem dX6_puts_24 : decode cX6_puts 24 = .ok (.iconst 1, 1) := by decide +kernel
theorem dX6_puts_25 : decode cX6_puts 25 = .ok (.iadd, 1) := by decide +kernel
theorem dX6_puts_26 : decode cX6_puts 26 = .ok (.putfield 108, 3) := by decide +kernel
theorem dX6_puts_29 : decode cX6_puts 29 = .ok (.return_, 1) := by decide +kernel
theorem dX6_unwinds_0 : decode cX6_unwinds 0 = .ok (.aload_n 0, 1) := by decide +kernel
theorem dX6_unwinds_1 : decode cX6_unwinds 1 = .ok (.getfield 111, 3) := by decide +kernel
theorem dX6_unwinds_4 : decode cX6_unwinds 4 = .ok (.ifCond .le 75, 3) := by decide +kernel
theorem dX6_unwinds_7 : decode cX6_unwinds 7 = .ok (.aload_n 0, 1) := by decide +kernel
theorem dX6_unwinds_8 : decode cX6_unwinds 8 = .ok (.getfield 56, 3) := by decide +kernel
theorem dX6_unwinds_11 : decode cX6_unwinds 11 = .ok (.aload_n 0, 1) := by decide +kernel
theorem dX6_unwinds_12 : decode cX6_unwinds 12 = .ok (.getfield 111, 3) := by decide +kernel
theorem dX6_unwinds_15 : decode cX6_unwinds 15 = .ok (.iconst 1, 1) := by decide +kernel
theorem dX6_unwinds_16 : decode cX6_unwinds 16 = .ok (.isub, 1) := by decide +kernel
theorem dX6_unwinds_17 : decode cX6_unwinds 17 = .ok (.iaload, 1) := by decide +kernel
theorem dX6_unwinds_18 : decode cX6_unwinds 18 = .ok (.invokestatic 114, 3) := by decide +kernel
theorem dX6_unwinds_21 : decode cX6_unwinds 21 = .ok (.iload_n 1, 1) := by decide +kernel
theorem dX6_unwinds_22 : decode cX6_unwinds 22 = .ok (.if_icmp .lt 57, 3) := by decide +kernel
theorem dX6_unwinds_25 : decode cX6_unwinds 25 = .ok (.aload_n 0, 1) := by decide +kernel
theorem dX6_unwinds_26 : decode cX6_unwinds 26 = .ok (.dup, 1) := by decide +kernel
theorem dX6_unwinds_27 : decode cX6_unwinds 27 = .ok (.getfield 111, 3) := by decide +kernel
theorem dX6_unwinds_30 : decode cX6_unwinds 30 = .ok (.iconst 1, 1) := by decide +kernel
theorem dX6_unwinds_31 : decode cX6_unwinds 31 = .ok (.isub, 1) := by decide +kernel
theorem dX6_unwinds_32 : decode cX6_unwinds 32 = .ok (.putfield 111, 3) := by decide +kernel
theorem dX6_unwinds_35 : decode cX6_unwinds 35 = .ok (.aload_n 0, 1) := by decide +kernel
theorem dX6_unwinds_36 : decode cX6_unwinds 36 = .ok (.getfield 56, 3) := by decide +kernel
theorem dX6_unwinds_39 : decode cX6_unwinds 39 = .ok (.aload_n 0, 1) := by decide +kernel
theorem dX6_unwinds_40 : decode cX6_unwinds 40 = .ok (.getfield 111, 3) := by decide +kernel
theorem dX6_unwinds_43 : decode cX6_unwinds 43 = .ok (.iaload, 1) := by decide +kernel
theorem dX6_unwinds_44 : decode cX6_unwinds 44 = .ok (.istore_n 2, 1) := by decide +kernel
theorem dX6_unwinds_45 : decode cX6_unwinds 45 = .ok (.aload_n 0, 1) := by decide +kernel
theorem dX6_unwinds_46 : decode cX6_unwinds 46 = .ok (.dup, 1) := by decide +kernel
theorem dX6_unwinds_47 : decode cX6_unwinds 47 = .ok (.getfield 118, 3) := by decide +kernel
theorem dX6_unwinds_50 : decode cX6_unwinds 50 = .ok (.iload_n 2, 1) := by decide +kernel
theorem dX6_unwinds_51 : decode cX6_unwinds 51 = .ok (.bipush 13, 2) := by decide +kernel
theorem dX6_unwinds_53 : decode cX6_unwinds 53 = .ok (.if_icmp .eq 9, 3) := by decide +kernel
theorem dX6_unwinds_56 : decode cX6_unwinds 56 = .ok (.iload_n 2, 1) := by decide +kernel
theorem dX6_unwinds_57 : decode cX6_unwinds 57 = .ok (.bipush 19, 2) := by decide +kernel
theorem dX6_unwinds_59 : decode cX6_unwinds 59 = .ok (.if_icmp .ne 7, 3) := by decide +kernel
theorem dX6_unwinds_62 : decode cX6_unwinds 62 = .ok (.iconst 1, 1) := by decide +kernel
theorem dX6_unwinds_63 : decode cX6_unwinds 63 = .ok (.goto 4, 3) := by decide +kernel
theorem dX6_unwinds_66 : decode cX6_unwinds 66 = .ok (.iconst 0, 1) := by decide +kernel
theorem dX6_unwinds_67 : decode cX6_unwinds 67 = .ok (.isub, 1) := by decide +kernel
theorem dX6_unwinds_68 : decode cX6_unwinds 68 = .ok (.putfield 118, 3) := by decide +kernel
theorem dX6_unwinds_71 : decode cX6_unwinds 71 = .ok (.aload_n 0, 1) := by decide +kernel
theorem dX6_unwinds_72 : decode cX6_unwinds 72 = .ok (.iload_n 2, 1) := by decide +kernel
theorem dX6_unwinds_73 : decode cX6_unwinds 73 = .ok (.invokevirtual 121, 3) := by decide +kernel
theorem dX6_unwinds_76 : decode cX6_unwinds 76 = .ok (.goto (-76), 3) := by decide +kernel
theorem dX6_unwinds_79 : decode cX6_unwinds 79 = .ok (.return_, 1) := by decide +kernel
theorem dX6_holds_0 : decode cX6_holds 0 = .ok (.aload_n 0, 1) := by decide +kernel
theorem dX6_holds_1 : decode cX6_holds 1 = .ok (.getfield 56, 3) := by decide +kernel
theorem dX6_holds_4 : decode cX6_holds 4 = .ok (.aload_n 0, 1) := by decide +kernel
theorem dX6_holds_5 : decode cX6_holds 5 = .ok (.getfield 111, 3) := by decide +kernel
theorem dX6_holds_8 : decode cX6_holds 8 = .ok (.iload_n 1, 1) := by decide +kernel
theorem dX6_holds_9 : decode cX6_holds 9 = .ok (.iastore, 1) := by decide +kernel
theorem dX6_holds_10 : decode cX6_holds 10 = .ok (.aload_n 0, 1) := by decide +kernel
theorem dX6_holds_11 : decode cX6_holds 11 = .ok (.dup, 1) := by decide +kernel
theorem dX6_holds_12 : decode cX6_holds 12 = .ok (.getfield 111, 3) := by decide +kernel
theorem dX6_holds_15 : decode cX6_holds 15 = .ok (.iconst 1, 1) := by decide +kernel
theorem dX6_holds_16 : decode cX6_holds 16 = .ok (.iadd, 1) := by decide +kernel
theorem dX6_holds_17 : decode cX6_holds 17 = .ok (.putfield 111, 3) := by decide +kernel
theorem dX6_holds_20 : decode cX6_holds 20 = .ok (.return_, 1) := by decide +kernel
theorem dX6_opensOne_0 : decode cX6_opensOne 0 = .ok (.aload_n 0, 1) := by decide +kernel
theorem dX6_opensOne_1 : decode cX6_opensOne 1 = .ok (.getfield 118, 3) := by decide +kernel
theorem dX6_opensOne_4 : decode cX6_opensOne 4 = .ok (.iconst 5, 1) := by decide +kernel
theorem dX6_opensOne_5 : decode cX6_opensOne 5 = .ok (.if_icmp .ne 5, 3) := by decide +kernel
theorem dX6_opensOne_8 : decode cX6_opensOne 8 = .ok (.iconst 0, 1) := by decide +kernel
theorem dX6_opensOne_9 : decode cX6_opensOne 9 = .ok (.ireturn, 1) := by decide +kernel
theorem dX6_opensOne_10 : decode cX6_opensOne 10 = .ok (.aload_n 0, 1) := by decide +kernel
theorem dX6_opensOne_11 : decode cX6_opensOne 11 = .ok (.dup, 1) := by decide +kernel
theorem dX6_opensOne_12 : decode cX6_opensOne 12 = .ok (.getfield 118, 3) := by decide +kernel
theorem dX6_opensOne_15 : decode cX6_opensOne 15 = .ok (.iconst 1, 1) := by decide +kernel
theorem dX6_opensOne_16 : decode cX6_opensOne 16 = .ok (.iadd, 1) := by decide +kernel
theorem dX6_opensOne_17 : decode cX6_opensOne 17 = .ok (.putfield 118, 3) := by decide +kernel
theorem dX6_opensOne_20 : decode cX6_opensOne 20 = .ok (.aload_n 0, 1) := by decide +kernel
theorem dX6_opensOne_21 : decode cX6_opensOne 21 = .ok (.iload_n 1, 1) := by decide +kernel
theorem dX6_opensOne_22 : decode cX6_opensOne 22 = .ok (.invokevirtual 125, 3) := by decide +kernel
theorem dX6_opensOne_25 : decode cX6_opensOne 25 = .ok (.iconst 1, 1) := by decide +kernel
theorem dX6_opensOne_26 : decode cX6_opensOne 26 = .ok (.ireturn, 1) := by decide +kernel
theorem dX6_between_0 : decode cX6_between 0 = .ok (.aload_n 0, 1) := by decide +kernel
theorem dX6_between_1 : decode cX6_between 1 = .ok (.iload_n 1, 1) := by decide +kernel
theorem dX6_between_2 : decode cX6_between 2 = .ok (.invokestatic 114, 3) := by decide +kernel
theorem dX6_between_5 : decode cX6_between 5 = .ok (.iconst 4, 1) := by decide +kernel
theorem dX6_between_6 : decode cX6_between 6 = .ok (.if_icmp .ne 7, 3) := by decide +kernel
theorem dX6_between_9 : decode cX6_between 9 = .ok (.iconst 5, 1) := by decide +kernel
theorem dX6_between_10 : decode cX6_between 10 = .ok (.goto 7, 3) := by decide +kernel
theorem dX6_between_13 : decode cX6_between 13 = .ok (.iload_n 1, 1) := by decide +kernel
theorem dX6_between_14 : decode cX6_between 14 = .ok (.invokestatic 114, 3) := by decide +kernel
theorem dX6_between_17 : decode cX6_between 17 = .ok (.invokevirtual 128, 3) := by decide +kernel
theorem dX6_between_20 : decode cX6_between 20 = .ok (.iload_n 1, 1) := by decide +kernel
theorem dX6_between_21 : decode cX6_between 21 = .ok (.invokestatic 114, 3) := by decide +kernel
theorem dX6_between_24 : decode cX6_between 24 = .ok (.iconst 4, 1) := by decide +kernel
theorem dX6_between_25 : decode cX6_between 25 = .ok (.if_icmp .ne 30, 3) := by decide +kernel
theorem dX6_between_28 : decode cX6_between 28 = .ok (.aload_n 0, 1) := by decide +kernel
theorem dX6_between_29 : decode cX6_between 29 = .ok (.getfield 111, 3) := by decide +kernel
theorem dX6_between_32 : decode cX6_between 32 = .ok (.ifCond .le 23, 3) := by decide +kernel
theorem dX6_between_35 : decode cX6_between 35 = .ok (.aload_n 0, 1) := by decide +kernel
theorem dX6_between_36 : decode cX6_between 36 = .ok (.getfield 56, 3) := by decide +kernel
theorem dX6_between_39 : decode cX6_between 39 = .ok (.aload_n 0, 1) := by decide +kernel
theorem dX6_between_40 : decode cX6_between 40 = .ok (.getfield 111, 3) := by decide +kernel
theorem dX6_between_43 : decode cX6_between 43 = .ok (.iconst 1, 1) := by decide +kernel
theorem dX6_between_44 : decode cX6_between 44 = .ok (.isub, 1) := by decide +kernel
theorem dX6_between_45 : decode cX6_between 45 = .ok (.iaload, 1) := by decide +kernel
theorem dX6_between_46 : decode cX6_between 46 = .ok (.invokestatic 114, 3) := by decide +kernel
theorem dX6_between_49 : decode cX6_between 49 = .ok (.iconst 4, 1) := by decide +kernel
theorem dX6_between_50 : decode cX6_between 50 = .ok (.if_icmp .ne 5, 3) := by decide +kernel
theorem dX6_between_53 : decode cX6_between 53 = .ok (.iconst 0, 1) := by decide +kernel
theorem dX6_between_54 : decode cX6_between 54 = .ok (.ireturn, 1) := by decide +kernel
theorem dX6_between_55 : decode cX6_between 55 = .ok (.aload_n 0, 1) := by decide +kernel
theorem dX6_between_56 : decode cX6_between 56 = .ok (.iload_n 1, 1) := by decide +kernel
theorem dX6_between_57 : decode cX6_between 57 = .ok (.invokevirtual 125, 3) := by decide +kernel
theorem dX6_between_60 : decode cX6_between 60 = .ok (.iconst 1, 1) := by decide +kernel
theorem dX6_between_61 : decode cX6_between 61 = .ok (.ireturn, 1) := by decide +kernel
theorem dX6_signOf_0 : decode cX6_signOf 0 = .ok (.aload_n 0, 1) := by decide +kernel
theorem dX6_signOf_1 : decode cX6_signOf 1 = .ok (.getfield 98, 3) := by decide +kernel
theorem dX6_signOf_4 : decode cX6_signOf 4 = .ok (.iconst 4, 1) := by decide +kernel
theorem dX6_signOf_5 : decode cX6_signOf 5 = .ok (.if_icmp .ne 8, 3) := by decide +kernel
theorem dX6_signOf_8 : decode cX6_signOf 8 = .ok (.bipush 11, 2) := by decide +kernel
theorem dX6_signOf_10 : decode cX6_signOf 10 = .ok (.goto 87, 3) := by decide +kernel
theorem dX6_signOf_13 : decode cX6_signOf 13 = .ok (.aload_n 0, 1) := by decide +kernel
theorem dX6_signOf_14 : decode cX6_signOf 14 = .ok (.getfield 98, 3) := by decide +kernel
theorem dX6_signOf_17 : decode cX6_signOf 17 = .ok (.iconst 5, 1) := by decide +kernel
theorem dX6_signOf_18 : decode cX6_signOf 18 = .ok (.if_icmp .ne 8, 3) := by decide +kernel
theorem dX6_signOf_21 : decode cX6_signOf 21 = .ok (.bipush 12, 2) := by decide +kernel
theorem dX6_signOf_23 : decode cX6_signOf 23 = .ok (.goto 74, 3) := by decide +kernel
theorem dX6_signOf_26 : decode cX6_signOf 26 = .ok (.aload_n 0, 1) := by decide +kernel
theorem dX6_signOf_27 : decode cX6_signOf 27 = .ok (.getfield 98, 3) := by decide +kernel
theorem dX6_signOf_30 : decode cX6_signOf 30 = .ok (.bipush 60, 2) := by decide +kernel
theorem dX6_signOf_32 : decode cX6_signOf 32 = .ok (.if_icmp .ne 8, 3) := by decide +kernel
theorem dX6_signOf_35 : decode cX6_signOf 35 = .ok (.bipush 14, 2) := by decide +kernel
theorem dX6_signOf_37 : decode cX6_signOf 37 = .ok (.goto 60, 3) := by decide +kernel
theorem dX6_signOf_40 : decode cX6_signOf 40 = .ok (.aload_n 0, 1) := by decide +kernel
theorem dX6_signOf_41 : decode cX6_signOf 41 = .ok (.getfield 98, 3) := by decide +kernel
theorem dX6_signOf_44 : decode cX6_signOf 44 = .ok (.bipush 61, 2) := by decide +kernel
theorem dX6_signOf_46 : decode cX6_signOf 46 = .ok (.if_icmp .ne 8, 3) := by decide +kernel
theorem dX6_signOf_49 : decode cX6_signOf 49 = .ok (.bipush 15, 2) := by decide +kernel
theorem dX6_signOf_51 : decode cX6_signOf 51 = .ok (.goto 46, 3) := by decide +kernel
theorem dX6_signOf_54 : decode cX6_signOf 54 = .ok (.aload_n 0, 1) := by decide +kernel
theorem dX6_signOf_55 : decode cX6_signOf 55 = .ok (.getfield 98, 3) := by decide +kernel
theorem dX6_signOf_58 : decode cX6_signOf 58 = .ok (.bipush 43, 2) := by decide +kernel
theorem dX6_signOf_60 : decode cX6_signOf 60 = .ok (.if_icmp .ne 8, 3) := by decide +kernel
theorem dX6_signOf_63 : decode cX6_signOf 63 = .ok (.bipush 16, 2) := by decide +kernel
theorem dX6_signOf_65 : decode cX6_signOf 65 = .ok (.goto 32, 3) := by decide +kernel
theorem dX6_signOf_68 : decode cX6_signOf 68 = .ok (.aload_n 0, 1) := by decide +kernel
theorem dX6_signOf_69 : decode cX6_signOf 69 = .ok (.getfield 98, 3) := by decide +kernel
theorem dX6_signOf_72 : decode cX6_signOf 72 = .ok (.bipush 45, 2) := by decide +kernel
theorem dX6_signOf_74 : decode cX6_signOf 74 = .ok (.if_icmp .ne 8, 3) := by decide +kernel
theorem dX6_signOf_77 : decode cX6_signOf 77 = .ok (.bipush 17, 2) := by decide +kernel
theorem dX6_signOf_79 : decode cX6_signOf 79 = .ok (.goto 18, 3) := by decide +kernel
theorem dX6_signOf_82 : decode cX6_signOf 82 = .ok (.aload_n 0, 1) := by decide +kernel
theorem dX6_signOf_83 : decode cX6_signOf 83 = .ok (.getfield 98, 3) := by decide +kernel
theorem dX6_signOf_86 : decode cX6_signOf 86 = .ok (.bipush 42, 2) := by decide +kernel
theorem dX6_signOf_88 : decode cX6_signOf 88 = .ok (.if_icmp .ne 8, 3) := by decide +kernel
theorem dX6_signOf_91 : decode cX6_signOf 91 = .ok (.bipush 18, 2) := by decide +kernel
theorem dX6_signOf_93 : decode cX6_signOf 93 = .ok (.goto 4, 3) := by decide +kernel
theorem dX6_signOf_96 : decode cX6_signOf 96 = .ok (.iconst (-1), 1) := by decide +kernel
theorem dX6_signOf_97 : decode cX6_signOf 97 = .ok (.ireturn, 1) := by decide +kernel
theorem dX6_eRead_0 : decode cX6_eRead 0 = .ok (.aload_n 0, 1) := by decide +kernel
theorem dX6_eRead_1 : decode cX6_eRead 1 = .ok (.iconst 0, 1) := by decide +kernel
theorem dX6_eRead_2 : decode cX6_eRead 2 = .ok (.putfield 111, 3) := by decide +kernel
theorem dX6_eRead_5 : decode cX6_eRead 5 = .ok (.aload_n 0, 1) := by decide +kernel
theorem dX6_eRead_6 : decode cX6_eRead 6 = .ok (.iconst 0, 1) := by decide +kernel
theorem dX6_eRead_7 : decode cX6_eRead 7 = .ok (.putfield 118, 3) := by decide +kernel
theorem dX6_eRead_10 : decode cX6_eRead 10 = .ok (.iconst 1, 1) := by decide +kernel
theorem dX6_eRead_11 : decode cX6_eRead 11 = .ok (.istore_n 1, 1) := by decide +kernel
theorem dX6_eRead_12 : decode cX6_eRead 12 = .ok (.iconst 1, 1) := by decide +kernel
theorem dX6_eRead_13 : decode cX6_eRead 13 = .ok (.istore_n 2, 1) := by decide +kernel
theorem dX6_eRead_14 : decode cX6_eRead 14 = .ok (.aload_n 0, 1) := by decide +kernel
theorem dX6_eRead_15 : decode cX6_eRead 15 = .ok (.invokevirtual 131, 3) := by decide +kernel
theorem dX6_eRead_18 : decode cX6_eRead 18 = .ok (.iload_n 1, 1) := by decide +kernel
theorem dX6_eRead_19 : decode cX6_eRead 19 = .ok (.ifCond .eq 131, 3) := by decide +kernel
theorem dX6_eRead_22 : decode cX6_eRead 22 = .ok (.aload_n 0, 1) := by decide +kernel
theorem dX6_eRead_23 : decode cX6_eRead 23 = .ok (.getfield 98, 3) := by decide +kernel
theorem dX6_eRead_26 : decode cX6_eRead 26 = .ok (.iconst 1, 1) := by decide +kernel
theorem dX6_eRead_27 : decode cX6_eRead 27 = .ok (.if_icmp .eq 11, 3) := by decide +kernel
theorem dX6_eRead_30 : decode cX6_eRead 30 = .ok (.aload_n 0, 1) := by decide +kernel
theorem dX6_eRead_31 : decode cX6_eRead 31 = .ok (.getfield 98, 3) := by decide +kernel
theorem dX6_eRead_34 : decode cX6_eRead 34 = .ok (.iconst 2, 1) := by decide +kernel
theorem dX6_eRead_35 : decode cX6_eRead 35 = .ok (.if_icmp .ne 40, 3) := by decide +kernel
theorem dX6_eRead_38 : decode cX6_eRead 38 = .ok (.aload_n 0, 1) := by decide +kernel
theorem dX6_eRead_39 : decode cX6_eRead 39 = .ok (.aload_n 0, 1) := by decide +kernel
theorem dX6_eRead_40 : decode cX6_eRead 40 = .ok (.getfield 98, 3) := by decide +kernel
theorem dX6_eRead_43 : decode cX6_eRead 43 = .ok (.iconst 1, 1) := by decide +kernel
theorem dX6_eRead_44 : decode cX6_eRead 44 = .ok (.if_icmp .ne 13, 3) := by decide +kernel
theorem dX6_eRead_47 : decode cX6_eRead 47 = .ok (.ldc 134, 2) := by decide +kernel
theorem dX6_eRead_49 : decode cX6_eRead 49 = .ok (.aload_n 0, 1) := by decide +kernel
theorem dX6_eRead_50 : decode cX6_eRead 50 = .ok (.getfield 101, 3) := by decide +kernel
theorem dX6_eRead_53 : decode cX6_eRead 53 = .ok (.iadd, 1) := by decide +kernel
theorem dX6_eRead_54 : decode cX6_eRead 54 = .ok (.goto 7, 3) := by decide +kernel
theorem dX6_eRead_57 : decode cX6_eRead 57 = .ok (.aload_n 0, 1) := by decide +kernel
theorem dX6_eRead_58 : decode cX6_eRead 58 = .ok (.getfield 101, 3) := by decide +kernel
theorem dX6_eRead_61 : decode cX6_eRead 61 = .ok (.invokevirtual 121, 3) := by decide +kernel
theorem dX6_eRead_64 : decode cX6_eRead 64 = .ok (.aload_n 0, 1) := by decide +kernel
theorem dX6_eRead_65 : decode cX6_eRead 65 = .ok (.bipush 7, 2) := by decide +kernel
theorem dX6_eRead_67 : decode cX6_eRead 67 = .ok (.invokevirtual 128, 3) := by decide +kernel
theorem dX6_eRead_70 : decode cX6_eRead 70 = .ok (.iconst 0, 1) := by decide +kernel
theorem dX6_eRead_71 : decode cX6_eRead 71 = .ok (.istore_n 1, 1) := by decide +kernel
theorem dX6_eRead_72 : decode cX6_eRead 72 = .ok (.goto (-58), 3) := by decide +kernel
theorem dX6_eRead_75 : decode cX6_eRead 75 = .ok (.aload_n 0, 1) := by decide +kernel
theorem dX6_eRead_76 : decode cX6_eRead 76 = .ok (.getfield 98, 3) := by decide +kernel
theorem dX6_eRead_79 : decode cX6_eRead 79 = .ok (.bipush 6, 2) := by decide +kernel
theorem dX6_eRead_81 : decode cX6_eRead 81 = .ok (.if_icmp .ne 18, 3) := by decide +kernel
theorem dX6_eRead_84 : decode cX6_eRead 84 = .ok (.iload_n 2, 1) := by decide +kernel
theorem dX6_eRead_85 : decode cX6_eRead 85 = .ok (.ifCond .eq 14, 3) := by decide +kernel
theorem dX6_eRead_88 : decode cX6_eRead 88 = .ok (.aload_n 0, 1) := by decide +kernel
theorem dX6_eRead_89 : decode cX6_eRead 89 = .ok (.bipush 13, 2) := by decide +kernel
theorem dX6_eRead_91 : decode cX6_eRead 91 = .ok (.invokevirtual 135, 3) := by decide +kernel
theorem dX6_eRead_94 : decode cX6_eRead 94 = .ok (.ifCond .ne (-80), 3) := by decide +kernel
theorem dX6_eRead_97 : decode cX6_eRead 97 = .ok (.iconst 0, 1) := by decide +kernel
theorem dX6_eRead_98 : decode cX6_eRead 98 = .ok (.ireturn, 1) := by decide +kernel
theorem dX6_eRead_99 : decode cX6_eRead 99 = .ok (.aload_n 0, 1) := by decide +kernel
theorem dX6_eRead_100 : decode cX6_eRead 100 = .ok (.getfield 98, 3) := by decide +kernel
theorem dX6_eRead_103 : decode cX6_eRead 103 = .ok (.bipush 45, 2) := by decide +kernel
theorem dX6_eRead_105 : decode cX6_eRead 105 = .ok (.if_icmp .ne 19, 3) := by decide +kernel
theorem dX6_eRead_108 : decode cX6_eRead 108 = .ok (.aload_n 0, 1) := by decide +kernel
theorem dX6_eRead_109 : decode cX6_eRead 109 = .ok (.bipush 19, 2) := by decide +kernel
theorem dX6_eRead_111 : decode cX6_eRead 111 = .ok (.invokevirtual 135, 3) := by decide +kernel
theorem dX6_eRead_114 : decode cX6_eRead 114 = .ok (.ifCond .ne 5, 3) := by decide +kernel
theorem dX6_eRead_117 : decode cX6_eRead 117 = .ok (.iconst 0, 1) := by decide +kernel
theorem dX6_eRead_118 : decode cX6_eRead 118 = .ok (.ireturn, 1) := by decide +kernel
theorem dX6_eRead_119 : decode cX6_eRead 119 = .ok (.iconst 0, 1) := by decide +kernel
theorem dX6_eRead_120 : decode cX6_eRead 120 = .ok (.istore_n 2, 1) := by decide +kernel
theorem dX6_eRead_121 : decode cX6_eRead 121 = .ok (.goto (-107), 3) := by decide +kernel
theorem dX6_eRead_124 : decode cX6_eRead 124 = .ok (.aload_n 0, 1) := by decide +kernel
theorem dX6_eRead_125 : decode cX6_eRead 125 = .ok (.getfield 98, 3) := by decide +kernel
theorem dX6_eRead_128 : decode cX6_eRead 128 = .ok (.bipush 40, 2) := by decide +kernel
theorem dX6_eRead_130 : decode cX6_eRead 130 = .ok (.if_icmp .ne 18, 3) := by decide +kernel
theorem dX6_eRead_133 : decode cX6_eRead 133 = .ok (.aload_n 0, 1) := by decide +kernel
theorem dX6_eRead_134 : decode cX6_eRead 134 = .ok (.iconst 0, 1) := by decide +kernel
theorem dX6_eRead_135 : decode cX6_eRead 135 = .ok (.invokevirtual 135, 3) := by decide +kernel
theorem dX6_eRead_138 : decode cX6_eRead 138 = .ok (.ifCond .ne 5, 3) := by decide +kernel
theorem dX6_eRead_141 : decode cX6_eRead 141 = .ok (.iconst 0, 1) := by decide +kernel
theorem dX6_eRead_142 : decode cX6_eRead 142 = .ok (.ireturn, 1) := by decide +kernel
theorem dX6_eRead_143 : decode cX6_eRead 143 = .ok (.iconst 1, 1) := by decide +kernel
theorem dX6_eRead_144 : decode cX6_eRead 144 = .ok (.istore_n 2, 1) := by decide +kernel
theorem dX6_eRead_145 : decode cX6_eRead 145 = .ok (.goto (-131), 3) := by decide +kernel
theorem dX6_eRead_148 : decode cX6_eRead 148 = .ok (.iconst 0, 1) := by decide +kernel
theorem dX6_eRead_149 : decode cX6_eRead 149 = .ok (.ireturn, 1) := by decide +kernel
theorem dX6_eRead_150 : decode cX6_eRead 150 = .ok (.aload_n 0, 1) := by decide +kernel
theorem dX6_eRead_151 : decode cX6_eRead 151 = .ok (.getfield 98, 3) := by decide +kernel
theorem dX6_eRead_154 : decode cX6_eRead 154 = .ok (.bipush 59, 2) := by decide +kernel
theorem dX6_eRead_156 : decode cX6_eRead 156 = .ok (.if_icmp .ne 21, 3) := by decide +kernel
theorem dX6_eRead_159 : decode cX6_eRead 159 = .ok (.aload_n 0, 1) := by decide +kernel
theorem dX6_eRead_160 : decode cX6_eRead 160 = .ok (.iconst 1, 1) := by decide +kernel
theorem dX6_eRead_161 : decode cX6_eRead 161 = .ok (.invokevirtual 128, 3) := by decide +kernel
theorem dX6_eRead_164 : decode cX6_eRead 164 = .ok (.aload_n 0, 1) := by decide +kernel
theorem dX6_eRead_165 : decode cX6_eRead 165 = .ok (.getfield 111, 3) := by decide +kernel
theorem dX6_eRead_168 : decode cX6_eRead 168 = .ok (.ifCond .ne 7, 3) := by decide +kernel
theorem dX6_eRead_171 : decode cX6_eRead 171 = .ok (.iconst 1, 1) := by decide +kernel
theorem dX6_eRead_172 : decode cX6_eRead 172 = .ok (.goto 4, 3) := by decide +kernel
theorem dX6_eRead_175 : decode cX6_eRead 175 = .ok (.iconst 0, 1) := by decide +kernel
theorem dX6_eRead_176 : decode cX6_eRead 176 = .ok (.ireturn, 1) := by decide +kernel
theorem dX6_eRead_177 : decode cX6_eRead 177 = .ok (.aload_n 0, 1) := by decide +kernel
theorem dX6_eRead_178 : decode cX6_eRead 178 = .ok (.getfield 98, 3) := by decide +kernel
theorem dX6_eRead_181 : decode cX6_eRead 181 = .ok (.bipush 41, 2) := by decide +kernel
theorem dX6_eRead_183 : decode cX6_eRead 183 = .ok (.if_icmp .ne 46, 3) := by decide +kernel
theorem dX6_eRead_186 : decode cX6_eRead 186 = .ok (.aload_n 0, 1) := by decide +kernel
theorem dX6_eRead_187 : decode cX6_eRead 187 = .ok (.iconst 1, 1) := by decide +kernel
theorem dX6_eRead_188 : decode cX6_eRead 188 = .ok (.invokevirtual 128, 3) := by decide +kernel
theorem dX6_eRead_191 : decode cX6_eRead 191 = .ok (.aload_n 0, 1) := by decide +kernel
theorem dX6_eRead_192 : decode cX6_eRead 192 = .ok (.getfield 111, 3) := by decide +kernel
theorem dX6_eRead_195 : decode cX6_eRead 195 = .ok (.ifCond .ne 5, 3) := by decide +kernel
theorem dX6_eRead_198 : decode cX6_eRead 198 = .ok (.iconst 0, 1) := by decide +kernel
theorem dX6_eRead_199 : decode cX6_eRead 199 = .ok (.ireturn, 1) := by decide +kernel
theorem dX6_eRead_200 : decode cX6_eRead 200 = .ok (.aload_n 0, 1) := by decide +kernel
theorem dX6_eRead_201 : decode cX6_eRead 201 = .ok (.dup, 1) := by decide +kernel
theorem dX6_eRead_202 : decode cX6_eRead 202 = .ok (.getfield 111, 3) := by decide +kernel
theorem dX6_eRead_205 : decode cX6_eRead 205 = .ok (.iconst 1, 1) := by decide +kernel
theorem dX6_eRead_206 : decode cX6_eRead 206 = .ok (.isub, 1) := by decide +kernel
theorem dX6_eRead_207 : decode cX6_eRead 207 = .ok (.putfield 111, 3) := by decide +kernel
theorem dX6_eRead_210 : decode cX6_eRead 210 = .ok (.aload_n 0, 1) := by decide +kernel
theorem dX6_eRead_211 : decode cX6_eRead 211 = .ok (.dup, 1) := by decide +kernel
theorem dX6_eRead_212 : decode cX6_eRead 212 = .ok (.getfield 118, 3) := by decide +kernel
theorem dX6_eRead_215 : decode cX6_eRead 215 = .ok (.iconst 1, 1) := by decide +kernel
theorem dX6_eRead_216 : decode cX6_eRead 216 = .ok (.isub, 1) := by decide +kernel
theorem dX6_eRead_217 : decode cX6_eRead 217 = .ok (.putfield 118, 3) := by decide +kernel
theorem dX6_eRead_220 : decode cX6_eRead 220 = .ok (.aload_n 0, 1) := by decide +kernel
theorem dX6_eRead_221 : decode cX6_eRead 221 = .ok (.bipush 7, 2) := by decide +kernel
theorem dX6_eRead_223 : decode cX6_eRead 223 = .ok (.invokevirtual 128, 3) := by decide +kernel
theorem dX6_eRead_226 : decode cX6_eRead 226 = .ok (.goto (-212), 3) := by decide +kernel
theorem dX6_eRead_229 : decode cX6_eRead 229 = .ok (.aload_n 0, 1) := by decide +kernel
theorem dX6_eRead_230 : decode cX6_eRead 230 = .ok (.invokevirtual 138, 3) := by decide +kernel
theorem dX6_eRead_233 : decode cX6_eRead 233 = .ok (.istore_n 3, 1) := by decide +kernel
theorem dX6_eRead_234 : decode cX6_eRead 234 = .ok (.iload_n 3, 1) := by decide +kernel
theorem dX6_eRead_235 : decode cX6_eRead 235 = .ok (.iconst (-1), 1) := by decide +kernel
theorem dX6_eRead_236 : decode cX6_eRead 236 = .ok (.if_icmp .eq 11, 3) := by decide +kernel
theorem dX6_eRead_239 : decode cX6_eRead 239 = .ok (.aload_n 0, 1) := by decide +kernel
theorem dX6_eRead_240 : decode cX6_eRead 240 = .ok (.iload_n 3, 1) := by decide +kernel
theorem dX6_eRead_241 : decode cX6_eRead 241 = .ok (.invokevirtual 141, 3) := by decide +kernel
theorem dX6_eRead_244 : decode cX6_eRead 244 = .ok (.ifCond .ne 5, 3) := by decide +kernel
theorem dX6_eRead_247 : decode cX6_eRead 247 = .ok (.iconst 0, 1) := by decide +kernel
theorem dX6_eRead_248 : decode cX6_eRead 248 = .ok (.ireturn, 1) := by decide +kernel
theorem dX6_eRead_249 : decode cX6_eRead 249 = .ok (.iconst 1, 1) := by decide +kernel
theorem dX6_eRead_250 : decode cX6_eRead 250 = .ok (.istore_n 1, 1) := by decide +kernel
theorem dX6_eRead_251 : decode cX6_eRead 251 = .ok (.iload_n 3, 1) := by decide +kernel
theorem dX6_eRead_252 : decode cX6_eRead 252 = .ok (.bipush 12, 2) := by decide +kernel
theorem dX6_eRead_254 : decode cX6_eRead 254 = .ok (.if_icmp .gt 7, 3) := by decide +kernel
theorem dX6_eRead_257 : decode cX6_eRead 257 = .ok (.iconst 1, 1) := by decide +kernel
theorem dX6_eRead_258 : decode cX6_eRead 258 = .ok (.goto 4, 3) := by decide +kernel
theorem dX6_eRead_261 : decode cX6_eRead 261 = .ok (.iconst 0, 1) := by decide +kernel
theorem dX6_eRead_262 : decode cX6_eRead 262 = .ok (.istore_n 2, 1) := by decide +kernel
theorem dX6_eRead_263 : decode cX6_eRead 263 = .ok (.goto (-249), 3) := by decide +kernel
theorem dX6_text_0 : decode cX6_text 0 = .ok (.aload_n 0, 1) := by decide +kernel
theorem dX6_text_1 : decode cX6_text 1 = .ok (.getfield 82, 3) := by decide +kernel
theorem dX6_text_4 : decode cX6_text 4 = .ok (.bipush 6, 2) := by decide +kernel
theorem dX6_text_6 : decode cX6_text 6 = .ok (.if_icmp .ne 6, 3) := by decide +kernel
theorem dX6_text_9 : decode cX6_text 9 = .ok (.bipush (-4), 2) := by decide +kernel
theorem dX6_text_11 : decode cX6_text 11 = .ok (.ireturn, 1) := by decide +kernel
theorem dX6_text_12 : decode cX6_text 12 = .ok (.aload_n 0, 1) := by decide +kernel
theorem dX6_text_13 : decode cX6_text 13 = .ok (.iconst 0, 1) := by decide +kernel
theorem dX6_text_14 : decode cX6_text 14 = .ok (.putfield 92, 3) := by decide +kernel
theorem dX6_text_17 : decode cX6_text 17 = .ok (.aload_n 0, 1) := by decide +kernel
theorem dX6_text_18 : decode cX6_text 18 = .ok (.iconst 0, 1) := by decide +kernel
theorem dX6_text_19 : decode cX6_text 19 = .ok (.putfield 108, 3) := by decide +kernel
theorem dX6_text_22 : decode cX6_text 22 = .ok (.iconst 1, 1) := by decide +kernel
theorem dX6_text_23 : decode cX6_text 23 = .ok (.istore_n 1, 1) := by decide +kernel
theorem dX6_text_24 : decode cX6_text 24 = .ok (.iconst 0, 1) := by decide +kernel
theorem dX6_text_25 : decode cX6_text 25 = .ok (.istore_n 2, 1) := by decide +kernel
theorem dX6_text_26 : decode cX6_text 26 = .ok (.iload_n 2, 1) := by decide +kernel
theorem dX6_text_27 : decode cX6_text 27 = .ok (.iconst 3, 1) := by decide +kernel
theorem dX6_text_28 : decode cX6_text 28 = .ok (.if_icmp .ge 73, 3) := by decide +kernel
theorem dX6_text_31 : decode cX6_text 31 = .ok (.iload_n 1, 1) := by decide +kernel
theorem dX6_text_32 : decode cX6_text 32 = .ok (.ifCond .eq 69, 3) := by decide +kernel
theorem dX6_text_35 : decode cX6_text 35 = .ok (.aload_n 0, 1) := by decide +kernel
theorem dX6_text_36 : decode cX6_text 36 = .ok (.invokevirtual 131, 3) := by decide +kernel
theorem dX6_text_39 : decode cX6_text 39 = .ok (.aload_n 0, 1) := by decide +kernel
theorem dX6_text_40 : decode cX6_text 40 = .ok (.getfield 98, 3) := by decide +kernel
theorem dX6_text_43 : decode cX6_text 43 = .ok (.iconst 3, 1) := by decide +kernel
theorem dX6_text_44 : decode cX6_text 44 = .ok (.if_icmp .ne 15, 3) := by decide +kernel
theorem dX6_text_47 : decode cX6_text 47 = .ok (.aload_n 0, 1) := by decide +kernel
theorem dX6_text_48 : decode cX6_text 48 = .ok (.getfield 101, 3) := by decide +kernel
theorem dX6_text_51 : decode cX6_text 51 = .ok (.iload_n 2, 1) := by decide +kernel
theorem dX6_text_52 : decode cX6_text 52 = .ok (.if_icmp .ne 7, 3) := by decide +kernel
theorem dX6_text_55 : decode cX6_text 55 = .ok (.iconst 1, 1) := by decide +kernel
theorem dX6_text_56 : decode cX6_text 56 = .ok (.goto 4, 3) := by decide +kernel
theorem dX6_text_59 : decode cX6_text 59 = .ok (.iconst 0, 1) := by decide +kernel
theorem dX6_text_60 : decode cX6_text 60 = .ok (.istore_n 1, 1) := by decide +kernel
theorem dX6_text_61 : decode cX6_text 61 = .ok (.aload_n 0, 1) := by decide +kernel
theorem dX6_text_62 : decode cX6_text 62 = .ok (.getfield 35, 3) := by decide +kernel
theorem dX6_text_65 : decode cX6_text 65 = .ok (.iconst 4, 1) := by decide +kernel
theorem dX6_text_66 : decode cX6_text 66 = .ok (.aload_n 0, 1) := by decide +kernel
theorem dX6_text_67 : decode cX6_text 67 = .ok (.getfield 82, 3) := by decide +kernel
theorem dX6_text_70 : decode cX6_text 70 = .ok (.imul, 1) := by decide +kernel
theorem dX6_text_71 : decode cX6_text 71 = .ok (.iload_n 2, 1) := by decide +kernel
theorem dX6_text_72 : decode cX6_text 72 = .ok (.iadd, 1) := by decide +kernel
theorem dX6_text_73 : decode cX6_text 73 = .ok (.aload_n 0, 1) := by decide +kernel
theorem dX6_text_74 : decode cX6_text 74 = .ok (.getfield 108, 3) := by decide +kernel
theorem dX6_text_77 : decode cX6_text 77 = .ok (.iastore, 1) := by decide +kernel
theorem dX6_text_78 : decode cX6_text 78 = .ok (.iload_n 1, 1) := by decide +kernel
theorem dX6_text_79 : decode cX6_text 79 = .ok (.ifCond .eq 14, 3) := by decide +kernel
theorem dX6_text_82 : decode cX6_text 82 = .ok (.aload_n 0, 1) := by decide +kernel
theorem dX6_text_83 : decode cX6_text 83 = .ok (.invokevirtual 144, 3) := by decide +kernel
theorem dX6_text_86 : decode cX6_text 86 = .ok (.ifCond .eq 7, 3) := by decide +kernel
theorem dX6_text_89 : decode cX6_text 89 = .ok (.iconst 1, 1) := by decide +kernel
theorem dX6_text_90 : decode cX6_text 90 = .ok (.goto 4, 3) := by decide +kernel
theorem dX6_text_93 : decode cX6_text 93 = .ok (.iconst 0, 1) := by decide +kernel
theorem dX6_text_94 : decode cX6_text 94 = .ok (.istore_n 1, 1) := by decide +kernel
theorem dX6_text_95 : decode cX6_text 95 = .ok (.iinc 2 1, 3) := by decide +kernel
theorem dX6_text_98 : decode cX6_text 98 = .ok (.goto (-72), 3) := by decide +kernel
theorem dX6_text_101 : decode cX6_text 101 = .ok (.iload_n 1, 1) := by decide +kernel
theorem dX6_text_102 : decode cX6_text 102 = .ok (.ifCond .eq 20, 3) := by decide +kernel
theorem dX6_text_105 : decode cX6_text 105 = .ok (.aload_n 0, 1) := by decide +kernel
theorem dX6_text_106 : decode cX6_text 106 = .ok (.invokevirtual 131, 3) := by decide +kernel
theorem dX6_text_109 : decode cX6_text 109 = .ok (.aload_n 0, 1) := by decide +kernel
theorem dX6_text_110 : decode cX6_text 110 = .ok (.getfield 98, 3) := by decide +kernel
theorem dX6_text_113 : decode cX6_text 113 = .ok (.ifCond .ne 7, 3) := by decide +kernel
theorem dX6_text_116 : decode cX6_text 116 = .ok (.iconst 1, 1) := by decide +kernel
theorem dX6_text_117 : decode cX6_text 117 = .ok (.goto 4, 3) := by decide +kernel
theorem dX6_text_120 : decode cX6_text 120 = .ok (.iconst 0, 1) := by decide +kernel
theorem dX6_text_121 : decode cX6_text 121 = .ok (.istore_n 1, 1) := by decide +kernel
theorem dX6_text_122 : decode cX6_text 122 = .ok (.aload_n 0, 1) := by decide +kernel
theorem dX6_text_123 : decode cX6_text 123 = .ok (.getfield 35, 3) := by decide +kernel
theorem dX6_text_126 : decode cX6_text 126 = .ok (.iconst 4, 1) := by decide +kernel
theorem dX6_text_127 : decode cX6_text 127 = .ok (.aload_n 0, 1) := by decide +kernel
theorem dX6_text_128 : decode cX6_text 128 = .ok (.getfield 82, 3) := by decide +kernel
theorem dX6_text_131 : decode cX6_text 131 = .ok (.imul, 1) := by decide +kernel
theorem dX6_text_132 : decode cX6_text 132 = .ok (.iconst 3, 1) := by decide +kernel
theorem dX6_text_133 : decode cX6_text 133 = .ok (.iadd, 1) := by decide +kernel
theorem dX6_text_134 : decode cX6_text 134 = .ok (.aload_n 0, 1) := by decide +kernel
theorem dX6_text_135 : decode cX6_text 135 = .ok (.getfield 108, 3) := by decide +kernel
theorem dX6_text_138 : decode cX6_text 138 = .ok (.iastore, 1) := by decide +kernel
theorem dX6_text_139 : decode cX6_text 139 = .ok (.aload_n 0, 1) := by decide +kernel
theorem dX6_text_140 : decode cX6_text 140 = .ok (.iconst 0, 1) := by decide +kernel
theorem dX6_text_141 : decode cX6_text 141 = .ok (.putfield 68, 3) := by decide +kernel
theorem dX6_text_144 : decode cX6_text 144 = .ok (.iload_n 1, 1) := by decide +kernel
theorem dX6_text_145 : decode cX6_text 145 = .ok (.ifCond .ne 11, 3) := by decide +kernel
theorem dX6_text_148 : decode cX6_text 148 = .ok (.bipush (-100), 2) := by decide +kernel
theorem dX6_text_150 : decode cX6_text 150 = .ok (.aload_n 0, 1) := by decide +kernel
theorem dX6_text_151 : decode cX6_text 151 = .ok (.getfield 95, 3) := by decide +kernel
theorem dX6_text_154 : decode cX6_text 154 = .ok (.isub, 1) := by decide +kernel
theorem dX6_text_155 : decode cX6_text 155 = .ok (.ireturn, 1) := by decide +kernel
theorem dX6_text_156 : decode cX6_text 156 = .ok (.aload_n 0, 1) := by decide +kernel
theorem dX6_text_157 : decode cX6_text 157 = .ok (.dup, 1) := by decide +kernel
theorem dX6_text_158 : decode cX6_text 158 = .ok (.getfield 82, 3) := by decide +kernel
theorem dX6_text_161 : decode cX6_text 161 = .ok (.iconst 1, 1) := by decide +kernel
theorem dX6_text_162 : decode cX6_text 162 = .ok (.iadd, 1) := by decide +kernel
theorem dX6_text_163 : decode cX6_text 163 = .ok (.putfield 82, 3) := by decide +kernel
theorem dX6_text_166 : decode cX6_text 166 = .ok (.aload_n 0, 1) := by decide +kernel
theorem dX6_text_167 : decode cX6_text 167 = .ok (.getfield 82, 3) := by decide +kernel
theorem dX6_text_170 : decode cX6_text 170 = .ok (.iconst 1, 1) := by decide +kernel
theorem dX6_text_171 : decode cX6_text 171 = .ok (.isub, 1) := by decide +kernel
theorem dX6_text_172 : decode cX6_text 172 = .ok (.ireturn, 1) := by decide +kernel
theorem dX6_two_0 : decode cX6_two 0 = .ok (.iload_n 0, 1) := by decide +kernel
theorem dX6_two_1 : decode cX6_two 1 = .ok (.tableswitch 101 11 17 #[43, 57, 101, 71, 82, 93, 97], 43) := by decide +kernel
theorem dX6_two_44 : decode cX6_two 44 = .ok (.iload_n 1, 1) := by decide +kernel
theorem dX6_two_45 : decode cX6_two 45 = .ok (.ifCond .ne 7, 3) := by decide +kernel
theorem dX6_two_48 : decode cX6_two 48 = .ok (.iload_n 2, 1) := by decide +kernel
theorem dX6_two_49 : decode cX6_two 49 = .ok (.ifCond .eq 7, 3) := by decide +kernel
theorem dX6_two_52 : decode cX6_two 52 = .ok (.iconst 1, 1) := by decide +kernel
theorem dX6_two_53 : decode cX6_two 53 = .ok (.goto 4, 3) := by decide +kernel
theorem dX6_two_56 : decode cX6_two 56 = .ok (.iconst 0, 1) := by decide +kernel
theorem dX6_two_57 : decode cX6_two 57 = .ok (.ireturn, 1) := by decide +kernel
theorem dX6_two_58 : decode cX6_two 58 = .ok (.iload_n 1, 1) := by decide +kernel
theorem dX6_two_59 : decode cX6_two 59 = .ok (.ifCond .eq 11, 3) := by decide +kernel
theorem dX6_two_62 : decode cX6_two 62 = .ok (.iload_n 2, 1) := by decide +kernel
theorem dX6_two_63 : decode cX6_two 63 = .ok (.ifCond .eq 7, 3) := by decide +kernel
theorem dX6_two_66 : decode cX6_two 66 = .ok (.iconst 1, 1) := by decide +kernel
theorem dX6_two_67 : decode cX6_two 67 = .ok (.goto 4, 3) := by decide +kernel
theorem dX6_two_70 : decode cX6_two 70 = .ok (.iconst 0, 1) := by decide +kernel
theorem dX6_two_71 : decode cX6_two 71 = .ok (.ireturn, 1) := by decide +kernel
theorem dX6_two_72 : decode cX6_two 72 = .ok (.iload_n 1, 1) := by decide +kernel
theorem dX6_two_73 : decode cX6_two 73 = .ok (.iload_n 2, 1) := by decide +kernel
theorem dX6_two_74 : decode cX6_two 74 = .ok (.if_icmp .ge 7, 3) := by decide +kernel
theorem dX6_two_77 : decode cX6_two 77 = .ok (.iconst 1, 1) := by decide +kernel
theorem dX6_two_78 : decode cX6_two 78 = .ok (.goto 4, 3) := by decide +kernel
theorem dX6_two_81 : decode cX6_two 81 = .ok (.iconst 0, 1) := by decide +kernel
theorem dX6_two_82 : decode cX6_two 82 = .ok (.ireturn, 1) := by decide +kernel
theorem dX6_two_83 : decode cX6_two 83 = .ok (.iload_n 1, 1) := by decide +kernel
theorem dX6_two_84 : decode cX6_two 84 = .ok (.iload_n 2, 1) := by decide +kernel
theorem dX6_two_85 : decode cX6_two 85 = .ok (.if_icmp .ne 7, 3) := by decide +kernel
theorem dX6_two_88 : decode cX6_two 88 = .ok (.iconst 1, 1) := by decide +kernel
theorem dX6_two_89 : decode cX6_two 89 = .ok (.goto 4, 3) := by decide +kernel
theorem dX6_two_92 : decode cX6_two 92 = .ok (.iconst 0, 1) := by decide +kernel
theorem dX6_two_93 : decode cX6_two 93 = .ok (.ireturn, 1) := by decide +kernel
theorem dX6_two_94 : decode cX6_two 94 = .ok (.iload_n 1, 1) := by decide +kernel
theorem dX6_two_95 : decode cX6_two 95 = .ok (.iload_n 2, 1) := by decide +kernel
theorem dX6_two_96 : decode cX6_two 96 = .ok (.iadd, 1) := by decide +kernel
theorem dX6_two_97 : decode cX6_two 97 = .ok (.ireturn, 1) := by decide +kernel
theorem dX6_two_98 : decode cX6_two 98 = .ok (.iload_n 1, 1) := by decide +kernel
theorem dX6_two_99 : decode cX6_two 99 = .ok (.iload_n 2, 1) := by decide +kernel
theorem dX6_two_100 : decode cX6_two 100 = .ok (.isub, 1) := by decide +kernel
theorem dX6_two_101 : decode cX6_two 101 = .ok (.ireturn, 1) := by decide +kernel
theorem dX6_two_102 : decode cX6_two 102 = .ok (.iload_n 1, 1) := by decide +kernel
theorem dX6_two_103 : decode cX6_two 103 = .ok (.iload_n 2, 1) := by decide +kernel
theorem dX6_two_104 : decode cX6_two 104 = .ok (.imul, 1) := by decide +kernel
theorem dX6_two_105 : decode cX6_two 105 = .ok (.ireturn, 1) := by decide +kernel
theorem dX6_says_0 : decode cX6_says 0 = .ok (.iconst 0, 1) := by decide +kernel
theorem dX6_says_1 : decode cX6_says 1 = .ok (.istore_n 2, 1) := by decide +kernel
theorem dX6_says_2 : decode cX6_says 2 = .ok (.aload_n 0, 1) := by decide +kernel
theorem dX6_says_3 : decode cX6_says 3 = .ok (.getfield 35, 3) := by decide +kernel
theorem dX6_says_6 : decode cX6_says 6 = .ok (.iconst 4, 1) := by decide +kernel
theorem dX6_says_7 : decode cX6_says 7 = .ok (.aload_n 0, 1) := by decide +kernel
theorem dX6_says_8 : decode cX6_says 8 = .ok (.getfield 85, 3) := by decide +kernel
theorem dX6_says_11 : decode cX6_says 11 = .ok (.imul, 1) := by decide +kernel
theorem dX6_says_12 : decode cX6_says 12 = .ok (.iload_n 1, 1) := by decide +kernel
theorem dX6_says_13 : decode cX6_says 13 = .ok (.iadd, 1) := by decide +kernel
theorem dX6_says_14 : decode cX6_says 14 = .ok (.iaload, 1) := by decide +kernel
theorem dX6_says_15 : decode cX6_says 15 = .ok (.istore_n 3, 1) := by decide +kernel
theorem dX6_says_16 : decode cX6_says 16 = .ok (.iload_n 3, 1) := by decide +kernel
theorem dX6_says_17 : decode cX6_says 17 = .ok (.aload_n 0, 1) := by decide +kernel
theorem dX6_says_18 : decode cX6_says 18 = .ok (.getfield 35, 3) := by decide +kernel
theorem dX6_says_21 : decode cX6_says 21 = .ok (.iconst 4, 1) := by decide +kernel
theorem dX6_says_22 : decode cX6_says 22 = .ok (.aload_n 0, 1) := by decide +kernel
theorem dX6_says_23 : decode cX6_says 23 = .ok (.getfield 85, 3) := by decide +kernel
theorem dX6_says_26 : decode cX6_says 26 = .ok (.imul, 1) := by decide +kernel
theorem dX6_says_27 : decode cX6_says 27 = .ok (.iload_n 1, 1) := by decide +kernel
theorem dX6_says_28 : decode cX6_says 28 = .ok (.iadd, 1) := by decide +kernel
theorem dX6_says_29 : decode cX6_says 29 = .ok (.iconst 1, 1) := by decide +kernel
theorem dX6_says_30 : decode cX6_says 30 = .ok (.iadd, 1) := by decide +kernel
theorem dX6_says_31 : decode cX6_says 31 = .ok (.iaload, 1) := by decide +kernel
theorem dX6_says_32 : decode cX6_says 32 = .ok (.if_icmp .ge 165, 3) := by decide +kernel
theorem dX6_says_35 : decode cX6_says 35 = .ok (.aload_n 0, 1) := by decide +kernel
theorem dX6_says_36 : decode cX6_says 36 = .ok (.getfield 32, 3) := by decide +kernel
theorem dX6_says_39 : decode cX6_says 39 = .ok (.sipush 200, 3) := by decide +kernel
theorem dX6_says_42 : decode cX6_says 42 = .ok (.aload_n 0, 1) := by decide +kernel
theorem dX6_says_43 : decode cX6_says 43 = .ok (.getfield 85, 3) := by decide +kernel
theorem dX6_says_46 : decode cX6_says 46 = .ok (.imul, 1) := by decide +kernel
theorem dX6_says_47 : decode cX6_says 47 = .ok (.iload_n 3, 1) := by decide +kernel
theorem dX6_says_48 : decode cX6_says 48 = .ok (.iadd, 1) := by decide +kernel
theorem dX6_says_49 : decode cX6_says 49 = .ok (.iaload, 1) := by decide +kernel
theorem dX6_says_50 : decode cX6_says 50 = .ok (.istore 4, 2) := by decide +kernel
theorem dX6_says_52 : decode cX6_says 52 = .ok (.iload 4, 2) := by decide +kernel
theorem dX6_says_54 : decode cX6_says 54 = .ok (.ldc 134, 2) := by decide +kernel
theorem dX6_says_56 : decode cX6_says 56 = .ok (.if_icmp .ge 10, 3) := by decide +kernel
theorem dX6_says_59 : decode cX6_says 59 = .ok (.iload 4, 2) := by decide +kernel
theorem dX6_says_61 : decode cX6_says 61 = .ok (.bipush 11, 2) := by decide +kernel
theorem dX6_says_63 : decode cX6_says 63 = .ok (.if_icmp .ge 37, 3) := by decide +kernel
theorem dX6_says_66 : decode cX6_says 66 = .ok (.aload_n 0, 1) := by decide +kernel
theorem dX6_says_67 : decode cX6_says 67 = .ok (.getfield 59, 3) := by decide +kernel
theorem dX6_says_70 : decode cX6_says 70 = .ok (.iload_n 2, 1) := by decide +kernel
theorem dX6_says_71 : decode cX6_says 71 = .ok (.iload 4, 2) := by decide +kernel
theorem dX6_says_73 : decode cX6_says 73 = .ok (.bipush 11, 2) := by decide +kernel
theorem dX6_says_75 : decode cX6_says 75 = .ok (.if_icmp .ge 13, 3) := by decide +kernel
theorem dX6_says_78 : decode cX6_says 78 = .ok (.aload_n 0, 1) := by decide +kernel
theorem dX6_says_79 : decode cX6_says 79 = .ok (.getfield 62, 3) := by decide +kernel
theorem dX6_says_82 : decode cX6_says 82 = .ok (.iload 4, 2) := by decide +kernel
theorem dX6_says_84 : decode cX6_says 84 = .ok (.iaload, 1) := by decide +kernel
theorem dX6_says_85 : decode cX6_says 85 = .ok (.goto 8, 3) := by decide +kernel
theorem dX6_says_88 : decode cX6_says 88 = .ok (.iload 4, 2) := by decide +kernel
theorem dX6_says_90 : decode cX6_says 90 = .ok (.ldc 134, 2) := by decide +kernel
theorem dX6_says_92 : decode cX6_says 92 = .ok (.isub, 1) := by decide +kernel
theorem dX6_says_93 : decode cX6_says 93 = .ok (.iastore, 1) := by decide +kernel
theorem dX6_says_94 : decode cX6_says 94 = .ok (.iinc 2 1, 3) := by decide +kernel
theorem dX6_says_97 : decode cX6_says 97 = .ok (.goto 94, 3) := by decide +kernel
theorem dX6_says_100 : decode cX6_says 100 = .ok (.iload 4, 2) := by decide +kernel
theorem dX6_says_102 : decode cX6_says 102 = .ok (.bipush 13, 2) := by decide +kernel
theorem dX6_says_104 : decode cX6_says 104 = .ok (.if_icmp .ne 30, 3) := by decide +kernel
theorem dX6_says_107 : decode cX6_says 107 = .ok (.aload_n 0, 1) := by decide +kernel
theorem dX6_says_108 : decode cX6_says 108 = .ok (.getfield 59, 3) := by decide +kernel
theorem dX6_says_111 : decode cX6_says 111 = .ok (.iload_n 2, 1) := by decide +kernel
theorem dX6_says_112 : decode cX6_says 112 = .ok (.iconst 1, 1) := by decide +kernel
theorem dX6_says_113 : decode cX6_says 113 = .ok (.isub, 1) := by decide +kernel
theorem dX6_says_114 : decode cX6_says 114 = .ok (.aload_n 0, 1) := by decide +kernel
theorem dX6_says_115 : decode cX6_says 115 = .ok (.getfield 59, 3) := by decide +kernel
theorem dX6_says_118 : decode cX6_says 118 = .ok (.iload_n 2, 1) := by decide +kernel
theorem dX6_says_119 : decode cX6_says 119 = .ok (.iconst 1, 1) := by decide +kernel
theorem dX6_says_120 : decode cX6_says 120 = .ok (.isub, 1) := by decide +kernel
theorem dX6_says_121 : decode cX6_says 121 = .ok (.iaload, 1) := by decide +kernel
theorem dX6_says_122 : decode cX6_says 122 = .ok (.ifCond .ne 7, 3) := by decide +kernel
theorem dX6_says_125 : decode cX6_says 125 = .ok (.iconst 1, 1) := by decide +kernel
theorem dX6_says_126 : decode cX6_says 126 = .ok (.goto 4, 3) := by decide +kernel
theorem dX6_says_129 : decode cX6_says 129 = .ok (.iconst 0, 1) := by decide +kernel
theorem dX6_says_130 : decode cX6_says 130 = .ok (.iastore, 1) := by decide +kernel
theorem dX6_says_131 : decode cX6_says 131 = .ok (.goto 60, 3) := by decide +kernel
theorem dX6_says_134 : decode cX6_says 134 = .ok (.iload 4, 2) := by decide +kernel
theorem dX6_says_136 : decode cX6_says 136 = .ok (.bipush 19, 2) := by decide +kernel
theorem dX6_says_138 : decode cX6_says 138 = .ok (.if_icmp .ne 23, 3) := by decide +kernel
theorem dX6_says_141 : decode cX6_says 141 = .ok (.aload_n 0, 1) := by decide +kernel
theorem dX6_says_142 : decode cX6_says 142 = .ok (.getfield 59, 3) := by decide +kernel
theorem dX6_says_145 : decode cX6_says 145 = .ok (.iload_n 2, 1) := by decide +kernel
theorem dX6_says_146 : decode cX6_says 146 = .ok (.iconst 1, 1) := by decide +kernel
theorem dX6_says_147 : decode cX6_says 147 = .ok (.isub, 1) := by decide +kernel
theorem dX6_says_148 : decode cX6_says 148 = .ok (.aload_n 0, 1) := by decide +kernel
theorem dX6_says_149 : decode cX6_says 149 = .ok (.getfield 59, 3) := by decide +kernel
theorem dX6_says_152 : decode cX6_says 152 = .ok (.iload_n 2, 1) := by decide +kernel
theorem dX6_says_153 : decode cX6_says 153 = .ok (.iconst 1, 1) := by decide +kernel
theorem dX6_says_154 : decode cX6_says 154 = .ok (.isub, 1) := by decide +kernel
theorem dX6_says_155 : decode cX6_says 155 = .ok (.iaload, 1) := by decide +kernel
theorem dX6_says_156 : decode cX6_says 156 = .ok (.ineg, 1) := by decide +kernel
theorem dX6_says_157 : decode cX6_says 157 = .ok (.iastore, 1) := by decide +kernel
theorem dX6_says_158 : decode cX6_says 158 = .ok (.goto 33, 3) := by decide +kernel
theorem dX6_says_161 : decode cX6_says 161 = .ok (.iinc 2 (-1), 3) := by decide +kernel
theorem dX6_says_164 : decode cX6_says 164 = .ok (.aload_n 0, 1) := by decide +kernel
theorem dX6_says_165 : decode cX6_says 165 = .ok (.getfield 59, 3) := by decide +kernel
theorem dX6_says_168 : decode cX6_says 168 = .ok (.iload_n 2, 1) := by decide +kernel
theorem dX6_says_169 : decode cX6_says 169 = .ok (.iconst 1, 1) := by decide +kernel
theorem dX6_says_170 : decode cX6_says 170 = .ok (.isub, 1) := by decide +kernel
theorem dX6_says_171 : decode cX6_says 171 = .ok (.iload 4, 2) := by decide +kernel
theorem dX6_says_173 : decode cX6_says 173 = .ok (.aload_n 0, 1) := by decide +kernel
theorem dX6_says_174 : decode cX6_says 174 = .ok (.getfield 59, 3) := by decide +kernel
theorem dX6_says_177 : decode cX6_says 177 = .ok (.iload_n 2, 1) := by decide +kernel
theorem dX6_says_178 : decode cX6_says 178 = .ok (.iconst 1, 1) := by decide +kernel
theorem dX6_says_179 : decode cX6_says 179 = .ok (.isub, 1) := by decide +kernel
theorem dX6_says_180 : decode cX6_says 180 = .ok (.iaload, 1) := by decide +kernel
theorem dX6_says_181 : decode cX6_says 181 = .ok (.aload_n 0, 1) := by decide +kernel
theorem dX6_says_182 : decode cX6_says 182 = .ok (.getfield 59, 3) := by decide +kernel
theorem dX6_says_185 : decode cX6_says 185 = .ok (.iload_n 2, 1) := by decide +kernel
theorem dX6_says_186 : decode cX6_says 186 = .ok (.iaload, 1) := by decide +kernel
theorem dX6_says_187 : decode cX6_says 187 = .ok (.invokestatic 148, 3) := by decide +kernel
theorem dX6_says_190 : decode cX6_says 190 = .ok (.iastore, 1) := by decide +kernel
theorem dX6_says_191 : decode cX6_says 191 = .ok (.iinc 3 1, 3) := by decide +kernel
theorem dX6_says_194 : decode cX6_says 194 = .ok (.goto (-178), 3) := by decide +kernel
theorem dX6_says_197 : decode cX6_says 197 = .ok (.aload_n 0, 1) := by decide +kernel
theorem dX6_says_198 : decode cX6_says 198 = .ok (.getfield 59, 3) := by decide +kernel
theorem dX6_says_201 : decode cX6_says 201 = .ok (.iconst 0, 1) := by decide +kernel
theorem dX6_says_202 : decode cX6_says 202 = .ok (.iaload, 1) := by decide +kernel
theorem dX6_says_203 : decode cX6_says 203 = .ok (.ireturn, 1) := by decide +kernel
theorem dX6_force_0 : decode cX6_force 0 = .ok (.iload_n 1, 1) := by decide +kernel
theorem dX6_force_1 : decode cX6_force 1 = .ok (.iconst 0, 1) := by decide +kernel
theorem dX6_force_2 : decode cX6_force 2 = .ok (.aload_n 0, 1) := by decide +kernel
theorem dX6_force_3 : decode cX6_force 3 = .ok (.getfield 82, 3) := by decide +kernel
theorem dX6_force_6 : decode cX6_force 6 = .ok (.iconst 1, 1) := by decide +kernel
theorem dX6_force_7 : decode cX6_force 7 = .ok (.isub, 1) := by decide +kernel
theorem dX6_force_8 : decode cX6_force 8 = .ok (.invokestatic 78, 3) := by decide +kernel
theorem dX6_force_11 : decode cX6_force 11 = .ok (.ifCond .ne 6, 3) := by decide +kernel
theorem dX6_force_14 : decode cX6_force 14 = .ok (.bipush (-2), 2) := by decide +kernel
theorem dX6_force_16 : decode cX6_force 16 = .ok (.ireturn, 1) := by decide +kernel
theorem dX6_force_17 : decode cX6_force 17 = .ok (.aload_n 0, 1) := by decide +kernel
theorem dX6_force_18 : decode cX6_force 18 = .ok (.getfield 85, 3) := by decide +kernel
theorem dX6_force_21 : decode cX6_force 21 = .ok (.istore_n 2, 1) := by decide +kernel
theorem dX6_force_22 : decode cX6_force 22 = .ok (.aload_n 0, 1) := by decide +kernel
theorem dX6_force_23 : decode cX6_force 23 = .ok (.iload_n 1, 1) := by decide +kernel
theorem dX6_force_24 : decode cX6_force 24 = .ok (.putfield 85, 3) := by decide +kernel
theorem dX6_force_27 : decode cX6_force 27 = .ok (.iload_n 2, 1) := by decide +kernel
theorem dX6_force_28 : decode cX6_force 28 = .ok (.ireturn, 1) := by decide +kernel
theorem dX6_asksOf_0 : decode cX6_asksOf 0 = .ok (.aload_n 0, 1) := by decide +kernel
theorem dX6_asksOf_1 : decode cX6_asksOf 1 = .ok (.getfield 62, 3) := by decide +kernel
theorem dX6_asksOf_4 : decode cX6_asksOf 4 = .ok (.iconst 0, 1) := by decide +kernel
theorem dX6_asksOf_5 : decode cX6_asksOf 5 = .ok (.aload_n 0, 1) := by decide +kernel
theorem dX6_asksOf_6 : decode cX6_asksOf 6 = .ok (.getfield 7, 3) := by decide +kernel
theorem dX6_asksOf_9 : decode cX6_asksOf 9 = .ok (.bipush 6, 2) := by decide +kernel
theorem dX6_asksOf_11 : decode cX6_asksOf 11 = .ok (.iaload, 1) := by decide +kernel
theorem dX6_asksOf_12 : decode cX6_asksOf 12 = .ok (.iastore, 1) := by decide +kernel
theorem dX6_asksOf_13 : decode cX6_asksOf 13 = .ok (.aload_n 0, 1) := by decide +kernel
theorem dX6_asksOf_14 : decode cX6_asksOf 14 = .ok (.getfield 62, 3) := by decide +kernel
theorem dX6_asksOf_17 : decode cX6_asksOf 17 = .ok (.iconst 1, 1) := by decide +kernel
theorem dX6_asksOf_18 : decode cX6_asksOf 18 = .ok (.aload_n 0, 1) := by decide +kernel
theorem dX6_asksOf_19 : decode cX6_asksOf 19 = .ok (.getfield 7, 3) := by decide +kernel
theorem dX6_asksOf_22 : decode cX6_asksOf 22 = .ok (.iconst 5, 1) := by decide +kernel
theorem dX6_asksOf_23 : decode cX6_asksOf 23 = .ok (.iaload, 1) := by decide +kernel
theorem dX6_asksOf_24 : decode cX6_asksOf 24 = .ok (.iastore, 1) := by decide +kernel
theorem dX6_asksOf_25 : decode cX6_asksOf 25 = .ok (.aload_n 0, 1) := by decide +kernel
theorem dX6_asksOf_26 : decode cX6_asksOf 26 = .ok (.getfield 62, 3) := by decide +kernel
theorem dX6_asksOf_29 : decode cX6_asksOf 29 = .ok (.iconst 2, 1) := by decide +kernel
theorem dX6_asksOf_30 : decode cX6_asksOf 30 = .ok (.aload_n 0, 1) := by decide +kernel
theorem dX6_asksOf_31 : decode cX6_asksOf 31 = .ok (.getfield 7, 3) := by decide +kernel
theorem dX6_asksOf_34 : decode cX6_asksOf 34 = .ok (.iconst 0, 1) := by decide +kernel
theorem dX6_asksOf_35 : decode cX6_asksOf 35 = .ok (.iaload, 1) := by decide +kernel
theorem dX6_asksOf_36 : decode cX6_asksOf 36 = .ok (.iastore, 1) := by decide +kernel
theorem dX6_asksOf_37 : decode cX6_asksOf 37 = .ok (.aload_n 0, 1) := by decide +kernel
theorem dX6_asksOf_38 : decode cX6_asksOf 38 = .ok (.getfield 62, 3) := by decide +kernel
theorem dX6_asksOf_41 : decode cX6_asksOf 41 = .ok (.iconst 3, 1) := by decide +kernel
theorem dX6_asksOf_42 : decode cX6_asksOf 42 = .ok (.aload_n 0, 1) := by decide +kernel
theorem dX6_asksOf_43 : decode cX6_asksOf 43 = .ok (.getfield 7, 3) := by decide +kernel
theorem dX6_asksOf_46 : decode cX6_asksOf 46 = .ok (.iconst 1, 1) := by decide +kernel
theorem dX6_asksOf_47 : decode cX6_asksOf 47 = .ok (.iaload, 1) := by decide +kernel
theorem dX6_asksOf_48 : decode cX6_asksOf 48 = .ok (.iastore, 1) := by decide +kernel
theorem dX6_asksOf_49 : decode cX6_asksOf 49 = .ok (.aload_n 0, 1) := by decide +kernel
theorem dX6_asksOf_50 : decode cX6_asksOf 50 = .ok (.getfield 62, 3) := by decide +kernel
theorem dX6_asksOf_53 : decode cX6_asksOf 53 = .ok (.iconst 4, 1) := by decide +kernel
theorem dX6_asksOf_54 : decode cX6_asksOf 54 = .ok (.aload_n 0, 1) := by decide +kernel
theorem dX6_asksOf_55 : decode cX6_asksOf 55 = .ok (.getfield 7, 3) := by decide +kernel
theorem dX6_asksOf_58 : decode cX6_asksOf 58 = .ok (.iconst 2, 1) := by decide +kernel
theorem dX6_asksOf_59 : decode cX6_asksOf 59 = .ok (.iaload, 1) := by decide +kernel
theorem dX6_asksOf_60 : decode cX6_asksOf 60 = .ok (.iastore, 1) := by decide +kernel
theorem dX6_asksOf_61 : decode cX6_asksOf 61 = .ok (.aload_n 0, 1) := by decide +kernel
theorem dX6_asksOf_62 : decode cX6_asksOf 62 = .ok (.getfield 62, 3) := by decide +kernel
theorem dX6_asksOf_65 : decode cX6_asksOf 65 = .ok (.iconst 5, 1) := by decide +kernel
theorem dX6_asksOf_66 : decode cX6_asksOf 66 = .ok (.aload_n 0, 1) := by decide +kernel
theorem dX6_asksOf_67 : decode cX6_asksOf 67 = .ok (.getfield 7, 3) := by decide +kernel
theorem dX6_asksOf_70 : decode cX6_asksOf 70 = .ok (.iconst 3, 1) := by decide +kernel
theorem dX6_asksOf_71 : decode cX6_asksOf 71 = .ok (.iaload, 1) := by decide +kernel
theorem dX6_asksOf_72 : decode cX6_asksOf 72 = .ok (.iastore, 1) := by decide +kernel
theorem dX6_asksOf_73 : decode cX6_asksOf 73 = .ok (.aload_n 0, 1) := by decide +kernel
theorem dX6_asksOf_74 : decode cX6_asksOf 74 = .ok (.iload_n 1, 1) := by decide +kernel
theorem dX6_asksOf_75 : decode cX6_asksOf 75 = .ok (.invokevirtual 152, 3) := by decide +kernel
theorem dX6_asksOf_78 : decode cX6_asksOf 78 = .ok (.iconst 0, 1) := by decide +kernel
theorem dX6_asksOf_79 : decode cX6_asksOf 79 = .ok (.iload_n 1, 1) := by decide +kernel
theorem dX6_asksOf_80 : decode cX6_asksOf 80 = .ok (.ifCond .ne 7, 3) := by decide +kernel
theorem dX6_asksOf_83 : decode cX6_asksOf 83 = .ok (.iconst 3, 1) := by decide +kernel
theorem dX6_asksOf_84 : decode cX6_asksOf 84 = .ok (.goto 15, 3) := by decide +kernel
theorem dX6_asksOf_87 : decode cX6_asksOf 87 = .ok (.iload_n 1, 1) := by decide +kernel
theorem dX6_asksOf_88 : decode cX6_asksOf 88 = .ok (.iconst 1, 1) := by decide +kernel
theorem dX6_asksOf_89 : decode cX6_asksOf 89 = .ok (.if_icmp .ne 8, 3) := by decide +kernel
theorem dX6_asksOf_92 : decode cX6_asksOf 92 = .ok (.bipush 99, 2) := by decide +kernel
theorem dX6_asksOf_94 : decode cX6_asksOf 94 = .ok (.goto 5, 3) := by decide +kernel
theorem dX6_asksOf_97 : decode cX6_asksOf 97 = .ok (.bipush 100, 2) := by decide +kernel
theorem dX6_asksOf_99 : decode cX6_asksOf 99 = .ok (.invokestatic 155, 3) := by decide +kernel
theorem dX6_asksOf_102 : decode cX6_asksOf 102 = .ok (.ireturn, 1) := by decide +kernel
theorem dX6_asks_0 : decode cX6_asks 0 = .ok (.iload_n 1, 1) := by decide +kernel
theorem dX6_asks_1 : decode cX6_asks 1 = .ok (.iconst 0, 1) := by decide +kernel
theorem dX6_asks_2 : decode cX6_asks 2 = .ok (.iconst 2, 1) := by decide +kernel
theorem dX6_asks_3 : decode cX6_asks 3 = .ok (.invokestatic 78, 3) := by decide +kernel
theorem dX6_asks_6 : decode cX6_asks 6 = .ok (.ifCond .eq 11, 3) := by decide +kernel
theorem dX6_asks_9 : decode cX6_asks 9 = .ok (.aload_n 0, 1) := by decide +kernel
theorem dX6_asks_10 : decode cX6_asks 10 = .ok (.iload_n 1, 1) := by decide +kernel
theorem dX6_asks_11 : decode cX6_asks 11 = .ok (.invokevirtual 158, 3) := by decide +kernel
theorem dX6_asks_14 : decode cX6_asks 14 = .ok (.goto 5, 3) := by decide +kernel
theorem dX6_asks_17 : decode cX6_asks 17 = .ok (.bipush (-2), 2) := by decide +kernel
theorem dX6_asks_19 : decode cX6_asks 19 = .ok (.ireturn, 1) := by decide +kernel
theorem dX6_isSo_0 : decode cX6_isSo 0 = .ok (.iload_n 0, 1) := by decide +kernel
theorem dX6_isSo_1 : decode cX6_isSo 1 = .ok (.iconst 0, 1) := by decide +kernel
theorem dX6_isSo_2 : decode cX6_isSo 2 = .ok (.iconst 5, 1) := by decide +kernel
theorem dX6_isSo_3 : decode cX6_isSo 3 = .ok (.invokestatic 78, 3) := by decide +kernel
theorem dX6_isSo_6 : decode cX6_isSo 6 = .ok (.ifCond .eq 17, 3) := by decide +kernel
theorem dX6_isSo_9 : decode cX6_isSo 9 = .ok (.iload_n 1, 1) := by decide +kernel
theorem dX6_isSo_10 : decode cX6_isSo 10 = .ok (.iconst 0, 1) := by decide +kernel
theorem dX6_isSo_11 : decode cX6_isSo 11 = .ok (.bipush 9, 2) := by decide +kernel
theorem dX6_isSo_13 : decode cX6_isSo 13 = .ok (.invokestatic 78, 3) := by decide +kernel
theorem dX6_isSo_16 : decode cX6_isSo 16 = .ok (.ifCond .eq 7, 3) := by decide +kernel
theorem dX6_isSo_19 : decode cX6_isSo 19 = .ok (.iconst 1, 1) := by decide +kernel
theorem dX6_isSo_20 : decode cX6_isSo 20 = .ok (.goto 4, 3) := by decide +kernel
theorem dX6_isSo_23 : decode cX6_isSo 23 = .ok (.iconst 0, 1) := by decide +kernel
theorem dX6_isSo_24 : decode cX6_isSo 24 = .ok (.ireturn, 1) := by decide +kernel
theorem dX6_rate_0 : decode cX6_rate 0 = .ok (.iload_n 1, 1) := by decide +kernel
theorem dX6_rate_1 : decode cX6_rate 1 = .ok (.iload_n 3, 1) := by decide +kernel
theorem dX6_rate_2 : decode cX6_rate 2 = .ok (.invokestatic 161, 3) := by decide +kernel
theorem dX6_rate_5 : decode cX6_rate 5 = .ok (.ifCond .eq 21, 3) := by decide +kernel
theorem dX6_rate_8 : decode cX6_rate 8 = .ok (.iload_n 2, 1) := by decide +kernel
theorem dX6_rate_9 : decode cX6_rate 9 = .ok (.bipush 11, 2) := by decide +kernel
theorem dX6_rate_11 : decode cX6_rate 11 = .ok (.bipush 39, 2) := by decide +kernel
theorem dX6_rate_13 : decode cX6_rate 13 = .ok (.invokestatic 78, 3) := by decide +kernel
theorem dX6_rate_16 : decode cX6_rate 16 = .ok (.ifCond .eq 10, 3) := by decide +kernel
theorem dX6_rate_19 : decode cX6_rate 19 = .ok (.iload_n 2, 1) := by decide +kernel
theorem dX6_rate_20 : decode cX6_rate 20 = .ok (.bipush 10, 2) := by decide +kernel
theorem dX6_rate_22 : decode cX6_rate 22 = .ok (.irem, 1) := by decide +kernel
theorem dX6_rate_23 : decode cX6_rate 23 = .ok (.ifCond .ne 6, 3) := by decide +kernel
theorem dX6_rate_26 : decode cX6_rate 26 = .ok (.bipush (-2), 2) := by decide +kernel
theorem dX6_rate_28 : decode cX6_rate 28 = .ok (.ireturn, 1) := by decide +kernel
theorem dX6_rate_29 : decode cX6_rate 29 = .ok (.aload_n 0, 1) := by decide +kernel
theorem dX6_rate_30 : decode cX6_rate 30 = .ok (.getfield 75, 3) := by decide +kernel
theorem dX6_rate_33 : decode cX6_rate 33 = .ok (.iconst 5, 1) := by decide +kernel
theorem dX6_rate_34 : decode cX6_rate 34 = .ok (.if_icmp .ne 6, 3) := by decide +kernel
theorem dX6_rate_37 : decode cX6_rate 37 = .ok (.bipush (-4), 2) := by decide +kernel
theorem dX6_rate_39 : decode cX6_rate 39 = .ok (.ireturn, 1) := by decide +kernel
theorem dX6_rate_40 : decode cX6_rate 40 = .ok (.aload_n 0, 1) := by decide +kernel
theorem dX6_rate_41 : decode cX6_rate 41 = .ok (.getfield 13, 3) := by decide +kernel
theorem dX6_rate_44 : decode cX6_rate 44 = .ok (.aload_n 0, 1) := by decide +kernel
theorem dX6_rate_45 : decode cX6_rate 45 = .ok (.getfield 75, 3) := by decide +kernel
theorem dX6_rate_48 : decode cX6_rate 48 = .ok (.iload_n 1, 1) := by decide +kernel
theorem dX6_rate_49 : decode cX6_rate 49 = .ok (.iastore, 1) := by decide +kernel
theorem dX6_rate_50 : decode cX6_rate 50 = .ok (.aload_n 0, 1) := by decide +kernel
theorem dX6_rate_51 : decode cX6_rate 51 = .ok (.getfield 16, 3) := by decide +kernel
theorem dX6_rate_54 : decode cX6_rate 54 = .ok (.aload_n 0, 1) := by decide +kernel
theorem dX6_rate_55 : decode cX6_rate 55 = .ok (.getfield 75, 3) := by decide +kernel
theorem dX6_rate_58 : decode cX6_rate 58 = .ok (.iload_n 2, 1) := by decide +kernel
theorem dX6_rate_59 : decode cX6_rate 59 = .ok (.bipush 10, 2) := by decide +kernel
theorem dX6_rate_61 : decode cX6_rate 61 = .ok (.idiv, 1) := by decide +kernel
theorem dX6_rate_62 : decode cX6_rate 62 = .ok (.iastore, 1) := by decide +kernel
theorem dX6_rate_63 : decode cX6_rate 63 = .ok (.aload_n 0, 1) := by decide +kernel
theorem dX6_rate_64 : decode cX6_rate 64 = .ok (.getfield 19, 3) := by decide +kernel
theorem dX6_rate_67 : decode cX6_rate 67 = .ok (.aload_n 0, 1) := by decide +kernel
theorem dX6_rate_68 : decode cX6_rate 68 = .ok (.getfield 75, 3) := by decide +kernel
theorem dX6_rate_71 : decode cX6_rate 71 = .ok (.iload_n 2, 1) := by decide +kernel
theorem dX6_rate_72 : decode cX6_rate 72 = .ok (.bipush 10, 2) := by decide +kernel
theorem dX6_rate_74 : decode cX6_rate 74 = .ok (.irem, 1) := by decide +kernel
theorem dX6_rate_75 : decode cX6_rate 75 = .ok (.iastore, 1) := by decide +kernel
theorem dX6_rate_76 : decode cX6_rate 76 = .ok (.aload_n 0, 1) := by decide +kernel
theorem dX6_rate_77 : decode cX6_rate 77 = .ok (.getfield 22, 3) := by decide +kernel
theorem dX6_rate_80 : decode cX6_rate 80 = .ok (.aload_n 0, 1) := by decide +kernel
theorem dX6_rate_81 : decode cX6_rate 81 = .ok (.getfield 75, 3) := by decide +kernel
theorem dX6_rate_84 : decode cX6_rate 84 = .ok (.iload_n 3, 1) := by decide +kernel
theorem dX6_rate_85 : decode cX6_rate 85 = .ok (.iastore, 1) := by decide +kernel
theorem dX6_rate_86 : decode cX6_rate 86 = .ok (.aload_n 0, 1) := by decide +kernel
theorem dX6_rate_87 : decode cX6_rate 87 = .ok (.dup, 1) := by decide +kernel
theorem dX6_rate_88 : decode cX6_rate 88 = .ok (.getfield 75, 3) := by decide +kernel
theorem dX6_rate_91 : decode cX6_rate 91 = .ok (.iconst 1, 1) := by decide +kernel
theorem dX6_rate_92 : decode cX6_rate 92 = .ok (.iadd, 1) := by decide +kernel
theorem dX6_rate_93 : decode cX6_rate 93 = .ok (.putfield 75, 3) := by decide +kernel
theorem dX6_rate_96 : decode cX6_rate 96 = .ok (.aload_n 0, 1) := by decide +kernel
theorem dX6_rate_97 : decode cX6_rate 97 = .ok (.getfield 75, 3) := by decide +kernel
theorem dX6_rate_100 : decode cX6_rate 100 = .ok (.iconst 1, 1) := by decide +kernel
theorem dX6_rate_101 : decode cX6_rate 101 = .ok (.isub, 1) := by decide +kernel
theorem dX6_rate_102 : decode cX6_rate 102 = .ok (.ireturn, 1) := by decide +kernel
theorem dX6_change_0 : decode cX6_change 0 = .ok (.aload_n 0, 1) := by decide +kernel
theorem dX6_change_1 : decode cX6_change 1 = .ok (.iload_n 1, 1) := by decide +kernel
theorem dX6_change_2 : decode cX6_change 2 = .ok (.invokevirtual 165, 3) := by decide +kernel
theorem dX6_change_5 : decode cX6_change 5 = .ok (.ifCond .ne 6, 3) := by decide +kernel
theorem dX6_change_8 : decode cX6_change 8 = .ok (.bipush (-5), 2) := by decide +kernel
theorem dX6_change_10 : decode cX6_change 10 = .ok (.ireturn, 1) := by decide +kernel
theorem dX6_change_11 : decode cX6_change 11 = .ok (.iload_n 2, 1) := by decide +kernel
theorem dX6_change_12 : decode cX6_change 12 = .ok (.iload_n 3, 1) := by decide +kernel
theorem dX6_change_13 : decode cX6_change 13 = .ok (.invokestatic 161, 3) := by decide +kernel
theorem dX6_change_16 : decode cX6_change 16 = .ok (.ifCond .ne 6, 3) := by decide +kernel
theorem dX6_change_19 : decode cX6_change 19 = .ok (.bipush (-7), 2) := by decide +kernel
theorem dX6_change_21 : decode cX6_change 21 = .ok (.ireturn, 1) := by decide +kernel
theorem dX6_change_22 : decode cX6_change 22 = .ok (.aload_n 0, 1) := by decide +kernel
theorem dX6_change_23 : decode cX6_change 23 = .ok (.getfield 13, 3) := by decide +kernel
theorem dX6_change_26 : decode cX6_change 26 = .ok (.iload_n 1, 1) := by decide +kernel
theorem dX6_change_27 : decode cX6_change 27 = .ok (.iaload, 1) := by decide +kernel
theorem dX6_change_28 : decode cX6_change 28 = .ok (.istore 4, 2) := by decide +kernel
theorem dX6_change_30 : decode cX6_change 30 = .ok (.aload_n 0, 1) := by decide +kernel
theorem dX6_change_31 : decode cX6_change 31 = .ok (.getfield 13, 3) := by decide +kernel
theorem dX6_change_34 : decode cX6_change 34 = .ok (.iload_n 1, 1) := by decide +kernel
theorem dX6_change_35 : decode cX6_change 35 = .ok (.iload_n 2, 1) := by decide +kernel
theorem dX6_change_36 : decode cX6_change 36 = .ok (.iastore, 1) := by decide +kernel
theorem dX6_change_37 : decode cX6_change 37 = .ok (.aload_n 0, 1) := by decide +kernel
theorem dX6_change_38 : decode cX6_change 38 = .ok (.getfield 22, 3) := by decide +kernel
theorem dX6_change_41 : decode cX6_change 41 = .ok (.iload_n 1, 1) := by decide +kernel
theorem dX6_change_42 : decode cX6_change 42 = .ok (.iload_n 3, 1) := by decide +kernel
theorem dX6_change_43 : decode cX6_change 43 = .ok (.iastore, 1) := by decide +kernel
theorem dX6_change_44 : decode cX6_change 44 = .ok (.iload 4, 2) := by decide +kernel
theorem dX6_change_46 : decode cX6_change 46 = .ok (.ireturn, 1) := by decide +kernel
theorem dX6_takes_0 : decode cX6_takes 0 = .ok (.aload_n 0, 1) := by decide +kernel
theorem dX6_takes_1 : decode cX6_takes 1 = .ok (.getfield 13, 3) := by decide +kernel
theorem dX6_takes_4 : decode cX6_takes 4 = .ok (.iload_n 1, 1) := by decide +kernel
theorem dX6_takes_5 : decode cX6_takes 5 = .ok (.iaload, 1) := by decide +kernel
theorem dX6_takes_6 : decode cX6_takes 6 = .ok (.istore_n 2, 1) := by decide +kernel
theorem dX6_takes_7 : decode cX6_takes 7 = .ok (.aload_n 0, 1) := by decide +kernel
theorem dX6_takes_8 : decode cX6_takes 8 = .ok (.getfield 7, 3) := by decide +kernel
theorem dX6_takes_11 : decode cX6_takes 11 = .ok (.bipush 6, 2) := by decide +kernel
theorem dX6_takes_13 : decode cX6_takes 13 = .ok (.iaload, 1) := by decide +kernel
theorem dX6_takes_14 : decode cX6_takes 14 = .ok (.istore_n 3, 1) := by decide +kernel
theorem dX6_takes_15 : decode cX6_takes 15 = .ok (.iload_n 2, 1) := by decide +kernel
theorem dX6_takes_16 : decode cX6_takes 16 = .ok (.iconst 2, 1) := by decide +kernel
theorem dX6_takes_17 : decode cX6_takes 17 = .ok (.if_icmp .eq 8, 3) := by decide +kernel
theorem dX6_takes_20 : decode cX6_takes 20 = .ok (.iload_n 2, 1) := by decide +kernel
theorem dX6_takes_21 : decode cX6_takes 21 = .ok (.iconst 4, 1) := by decide +kernel
theorem dX6_takes_22 : decode cX6_takes 22 = .ok (.if_icmp .ne 33, 3) := by decide +kernel
theorem dX6_takes_25 : decode cX6_takes 25 = .ok (.iload_n 3, 1) := by decide +kernel
theorem dX6_takes_26 : decode cX6_takes 26 = .ok (.iconst 2, 1) := by decide +kernel
theorem dX6_takes_27 : decode cX6_takes 27 = .ok (.irem, 1) := by decide +kernel
theorem dX6_takes_28 : decode cX6_takes 28 = .ok (.iconst 1, 1) := by decide +kernel
theorem dX6_takes_29 : decode cX6_takes 29 = .ok (.if_icmp .ne 19, 3) := by decide +kernel
theorem dX6_takes_32 : decode cX6_takes 32 = .ok (.aload_n 0, 1) := by decide +kernel
theorem dX6_takes_33 : decode cX6_takes 33 = .ok (.getfield 19, 3) := by decide +kernel
theorem dX6_takes_36 : decode cX6_takes 36 = .ok (.iload_n 1, 1) := by decide +kernel
theorem dX6_takes_37 : decode cX6_takes 37 = .ok (.iaload, 1) := by decide +kernel
theorem dX6_takes_38 : decode cX6_takes 38 = .ok (.aload_n 0, 1) := by decide +kernel
theorem dX6_takes_39 : decode cX6_takes 39 = .ok (.getfield 22, 3) := by decide +kernel
theorem dX6_takes_42 : decode cX6_takes 42 = .ok (.iload_n 1, 1) := by decide +kernel
theorem dX6_takes_43 : decode cX6_takes 43 = .ok (.iaload, 1) := by decide +kernel
theorem dX6_takes_44 : decode cX6_takes 44 = .ok (.iadd, 1) := by decide +kernel
theorem dX6_takes_45 : decode cX6_takes 45 = .ok (.goto 9, 3) := by decide +kernel
theorem dX6_takes_48 : decode cX6_takes 48 = .ok (.aload_n 0, 1) := by decide +kernel
theorem dX6_takes_49 : decode cX6_takes 49 = .ok (.getfield 19, 3) := by decide +kernel
theorem dX6_takes_52 : decode cX6_takes 52 = .ok (.iload_n 1, 1) := by decide +kernel
theorem dX6_takes_53 : decode cX6_takes 53 = .ok (.iaload, 1) := by decide +kernel
theorem dX6_takes_54 : decode cX6_takes 54 = .ok (.ireturn, 1) := by decide +kernel
theorem dX6_takes_55 : decode cX6_takes 55 = .ok (.iload_n 2, 1) := by decide +kernel
theorem dX6_takes_56 : decode cX6_takes 56 = .ok (.iconst 5, 1) := by decide +kernel
theorem dX6_takes_57 : decode cX6_takes 57 = .ok (.if_icmp .ne 30, 3) := by decide +kernel
theorem dX6_takes_60 : decode cX6_takes 60 = .ok (.iload_n 3, 1) := by decide +kernel
theorem dX6_takes_61 : decode cX6_takes 61 = .ok (.aload_n 0, 1) := by decide +kernel
theorem dX6_takes_62 : decode cX6_takes 62 = .ok (.getfield 22, 3) := by decide +kernel
theorem dX6_takes_65 : decode cX6_takes 65 = .ok (.iload_n 1, 1) := by decide +kernel
theorem dX6_takes_66 : decode cX6_takes 66 = .ok (.iaload, 1) := by decide +kernel
theorem dX6_takes_67 : decode cX6_takes 67 = .ok (.if_icmp .lt 20, 3) := by decide +kernel
theorem dX6_takes_70 : decode cX6_takes 70 = .ok (.aload_n 0, 1) := by decide +kernel
theorem dX6_takes_71 : decode cX6_takes 71 = .ok (.getfield 19, 3) := by decide +kernel
theorem dX6_takes_74 : decode cX6_takes 74 = .ok (.iload_n 1, 1) := by decide +kernel
theorem dX6_takes_75 : decode cX6_takes 75 = .ok (.iaload, 1) := by decide +kernel
theorem dX6_takes_76 : decode cX6_takes 76 = .ok (.iconst 1, 1) := by decide +kernel
theorem dX6_takes_77 : decode cX6_takes 77 = .ok (.isub, 1) := by decide +kernel
theorem dX6_takes_78 : decode cX6_takes 78 = .ok (.iconst 1, 1) := by decide +kernel
theorem dX6_takes_79 : decode cX6_takes 79 = .ok (.bipush 9, 2) := by decide +kernel
theorem dX6_takes_81 : decode cX6_takes 81 = .ok (.invokestatic 155, 3) := by decide +kernel
theorem dX6_takes_84 : decode cX6_takes 84 = .ok (.goto 9, 3) := by decide +kernel
theorem dX6_takes_87 : decode cX6_takes 87 = .ok (.aload_n 0, 1) := by decide +kernel
theorem dX6_takes_88 : decode cX6_takes 88 = .ok (.getfield 19, 3) := by decide +kernel
theorem dX6_takes_91 : decode cX6_takes 91 = .ok (.iload_n 1, 1) := by decide +kernel
theorem dX6_takes_92 : decode cX6_takes 92 = .ok (.iaload, 1) := by decide +kernel
theorem dX6_takes_93 : decode cX6_takes 93 = .ok (.ireturn, 1) := by decide +kernel
theorem dX6_gives_0 : decode cX6_gives 0 = .ok (.aload_n 0, 1) := by decide +kernel
theorem dX6_gives_1 : decode cX6_gives 1 = .ok (.getfield 13, 3) := by decide +kernel
theorem dX6_gives_4 : decode cX6_gives 4 = .ok (.iload_n 1, 1) := by decide +kernel
theorem dX6_gives_5 : decode cX6_gives 5 = .ok (.iaload, 1) := by decide +kernel
theorem dX6_gives_6 : decode cX6_gives 6 = .ok (.istore_n 2, 1) := by decide +kernel
theorem dX6_gives_7 : decode cX6_gives 7 = .ok (.iload_n 2, 1) := by decide +kernel
theorem dX6_gives_8 : decode cX6_gives 8 = .ok (.iconst 3, 1) := by decide +kernel
theorem dX6_gives_9 : decode cX6_gives 9 = .ok (.if_icmp .ne 20, 3) := by decide +kernel
theorem dX6_gives_12 : decode cX6_gives 12 = .ok (.aload_n 0, 1) := by decide +kernel
theorem dX6_gives_13 : decode cX6_gives 13 = .ok (.iload_n 1, 1) := by decide +kernel
theorem dX6_gives_14 : decode cX6_gives 14 = .ok (.invokevirtual 168, 3) := by decide +kernel
theorem dX6_gives_17 : decode cX6_gives 17 = .ok (.iconst 5, 1) := by decide +kernel
theorem dX6_gives_18 : decode cX6_gives 18 = .ok (.if_icmp .le 7, 3) := by decide +kernel
theorem dX6_gives_21 : decode cX6_gives 21 = .ok (.iconst 2, 1) := by decide +kernel
theorem dX6_gives_22 : decode cX6_gives 22 = .ok (.goto 43, 3) := by decide +kernel
theorem dX6_gives_25 : decode cX6_gives 25 = .ok (.iconst 1, 1) := by decide +kernel
theorem dX6_gives_26 : decode cX6_gives 26 = .ok (.goto 39, 3) := by decide +kernel
theorem dX6_gives_29 : decode cX6_gives 29 = .ok (.iload_n 2, 1) := by decide +kernel
theorem dX6_gives_30 : decode cX6_gives 30 = .ok (.iconst 4, 1) := by decide +kernel
theorem dX6_gives_31 : decode cX6_gives 31 = .ok (.if_icmp .ne 33, 3) := by decide +kernel
theorem dX6_gives_34 : decode cX6_gives 34 = .ok (.aload_n 0, 1) := by decide +kernel
theorem dX6_gives_35 : decode cX6_gives 35 = .ok (.getfield 7, 3) := by decide +kernel
theorem dX6_gives_38 : decode cX6_gives 38 = .ok (.bipush 6, 2) := by decide +kernel
theorem dX6_gives_40 : decode cX6_gives 40 = .ok (.iaload, 1) := by decide +kernel
theorem dX6_gives_41 : decode cX6_gives 41 = .ok (.bipush 7, 2) := by decide +kernel
theorem dX6_gives_43 : decode cX6_gives 43 = .ok (.irem, 1) := by decide +kernel
theorem dX6_gives_44 : decode cX6_gives 44 = .ok (.aload_n 0, 1) := by decide +kernel
theorem dX6_gives_45 : decode cX6_gives 45 = .ok (.getfield 22, 3) := by decide +kernel
theorem dX6_gives_48 : decode cX6_gives 48 = .ok (.iload_n 1, 1) := by decide +kernel
theorem dX6_gives_49 : decode cX6_gives 49 = .ok (.iaload, 1) := by decide +kernel
theorem dX6_gives_50 : decode cX6_gives 50 = .ok (.bipush 7, 2) := by decide +kernel
theorem dX6_gives_52 : decode cX6_gives 52 = .ok (.irem, 1) := by decide +kernel
theorem dX6_gives_53 : decode cX6_gives 53 = .ok (.if_icmp .ne 7, 3) := by decide +kernel
theorem dX6_gives_56 : decode cX6_gives 56 = .ok (.iconst 2, 1) := by decide +kernel
theorem dX6_gives_57 : decode cX6_gives 57 = .ok (.goto 8, 3) := by decide +kernel
theorem dX6_gives_60 : decode cX6_gives 60 = .ok (.iconst 0, 1) := by decide +kernel
theorem dX6_gives_61 : decode cX6_gives 61 = .ok (.goto 4, 3) := by decide +kernel
theorem dX6_gives_64 : decode cX6_gives 64 = .ok (.iconst 1, 1) := by decide +kernel
theorem dX6_gives_65 : decode cX6_gives 65 = .ok (.ireturn, 1) := by decide +kernel
theorem dX6_lends_0 : decode cX6_lends 0 = .ok (.aload_n 0, 1) := by decide +kernel
theorem dX6_lends_1 : decode cX6_lends 1 = .ok (.getfield 13, 3) := by decide +kernel
theorem dX6_lends_4 : decode cX6_lends 4 = .ok (.iload_n 1, 1) := by decide +kernel
theorem dX6_lends_5 : decode cX6_lends 5 = .ok (.iaload, 1) := by decide +kernel
theorem dX6_lends_6 : decode cX6_lends 6 = .ok (.iconst 1, 1) := by decide +kernel
theorem dX6_lends_7 : decode cX6_lends 7 = .ok (.if_icmp .ne 7, 3) := by decide +kernel
theorem dX6_lends_10 : decode cX6_lends 10 = .ok (.iconst 1, 1) := by decide +kernel
theorem dX6_lends_11 : decode cX6_lends 11 = .ok (.goto 25, 3) := by decide +kernel
theorem dX6_lends_14 : decode cX6_lends 14 = .ok (.aload_n 0, 1) := by decide +kernel
theorem dX6_lends_15 : decode cX6_lends 15 = .ok (.getfield 13, 3) := by decide +kernel
theorem dX6_lends_18 : decode cX6_lends 18 = .ok (.iload_n 1, 1) := by decide +kernel
theorem dX6_lends_19 : decode cX6_lends 19 = .ok (.iaload, 1) := by decide +kernel
theorem dX6_lends_20 : decode cX6_lends 20 = .ok (.iconst 3, 1) := by decide +kernel
theorem dX6_lends_21 : decode cX6_lends 21 = .ok (.if_icmp .ne 14, 3) := by decide +kernel
theorem dX6_lends_24 : decode cX6_lends 24 = .ok (.iconst 1, 1) := by decide +kernel
theorem dX6_lends_25 : decode cX6_lends 25 = .ok (.aload_n 0, 1) := by decide +kernel
theorem dX6_lends_26 : decode cX6_lends 26 = .ok (.getfield 22, 3) := by decide +kernel
theorem dX6_lends_29 : decode cX6_lends 29 = .ok (.iload_n 1, 1) := by decide +kernel
theorem dX6_lends_30 : decode cX6_lends 30 = .ok (.iaload, 1) := by decide +kernel
theorem dX6_lends_31 : decode cX6_lends 31 = .ok (.iadd, 1) := by decide +kernel
theorem dX6_lends_32 : decode cX6_lends 32 = .ok (.goto 4, 3) := by decide +kernel
theorem dX6_lends_35 : decode cX6_lends 35 = .ok (.iconst 0, 1) := by decide +kernel
theorem dX6_lends_36 : decode cX6_lends 36 = .ok (.ireturn, 1) := by decide +kernel
theorem dX6_told_0 : decode cX6_told 0 = .ok (.aload_n 0, 1) := by decide +kernel
theorem dX6_told_1 : decode cX6_told 1 = .ok (.iload_n 1, 1) := by decide +kernel
theorem dX6_told_2 : decode cX6_told 2 = .ok (.invokevirtual 165, 3) := by decide +kernel
theorem dX6_told_5 : decode cX6_told 5 = .ok (.ifCond .ne 6, 3) := by decide +kernel
theorem dX6_told_8 : decode cX6_told 8 = .ok (.bipush (-5), 2) := by decide +kernel
theorem dX6_told_10 : decode cX6_told 10 = .ok (.ireturn, 1) := by decide +kernel
theorem dX6_told_11 : decode cX6_told 11 = .ok (.iload_n 2, 1) := by decide +kernel
theorem dX6_told_12 : decode cX6_told 12 = .ok (.tableswitch 90 0 6 #[44, 51, 58, 65, 72, 78, 84], 44) := by decide +kernel
theorem dX6_told_56 : decode cX6_told 56 = .ok (.aload_n 0, 1) := by decide +kernel
theorem dX6_told_57 : decode cX6_told 57 = .ok (.getfield 13, 3) := by decide +kernel
theorem dX6_told_60 : decode cX6_told 60 = .ok (.iload_n 1, 1) := by decide +kernel
theorem dX6_told_61 : decode cX6_told 61 = .ok (.iaload, 1) := by decide +kernel
theorem dX6_told_62 : decode cX6_told 62 = .ok (.ireturn, 1) := by decide +kernel
theorem dX6_told_63 : decode cX6_told 63 = .ok (.aload_n 0, 1) := by decide +kernel
theorem dX6_told_64 : decode cX6_told 64 = .ok (.getfield 16, 3) := by decide +kernel
theorem dX6_told_67 : decode cX6_told 67 = .ok (.iload_n 1, 1) := by decide +kernel
theorem dX6_told_68 : decode cX6_told 68 = .ok (.iaload, 1) := by decide +kernel
theorem dX6_told_69 : decode cX6_told 69 = .ok (.ireturn, 1) := by decide +kernel
theorem dX6_told_70 : decode cX6_told 70 = .ok (.aload_n 0, 1) := by decide +kernel
theorem dX6_told_71 : decode cX6_told 71 = .ok (.getfield 19, 3) := by decide +kernel
theorem dX6_told_74 : decode cX6_told 74 = .ok (.iload_n 1, 1) := by decide +kernel
theorem dX6_told_75 : decode cX6_told 75 = .ok (.iaload, 1) := by decide +kernel
theorem dX6_told_76 : decode cX6_told 76 = .ok (.ireturn, 1) := by decide +kernel
theorem dX6_told_77 : decode cX6_told 77 = .ok (.aload_n 0, 1) := by decide +kernel
theorem dX6_told_78 : decode cX6_told 78 = .ok (.getfield 22, 3) := by decide +kernel
theorem dX6_told_81 : decode cX6_told 81 = .ok (.iload_n 1, 1) := by decide +kernel
theorem dX6_told_82 : decode cX6_told 82 = .ok (.iaload, 1) := by decide +kernel
theorem dX6_told_83 : decode cX6_told 83 = .ok (.ireturn, 1) := by decide +kernel
theorem dX6_told_84 : decode cX6_told 84 = .ok (.aload_n 0, 1) := by decide +kernel
theorem dX6_told_85 : decode cX6_told 85 = .ok (.iload_n 1, 1) := by decide +kernel
theorem dX6_told_86 : decode cX6_told 86 = .ok (.invokevirtual 168, 3) := by decide +kernel
theorem dX6_told_89 : decode cX6_told 89 = .ok (.ireturn, 1) := by decide +kernel
theorem dX6_told_90 : decode cX6_told 90 = .ok (.aload_n 0, 1) := by decide +kernel
theorem dX6_told_91 : decode cX6_told 91 = .ok (.iload_n 1, 1) := by decide +kernel
theorem dX6_told_92 : decode cX6_told 92 = .ok (.invokevirtual 171, 3) := by decide +kernel
theorem dX6_told_95 : decode cX6_told 95 = .ok (.ireturn, 1) := by decide +kernel
theorem dX6_told_96 : decode cX6_told 96 = .ok (.aload_n 0, 1) := by decide +kernel
theorem dX6_told_97 : decode cX6_told 97 = .ok (.iload_n 1, 1) := by decide +kernel
theorem dX6_told_98 : decode cX6_told 98 = .ok (.invokevirtual 174, 3) := by decide +kernel
theorem dX6_told_101 : decode cX6_told 101 = .ok (.ireturn, 1) := by decide +kernel
theorem dX6_told_102 : decode cX6_told 102 = .ok (.bipush (-7), 2) := by decide +kernel
theorem dX6_told_104 : decode cX6_told 104 = .ok (.ireturn, 1) := by decide +kernel
theorem dX6_canExchange_0 : decode cX6_canExchange 0 = .ok (.aload_n 0, 1) := by decide +kernel
theorem dX6_canExchange_1 : decode cX6_canExchange 1 = .ok (.iload_n 1, 1) := by decide +kernel
theorem dX6_canExchange_2 : decode cX6_canExchange 2 = .ok (.invokevirtual 168, 3) := by decide +kernel
theorem dX6_canExchange_5 : decode cX6_canExchange 5 = .ok (.aload_n 0, 1) := by decide +kernel
theorem dX6_canExchange_6 : decode cX6_canExchange 6 = .ok (.getfield 7, 3) := by decide +kernel
theorem dX6_canExchange_9 : decode cX6_canExchange 9 = .ok (.aload_n 0, 1) := by decide +kernel
theorem dX6_canExchange_10 : decode cX6_canExchange 10 = .ok (.getfield 16, 3) := by decide +kernel
theorem dX6_canExchange_13 : decode cX6_canExchange 13 = .ok (.iload_n 1, 1) := by decide +kernel
theorem dX6_canExchange_14 : decode cX6_canExchange 14 = .ok (.iaload, 1) := by decide +kernel
theorem dX6_canExchange_15 : decode cX6_canExchange 15 = .ok (.iaload, 1) := by decide +kernel
theorem dX6_canExchange_16 : decode cX6_canExchange 16 = .ok (.isub, 1) := by decide +kernel
theorem dX6_canExchange_17 : decode cX6_canExchange 17 = .ok (.istore_n 2, 1) := by decide +kernel
theorem dX6_canExchange_18 : decode cX6_canExchange 18 = .ok (.iload_n 2, 1) := by decide +kernel
theorem dX6_canExchange_19 : decode cX6_canExchange 19 = .ok (.ifCond .le 29, 3) := by decide +kernel
theorem dX6_canExchange_22 : decode cX6_canExchange 22 = .ok (.aload_n 0, 1) := by decide +kernel
theorem dX6_canExchange_23 : decode cX6_canExchange 23 = .ok (.getfield 16, 3) := by decide +kernel
theorem dX6_canExchange_26 : decode cX6_canExchange 26 = .ok (.iload_n 1, 1) := by decide +kernel
theorem dX6_canExchange_27 : decode cX6_canExchange 27 = .ok (.iaload, 1) := by decide +kernel
theorem dX6_canExchange_28 : decode cX6_canExchange 28 = .ok (.iconst 1, 1) := by decide +kernel
theorem dX6_canExchange_29 : decode cX6_canExchange 29 = .ok (.if_icmp .ne 23, 3) := by decide +kernel
theorem dX6_canExchange_32 : decode cX6_canExchange 32 = .ok (.iload_n 2, 1) := by decide +kernel
theorem dX6_canExchange_33 : decode cX6_canExchange 33 = .ok (.aload_n 0, 1) := by decide +kernel
theorem dX6_canExchange_34 : decode cX6_canExchange 34 = .ok (.iload_n 1, 1) := by decide +kernel
theorem dX6_canExchange_35 : decode cX6_canExchange 35 = .ok (.invokevirtual 174, 3) := by decide +kernel
theorem dX6_canExchange_38 : decode cX6_canExchange 38 = .ok (.aload_n 0, 1) := by decide +kernel
theorem dX6_canExchange_39 : decode cX6_canExchange 39 = .ok (.getfield 7, 3) := by decide +kernel
theorem dX6_canExchange_42 : decode cX6_canExchange 42 = .ok (.iconst 4, 1) := by decide +kernel
theorem dX6_canExchange_43 : decode cX6_canExchange 43 = .ok (.iaload, 1) := by decide +kernel
theorem dX6_canExchange_44 : decode cX6_canExchange 44 = .ok (.isub, 1) := by decide +kernel
theorem dX6_canExchange_45 : decode cX6_canExchange 45 = .ok (.if_icmp .gt 7, 3) := by decide +kernel
theorem dX6_canExchange_48 : decode cX6_canExchange 48 = .ok (.iconst 1, 1) := by decide +kernel
theorem dX6_canExchange_49 : decode cX6_canExchange 49 = .ok (.goto 4, 3) := by decide +kernel
theorem dX6_canExchange_52 : decode cX6_canExchange 52 = .ok (.iconst 0, 1) := by decide +kernel
theorem dX6_canExchange_53 : decode cX6_canExchange 53 = .ok (.istore_n 3, 1) := by decide +kernel
theorem dX6_canExchange_54 : decode cX6_canExchange 54 = .ok (.iload_n 1, 1) := by decide +kernel
theorem dX6_canExchange_55 : decode cX6_canExchange 55 = .ok (.aload_n 0, 1) := by decide +kernel
theorem dX6_canExchange_56 : decode cX6_canExchange 56 = .ok (.getfield 25, 3) := by decide +kernel
theorem dX6_canExchange_59 : decode cX6_canExchange 59 = .ok (.if_icmp .eq 37, 3) := by decide +kernel
theorem dX6_canExchange_62 : decode cX6_canExchange 62 = .ok (.aload_n 0, 1) := by decide +kernel
theorem dX6_canExchange_63 : decode cX6_canExchange 63 = .ok (.iload_n 1, 1) := by decide +kernel
theorem dX6_canExchange_64 : decode cX6_canExchange 64 = .ok (.invokevirtual 171, 3) := by decide +kernel
theorem dX6_canExchange_67 : decode cX6_canExchange 67 = .ok (.ifCond .le 29, 3) := by decide +kernel
theorem dX6_canExchange_70 : decode cX6_canExchange 70 = .ok (.aload_n 0, 1) := by decide +kernel
theorem dX6_canExchange_71 : decode cX6_canExchange 71 = .ok (.getfield 7, 3) := by decide +kernel
theorem dX6_canExchange_74 : decode cX6_canExchange 74 = .ok (.iconst 0, 1) := by decide +kernel
theorem dX6_canExchange_75 : decode cX6_canExchange 75 = .ok (.iaload, 1) := by decide +kernel
theorem dX6_canExchange_76 : decode cX6_canExchange 76 = .ok (.aload_n 0, 1) := by decide +kernel
theorem dX6_canExchange_77 : decode cX6_canExchange 77 = .ok (.iload_n 1, 1) := by decide +kernel
theorem dX6_canExchange_78 : decode cX6_canExchange 78 = .ok (.invokevirtual 171, 3) := by decide +kernel
theorem dX6_canExchange_81 : decode cX6_canExchange 81 = .ok (.iadd, 1) := by decide +kernel
theorem dX6_canExchange_82 : decode cX6_canExchange 82 = .ok (.sipush 999, 3) := by decide +kernel
theorem dX6_canExchange_85 : decode cX6_canExchange 85 = .ok (.if_icmp .gt 11, 3) := by decide +kernel
theorem dX6_canExchange_88 : decode cX6_canExchange 88 = .ok (.iload_n 3, 1) := by decide +kernel
theorem dX6_canExchange_89 : decode cX6_canExchange 89 = .ok (.ifCond .eq 7, 3) := by decide +kernel
theorem dX6_canExchange_92 : decode cX6_canExchange 92 = .ok (.iconst 1, 1) := by decide +kernel
theorem dX6_canExchange_93 : decode cX6_canExchange 93 = .ok (.goto 4, 3) := by decide +kernel
theorem dX6_canExchange_96 : decode cX6_canExchange 96 = .ok (.iconst 0, 1) := by decide +kernel
theorem dX6_canExchange_97 : decode cX6_canExchange 97 = .ok (.ireturn, 1) := by decide +kernel
theorem dX6_canMove_0 : decode cX6_canMove 0 = .ok (.iload_n 1, 1) := by decide +kernel
theorem dX6_canMove_1 : decode cX6_canMove 1 = .ok (.ifCond .ne 32, 3) := by decide +kernel
theorem dX6_canMove_4 : decode cX6_canMove 4 = .ok (.aload_n 0, 1) := by decide +kernel
theorem dX6_canMove_5 : decode cX6_canMove 5 = .ok (.getfield 7, 3) := by decide +kernel
theorem dX6_canMove_8 : decode cX6_canMove 8 = .ok (.iconst 0, 1) := by decide +kernel
theorem dX6_canMove_9 : decode cX6_canMove 9 = .ok (.iaload, 1) := by decide +kernel
theorem dX6_canMove_10 : decode cX6_canMove 10 = .ok (.ifCond .le 19, 3) := by decide +kernel
theorem dX6_canMove_13 : decode cX6_canMove 13 = .ok (.aload_n 0, 1) := by decide +kernel
theorem dX6_canMove_14 : decode cX6_canMove 14 = .ok (.getfield 7, 3) := by decide +kernel
theorem dX6_canMove_17 : decode cX6_canMove 17 = .ok (.iconst 5, 1) := by decide +kernel
theorem dX6_canMove_18 : decode cX6_canMove 18 = .ok (.iaload, 1) := by decide +kernel
theorem dX6_canMove_19 : decode cX6_canMove 19 = .ok (.sipush 999, 3) := by decide +kernel
theorem dX6_canMove_22 : decode cX6_canMove 22 = .ok (.if_icmp .ge 7, 3) := by decide +kernel
theorem dX6_canMove_25 : decode cX6_canMove 25 = .ok (.iconst 1, 1) := by decide +kernel
theorem dX6_canMove_26 : decode cX6_canMove 26 = .ok (.goto 14, 3) := by decide +kernel
theorem dX6_canMove_29 : decode cX6_canMove 29 = .ok (.iconst 0, 1) := by decide +kernel
theorem dX6_canMove_30 : decode cX6_canMove 30 = .ok (.goto 10, 3) := by decide +kernel
theorem dX6_canMove_33 : decode cX6_canMove 33 = .ok (.aload_n 0, 1) := by decide +kernel
theorem dX6_canMove_34 : decode cX6_canMove 34 = .ok (.iload_n 1, 1) := by decide +kernel
theorem dX6_canMove_35 : decode cX6_canMove 35 = .ok (.iconst 1, 1) := by decide +kernel
theorem dX6_canMove_36 : decode cX6_canMove 36 = .ok (.isub, 1) := by decide +kernel
theorem dX6_canMove_37 : decode cX6_canMove 37 = .ok (.invokevirtual 177, 3) := by decide +kernel
theorem dX6_canMove_40 : decode cX6_canMove 40 = .ok (.ireturn, 1) := by decide +kernel
theorem dX6_drinks_0 : decode cX6_drinks 0 = .ok (.aload_n 0, 1) := by decide +kernel
theorem dX6_drinks_1 : decode cX6_drinks 1 = .ok (.iconst 0, 1) := by decide +kernel
theorem dX6_drinks_2 : decode cX6_drinks 2 = .ok (.invokevirtual 158, 3) := by decide +kernel
theorem dX6_drinks_5 : decode cX6_drinks 5 = .ok (.istore_n 1, 1) := by decide +kernel
theorem dX6_drinks_6 : decode cX6_drinks 6 = .ok (.iload_n 1, 1) := by decide +kernel
theorem dX6_drinks_7 : decode cX6_drinks 7 = .ok (.aload_n 0, 1) := by decide +kernel
theorem dX6_drinks_8 : decode cX6_drinks 8 = .ok (.getfield 7, 3) := by decide +kernel
theorem dX6_drinks_11 : decode cX6_drinks 11 = .ok (.iconst 4, 1) := by decide +kernel
theorem dX6_drinks_12 : decode cX6_drinks 12 = .ok (.iaload, 1) := by decide +kernel
theorem dX6_drinks_13 : decode cX6_drinks 13 = .ok (.if_icmp .ge 7, 3) := by decide +kernel
theorem dX6_drinks_16 : decode cX6_drinks 16 = .ok (.iload_n 1, 1) := by decide +kernel
theorem dX6_drinks_17 : decode cX6_drinks 17 = .ok (.goto 9, 3) := by decide +kernel
theorem dX6_drinks_20 : decode cX6_drinks 20 = .ok (.aload_n 0, 1) := by decide +kernel
theorem dX6_drinks_21 : decode cX6_drinks 21 = .ok (.getfield 7, 3) := by decide +kernel
theorem dX6_drinks_24 : decode cX6_drinks 24 = .ok (.iconst 4, 1) := by decide +kernel
theorem dX6_drinks_25 : decode cX6_drinks 25 = .ok (.iaload, 1) := by decide +kernel
theorem dX6_drinks_26 : decode cX6_drinks 26 = .ok (.istore_n 2, 1) := by decide +kernel
theorem dX6_drinks_27 : decode cX6_drinks 27 = .ok (.aload_n 0, 1) := by decide +kernel
theorem dX6_drinks_28 : decode cX6_drinks 28 = .ok (.getfield 7, 3) := by decide +kernel
theorem dX6_drinks_31 : decode cX6_drinks 31 = .ok (.iconst 0, 1) := by decide +kernel
theorem dX6_drinks_32 : decode cX6_drinks 32 = .ok (.dup2, 1) := by decide +kernel
theorem dX6_drinks_33 : decode cX6_drinks 33 = .ok (.iaload, 1) := by decide +kernel
theorem dX6_drinks_34 : decode cX6_drinks 34 = .ok (.iconst 1, 1) := by decide +kernel
theorem dX6_drinks_35 : decode cX6_drinks 35 = .ok (.isub, 1) := by decide +kernel
theorem dX6_drinks_36 : decode cX6_drinks 36 = .ok (.iastore, 1) := by decide +kernel
theorem dX6_drinks_37 : decode cX6_drinks 37 = .ok (.aload_n 0, 1) := by decide +kernel
theorem dX6_drinks_38 : decode cX6_drinks 38 = .ok (.getfield 7, 3) := by decide +kernel
theorem dX6_drinks_41 : decode cX6_drinks 41 = .ok (.iconst 5, 1) := by decide +kernel
theorem dX6_drinks_42 : decode cX6_drinks 42 = .ok (.dup2, 1) := by decide +kernel
theorem dX6_drinks_43 : decode cX6_drinks 43 = .ok (.iaload, 1) := by decide +kernel
theorem dX6_drinks_44 : decode cX6_drinks 44 = .ok (.iconst 1, 1) := by decide +kernel
theorem dX6_drinks_45 : decode cX6_drinks 45 = .ok (.iadd, 1) := by decide +kernel
theorem dX6_drinks_46 : decode cX6_drinks 46 = .ok (.iastore, 1) := by decide +kernel
theorem dX6_drinks_47 : decode cX6_drinks 47 = .ok (.aload_n 0, 1) := by decide +kernel
theorem dX6_drinks_48 : decode cX6_drinks 48 = .ok (.getfield 7, 3) := by decide +kernel
theorem dX6_drinks_51 : decode cX6_drinks 51 = .ok (.iconst 4, 1) := by decide +kernel
theorem dX6_drinks_52 : decode cX6_drinks 52 = .ok (.dup2, 1) := by decide +kernel
theorem dX6_drinks_53 : decode cX6_drinks 53 = .ok (.iaload, 1) := by decide +kernel
theorem dX6_drinks_54 : decode cX6_drinks 54 = .ok (.iload_n 2, 1) := by decide +kernel
theorem dX6_drinks_55 : decode cX6_drinks 55 = .ok (.isub, 1) := by decide +kernel
theorem dX6_drinks_56 : decode cX6_drinks 56 = .ok (.iastore, 1) := by decide +kernel
theorem dX6_drinks_57 : decode cX6_drinks 57 = .ok (.aload_n 0, 1) := by decide +kernel
theorem dX6_drinks_58 : decode cX6_drinks 58 = .ok (.getfield 7, 3) := by decide +kernel
theorem dX6_drinks_61 : decode cX6_drinks 61 = .ok (.iconst 1, 1) := by decide +kernel
theorem dX6_drinks_62 : decode cX6_drinks 62 = .ok (.aload_n 0, 1) := by decide +kernel
theorem dX6_drinks_63 : decode cX6_drinks 63 = .ok (.getfield 7, 3) := by decide +kernel
theorem dX6_drinks_66 : decode cX6_drinks 66 = .ok (.iconst 1, 1) := by decide +kernel
theorem dX6_drinks_67 : decode cX6_drinks 67 = .ok (.iaload, 1) := by decide +kernel
theorem dX6_drinks_68 : decode cX6_drinks 68 = .ok (.iload_n 1, 1) := by decide +kernel
theorem dX6_drinks_69 : decode cX6_drinks 69 = .ok (.iadd, 1) := by decide +kernel
theorem dX6_drinks_70 : decode cX6_drinks 70 = .ok (.iload_n 2, 1) := by decide +kernel
theorem dX6_drinks_71 : decode cX6_drinks 71 = .ok (.isub, 1) := by decide +kernel
theorem dX6_drinks_72 : decode cX6_drinks 72 = .ok (.iconst 0, 1) := by decide +kernel
theorem dX6_drinks_73 : decode cX6_drinks 73 = .ok (.sipush 999, 3) := by decide +kernel
theorem dX6_drinks_76 : decode cX6_drinks 76 = .ok (.invokestatic 155, 3) := by decide +kernel
theorem dX6_drinks_79 : decode cX6_drinks 79 = .ok (.iastore, 1) := by decide +kernel
theorem dX6_drinks_80 : decode cX6_drinks 80 = .ok (.aload_n 0, 1) := by decide +kernel
theorem dX6_drinks_81 : decode cX6_drinks 81 = .ok (.getfield 7, 3) := by decide +kernel
theorem dX6_drinks_84 : decode cX6_drinks 84 = .ok (.iconst 2, 1) := by decide +kernel
theorem dX6_drinks_85 : decode cX6_drinks 85 = .ok (.aload_n 0, 1) := by decide +kernel
theorem dX6_drinks_86 : decode cX6_drinks 86 = .ok (.getfield 7, 3) := by decide +kernel
theorem dX6_drinks_89 : decode cX6_drinks 89 = .ok (.iconst 2, 1) := by decide +kernel
theorem dX6_drinks_90 : decode cX6_drinks 90 = .ok (.iaload, 1) := by decide +kernel
theorem dX6_drinks_91 : decode cX6_drinks 91 = .ok (.iconst 1, 1) := by decide +kernel
theorem dX6_drinks_92 : decode cX6_drinks 92 = .ok (.iadd, 1) := by decide +kernel
theorem dX6_drinks_93 : decode cX6_drinks 93 = .ok (.iconst 0, 1) := by decide +kernel
theorem dX6_drinks_94 : decode cX6_drinks 94 = .ok (.sipush 999, 3) := by decide +kernel
theorem dX6_drinks_97 : decode cX6_drinks 97 = .ok (.invokestatic 155, 3) := by decide +kernel
theorem dX6_drinks_100 : decode cX6_drinks 100 = .ok (.iastore, 1) := by decide +kernel
theorem dX6_drinks_101 : decode cX6_drinks 101 = .ok (.aload_n 0, 1) := by decide +kernel
theorem dX6_drinks_102 : decode cX6_drinks 102 = .ok (.getfield 7, 3) := by decide +kernel
theorem dX6_drinks_105 : decode cX6_drinks 105 = .ok (.iconst 3, 1) := by decide +kernel
theorem dX6_drinks_106 : decode cX6_drinks 106 = .ok (.aload_n 0, 1) := by decide +kernel
theorem dX6_drinks_107 : decode cX6_drinks 107 = .ok (.getfield 7, 3) := by decide +kernel
theorem dX6_drinks_110 : decode cX6_drinks 110 = .ok (.iconst 3, 1) := by decide +kernel
theorem dX6_drinks_111 : decode cX6_drinks 111 = .ok (.iaload, 1) := by decide +kernel
theorem dX6_drinks_112 : decode cX6_drinks 112 = .ok (.iconst 1, 1) := by decide +kernel
theorem dX6_drinks_113 : decode cX6_drinks 113 = .ok (.iadd, 1) := by decide +kernel
theorem dX6_drinks_114 : decode cX6_drinks 114 = .ok (.iconst 0, 1) := by decide +kernel
theorem dX6_drinks_115 : decode cX6_drinks 115 = .ok (.sipush 999, 3) := by decide +kernel
theorem dX6_drinks_118 : decode cX6_drinks 118 = .ok (.invokestatic 155, 3) := by decide +kernel
theorem dX6_drinks_121 : decode cX6_drinks 121 = .ok (.iastore, 1) := by decide +kernel
theorem dX6_drinks_122 : decode cX6_drinks 122 = .ok (.return_, 1) := by decide +kernel
theorem dX6_exchanges_0 : decode cX6_exchanges 0 = .ok (.aload_n 0, 1) := by decide +kernel
theorem dX6_exchanges_1 : decode cX6_exchanges 1 = .ok (.iload_n 1, 1) := by decide +kernel
theorem dX6_exchanges_2 : decode cX6_exchanges 2 = .ok (.invokevirtual 168, 3) := by decide +kernel
theorem dX6_exchanges_5 : decode cX6_exchanges 5 = .ok (.istore_n 2, 1) := by decide +kernel
theorem dX6_exchanges_6 : decode cX6_exchanges 6 = .ok (.aload_n 0, 1) := by decide +kernel
theorem dX6_exchanges_7 : decode cX6_exchanges 7 = .ok (.getfield 7, 3) := by decide +kernel
theorem dX6_exchanges_10 : decode cX6_exchanges 10 = .ok (.aload_n 0, 1) := by decide +kernel
theorem dX6_exchanges_11 : decode cX6_exchanges 11 = .ok (.getfield 16, 3) := by decide +kernel
theorem dX6_exchanges_14 : decode cX6_exchanges 14 = .ok (.iload_n 1, 1) := by decide +kernel
theorem dX6_exchanges_15 : decode cX6_exchanges 15 = .ok (.iaload, 1) := by decide +kernel
theorem dX6_exchanges_16 : decode cX6_exchanges 16 = .ok (.iaload, 1) := by decide +kernel
theorem dX6_exchanges_17 : decode cX6_exchanges 17 = .ok (.iload_n 2, 1) := by decide +kernel
theorem dX6_exchanges_18 : decode cX6_exchanges 18 = .ok (.if_icmp .ge 17, 3) := by decide +kernel
theorem dX6_exchanges_21 : decode cX6_exchanges 21 = .ok (.aload_n 0, 1) := by decide +kernel
theorem dX6_exchanges_22 : decode cX6_exchanges 22 = .ok (.getfield 7, 3) := by decide +kernel
theorem dX6_exchanges_25 : decode cX6_exchanges 25 = .ok (.aload_n 0, 1) := by decide +kernel
theorem dX6_exchanges_26 : decode cX6_exchanges 26 = .ok (.getfield 16, 3) := by decide +kernel
theorem dX6_exchanges_29 : decode cX6_exchanges 29 = .ok (.iload_n 1, 1) := by decide +kernel
theorem dX6_exchanges_30 : decode cX6_exchanges 30 = .ok (.iaload, 1) := by decide +kernel
theorem dX6_exchanges_31 : decode cX6_exchanges 31 = .ok (.iaload, 1) := by decide +kernel
theorem dX6_exchanges_32 : decode cX6_exchanges 32 = .ok (.goto 4, 3) := by decide +kernel
theorem dX6_exchanges_35 : decode cX6_exchanges 35 = .ok (.iload_n 2, 1) := by decide +kernel
theorem dX6_exchanges_36 : decode cX6_exchanges 36 = .ok (.istore_n 3, 1) := by decide +kernel
theorem dX6_exchanges_37 : decode cX6_exchanges 37 = .ok (.aload_n 0, 1) := by decide +kernel
theorem dX6_exchanges_38 : decode cX6_exchanges 38 = .ok (.iload_n 1, 1) := by decide +kernel
theorem dX6_exchanges_39 : decode cX6_exchanges 39 = .ok (.invokevirtual 171, 3) := by decide +kernel
theorem dX6_exchanges_42 : decode cX6_exchanges 42 = .ok (.istore 4, 2) := by decide +kernel
theorem dX6_exchanges_44 : decode cX6_exchanges 44 = .ok (.aload_n 0, 1) := by decide +kernel
theorem dX6_exchanges_45 : decode cX6_exchanges 45 = .ok (.getfield 7, 3) := by decide +kernel
theorem dX6_exchanges_48 : decode cX6_exchanges 48 = .ok (.iconst 4, 1) := by decide +kernel
theorem dX6_exchanges_49 : decode cX6_exchanges 49 = .ok (.dup2, 1) := by decide +kernel
theorem dX6_exchanges_50 : decode cX6_exchanges 50 = .ok (.iaload, 1) := by decide +kernel
theorem dX6_exchanges_51 : decode cX6_exchanges 51 = .ok (.iload_n 2, 1) := by decide +kernel
theorem dX6_exchanges_52 : decode cX6_exchanges 52 = .ok (.iload_n 3, 1) := by decide +kernel
theorem dX6_exchanges_53 : decode cX6_exchanges 53 = .ok (.isub, 1) := by decide +kernel
theorem dX6_exchanges_54 : decode cX6_exchanges 54 = .ok (.iadd, 1) := by decide +kernel
theorem dX6_exchanges_55 : decode cX6_exchanges 55 = .ok (.iastore, 1) := by decide +kernel
theorem dX6_exchanges_56 : decode cX6_exchanges 56 = .ok (.aload_n 0, 1) := by decide +kernel
theorem dX6_exchanges_57 : decode cX6_exchanges 57 = .ok (.getfield 7, 3) := by decide +kernel
theorem dX6_exchanges_60 : decode cX6_exchanges 60 = .ok (.aload_n 0, 1) := by decide +kernel
theorem dX6_exchanges_61 : decode cX6_exchanges 61 = .ok (.getfield 16, 3) := by decide +kernel
theorem dX6_exchanges_64 : decode cX6_exchanges 64 = .ok (.iload_n 1, 1) := by decide +kernel
theorem dX6_exchanges_65 : decode cX6_exchanges 65 = .ok (.iaload, 1) := by decide +kernel
theorem dX6_exchanges_66 : decode cX6_exchanges 66 = .ok (.dup2, 1) := by decide +kernel
theorem dX6_exchanges_67 : decode cX6_exchanges 67 = .ok (.iaload, 1) := by decide +kernel
theorem dX6_exchanges_68 : decode cX6_exchanges 68 = .ok (.iload_n 3, 1) := by decide +kernel
theorem dX6_exchanges_69 : decode cX6_exchanges 69 = .ok (.isub, 1) := by decide +kernel
theorem dX6_exchanges_70 : decode cX6_exchanges 70 = .ok (.iastore, 1) := by decide +kernel
theorem dX6_exchanges_71 : decode cX6_exchanges 71 = .ok (.aload_n 0, 1) := by decide +kernel
theorem dX6_exchanges_72 : decode cX6_exchanges 72 = .ok (.getfield 7, 3) := by decide +kernel
theorem dX6_exchanges_75 : decode cX6_exchanges 75 = .ok (.iconst 0, 1) := by decide +kernel
theorem dX6_exchanges_76 : decode cX6_exchanges 76 = .ok (.dup2, 1) := by decide +kernel
theorem dX6_exchanges_77 : decode cX6_exchanges 77 = .ok (.iaload, 1) := by decide +kernel
theorem dX6_exchanges_78 : decode cX6_exchanges 78 = .ok (.iload 4, 2) := by decide +kernel
theorem dX6_exchanges_80 : decode cX6_exchanges 80 = .ok (.iadd, 1) := by decide +kernel
theorem dX6_exchanges_81 : decode cX6_exchanges 81 = .ok (.iastore, 1) := by decide +kernel
theorem dX6_exchanges_82 : decode cX6_exchanges 82 = .ok (.return_, 1) := by decide +kernel
theorem dX6_goes_0 : decode cX6_goes 0 = .ok (.iload_n 1, 1) := by decide +kernel
theorem dX6_goes_1 : decode cX6_goes 1 = .ok (.ifCond .ne 10, 3) := by decide +kernel
theorem dX6_goes_4 : decode cX6_goes 4 = .ok (.aload_n 0, 1) := by decide +kernel
theorem dX6_goes_5 : decode cX6_goes 5 = .ok (.invokevirtual 180, 3) := by decide +kernel
theorem dX6_goes_8 : decode cX6_goes 8 = .ok (.goto 10, 3) := by decide +kernel
theorem dX6_goes_11 : decode cX6_goes 11 = .ok (.aload_n 0, 1) := by decide +kernel
theorem dX6_goes_12 : decode cX6_goes 12 = .ok (.iload_n 1, 1) := by decide +kernel
theorem dX6_goes_13 : decode cX6_goes 13 = .ok (.iconst 1, 1) := by decide +kernel
theorem dX6_goes_14 : decode cX6_goes 14 = .ok (.isub, 1) := by decide +kernel
theorem dX6_goes_15 : decode cX6_goes 15 = .ok (.invokevirtual 183, 3) := by decide +kernel
theorem dX6_goes_18 : decode cX6_goes 18 = .ok (.return_, 1) := by decide +kernel
theorem dX6_can_0 : decode cX6_can 0 = .ok (.aload_n 0, 1) := by decide +kernel
theorem dX6_can_1 : decode cX6_can 1 = .ok (.iload_n 1, 1) := by decide +kernel
theorem dX6_can_2 : decode cX6_can 2 = .ok (.invokevirtual 186, 3) := by decide +kernel
theorem dX6_can_5 : decode cX6_can 5 = .ok (.ifCond .ne 8, 3) := by decide +kernel
theorem dX6_can_8 : decode cX6_can 8 = .ok (.bipush (-5), 2) := by decide +kernel
theorem dX6_can_10 : decode cX6_can 10 = .ok (.goto 16, 3) := by decide +kernel
theorem dX6_can_13 : decode cX6_can 13 = .ok (.aload_n 0, 1) := by decide +kernel
theorem dX6_can_14 : decode cX6_can 14 = .ok (.iload_n 1, 1) := by decide +kernel
theorem dX6_can_15 : decode cX6_can 15 = .ok (.invokevirtual 189, 3) := by decide +kernel
theorem dX6_can_18 : decode cX6_can 18 = .ok (.ifCond .eq 7, 3) := by decide +kernel
theorem dX6_can_21 : decode cX6_can 21 = .ok (.iconst 1, 1) := by decide +kernel
theorem dX6_can_22 : decode cX6_can 22 = .ok (.goto 4, 3) := by decide +kernel
theorem dX6_can_25 : decode cX6_can 25 = .ok (.iconst 0, 1) := by decide +kernel
theorem dX6_can_26 : decode cX6_can 26 = .ok (.ireturn, 1) := by decide +kernel
theorem dX6_move_0 : decode cX6_move 0 = .ok (.aload_n 0, 1) := by decide +kernel
theorem dX6_move_1 : decode cX6_move 1 = .ok (.iload_n 1, 1) := by decide +kernel
theorem dX6_move_2 : decode cX6_move 2 = .ok (.invokevirtual 186, 3) := by decide +kernel
theorem dX6_move_5 : decode cX6_move 5 = .ok (.ifCond .ne 6, 3) := by decide +kernel
theorem dX6_move_8 : decode cX6_move 8 = .ok (.bipush (-5), 2) := by decide +kernel
theorem dX6_move_10 : decode cX6_move 10 = .ok (.ireturn, 1) := by decide +kernel
theorem dX6_move_11 : decode cX6_move 11 = .ok (.aload_n 0, 1) := by decide +kernel
theorem dX6_move_12 : decode cX6_move 12 = .ok (.iload_n 1, 1) := by decide +kernel
theorem dX6_move_13 : decode cX6_move 13 = .ok (.invokevirtual 189, 3) := by decide +kernel
theorem dX6_move_16 : decode cX6_move 16 = .ok (.ifCond .ne 6, 3) := by decide +kernel
theorem dX6_move_19 : decode cX6_move 19 = .ok (.bipush (-3), 2) := by decide +kernel
theorem dX6_move_21 : decode cX6_move 21 = .ok (.ireturn, 1) := by decide +kernel
theorem dX6_move_22 : decode cX6_move 22 = .ok (.aload_n 0, 1) := by decide +kernel
theorem dX6_move_23 : decode cX6_move 23 = .ok (.iload_n 1, 1) := by decide +kernel
theorem dX6_move_24 : decode cX6_move 24 = .ok (.invokevirtual 192, 3) := by decide +kernel
theorem dX6_move_27 : decode cX6_move 27 = .ok (.aload_n 0, 1) := by decide +kernel
theorem dX6_move_28 : decode cX6_move 28 = .ok (.getfield 7, 3) := by decide +kernel
theorem dX6_move_31 : decode cX6_move 31 = .ok (.iconst 5, 1) := by decide +kernel
theorem dX6_move_32 : decode cX6_move 32 = .ok (.iaload, 1) := by decide +kernel
theorem dX6_move_33 : decode cX6_move 33 = .ok (.ireturn, 1) := by decide +kernel
theorem dX6_greedy_0 : decode cX6_greedy 0 = .ok (.iconst 0, 1) := by decide +kernel
theorem dX6_greedy_1 : decode cX6_greedy 1 = .ok (.istore_n 1, 1) := by decide +kernel
theorem dX6_greedy_2 : decode cX6_greedy 2 = .ok (.iload_n 1, 1) := by decide +kernel
theorem dX6_greedy_3 : decode cX6_greedy 3 = .ok (.aload_n 0, 1) := by decide +kernel
theorem dX6_greedy_4 : decode cX6_greedy 4 = .ok (.getfield 75, 3) := by decide +kernel
theorem dX6_greedy_7 : decode cX6_greedy 7 = .ok (.if_icmp .gt 19, 3) := by decide +kernel
theorem dX6_greedy_10 : decode cX6_greedy 10 = .ok (.aload_n 0, 1) := by decide +kernel
theorem dX6_greedy_11 : decode cX6_greedy 11 = .ok (.iload_n 1, 1) := by decide +kernel
theorem dX6_greedy_12 : decode cX6_greedy 12 = .ok (.invokevirtual 189, 3) := by decide +kernel
theorem dX6_greedy_15 : decode cX6_greedy 15 = .ok (.ifCond .eq 5, 3) := by decide +kernel
theorem dX6_greedy_18 : decode cX6_greedy 18 = .ok (.iload_n 1, 1) := by decide +kernel
theorem dX6_greedy_19 : decode cX6_greedy 19 = .ok (.ireturn, 1) := by decide +kernel
theorem dX6_greedy_20 : decode cX6_greedy 20 = .ok (.iinc 1 1, 3) := by decide +kernel
theorem dX6_greedy_23 : decode cX6_greedy 23 = .ok (.goto (-21), 3) := by decide +kernel
theorem dX6_greedy_26 : decode cX6_greedy 26 = .ok (.iconst (-1), 1) := by decide +kernel
theorem dX6_greedy_27 : decode cX6_greedy 27 = .ok (.ireturn, 1) := by decide +kernel
theorem dX6_goesOn_0 : decode cX6_goesOn 0 = .ok (.iconst 0, 1) := by decide +kernel
theorem dX6_goesOn_1 : decode cX6_goesOn 1 = .ok (.istore_n 2, 1) := by decide +kernel
theorem dX6_goesOn_2 : decode cX6_goesOn 2 = .ok (.iload_n 1, 1) := by decide +kernel
theorem dX6_goesOn_3 : decode cX6_goesOn 3 = .ok (.ifCond .le 10, 3) := by decide +kernel
theorem dX6_goesOn_6 : decode cX6_goesOn 6 = .ok (.aload_n 0, 1) := by decide +kernel
theorem dX6_goesOn_7 : decode cX6_goesOn 7 = .ok (.invokevirtual 195, 3) := by decide +kernel
theorem dX6_goesOn_10 : decode cX6_goesOn 10 = .ok (.goto 4, 3) := by decide +kernel
theorem dX6_goesOn_13 : decode cX6_goesOn 13 = .ok (.iconst (-1), 1) := by decide +kernel
theorem dX6_goesOn_14 : decode cX6_goesOn 14 = .ok (.istore_n 3, 1) := by decide +kernel
theorem dX6_goesOn_15 : decode cX6_goesOn 15 = .ok (.iload_n 3, 1) := by decide +kernel
theorem dX6_goesOn_16 : decode cX6_goesOn 16 = .ok (.iconst (-1), 1) := by decide +kernel
theorem dX6_goesOn_17 : decode cX6_goesOn 17 = .ok (.if_icmp .eq 28, 3) := by decide +kernel
theorem dX6_goesOn_20 : decode cX6_goesOn 20 = .ok (.aload_n 0, 1) := by decide +kernel
theorem dX6_goesOn_21 : decode cX6_goesOn 21 = .ok (.iload_n 3, 1) := by decide +kernel
theorem dX6_goesOn_22 : decode cX6_goesOn 22 = .ok (.invokevirtual 192, 3) := by decide +kernel
theorem dX6_goesOn_25 : decode cX6_goesOn 25 = .ok (.iinc 2 1, 3) := by decide +kernel
theorem dX6_goesOn_28 : decode cX6_goesOn 28 = .ok (.iload_n 2, 1) := by decide +kernel
theorem dX6_goesOn_29 : decode cX6_goesOn 29 = .ok (.iload_n 1, 1) := by decide +kernel
theorem dX6_goesOn_30 : decode cX6_goesOn 30 = .ok (.if_icmp .ge 10, 3) := by decide +kernel
theorem dX6_goesOn_33 : decode cX6_goesOn 33 = .ok (.aload_n 0, 1) := by decide +kernel
theorem dX6_goesOn_34 : decode cX6_goesOn 34 = .ok (.invokevirtual 195, 3) := by decide +kernel
theorem dX6_goesOn_37 : decode cX6_goesOn 37 = .ok (.goto 4, 3) := by decide +kernel
theorem dX6_goesOn_40 : decode cX6_goesOn 40 = .ok (.iconst (-1), 1) := by decide +kernel
theorem dX6_goesOn_41 : decode cX6_goesOn 41 = .ok (.istore_n 3, 1) := by decide +kernel
theorem dX6_goesOn_42 : decode cX6_goesOn 42 = .ok (.goto (-27), 3) := by decide +kernel
theorem dX6_goesOn_45 : decode cX6_goesOn 45 = .ok (.iload_n 2, 1) := by decide +kernel
theorem dX6_goesOn_46 : decode cX6_goesOn 46 = .ok (.ireturn, 1) := by decide +kernel
theorem dX6_keeps_0 : decode cX6_keeps 0 = .ok (.iconst 0, 1) := by decide +kernel
theorem dX6_keeps_1 : decode cX6_keeps 1 = .ok (.istore_n 2, 1) := by decide +kernel
theorem dX6_keeps_2 : decode cX6_keeps 2 = .ok (.iload_n 2, 1) := by decide +kernel
theorem dX6_keeps_3 : decode cX6_keeps 3 = .ok (.bipush 7, 2) := by decide +kernel
theorem dX6_keeps_5 : decode cX6_keeps 5 = .ok (.if_icmp .ge 26, 3) := by decide +kernel
theorem dX6_keeps_8 : decode cX6_keeps 8 = .ok (.aload_n 0, 1) := by decide +kernel
theorem dX6_keeps_9 : decode cX6_keeps 9 = .ok (.getfield 65, 3) := by decide +kernel
theorem dX6_keeps_12 : decode cX6_keeps 12 = .ok (.bipush 7, 2) := by decide +kernel
theorem dX6_keeps_14 : decode cX6_keeps 14 = .ok (.iload_n 1, 1) := by decide +kernel
theorem dX6_keeps_15 : decode cX6_keeps 15 = .ok (.imul, 1) := by decide +kernel
theorem dX6_keeps_16 : decode cX6_keeps 16 = .ok (.iload_n 2, 1) := by decide +kernel
theorem dX6_keeps_17 : decode cX6_keeps 17 = .ok (.iadd, 1) := by decide +kernel
theorem dX6_keeps_18 : decode cX6_keeps 18 = .ok (.aload_n 0, 1) := by decide +kernel
theorem dX6_keeps_19 : decode cX6_keeps 19 = .ok (.getfield 7, 3) := by decide +kernel
theorem dX6_keeps_22 : decode cX6_keeps 22 = .ok (.iload_n 2, 1) := by decide +kernel
theorem dX6_keeps_23 : decode cX6_keeps 23 = .ok (.iaload, 1) := by decide +kernel
theorem dX6_keeps_24 : decode cX6_keeps 24 = .ok (.iastore, 1) := by decide +kernel
theorem dX6_keeps_25 : decode cX6_keeps 25 = .ok (.iinc 2 1, 3) := by decide +kernel
theorem dX6_keeps_28 : decode cX6_keeps 28 = .ok (.goto (-26), 3) := by decide +kernel
theorem dX6_keeps_31 : decode cX6_keeps 31 = .ok (.return_, 1) := by decide +kernel
theorem dX6_laysBack_0 : decode cX6_laysBack 0 = .ok (.iconst 0, 1) := by decide +kernel
theorem dX6_laysBack_1 : decode cX6_laysBack 1 = .ok (.istore_n 2, 1) := by decide +kernel
theorem dX6_laysBack_2 : decode cX6_laysBack 2 = .ok (.iload_n 2, 1) := by decide +kernel
theorem dX6_laysBack_3 : decode cX6_laysBack 3 = .ok (.bipush 7, 2) := by decide +kernel
theorem dX6_laysBack_5 : decode cX6_laysBack 5 = .ok (.if_icmp .ge 26, 3) := by decide +kernel
theorem dX6_laysBack_8 : decode cX6_laysBack 8 = .ok (.aload_n 0, 1) := by decide +kernel
theorem dX6_laysBack_9 : decode cX6_laysBack 9 = .ok (.getfield 7, 3) := by decide +kernel
theorem dX6_laysBack_12 : decode cX6_laysBack 12 = .ok (.iload_n 2, 1) := by decide +kernel
theorem dX6_laysBack_13 : decode cX6_laysBack 13 = .ok (.aload_n 0, 1) := by decide +kernel
theorem dX6_laysBack_14 : decode cX6_laysBack 14 = .ok (.getfield 65, 3) := by decide +kernel
theorem dX6_laysBack_17 : decode cX6_laysBack 17 = .ok (.bipush 7, 2) := by decide +kernel
theorem dX6_laysBack_19 : decode cX6_laysBack 19 = .ok (.iload_n 1, 1) := by decide +kernel
theorem dX6_laysBack_20 : decode cX6_laysBack 20 = .ok (.imul, 1) := by decide +kernel
theorem dX6_laysBack_21 : decode cX6_laysBack 21 = .ok (.iload_n 2, 1) := by decide +kernel
theorem dX6_laysBack_22 : decode cX6_laysBack 22 = .ok (.iadd, 1) := by decide +kernel
theorem dX6_laysBack_23 : decode cX6_laysBack 23 = .ok (.iaload, 1) := by decide +kernel
theorem dX6_laysBack_24 : decode cX6_laysBack 24 = .ok (.iastore, 1) := by decide +kernel
theorem dX6_laysBack_25 : decode cX6_laysBack 25 = .ok (.iinc 2 1, 3) := by decide +kernel
theorem dX6_laysBack_28 : decode cX6_laysBack 28 = .ok (.goto (-26), 3) := by decide +kernel
theorem dX6_laysBack_31 : decode cX6_laysBack 31 = .ok (.return_, 1) := by decide +kernel
theorem dX6_all_0 : decode cX6_all 0 = .ok (.iload_n 1, 1) := by decide +kernel
theorem dX6_all_1 : decode cX6_all 1 = .ok (.iconst 0, 1) := by decide +kernel
theorem dX6_all_2 : decode cX6_all 2 = .ok (.bipush 6, 2) := by decide +kernel
theorem dX6_all_4 : decode cX6_all 4 = .ok (.invokestatic 78, 3) := by decide +kernel
theorem dX6_all_7 : decode cX6_all 7 = .ok (.ifCond .ne 6, 3) := by decide +kernel
theorem dX6_all_10 : decode cX6_all 10 = .ok (.bipush (-2), 2) := by decide +kernel
theorem dX6_all_12 : decode cX6_all 12 = .ok (.ireturn, 1) := by decide +kernel
theorem dX6_all_13 : decode cX6_all 13 = .ok (.aload_n 0, 1) := by decide +kernel
theorem dX6_all_14 : decode cX6_all 14 = .ok (.iconst 0, 1) := by decide +kernel
theorem dX6_all_15 : decode cX6_all 15 = .ok (.invokevirtual 198, 3) := by decide +kernel
theorem dX6_all_18 : decode cX6_all 18 = .ok (.aload_n 0, 1) := by decide +kernel
theorem dX6_all_19 : decode cX6_all 19 = .ok (.sipush 200, 3) := by decide +kernel
theorem dX6_all_22 : decode cX6_all 22 = .ok (.invokevirtual 201, 3) := by decide +kernel
theorem dX6_all_25 : decode cX6_all 25 = .ok (.istore_n 2, 1) := by decide +kernel
theorem dX6_all_26 : decode cX6_all 26 = .ok (.iload_n 1, 1) := by decide +kernel
theorem dX6_all_27 : decode cX6_all 27 = .ok (.ifCond .ne 12, 3) := by decide +kernel
theorem dX6_all_30 : decode cX6_all 30 = .ok (.aload_n 0, 1) := by decide +kernel
theorem dX6_all_31 : decode cX6_all 31 = .ok (.getfield 7, 3) := by decide +kernel
theorem dX6_all_34 : decode cX6_all 34 = .ok (.iconst 5, 1) := by decide +kernel
theorem dX6_all_35 : decode cX6_all 35 = .ok (.iaload, 1) := by decide +kernel
theorem dX6_all_36 : decode cX6_all 36 = .ok (.goto 35, 3) := by decide +kernel
theorem dX6_all_39 : decode cX6_all 39 = .ok (.iload_n 1, 1) := by decide +kernel
theorem dX6_all_40 : decode cX6_all 40 = .ok (.iconst 1, 1) := by decide +kernel
theorem dX6_all_41 : decode cX6_all 41 = .ok (.if_icmp .ne 7, 3) := by decide +kernel
theorem dX6_all_44 : decode cX6_all 44 = .ok (.iload_n 2, 1) := by decide +kernel
theorem dX6_all_45 : decode cX6_all 45 = .ok (.goto 26, 3) := by decide +kernel
theorem dX6_all_48 : decode cX6_all 48 = .ok (.iload_n 1, 1) := by decide +kernel
theorem dX6_all_49 : decode cX6_all 49 = .ok (.bipush 6, 2) := by decide +kernel
theorem dX6_all_51 : decode cX6_all 51 = .ok (.if_icmp .ne 12, 3) := by decide +kernel
theorem dX6_all_54 : decode cX6_all 54 = .ok (.aload_n 0, 1) := by decide +kernel
theorem dX6_all_55 : decode cX6_all 55 = .ok (.getfield 7, 3) := by decide +kernel
theorem dX6_all_58 : decode cX6_all 58 = .ok (.iconst 4, 1) := by decide +kernel
theorem dX6_all_59 : decode cX6_all 59 = .ok (.iaload, 1) := by decide +kernel
theorem dX6_all_60 : decode cX6_all 60 = .ok (.goto 11, 3) := by decide +kernel
theorem dX6_all_63 : decode cX6_all 63 = .ok (.aload_n 0, 1) := by decide +kernel
theorem dX6_all_64 : decode cX6_all 64 = .ok (.getfield 7, 3) := by decide +kernel
theorem dX6_all_67 : decode cX6_all 67 = .ok (.iload_n 1, 1) := by decide +kernel
theorem dX6_all_68 : decode cX6_all 68 = .ok (.iconst 2, 1) := by decide +kernel
theorem dX6_all_69 : decode cX6_all 69 = .ok (.isub, 1) := by decide +kernel
theorem dX6_all_70 : decode cX6_all 70 = .ok (.iaload, 1) := by decide +kernel
theorem dX6_all_71 : decode cX6_all 71 = .ok (.istore_n 3, 1) := by decide +kernel
theorem dX6_all_72 : decode cX6_all 72 = .ok (.aload_n 0, 1) := by decide +kernel
theorem dX6_all_73 : decode cX6_all 73 = .ok (.iconst 0, 1) := by decide +kernel
theorem dX6_all_74 : decode cX6_all 74 = .ok (.invokevirtual 204, 3) := by decide +kernel
theorem dX6_all_77 : decode cX6_all 77 = .ok (.iload_n 3, 1) := by decide +kernel
theorem dX6_all_78 : decode cX6_all 78 = .ok (.ireturn, 1) := by decide +kernel
theorem dX6_go_0 : decode cX6_go 0 = .ok (.iload_n 1, 1) := by decide +kernel
theorem dX6_go_1 : decode cX6_go 1 = .ok (.iconst 0, 1) := by decide +kernel
theorem dX6_go_2 : decode cX6_go 2 = .ok (.sipush 200, 3) := by decide +kernel
theorem dX6_go_5 : decode cX6_go 5 = .ok (.invokestatic 78, 3) := by decide +kernel
theorem dX6_go_8 : decode cX6_go 8 = .ok (.ifCond .eq 11, 3) := by decide +kernel
theorem dX6_go_11 : decode cX6_go 11 = .ok (.aload_n 0, 1) := by decide +kernel
theorem dX6_go_12 : decode cX6_go 12 = .ok (.iload_n 1, 1) := by decide +kernel
theorem dX6_go_13 : decode cX6_go 13 = .ok (.invokevirtual 201, 3) := by decide +kernel
theorem dX6_go_16 : decode cX6_go 16 = .ok (.goto 5, 3) := by decide +kernel
theorem dX6_go_19 : decode cX6_go 19 = .ok (.bipush (-2), 2) := by decide +kernel
theorem dX6_go_21 : decode cX6_go 21 = .ok (.ireturn, 1) := by decide +kernel
theorem dX6_next__0 : decode cX6_next_ 0 = .ok (.iload_n 1, 1) := by decide +kernel
theorem dX6_next__1 : decode cX6_next_ 1 = .ok (.iconst 0, 1) := by decide +kernel
theorem dX6_next__2 : decode cX6_next_ 2 = .ok (.sipush 199, 3) := by decide +kernel
theorem dX6_next__5 : decode cX6_next_ 5 = .ok (.invokestatic 78, 3) := by decide +kernel
theorem dX6_next__8 : decode cX6_next_ 8 = .ok (.ifCond .ne 6, 3) := by decide +kernel
theorem dX6_next__11 : decode cX6_next_ 11 = .ok (.bipush (-2), 2) := by decide +kernel
theorem dX6_next__13 : decode cX6_next_ 13 = .ok (.ireturn, 1) := by decide +kernel
theorem dX6_next__14 : decode cX6_next_ 14 = .ok (.aload_n 0, 1) := by decide +kernel
theorem dX6_next__15 : decode cX6_next_ 15 = .ok (.iconst 0, 1) := by decide +kernel
theorem dX6_next__16 : decode cX6_next_ 16 = .ok (.invokevirtual 198, 3) := by decide +kernel
theorem dX6_next__19 : decode cX6_next_ 19 = .ok (.aload_n 0, 1) := by decide +kernel
theorem dX6_next__20 : decode cX6_next_ 20 = .ok (.iload_n 1, 1) := by decide +kernel
theorem dX6_next__21 : decode cX6_next_ 21 = .ok (.invokevirtual 201, 3) := by decide +kernel
theorem dX6_next__24 : decode cX6_next_ 24 = .ok (.iload_n 1, 1) := by decide +kernel
theorem dX6_next__25 : decode cX6_next_ 25 = .ok (.if_icmp .ne 10, 3) := by decide +kernel
theorem dX6_next__28 : decode cX6_next_ 28 = .ok (.aload_n 0, 1) := by decide +kernel
theorem dX6_next__29 : decode cX6_next_ 29 = .ok (.invokevirtual 195, 3) := by decide +kernel
theorem dX6_next__32 : decode cX6_next_ 32 = .ok (.goto 4, 3) := by decide +kernel
theorem dX6_next__35 : decode cX6_next_ 35 = .ok (.iconst (-1), 1) := by decide +kernel
theorem dX6_next__36 : decode cX6_next_ 36 = .ok (.istore_n 2, 1) := by decide +kernel
theorem dX6_next__37 : decode cX6_next_ 37 = .ok (.aload_n 0, 1) := by decide +kernel
theorem dX6_next__38 : decode cX6_next_ 38 = .ok (.iconst 0, 1) := by decide +kernel
theorem dX6_next__39 : decode cX6_next_ 39 = .ok (.invokevirtual 204, 3) := by decide +kernel
theorem dX6_next__42 : decode cX6_next_ 42 = .ok (.iload_n 2, 1) := by decide +kernel
theorem dX6_next__43 : decode cX6_next_ 43 = .ok (.ireturn, 1) := by decide +kernel
theorem dX6_rows_0 : decode cX6_rows 0 = .ok (.iload_n 3, 1) := by decide +kernel
theorem dX6_rows_1 : decode cX6_rows 1 = .ok (.aload_n 0, 1) := by decide +kernel
theorem dX6_rows_2 : decode cX6_rows 2 = .ok (.getfield 207, 3) := by decide +kernel
theorem dX6_rows_5 : decode cX6_rows 5 = .ok (.if_icmp .le 14, 3) := by decide +kernel
theorem dX6_rows_8 : decode cX6_rows 8 = .ok (.aload_n 0, 1) := by decide +kernel
theorem dX6_rows_9 : decode cX6_rows 9 = .ok (.iload_n 3, 1) := by decide +kernel
theorem dX6_rows_10 : decode cX6_rows 10 = .ok (.putfield 207, 3) := by decide +kernel
theorem dX6_rows_13 : decode cX6_rows 13 = .ok (.aload_n 0, 1) := by decide +kernel
theorem dX6_rows_14 : decode cX6_rows 14 = .ok (.iload 4, 2) := by decide +kernel
theorem dX6_rows_16 : decode cX6_rows 16 = .ok (.putfield 210, 3) := by decide +kernel
theorem dX6_rows_19 : decode cX6_rows 19 = .ok (.iload_n 1, 1) := by decide +kernel
theorem dX6_rows_20 : decode cX6_rows 20 = .ok (.iload_n 2, 1) := by decide +kernel
theorem dX6_rows_21 : decode cX6_rows 21 = .ok (.if_icmp .ne 4, 3) := by decide +kernel
theorem dX6_rows_24 : decode cX6_rows 24 = .ok (.return_, 1) := by decide +kernel
theorem dX6_rows_25 : decode cX6_rows 25 = .ok (.aload_n 0, 1) := by decide +kernel
theorem dX6_rows_26 : decode cX6_rows 26 = .ok (.iload_n 1, 1) := by decide +kernel
theorem dX6_rows_27 : decode cX6_rows 27 = .ok (.invokevirtual 198, 3) := by decide +kernel
theorem dX6_rows_30 : decode cX6_rows 30 = .ok (.iconst 0, 1) := by decide +kernel
theorem dX6_rows_31 : decode cX6_rows 31 = .ok (.istore 5, 2) := by decide +kernel
theorem dX6_rows_33 : decode cX6_rows 33 = .ok (.iload 5, 2) := by decide +kernel
theorem dX6_rows_35 : decode cX6_rows 35 = .ok (.aload_n 0, 1) := by decide +kernel
theorem dX6_rows_36 : decode cX6_rows 36 = .ok (.getfield 75, 3) := by decide +kernel
theorem dX6_rows_39 : decode cX6_rows 39 = .ok (.if_icmp .gt 67, 3) := by decide +kernel
theorem dX6_rows_42 : decode cX6_rows 42 = .ok (.aload_n 0, 1) := by decide +kernel
theorem dX6_rows_43 : decode cX6_rows 43 = .ok (.iload 5, 2) := by decide +kernel
theorem dX6_rows_45 : decode cX6_rows 45 = .ok (.invokevirtual 189, 3) := by decide +kernel
theorem dX6_rows_48 : decode cX6_rows 48 = .ok (.ifCond .eq 52, 3) := by decide +kernel
theorem dX6_rows_51 : decode cX6_rows 51 = .ok (.iload 5, 2) := by decide +kernel
theorem dX6_rows_53 : decode cX6_rows 53 = .ok (.ifCond .ne 11, 3) := by decide +kernel
theorem dX6_rows_56 : decode cX6_rows 56 = .ok (.aload_n 0, 1) := by decide +kernel
theorem dX6_rows_57 : decode cX6_rows 57 = .ok (.iconst 1, 1) := by decide +kernel
theorem dX6_rows_58 : decode cX6_rows 58 = .ok (.invokevirtual 158, 3) := by decide +kernel
theorem dX6_rows_61 : decode cX6_rows 61 = .ok (.goto 4, 3) := by decide +kernel
theorem dX6_rows_64 : decode cX6_rows 64 = .ok (.iconst 0, 1) := by decide +kernel
theorem dX6_rows_65 : decode cX6_rows 65 = .ok (.istore 6, 2) := by decide +kernel
theorem dX6_rows_67 : decode cX6_rows 67 = .ok (.aload_n 0, 1) := by decide +kernel
theorem dX6_rows_68 : decode cX6_rows 68 = .ok (.iload 5, 2) := by decide +kernel
theorem dX6_rows_70 : decode cX6_rows 70 = .ok (.invokevirtual 192, 3) := by decide +kernel
theorem dX6_rows_73 : decode cX6_rows 73 = .ok (.aload_n 0, 1) := by decide +kernel
theorem dX6_rows_74 : decode cX6_rows 74 = .ok (.iload_n 1, 1) := by decide +kernel
theorem dX6_rows_75 : decode cX6_rows 75 = .ok (.iconst 1, 1) := by decide +kernel
theorem dX6_rows_76 : decode cX6_rows 76 = .ok (.iadd, 1) := by decide +kernel
theorem dX6_rows_77 : decode cX6_rows 77 = .ok (.iload_n 2, 1) := by decide +kernel
theorem dX6_rows_78 : decode cX6_rows 78 = .ok (.iload_n 3, 1) := by decide +kernel
theorem dX6_rows_79 : decode cX6_rows 79 = .ok (.iload 6, 2) := by decide +kernel
theorem dX6_rows_81 : decode cX6_rows 81 = .ok (.iadd, 1) := by decide +kernel
theorem dX6_rows_82 : decode cX6_rows 82 = .ok (.bipush 10, 2) := by decide +kernel
theorem dX6_rows_84 : decode cX6_rows 84 = .ok (.iload 4, 2) := by decide +kernel
theorem dX6_rows_86 : decode cX6_rows 86 = .ok (.imul, 1) := by decide +kernel
theorem dX6_rows_87 : decode cX6_rows 87 = .ok (.iload 5, 2) := by decide +kernel
theorem dX6_rows_89 : decode cX6_rows 89 = .ok (.iadd, 1) := by decide +kernel
theorem dX6_rows_90 : decode cX6_rows 90 = .ok (.iconst 1, 1) := by decide +kernel
theorem dX6_rows_91 : decode cX6_rows 91 = .ok (.iadd, 1) := by decide +kernel
theorem dX6_rows_92 : decode cX6_rows 92 = .ok (.invokevirtual 213, 3) := by decide +kernel
theorem dX6_rows_95 : decode cX6_rows 95 = .ok (.aload_n 0, 1) := by decide +kernel
theorem dX6_rows_96 : decode cX6_rows 96 = .ok (.iload_n 1, 1) := by decide +kernel
theorem dX6_rows_97 : decode cX6_rows 97 = .ok (.invokevirtual 204, 3) := by decide +kernel
theorem dX6_rows_100 : decode cX6_rows 100 = .ok (.iinc 5 1, 3) := by decide +kernel
theorem dX6_rows_103 : decode cX6_rows 103 = .ok (.goto (-70), 3) := by decide +kernel
theorem dX6_rows_106 : decode cX6_rows 106 = .ok (.return_, 1) := by decide +kernel
theorem dX6_best_0 : decode cX6_best 0 = .ok (.iload_n 1, 1) := by decide +kernel
theorem dX6_best_1 : decode cX6_best 1 = .ok (.iconst 0, 1) := by decide +kernel
theorem dX6_best_2 : decode cX6_best 2 = .ok (.bipush 6, 2) := by decide +kernel
theorem dX6_best_4 : decode cX6_best 4 = .ok (.invokestatic 78, 3) := by decide +kernel
theorem dX6_best_7 : decode cX6_best 7 = .ok (.ifCond .eq 12, 3) := by decide +kernel
theorem dX6_best_10 : decode cX6_best 10 = .ok (.iload_n 2, 1) := by decide +kernel
theorem dX6_best_11 : decode cX6_best 11 = .ok (.iconst 0, 1) := by decide +kernel
theorem dX6_best_12 : decode cX6_best 12 = .ok (.iconst 1, 1) := by decide +kernel
theorem dX6_best_13 : decode cX6_best 13 = .ok (.invokestatic 78, 3) := by decide +kernel
theorem dX6_best_16 : decode cX6_best 16 = .ok (.ifCond .ne 6, 3) := by decide +kernel
theorem dX6_best_19 : decode cX6_best 19 = .ok (.bipush (-2), 2) := by decide +kernel
theorem dX6_best_21 : decode cX6_best 21 = .ok (.ireturn, 1) := by decide +kernel
theorem dX6_best_22 : decode cX6_best 22 = .ok (.aload_n 0, 1) := by decide +kernel
theorem dX6_best_23 : decode cX6_best 23 = .ok (.iconst 0, 1) := by decide +kernel
theorem dX6_best_24 : decode cX6_best 24 = .ok (.putfield 207, 3) := by decide +kernel
theorem dX6_best_27 : decode cX6_best 27 = .ok (.aload_n 0, 1) := by decide +kernel
theorem dX6_best_28 : decode cX6_best 28 = .ok (.iconst 0, 1) := by decide +kernel
theorem dX6_best_29 : decode cX6_best 29 = .ok (.putfield 210, 3) := by decide +kernel
theorem dX6_best_32 : decode cX6_best 32 = .ok (.aload_n 0, 1) := by decide +kernel
theorem dX6_best_33 : decode cX6_best 33 = .ok (.iconst 0, 1) := by decide +kernel
theorem dX6_best_34 : decode cX6_best 34 = .ok (.iload_n 1, 1) := by decide +kernel
theorem dX6_best_35 : decode cX6_best 35 = .ok (.iconst 0, 1) := by decide +kernel
theorem dX6_best_36 : decode cX6_best 36 = .ok (.iconst 0, 1) := by decide +kernel
theorem dX6_best_37 : decode cX6_best 37 = .ok (.invokevirtual 213, 3) := by decide +kernel
theorem dX6_best_40 : decode cX6_best 40 = .ok (.iload_n 2, 1) := by decide +kernel
theorem dX6_best_41 : decode cX6_best 41 = .ok (.ifCond .ne 10, 3) := by decide +kernel
theorem dX6_best_44 : decode cX6_best 44 = .ok (.aload_n 0, 1) := by decide +kernel
theorem dX6_best_45 : decode cX6_best 45 = .ok (.getfield 207, 3) := by decide +kernel
theorem dX6_best_48 : decode cX6_best 48 = .ok (.goto 7, 3) := by decide +kernel
theorem dX6_best_51 : decode cX6_best 51 = .ok (.aload_n 0, 1) := by decide +kernel
theorem dX6_best_52 : decode cX6_best 52 = .ok (.getfield 210, 3) := by decide +kernel
theorem dX6_best_55 : decode cX6_best 55 = .ok (.ireturn, 1) := by decide +kernel
theorem dX6_drunkWith_0 : decode cX6_drunkWith 0 = .ok (.aload_n 0, 1) := by decide +kernel
theorem dX6_drunkWith_1 : decode cX6_drunkWith 1 = .ok (.iconst 0, 1) := by decide +kernel
theorem dX6_drunkWith_2 : decode cX6_drunkWith 2 = .ok (.invokevirtual 198, 3) := by decide +kernel
theorem dX6_drunkWith_5 : decode cX6_drunkWith 5 = .ok (.aload_n 0, 1) := by decide +kernel
theorem dX6_drunkWith_6 : decode cX6_drunkWith 6 = .ok (.getfield 7, 3) := by decide +kernel
theorem dX6_drunkWith_9 : decode cX6_drunkWith 9 = .ok (.iconst 0, 1) := by decide +kernel
theorem dX6_drunkWith_10 : decode cX6_drunkWith 10 = .ok (.iload_n 1, 1) := by decide +kernel
theorem dX6_drunkWith_11 : decode cX6_drunkWith 11 = .ok (.iastore, 1) := by decide +kernel
theorem dX6_drunkWith_12 : decode cX6_drunkWith 12 = .ok (.aload_n 0, 1) := by decide +kernel
theorem dX6_drunkWith_13 : decode cX6_drunkWith 13 = .ok (.sipush 200, 3) := by decide +kernel
theorem dX6_drunkWith_16 : decode cX6_drunkWith 16 = .ok (.invokevirtual 201, 3) := by decide +kernel
theorem dX6_drunkWith_19 : decode cX6_drunkWith 19 = .ok (.pop, 1) := by decide +kernel
theorem dX6_drunkWith_20 : decode cX6_drunkWith 20 = .ok (.aload_n 0, 1) := by decide +kernel
theorem dX6_drunkWith_21 : decode cX6_drunkWith 21 = .ok (.getfield 7, 3) := by decide +kernel
theorem dX6_drunkWith_24 : decode cX6_drunkWith 24 = .ok (.iconst 5, 1) := by decide +kernel
theorem dX6_drunkWith_25 : decode cX6_drunkWith 25 = .ok (.iaload, 1) := by decide +kernel
theorem dX6_drunkWith_26 : decode cX6_drunkWith 26 = .ok (.istore_n 2, 1) := by decide +kernel
theorem dX6_drunkWith_27 : decode cX6_drunkWith 27 = .ok (.aload_n 0, 1) := by decide +kernel
theorem dX6_drunkWith_28 : decode cX6_drunkWith 28 = .ok (.aload_n 0, 1) := by decide +kernel
theorem dX6_drunkWith_29 : decode cX6_drunkWith 29 = .ok (.getfield 7, 3) := by decide +kernel
theorem dX6_drunkWith_32 : decode cX6_drunkWith 32 = .ok (.iconst 1, 1) := by decide +kernel
theorem dX6_drunkWith_33 : decode cX6_drunkWith 33 = .ok (.iaload, 1) := by decide +kernel
theorem dX6_drunkWith_34 : decode cX6_drunkWith 34 = .ok (.putfield 217, 3) := by decide +kernel
theorem dX6_drunkWith_37 : decode cX6_drunkWith 37 = .ok (.aload_n 0, 1) := by decide +kernel
theorem dX6_drunkWith_38 : decode cX6_drunkWith 38 = .ok (.aload_n 0, 1) := by decide +kernel
theorem dX6_drunkWith_39 : decode cX6_drunkWith 39 = .ok (.getfield 7, 3) := by decide +kernel
theorem dX6_drunkWith_42 : decode cX6_drunkWith 42 = .ok (.iconst 0, 1) := by decide +kernel
theorem dX6_drunkWith_43 : decode cX6_drunkWith 43 = .ok (.iaload, 1) := by decide +kernel
theorem dX6_drunkWith_44 : decode cX6_drunkWith 44 = .ok (.ifCond .ne 25, 3) := by decide +kernel
theorem dX6_drunkWith_47 : decode cX6_drunkWith 47 = .ok (.aload_n 0, 1) := by decide +kernel
theorem dX6_drunkWith_48 : decode cX6_drunkWith 48 = .ok (.getfield 7, 3) := by decide +kernel
theorem dX6_drunkWith_51 : decode cX6_drunkWith 51 = .ok (.iconst 1, 1) := by decide +kernel
theorem dX6_drunkWith_52 : decode cX6_drunkWith 52 = .ok (.iaload, 1) := by decide +kernel
theorem dX6_drunkWith_53 : decode cX6_drunkWith 53 = .ok (.ifCond .ne 16, 3) := by decide +kernel
theorem dX6_drunkWith_56 : decode cX6_drunkWith 56 = .ok (.aload_n 0, 1) := by decide +kernel
theorem dX6_drunkWith_57 : decode cX6_drunkWith 57 = .ok (.getfield 7, 3) := by decide +kernel
theorem dX6_drunkWith_60 : decode cX6_drunkWith 60 = .ok (.iconst 4, 1) := by decide +kernel
theorem dX6_drunkWith_61 : decode cX6_drunkWith 61 = .ok (.iaload, 1) := by decide +kernel
theorem dX6_drunkWith_62 : decode cX6_drunkWith 62 = .ok (.ifCond .ne 7, 3) := by decide +kernel
theorem dX6_drunkWith_65 : decode cX6_drunkWith 65 = .ok (.iconst 1, 1) := by decide +kernel
theorem dX6_drunkWith_66 : decode cX6_drunkWith 66 = .ok (.goto 4, 3) := by decide +kernel
theorem dX6_drunkWith_69 : decode cX6_drunkWith 69 = .ok (.iconst 0, 1) := by decide +kernel
theorem dX6_drunkWith_70 : decode cX6_drunkWith 70 = .ok (.putfield 220, 3) := by decide +kernel
theorem dX6_drunkWith_73 : decode cX6_drunkWith 73 = .ok (.aload_n 0, 1) := by decide +kernel
theorem dX6_drunkWith_74 : decode cX6_drunkWith 74 = .ok (.iconst 0, 1) := by decide +kernel
theorem dX6_drunkWith_75 : decode cX6_drunkWith 75 = .ok (.invokevirtual 204, 3) := by decide +kernel
theorem dX6_drunkWith_78 : decode cX6_drunkWith 78 = .ok (.iload_n 2, 1) := by decide +kernel
theorem dX6_drunkWith_79 : decode cX6_drunkWith 79 = .ok (.ireturn, 1) := by decide +kernel
theorem dX6_least_0 : decode cX6_least 0 = .ok (.iload_n 1, 1) := by decide +kernel
theorem dX6_least_1 : decode cX6_least 1 = .ok (.iconst 0, 1) := by decide +kernel
theorem dX6_least_2 : decode cX6_least 2 = .ok (.sipush 999, 3) := by decide +kernel
theorem dX6_least_5 : decode cX6_least 5 = .ok (.invokestatic 78, 3) := by decide +kernel
theorem dX6_least_8 : decode cX6_least 8 = .ok (.ifCond .eq 12, 3) := by decide +kernel
theorem dX6_least_11 : decode cX6_least 11 = .ok (.iload_n 2, 1) := by decide +kernel
theorem dX6_least_12 : decode cX6_least 12 = .ok (.iconst 0, 1) := by decide +kernel
theorem dX6_least_13 : decode cX6_least 13 = .ok (.iconst 1, 1) := by decide +kernel
theorem dX6_least_14 : decode cX6_least 14 = .ok (.invokestatic 78, 3) := by decide +kernel
theorem dX6_least_17 : decode cX6_least 17 = .ok (.ifCond .ne 6, 3) := by decide +kernel
theorem dX6_least_20 : decode cX6_least 20 = .ok (.bipush (-2), 2) := by decide +kernel
theorem dX6_least_22 : decode cX6_least 22 = .ok (.ireturn, 1) := by decide +kernel
theorem dX6_least_23 : decode cX6_least 23 = .ok (.iconst 0, 1) := by decide +kernel
theorem dX6_least_24 : decode cX6_least 24 = .ok (.istore_n 3, 1) := by decide +kernel
theorem dX6_least_25 : decode cX6_least 25 = .ok (.iload_n 3, 1) := by decide +kernel
theorem dX6_least_26 : decode cX6_least 26 = .ok (.bipush 60, 2) := by decide +kernel
theorem dX6_least_28 : decode cX6_least 28 = .ok (.if_icmp .gt 31, 3) := by decide +kernel
theorem dX6_least_31 : decode cX6_least 31 = .ok (.aload_n 0, 1) := by decide +kernel
theorem dX6_least_32 : decode cX6_least 32 = .ok (.iload_n 3, 1) := by decide +kernel
theorem dX6_least_33 : decode cX6_least 33 = .ok (.invokevirtual 224, 3) := by decide +kernel
theorem dX6_least_36 : decode cX6_least 36 = .ok (.iload_n 1, 1) := by decide +kernel
theorem dX6_least_37 : decode cX6_least 37 = .ok (.if_icmp .lt 16, 3) := by decide +kernel
theorem dX6_least_40 : decode cX6_least 40 = .ok (.iload_n 2, 1) := by decide +kernel
theorem dX6_least_41 : decode cX6_least 41 = .ok (.ifCond .eq 10, 3) := by decide +kernel
theorem dX6_least_44 : decode cX6_least 44 = .ok (.aload_n 0, 1) := by decide +kernel
theorem dX6_least_45 : decode cX6_least 45 = .ok (.getfield 220, 3) := by decide +kernel
theorem dX6_least_48 : decode cX6_least 48 = .ok (.ifCond .eq 5, 3) := by decide +kernel
theorem dX6_least_51 : decode cX6_least 51 = .ok (.iload_n 3, 1) := by decide +kernel
theorem dX6_least_52 : decode cX6_least 52 = .ok (.ireturn, 1) := by decide +kernel
theorem dX6_least_53 : decode cX6_least 53 = .ok (.iinc 3 1, 3) := by decide +kernel
theorem dX6_least_56 : decode cX6_least 56 = .ok (.goto (-31), 3) := by decide +kernel
theorem dX6_least_59 : decode cX6_least 59 = .ok (.iconst (-1), 1) := by decide +kernel
theorem dX6_least_60 : decode cX6_least 60 = .ok (.ireturn, 1) := by decide +kernel
theorem dX6_bought_0 : decode cX6_bought 0 = .ok (.iload_n 1, 1) := by decide +kernel
theorem dX6_bought_1 : decode cX6_bought 1 = .ok (.iconst 0, 1) := by decide +kernel
theorem dX6_bought_2 : decode cX6_bought 2 = .ok (.sipush 999, 3) := by decide +kernel
theorem dX6_bought_5 : decode cX6_bought 5 = .ok (.invokestatic 78, 3) := by decide +kernel
theorem dX6_bought_8 : decode cX6_bought 8 = .ok (.ifCond .eq 14, 3) := by decide +kernel
theorem dX6_bought_11 : decode cX6_bought 11 = .ok (.iload_n 2, 1) := by decide +kernel
theorem dX6_bought_12 : decode cX6_bought 12 = .ok (.iconst 0, 1) := by decide +kernel
theorem dX6_bought_13 : decode cX6_bought 13 = .ok (.sipush 999, 3) := by decide +kernel
theorem dX6_bought_16 : decode cX6_bought 16 = .ok (.invokestatic 78, 3) := by decide +kernel
theorem dX6_bought_19 : decode cX6_bought 19 = .ok (.ifCond .ne 7, 3) := by decide +kernel
theorem dX6_bought_22 : decode cX6_bought 22 = .ok (.ldc2_w 227, 3) := by decide +kernel
theorem dX6_bought_25 : decode cX6_bought 25 = .ok (.lreturn, 1) := by decide +kernel
theorem dX6_bought_26 : decode cX6_bought 26 = .ok (.lconst 0, 1) := by decide +kernel
theorem dX6_bought_27 : decode cX6_bought 27 = .ok (.lstore_n 3, 1) := by decide +kernel
theorem dX6_bought_28 : decode cX6_bought 28 = .ok (.iconst 0, 1) := by decide +kernel
theorem dX6_bought_29 : decode cX6_bought 29 = .ok (.istore 5, 2) := by decide +kernel
theorem dX6_bought_31 : decode cX6_bought 31 = .ok (.iload 5, 2) := by decide +kernel
theorem dX6_bought_33 : decode cX6_bought 33 = .ok (.bipush 60, 2) := by decide +kernel
theorem dX6_bought_35 : decode cX6_bought 35 = .ok (.if_icmp .gt 38, 3) := by decide +kernel
theorem dX6_bought_38 : decode cX6_bought 38 = .ok (.lload_n 3, 1) := by decide +kernel
theorem dX6_bought_39 : decode cX6_bought 39 = .ok (.aload_n 0, 1) := by decide +kernel
theorem dX6_bought_40 : decode cX6_bought 40 = .ok (.iload 5, 2) := by decide +kernel
theorem dX6_bought_42 : decode cX6_bought 42 = .ok (.invokevirtual 224, 3) := by decide +kernel
theorem dX6_bought_45 : decode cX6_bought 45 = .ok (.iload_n 1, 1) := by decide +kernel
theorem dX6_bought_46 : decode cX6_bought 46 = .ok (.if_icmp .ne 18, 3) := by decide +kernel
theorem dX6_bought_49 : decode cX6_bought 49 = .ok (.aload_n 0, 1) := by decide +kernel
theorem dX6_bought_50 : decode cX6_bought 50 = .ok (.getfield 217, 3) := by decide +kernel
theorem dX6_bought_53 : decode cX6_bought 53 = .ok (.iload_n 2, 1) := by decide +kernel
theorem dX6_bought_54 : decode cX6_bought 54 = .ok (.if_icmp .ne 10, 3) := by decide +kernel
theorem dX6_bought_57 : decode cX6_bought 57 = .ok (.lconst 1, 1) := by decide +kernel
theorem dX6_bought_58 : decode cX6_bought 58 = .ok (.iload 5, 2) := by decide +kernel
theorem dX6_bought_60 : decode cX6_bought 60 = .ok (.lshl, 1) := by decide +kernel
theorem dX6_bought_61 : decode cX6_bought 61 = .ok (.goto 4, 3) := by decide +kernel
theorem dX6_bought_64 : decode cX6_bought 64 = .ok (.lconst 0, 1) := by decide +kernel
theorem dX6_bought_65 : decode cX6_bought 65 = .ok (.lor, 1) := by decide +kernel
theorem dX6_bought_66 : decode cX6_bought 66 = .ok (.lstore_n 3, 1) := by decide +kernel
theorem dX6_bought_67 : decode cX6_bought 67 = .ok (.iinc 5 1, 3) := by decide +kernel
theorem dX6_bought_70 : decode cX6_bought 70 = .ok (.goto (-39), 3) := by decide +kernel
theorem dX6_bought_73 : decode cX6_bought 73 = .ok (.lload_n 3, 1) := by decide +kernel
theorem dX6_bought_74 : decode cX6_bought 74 = .ok (.lreturn, 1) := by decide +kernel
theorem dX6_friends_0 : decode cX6_friends 0 = .ok (.iload_n 1, 1) := by decide +kernel
theorem dX6_friends_1 : decode cX6_friends 1 = .ok (.iconst 0, 1) := by decide +kernel
theorem dX6_friends_2 : decode cX6_friends 2 = .ok (.bipush 60, 2) := by decide +kernel
theorem dX6_friends_4 : decode cX6_friends 4 = .ok (.invokestatic 78, 3) := by decide +kernel
theorem dX6_friends_7 : decode cX6_friends 7 = .ok (.ifCond .eq 13, 3) := by decide +kernel
theorem dX6_friends_10 : decode cX6_friends 10 = .ok (.iload_n 2, 1) := by decide +kernel
theorem dX6_friends_11 : decode cX6_friends 11 = .ok (.iconst 0, 1) := by decide +kernel
theorem dX6_friends_12 : decode cX6_friends 12 = .ok (.bipush 60, 2) := by decide +kernel
theorem dX6_friends_14 : decode cX6_friends 14 = .ok (.invokestatic 78, 3) := by decide +kernel
theorem dX6_friends_17 : decode cX6_friends 17 = .ok (.ifCond .ne 6, 3) := by decide +kernel
theorem dX6_friends_20 : decode cX6_friends 20 = .ok (.ldc 229, 2) := by decide +kernel
theorem dX6_friends_22 : decode cX6_friends 22 = .ok (.ireturn, 1) := by decide +kernel
theorem dX6_friends_23 : decode cX6_friends 23 = .ok (.aload_n 0, 1) := by decide +kernel
theorem dX6_friends_24 : decode cX6_friends 24 = .ok (.iload_n 1, 1) := by decide +kernel
theorem dX6_friends_25 : decode cX6_friends 25 = .ok (.iload_n 2, 1) := by decide +kernel
theorem dX6_friends_26 : decode cX6_friends 26 = .ok (.iadd, 1) := by decide +kernel
theorem dX6_friends_27 : decode cX6_friends 27 = .ok (.invokevirtual 224, 3) := by decide +kernel
theorem dX6_friends_30 : decode cX6_friends 30 = .ok (.aload_n 0, 1) := by decide +kernel
theorem dX6_friends_31 : decode cX6_friends 31 = .ok (.iload_n 1, 1) := by decide +kernel
theorem dX6_friends_32 : decode cX6_friends 32 = .ok (.invokevirtual 224, 3) := by decide +kernel
theorem dX6_friends_35 : decode cX6_friends 35 = .ok (.isub, 1) := by decide +kernel
theorem dX6_friends_36 : decode cX6_friends 36 = .ok (.aload_n 0, 1) := by decide +kernel
theorem dX6_friends_37 : decode cX6_friends 37 = .ok (.iload_n 2, 1) := by decide +kernel
theorem dX6_friends_38 : decode cX6_friends 38 = .ok (.invokevirtual 224, 3) := by decide +kernel
theorem dX6_friends_41 : decode cX6_friends 41 = .ok (.isub, 1) := by decide +kernel
theorem dX6_friends_42 : decode cX6_friends 42 = .ok (.aload_n 0, 1) := by decide +kernel
theorem dX6_friends_43 : decode cX6_friends 43 = .ok (.getfield 7, 3) := by decide +kernel
theorem dX6_friends_46 : decode cX6_friends 46 = .ok (.iconst 5, 1) := by decide +kernel
theorem dX6_friends_47 : decode cX6_friends 47 = .ok (.iaload, 1) := by decide +kernel
theorem dX6_friends_48 : decode cX6_friends 48 = .ok (.iadd, 1) := by decide +kernel
theorem dX6_friends_49 : decode cX6_friends 49 = .ok (.ireturn, 1) := by decide +kernel
theorem dX6_worth_0 : decode cX6_worth 0 = .ok (.aload_n 0, 1) := by decide +kernel
theorem dX6_worth_1 : decode cX6_worth 1 = .ok (.iload_n 1, 1) := by decide +kernel
theorem dX6_worth_2 : decode cX6_worth 2 = .ok (.invokevirtual 165, 3) := by decide +kernel
theorem dX6_worth_5 : decode cX6_worth 5 = .ok (.ifCond .ne 6, 3) := by decide +kernel
theorem dX6_worth_8 : decode cX6_worth 8 = .ok (.ldc 229, 2) := by decide +kernel
theorem dX6_worth_10 : decode cX6_worth 10 = .ok (.ireturn, 1) := by decide +kernel
theorem dX6_worth_11 : decode cX6_worth 11 = .ok (.aload_n 0, 1) := by decide +kernel
theorem dX6_worth_12 : decode cX6_worth 12 = .ok (.aload_n 0, 1) := by decide +kernel
theorem dX6_worth_13 : decode cX6_worth 13 = .ok (.getfield 7, 3) := by decide +kernel
theorem dX6_worth_16 : decode cX6_worth 16 = .ok (.iconst 0, 1) := by decide +kernel
theorem dX6_worth_17 : decode cX6_worth 17 = .ok (.iaload, 1) := by decide +kernel
theorem dX6_worth_18 : decode cX6_worth 18 = .ok (.invokevirtual 224, 3) := by decide +kernel
theorem dX6_worth_21 : decode cX6_worth 21 = .ok (.istore_n 2, 1) := by decide +kernel
theorem dX6_worth_22 : decode cX6_worth 22 = .ok (.aload_n 0, 1) := by decide +kernel
theorem dX6_worth_23 : decode cX6_worth 23 = .ok (.iload_n 1, 1) := by decide +kernel
theorem dX6_worth_24 : decode cX6_worth 24 = .ok (.putfield 25, 3) := by decide +kernel
theorem dX6_worth_27 : decode cX6_worth 27 = .ok (.aload_n 0, 1) := by decide +kernel
theorem dX6_worth_28 : decode cX6_worth 28 = .ok (.aload_n 0, 1) := by decide +kernel
theorem dX6_worth_29 : decode cX6_worth 29 = .ok (.getfield 7, 3) := by decide +kernel
theorem dX6_worth_32 : decode cX6_worth 32 = .ok (.iconst 0, 1) := by decide +kernel
theorem dX6_worth_33 : decode cX6_worth 33 = .ok (.iaload, 1) := by decide +kernel
theorem dX6_worth_34 : decode cX6_worth 34 = .ok (.invokevirtual 224, 3) := by decide +kernel
theorem dX6_worth_37 : decode cX6_worth 37 = .ok (.istore_n 3, 1) := by decide +kernel
theorem dX6_worth_38 : decode cX6_worth 38 = .ok (.aload_n 0, 1) := by decide +kernel
theorem dX6_worth_39 : decode cX6_worth 39 = .ok (.iconst (-1), 1) := by decide +kernel
theorem dX6_worth_40 : decode cX6_worth 40 = .ok (.putfield 25, 3) := by decide +kernel
theorem dX6_worth_43 : decode cX6_worth 43 = .ok (.iload_n 2, 1) := by decide +kernel
theorem dX6_worth_44 : decode cX6_worth 44 = .ok (.iload_n 3, 1) := by decide +kernel
theorem dX6_worth_45 : decode cX6_worth 45 = .ok (.isub, 1) := by decide +kernel
theorem dX6_worth_46 : decode cX6_worth 46 = .ok (.ireturn, 1) := by decide +kernel
theorem dX6_neverEnds_0 : decode cX6_neverEnds 0 = .ok (.iconst 0, 1) := by decide +kernel
theorem dX6_neverEnds_1 : decode cX6_neverEnds 1 = .ok (.istore_n 2, 1) := by decide +kernel
theorem dX6_neverEnds_2 : decode cX6_neverEnds 2 = .ok (.iconst 0, 1) := by decide +kernel
theorem dX6_neverEnds_3 : decode cX6_neverEnds 3 = .ok (.istore_n 3, 1) := by decide +kernel
theorem dX6_neverEnds_4 : decode cX6_neverEnds 4 = .ok (.iconst 0, 1) := by decide +kernel
theorem dX6_neverEnds_5 : decode cX6_neverEnds 5 = .ok (.istore 4, 2) := by decide +kernel
theorem dX6_neverEnds_7 : decode cX6_neverEnds 7 = .ok (.iconst 0, 1) := by decide +kernel
theorem dX6_neverEnds_8 : decode cX6_neverEnds 8 = .ok (.istore 5, 2) := by decide +kernel
theorem dX6_neverEnds_10 : decode cX6_neverEnds 10 = .ok (.iconst 0, 1) := by decide +kernel
theorem dX6_neverEnds_11 : decode cX6_neverEnds 11 = .ok (.istore 6, 2) := by decide +kernel
theorem dX6_neverEnds_13 : decode cX6_neverEnds 13 = .ok (.iload 6, 2) := by decide +kernel
theorem dX6_neverEnds_15 : decode cX6_neverEnds 15 = .ok (.aload_n 0, 1) := by decide +kernel
theorem dX6_neverEnds_16 : decode cX6_neverEnds 16 = .ok (.getfield 75, 3) := by decide +kernel
theorem dX6_neverEnds_19 : decode cX6_neverEnds 19 = .ok (.if_icmp .ge 139, 3) := by decide +kernel
theorem dX6_neverEnds_22 : decode cX6_neverEnds 22 = .ok (.iload_n 1, 1) := by decide +kernel
theorem dX6_neverEnds_23 : decode cX6_neverEnds 23 = .ok (.iconst 2, 1) := by decide +kernel
theorem dX6_neverEnds_24 : decode cX6_neverEnds 24 = .ok (.aload_n 0, 1) := by decide +kernel
theorem dX6_neverEnds_25 : decode cX6_neverEnds 25 = .ok (.getfield 75, 3) := by decide +kernel
theorem dX6_neverEnds_28 : decode cX6_neverEnds 28 = .ok (.iconst 1, 1) := by decide +kernel
theorem dX6_neverEnds_29 : decode cX6_neverEnds 29 = .ok (.isub, 1) := by decide +kernel
theorem dX6_neverEnds_30 : decode cX6_neverEnds 30 = .ok (.iload 6, 2) := by decide +kernel
theorem dX6_neverEnds_32 : decode cX6_neverEnds 32 = .ok (.isub, 1) := by decide +kernel
theorem dX6_neverEnds_33 : decode cX6_neverEnds 33 = .ok (.imul, 1) := by decide +kernel
theorem dX6_neverEnds_34 : decode cX6_neverEnds 34 = .ok (.ishr, 1) := by decide +kernel
theorem dX6_neverEnds_35 : decode cX6_neverEnds 35 = .ok (.iconst 3, 1) := by decide +kernel
theorem dX6_neverEnds_36 : decode cX6_neverEnds 36 = .ok (.iand, 1) := by decide +kernel
theorem dX6_neverEnds_37 : decode cX6_neverEnds 37 = .ok (.istore 7, 2) := by decide +kernel
theorem dX6_neverEnds_39 : decode cX6_neverEnds 39 = .ok (.iload 7, 2) := by decide +kernel
theorem dX6_neverEnds_41 : decode cX6_neverEnds 41 = .ok (.ifCond .le 14, 3) := by decide +kernel
theorem dX6_neverEnds_44 : decode cX6_neverEnds 44 = .ok (.aload_n 0, 1) := by decide +kernel
theorem dX6_neverEnds_45 : decode cX6_neverEnds 45 = .ok (.iload 6, 2) := by decide +kernel
theorem dX6_neverEnds_47 : decode cX6_neverEnds 47 = .ok (.invokevirtual 171, 3) := by decide +kernel
theorem dX6_neverEnds_50 : decode cX6_neverEnds 50 = .ok (.ifCond .ne 5, 3) := by decide +kernel
theorem dX6_neverEnds_53 : decode cX6_neverEnds 53 = .ok (.iconst 0, 1) := by decide +kernel
theorem dX6_neverEnds_54 : decode cX6_neverEnds 54 = .ok (.ireturn, 1) := by decide +kernel
theorem dX6_neverEnds_55 : decode cX6_neverEnds 55 = .ok (.iload_n 2, 1) := by decide +kernel
theorem dX6_neverEnds_56 : decode cX6_neverEnds 56 = .ok (.iload 7, 2) := by decide +kernel
theorem dX6_neverEnds_58 : decode cX6_neverEnds 58 = .ok (.aload_n 0, 1) := by decide +kernel
theorem dX6_neverEnds_59 : decode cX6_neverEnds 59 = .ok (.iload 6, 2) := by decide +kernel
theorem dX6_neverEnds_61 : decode cX6_neverEnds 61 = .ok (.invokevirtual 171, 3) := by decide +kernel
theorem dX6_neverEnds_64 : decode cX6_neverEnds 64 = .ok (.imul, 1) := by decide +kernel
theorem dX6_neverEnds_65 : decode cX6_neverEnds 65 = .ok (.iadd, 1) := by decide +kernel
theorem dX6_neverEnds_66 : decode cX6_neverEnds 66 = .ok (.istore_n 2, 1) := by decide +kernel
theorem dX6_neverEnds_67 : decode cX6_neverEnds 67 = .ok (.iload_n 3, 1) := by decide +kernel
theorem dX6_neverEnds_68 : decode cX6_neverEnds 68 = .ok (.aload_n 0, 1) := by decide +kernel
theorem dX6_neverEnds_69 : decode cX6_neverEnds 69 = .ok (.getfield 16, 3) := by decide +kernel
theorem dX6_neverEnds_72 : decode cX6_neverEnds 72 = .ok (.iload 6, 2) := by decide +kernel
theorem dX6_neverEnds_74 : decode cX6_neverEnds 74 = .ok (.iaload, 1) := by decide +kernel
theorem dX6_neverEnds_75 : decode cX6_neverEnds 75 = .ok (.iconst 1, 1) := by decide +kernel
theorem dX6_neverEnds_76 : decode cX6_neverEnds 76 = .ok (.if_icmp .ne 15, 3) := by decide +kernel
theorem dX6_neverEnds_79 : decode cX6_neverEnds 79 = .ok (.iload 7, 2) := by decide +kernel
theorem dX6_neverEnds_81 : decode cX6_neverEnds 81 = .ok (.aload_n 0, 1) := by decide +kernel
theorem dX6_neverEnds_82 : decode cX6_neverEnds 82 = .ok (.iload 6, 2) := by decide +kernel
theorem dX6_neverEnds_84 : decode cX6_neverEnds 84 = .ok (.invokevirtual 168, 3) := by decide +kernel
theorem dX6_neverEnds_87 : decode cX6_neverEnds 87 = .ok (.imul, 1) := by decide +kernel
theorem dX6_neverEnds_88 : decode cX6_neverEnds 88 = .ok (.goto 4, 3) := by decide +kernel
theorem dX6_neverEnds_91 : decode cX6_neverEnds 91 = .ok (.iconst 0, 1) := by decide +kernel
theorem dX6_neverEnds_92 : decode cX6_neverEnds 92 = .ok (.iadd, 1) := by decide +kernel
theorem dX6_neverEnds_93 : decode cX6_neverEnds 93 = .ok (.istore_n 3, 1) := by decide +kernel
theorem dX6_neverEnds_94 : decode cX6_neverEnds 94 = .ok (.iload 4, 2) := by decide +kernel
theorem dX6_neverEnds_96 : decode cX6_neverEnds 96 = .ok (.aload_n 0, 1) := by decide +kernel
theorem dX6_neverEnds_97 : decode cX6_neverEnds 97 = .ok (.getfield 16, 3) := by decide +kernel
theorem dX6_neverEnds_100 : decode cX6_neverEnds 100 = .ok (.iload 6, 2) := by decide +kernel
theorem dX6_neverEnds_102 : decode cX6_neverEnds 102 = .ok (.iaload, 1) := by decide +kernel
theorem dX6_neverEnds_103 : decode cX6_neverEnds 103 = .ok (.iconst 2, 1) := by decide +kernel
theorem dX6_neverEnds_104 : decode cX6_neverEnds 104 = .ok (.if_icmp .ne 15, 3) := by decide +kernel
theorem dX6_neverEnds_107 : decode cX6_neverEnds 107 = .ok (.iload 7, 2) := by decide +kernel
theorem dX6_neverEnds_109 : decode cX6_neverEnds 109 = .ok (.aload_n 0, 1) := by decide +kernel
theorem dX6_neverEnds_110 : decode cX6_neverEnds 110 = .ok (.iload 6, 2) := by decide +kernel
theorem dX6_neverEnds_112 : decode cX6_neverEnds 112 = .ok (.invokevirtual 168, 3) := by decide +kernel
theorem dX6_neverEnds_115 : decode cX6_neverEnds 115 = .ok (.imul, 1) := by decide +kernel
theorem dX6_neverEnds_116 : decode cX6_neverEnds 116 = .ok (.goto 4, 3) := by decide +kernel
theorem dX6_neverEnds_119 : decode cX6_neverEnds 119 = .ok (.iconst 0, 1) := by decide +kernel
theorem dX6_neverEnds_120 : decode cX6_neverEnds 120 = .ok (.iadd, 1) := by decide +kernel
theorem dX6_neverEnds_121 : decode cX6_neverEnds 121 = .ok (.istore 4, 2) := by decide +kernel
theorem dX6_neverEnds_123 : decode cX6_neverEnds 123 = .ok (.iload 5, 2) := by decide +kernel
theorem dX6_neverEnds_125 : decode cX6_neverEnds 125 = .ok (.aload_n 0, 1) := by decide +kernel
theorem dX6_neverEnds_126 : decode cX6_neverEnds 126 = .ok (.getfield 16, 3) := by decide +kernel
theorem dX6_neverEnds_129 : decode cX6_neverEnds 129 = .ok (.iload 6, 2) := by decide +kernel
theorem dX6_neverEnds_131 : decode cX6_neverEnds 131 = .ok (.iaload, 1) := by decide +kernel
theorem dX6_neverEnds_132 : decode cX6_neverEnds 132 = .ok (.iconst 3, 1) := by decide +kernel
theorem dX6_neverEnds_133 : decode cX6_neverEnds 133 = .ok (.if_icmp .ne 15, 3) := by decide +kernel
theorem dX6_neverEnds_136 : decode cX6_neverEnds 136 = .ok (.iload 7, 2) := by decide +kernel
theorem dX6_neverEnds_138 : decode cX6_neverEnds 138 = .ok (.aload_n 0, 1) := by decide +kernel
theorem dX6_neverEnds_139 : decode cX6_neverEnds 139 = .ok (.iload 6, 2) := by decide +kernel
theorem dX6_neverEnds_141 : decode cX6_neverEnds 141 = .ok (.invokevirtual 168, 3) := by decide +kernel
theorem dX6_neverEnds_144 : decode cX6_neverEnds 144 = .ok (.imul, 1) := by decide +kernel
theorem dX6_neverEnds_145 : decode cX6_neverEnds 145 = .ok (.goto 4, 3) := by decide +kernel
theorem dX6_neverEnds_148 : decode cX6_neverEnds 148 = .ok (.iconst 0, 1) := by decide +kernel
theorem dX6_neverEnds_149 : decode cX6_neverEnds 149 = .ok (.iadd, 1) := by decide +kernel
theorem dX6_neverEnds_150 : decode cX6_neverEnds 150 = .ok (.istore 5, 2) := by decide +kernel
theorem dX6_neverEnds_152 : decode cX6_neverEnds 152 = .ok (.iinc 6 1, 3) := by decide +kernel
theorem dX6_neverEnds_155 : decode cX6_neverEnds 155 = .ok (.goto (-142), 3) := by decide +kernel
theorem dX6_neverEnds_158 : decode cX6_neverEnds 158 = .ok (.iload_n 2, 1) := by decide +kernel
theorem dX6_neverEnds_159 : decode cX6_neverEnds 159 = .ok (.ifCond .le 30, 3) := by decide +kernel
theorem dX6_neverEnds_162 : decode cX6_neverEnds 162 = .ok (.iload_n 3, 1) := by decide +kernel
theorem dX6_neverEnds_163 : decode cX6_neverEnds 163 = .ok (.iload_n 2, 1) := by decide +kernel
theorem dX6_neverEnds_164 : decode cX6_neverEnds 164 = .ok (.aload_n 0, 1) := by decide +kernel
theorem dX6_neverEnds_165 : decode cX6_neverEnds 165 = .ok (.iconst 0, 1) := by decide +kernel
theorem dX6_neverEnds_166 : decode cX6_neverEnds 166 = .ok (.invokevirtual 158, 3) := by decide +kernel
theorem dX6_neverEnds_169 : decode cX6_neverEnds 169 = .ok (.imul, 1) := by decide +kernel
theorem dX6_neverEnds_170 : decode cX6_neverEnds 170 = .ok (.if_icmp .gt 19, 3) := by decide +kernel
theorem dX6_neverEnds_173 : decode cX6_neverEnds 173 = .ok (.iload 4, 2) := by decide +kernel
theorem dX6_neverEnds_175 : decode cX6_neverEnds 175 = .ok (.iload_n 2, 1) := by decide +kernel
theorem dX6_neverEnds_176 : decode cX6_neverEnds 176 = .ok (.if_icmp .gt 13, 3) := by decide +kernel
theorem dX6_neverEnds_179 : decode cX6_neverEnds 179 = .ok (.iload 5, 2) := by decide +kernel
theorem dX6_neverEnds_181 : decode cX6_neverEnds 181 = .ok (.iload_n 2, 1) := by decide +kernel
theorem dX6_neverEnds_182 : decode cX6_neverEnds 182 = .ok (.if_icmp .gt 7, 3) := by decide +kernel
theorem dX6_neverEnds_185 : decode cX6_neverEnds 185 = .ok (.iconst 1, 1) := by decide +kernel
theorem dX6_neverEnds_186 : decode cX6_neverEnds 186 = .ok (.goto 4, 3) := by decide +kernel
theorem dX6_neverEnds_189 : decode cX6_neverEnds 189 = .ok (.iconst 0, 1) := by decide +kernel
theorem dX6_neverEnds_190 : decode cX6_neverEnds 190 = .ok (.ireturn, 1) := by decide +kernel
theorem dX6_rowDigits_0 : decode cX6_rowDigits 0 = .ok (.iconst 0, 1) := by decide +kernel
theorem dX6_rowDigits_1 : decode cX6_rowDigits 1 = .ok (.istore_n 2, 1) := by decide +kernel
theorem dX6_rowDigits_2 : decode cX6_rowDigits 2 = .ok (.iconst 0, 1) := by decide +kernel
theorem dX6_rowDigits_3 : decode cX6_rowDigits 3 = .ok (.istore_n 3, 1) := by decide +kernel
theorem dX6_rowDigits_4 : decode cX6_rowDigits 4 = .ok (.iload_n 3, 1) := by decide +kernel
theorem dX6_rowDigits_5 : decode cX6_rowDigits 5 = .ok (.aload_n 0, 1) := by decide +kernel
theorem dX6_rowDigits_6 : decode cX6_rowDigits 6 = .ok (.getfield 75, 3) := by decide +kernel
theorem dX6_rowDigits_9 : decode cX6_rowDigits 9 = .ok (.if_icmp .ge 29, 3) := by decide +kernel
theorem dX6_rowDigits_12 : decode cX6_rowDigits 12 = .ok (.bipush 10, 2) := by decide +kernel
theorem dX6_rowDigits_14 : decode cX6_rowDigits 14 = .ok (.iload_n 2, 1) := by decide +kernel
theorem dX6_rowDigits_15 : decode cX6_rowDigits 15 = .ok (.imul, 1) := by decide +kernel
theorem dX6_rowDigits_16 : decode cX6_rowDigits 16 = .ok (.iload_n 1, 1) := by decide +kernel
theorem dX6_rowDigits_17 : decode cX6_rowDigits 17 = .ok (.iconst 2, 1) := by decide +kernel
theorem dX6_rowDigits_18 : decode cX6_rowDigits 18 = .ok (.aload_n 0, 1) := by decide +kernel
theorem dX6_rowDigits_19 : decode cX6_rowDigits 19 = .ok (.getfield 75, 3) := by decide +kernel
theorem dX6_rowDigits_22 : decode cX6_rowDigits 22 = .ok (.iconst 1, 1) := by decide +kernel
theorem dX6_rowDigits_23 : decode cX6_rowDigits 23 = .ok (.isub, 1) := by decide +kernel
theorem dX6_rowDigits_24 : decode cX6_rowDigits 24 = .ok (.iload_n 3, 1) := by decide +kernel
theorem dX6_rowDigits_25 : decode cX6_rowDigits 25 = .ok (.isub, 1) := by decide +kernel
theorem dX6_rowDigits_26 : decode cX6_rowDigits 26 = .ok (.imul, 1) := by decide +kernel
theorem dX6_rowDigits_27 : decode cX6_rowDigits 27 = .ok (.ishr, 1) := by decide +kernel
theorem dX6_rowDigits_28 : decode cX6_rowDigits 28 = .ok (.iconst 3, 1) := by decide +kernel
theorem dX6_rowDigits_29 : decode cX6_rowDigits 29 = .ok (.iand, 1) := by decide +kernel
theorem dX6_rowDigits_30 : decode cX6_rowDigits 30 = .ok (.iadd, 1) := by decide +kernel
theorem dX6_rowDigits_31 : decode cX6_rowDigits 31 = .ok (.istore_n 2, 1) := by decide +kernel
theorem dX6_rowDigits_32 : decode cX6_rowDigits 32 = .ok (.iinc 3 1, 3) := by decide +kernel
theorem dX6_rowDigits_35 : decode cX6_rowDigits 35 = .ok (.goto (-31), 3) := by decide +kernel
theorem dX6_rowDigits_38 : decode cX6_rowDigits 38 = .ok (.iload_n 2, 1) := by decide +kernel
theorem dX6_rowDigits_39 : decode cX6_rowDigits 39 = .ok (.ireturn, 1) := by decide +kernel
theorem dX6_never_0 : decode cX6_never 0 = .ok (.iload_n 1, 1) := by decide +kernel
theorem dX6_never_1 : decode cX6_never 1 = .ok (.iconst 0, 1) := by decide +kernel
theorem dX6_never_2 : decode cX6_never 2 = .ok (.iconst 1, 1) := by decide +kernel
theorem dX6_never_3 : decode cX6_never 3 = .ok (.invokestatic 78, 3) := by decide +kernel
theorem dX6_never_6 : decode cX6_never 6 = .ok (.ifCond .ne 6, 3) := by decide +kernel
theorem dX6_never_9 : decode cX6_never 9 = .ok (.bipush (-2), 2) := by decide +kernel
theorem dX6_never_11 : decode cX6_never 11 = .ok (.ireturn, 1) := by decide +kernel
theorem dX6_never_12 : decode cX6_never 12 = .ok (.iconst (-1), 1) := by decide +kernel
theorem dX6_never_13 : decode cX6_never 13 = .ok (.istore_n 2, 1) := by decide +kernel
theorem dX6_never_14 : decode cX6_never 14 = .ok (.iconst 0, 1) := by decide +kernel
theorem dX6_never_15 : decode cX6_never 15 = .ok (.istore_n 3, 1) := by decide +kernel
theorem dX6_never_16 : decode cX6_never 16 = .ok (.iconst 1, 1) := by decide +kernel
theorem dX6_never_17 : decode cX6_never 17 = .ok (.istore 4, 2) := by decide +kernel
theorem dX6_never_19 : decode cX6_never 19 = .ok (.iload 4, 2) := by decide +kernel
theorem dX6_never_21 : decode cX6_never 21 = .ok (.iconst 1, 1) := by decide +kernel
theorem dX6_never_22 : decode cX6_never 22 = .ok (.iconst 2, 1) := by decide +kernel
theorem dX6_never_23 : decode cX6_never 23 = .ok (.aload_n 0, 1) := by decide +kernel
theorem dX6_never_24 : decode cX6_never 24 = .ok (.getfield 75, 3) := by decide +kernel
theorem dX6_never_27 : decode cX6_never 27 = .ok (.imul, 1) := by decide +kernel
theorem dX6_never_28 : decode cX6_never 28 = .ok (.ishl, 1) := by decide +kernel
theorem dX6_never_29 : decode cX6_never 29 = .ok (.if_icmp .ge 37, 3) := by decide +kernel
theorem dX6_never_32 : decode cX6_never 32 = .ok (.aload_n 0, 1) := by decide +kernel
theorem dX6_never_33 : decode cX6_never 33 = .ok (.iload 4, 2) := by decide +kernel
theorem dX6_never_35 : decode cX6_never 35 = .ok (.invokevirtual 230, 3) := by decide +kernel
theorem dX6_never_38 : decode cX6_never 38 = .ok (.ifCond .eq 22, 3) := by decide +kernel
theorem dX6_never_41 : decode cX6_never 41 = .ok (.iload_n 2, 1) := by decide +kernel
theorem dX6_never_42 : decode cX6_never 42 = .ok (.iconst (-1), 1) := by decide +kernel
theorem dX6_never_43 : decode cX6_never 43 = .ok (.if_icmp .ne 12, 3) := by decide +kernel
theorem dX6_never_46 : decode cX6_never 46 = .ok (.aload_n 0, 1) := by decide +kernel
theorem dX6_never_47 : decode cX6_never 47 = .ok (.iload 4, 2) := by decide +kernel
theorem dX6_never_49 : decode cX6_never 49 = .ok (.invokevirtual 233, 3) := by decide +kernel
theorem dX6_never_52 : decode cX6_never 52 = .ok (.goto 4, 3) := by decide +kernel
theorem dX6_never_55 : decode cX6_never 55 = .ok (.iload_n 2, 1) := by decide +kernel
theorem dX6_never_56 : decode cX6_never 56 = .ok (.istore_n 2, 1) := by decide +kernel
theorem dX6_never_57 : decode cX6_never 57 = .ok (.iinc 3 1, 3) := by decide +kernel
theorem dX6_never_60 : decode cX6_never 60 = .ok (.iinc 4 1, 3) := by decide +kernel
theorem dX6_never_63 : decode cX6_never 63 = .ok (.goto (-44), 3) := by decide +kernel
theorem dX6_never_66 : decode cX6_never 66 = .ok (.iload_n 1, 1) := by decide +kernel
theorem dX6_never_67 : decode cX6_never 67 = .ok (.ifCond .ne 7, 3) := by decide +kernel
theorem dX6_never_70 : decode cX6_never 70 = .ok (.iload_n 2, 1) := by decide +kernel
theorem dX6_never_71 : decode cX6_never 71 = .ok (.goto 4, 3) := by decide +kernel
theorem dX6_never_74 : decode cX6_never 74 = .ok (.iload_n 3, 1) := by decide +kernel
theorem dX6_never_75 : decode cX6_never 75 = .ok (.ireturn, 1) := by decide +kernel
theorem dX6_when_0 : decode cX6_when 0 = .ok (.iload_n 1, 1) := by decide +kernel
theorem dX6_when_1 : decode cX6_when 1 = .ok (.iconst 0, 1) := by decide +kernel
theorem dX6_when_2 : decode cX6_when 2 = .ok (.iconst 1, 1) := by decide +kernel
theorem dX6_when_3 : decode cX6_when 3 = .ok (.invokestatic 78, 3) := by decide +kernel
theorem dX6_when_6 : decode cX6_when 6 = .ok (.ifCond .ne 6, 3) := by decide +kernel
theorem dX6_when_9 : decode cX6_when 9 = .ok (.bipush (-2), 2) := by decide +kernel
theorem dX6_when_11 : decode cX6_when 11 = .ok (.ireturn, 1) := by decide +kernel
theorem dX6_when_12 : decode cX6_when 12 = .ok (.aload_n 0, 1) := by decide +kernel
theorem dX6_when_13 : decode cX6_when 13 = .ok (.getfield 7, 3) := by decide +kernel
theorem dX6_when_16 : decode cX6_when 16 = .ok (.bipush 6, 2) := by decide +kernel
theorem dX6_when_18 : decode cX6_when 18 = .ok (.iaload, 1) := by decide +kernel
theorem dX6_when_19 : decode cX6_when 19 = .ok (.istore_n 2, 1) := by decide +kernel
theorem dX6_when_20 : decode cX6_when 20 = .ok (.iconst 0, 1) := by decide +kernel
theorem dX6_when_21 : decode cX6_when 21 = .ok (.istore_n 3, 1) := by decide +kernel
theorem dX6_when_22 : decode cX6_when 22 = .ok (.iconst (-1), 1) := by decide +kernel
theorem dX6_when_23 : decode cX6_when 23 = .ok (.istore 4, 2) := by decide +kernel
theorem dX6_when_25 : decode cX6_when 25 = .ok (.iconst 0, 1) := by decide +kernel
theorem dX6_when_26 : decode cX6_when 26 = .ok (.istore 5, 2) := by decide +kernel
theorem dX6_when_28 : decode cX6_when 28 = .ok (.iload 5, 2) := by decide +kernel
theorem dX6_when_30 : decode cX6_when 30 = .ok (.bipush 13, 2) := by decide +kernel
theorem dX6_when_32 : decode cX6_when 32 = .ok (.if_icmp .gt 62, 3) := by decide +kernel
theorem dX6_when_35 : decode cX6_when 35 = .ok (.aload_n 0, 1) := by decide +kernel
theorem dX6_when_36 : decode cX6_when 36 = .ok (.getfield 7, 3) := by decide +kernel
theorem dX6_when_39 : decode cX6_when 39 = .ok (.bipush 6, 2) := by decide +kernel
theorem dX6_when_41 : decode cX6_when 41 = .ok (.iload_n 2, 1) := by decide +kernel
theorem dX6_when_42 : decode cX6_when 42 = .ok (.iload 5, 2) := by decide +kernel
theorem dX6_when_44 : decode cX6_when 44 = .ok (.iadd, 1) := by decide +kernel
theorem dX6_when_45 : decode cX6_when 45 = .ok (.iastore, 1) := by decide +kernel
theorem dX6_when_46 : decode cX6_when 46 = .ok (.aload_n 0, 1) := by decide +kernel
theorem dX6_when_47 : decode cX6_when 47 = .ok (.aload_n 0, 1) := by decide +kernel
theorem dX6_when_48 : decode cX6_when 48 = .ok (.getfield 7, 3) := by decide +kernel
theorem dX6_when_51 : decode cX6_when 51 = .ok (.iconst 0, 1) := by decide +kernel
theorem dX6_when_52 : decode cX6_when 52 = .ok (.iaload, 1) := by decide +kernel
theorem dX6_when_53 : decode cX6_when 53 = .ok (.invokevirtual 224, 3) := by decide +kernel
theorem dX6_when_56 : decode cX6_when 56 = .ok (.istore 6, 2) := by decide +kernel
theorem dX6_when_58 : decode cX6_when 58 = .ok (.iload 6, 2) := by decide +kernel
theorem dX6_when_60 : decode cX6_when 60 = .ok (.iload 4, 2) := by decide +kernel
theorem dX6_when_62 : decode cX6_when 62 = .ok (.if_icmp .le 8, 3) := by decide +kernel
theorem dX6_when_65 : decode cX6_when 65 = .ok (.iload 5, 2) := by decide +kernel
theorem dX6_when_67 : decode cX6_when 67 = .ok (.goto 4, 3) := by decide +kernel
theorem dX6_when_70 : decode cX6_when 70 = .ok (.iload_n 3, 1) := by decide +kernel
theorem dX6_when_71 : decode cX6_when 71 = .ok (.istore_n 3, 1) := by decide +kernel
theorem dX6_when_72 : decode cX6_when 72 = .ok (.iload 6, 2) := by decide +kernel
theorem dX6_when_74 : decode cX6_when 74 = .ok (.iload 4, 2) := by decide +kernel
theorem dX6_when_76 : decode cX6_when 76 = .ok (.if_icmp .le 8, 3) := by decide +kernel
theorem dX6_when_79 : decode cX6_when 79 = .ok (.iload 6, 2) := by decide +kernel
theorem dX6_when_81 : decode cX6_when 81 = .ok (.goto 5, 3) := by decide +kernel
theorem dX6_when_84 : decode cX6_when 84 = .ok (.iload 4, 2) := by decide +kernel
theorem dX6_when_86 : decode cX6_when 86 = .ok (.istore 4, 2) := by decide +kernel
theorem dX6_when_88 : decode cX6_when 88 = .ok (.iinc 5 1, 3) := by decide +kernel
theorem dX6_when_91 : decode cX6_when 91 = .ok (.goto (-63), 3) := by decide +kernel
theorem dX6_when_94 : decode cX6_when 94 = .ok (.aload_n 0, 1) := by decide +kernel
theorem dX6_when_95 : decode cX6_when 95 = .ok (.getfield 7, 3) := by decide +kernel
theorem dX6_when_98 : decode cX6_when 98 = .ok (.bipush 6, 2) := by decide +kernel
theorem dX6_when_100 : decode cX6_when 100 = .ok (.iload_n 2, 1) := by decide +kernel
theorem dX6_when_101 : decode cX6_when 101 = .ok (.iastore, 1) := by decide +kernel
theorem dX6_when_102 : decode cX6_when 102 = .ok (.iload_n 1, 1) := by decide +kernel
theorem dX6_when_103 : decode cX6_when 103 = .ok (.ifCond .ne 7, 3) := by decide +kernel
theorem dX6_when_106 : decode cX6_when 106 = .ok (.iload_n 3, 1) := by decide +kernel
theorem dX6_when_107 : decode cX6_when 107 = .ok (.goto 5, 3) := by decide +kernel
theorem dX6_when_110 : decode cX6_when 110 = .ok (.iload 4, 2) := by decide +kernel
theorem dX6_when_112 : decode cX6_when 112 = .ok (.ireturn, 1) := by decide +kernel
theorem dX6_sheetWrong_0 : decode cX6_sheetWrong 0 = .ok (.iload_n 1, 1) := by decide +kernel
theorem dX6_sheetWrong_1 : decode cX6_sheetWrong 1 = .ok (.iconst 0, 1) := by decide +kernel
theorem dX6_sheetWrong_2 : decode cX6_sheetWrong 2 = .ok (.iconst 3, 1) := by decide +kernel
theorem dX6_sheetWrong_3 : decode cX6_sheetWrong 3 = .ok (.invokestatic 78, 3) := by decide +kernel
theorem dX6_sheetWrong_6 : decode cX6_sheetWrong 6 = .ok (.ifCond .ne 8, 3) := by decide +kernel
theorem dX6_sheetWrong_9 : decode cX6_sheetWrong 9 = .ok (.bipush (-2), 2) := by decide +kernel
theorem dX6_sheetWrong_11 : decode cX6_sheetWrong 11 = .ok (.goto 19, 3) := by decide +kernel
theorem dX6_sheetWrong_14 : decode cX6_sheetWrong 14 = .ok (.aload_n 0, 1) := by decide +kernel
theorem dX6_sheetWrong_15 : decode cX6_sheetWrong 15 = .ok (.getfield 41, 3) := by decide +kernel
theorem dX6_sheetWrong_18 : decode cX6_sheetWrong 18 = .ok (.iload_n 1, 1) := by decide +kernel
theorem dX6_sheetWrong_19 : decode cX6_sheetWrong 19 = .ok (.iaload, 1) := by decide +kernel
theorem dX6_sheetWrong_20 : decode cX6_sheetWrong 20 = .ok (.iconst (-1), 1) := by decide +kernel
theorem dX6_sheetWrong_21 : decode cX6_sheetWrong 21 = .ok (.if_icmp .ne 8, 3) := by decide +kernel
theorem dX6_sheetWrong_24 : decode cX6_sheetWrong 24 = .ok (.bipush (-11), 2) := by decide +kernel
theorem dX6_sheetWrong_26 : decode cX6_sheetWrong 26 = .ok (.goto 4, 3) := by decide +kernel
theorem dX6_sheetWrong_29 : decode cX6_sheetWrong 29 = .ok (.iconst 0, 1) := by decide +kernel
theorem dX6_sheetWrong_30 : decode cX6_sheetWrong 30 = .ok (.ireturn, 1) := by decide +kernel
theorem dX6_goesBy_0 : decode cX6_goesBy 0 = .ok (.iconst 0, 1) := by decide +kernel
theorem dX6_goesBy_1 : decode cX6_goesBy 1 = .ok (.istore_n 2, 1) := by decide +kernel
theorem dX6_goesBy_2 : decode cX6_goesBy 2 = .ok (.iload_n 2, 1) := by decide +kernel
theorem dX6_goesBy_3 : decode cX6_goesBy 3 = .ok (.aload_n 0, 1) := by decide +kernel
theorem dX6_goesBy_4 : decode cX6_goesBy 4 = .ok (.getfield 44, 3) := by decide +kernel
theorem dX6_goesBy_7 : decode cX6_goesBy 7 = .ok (.iload_n 1, 1) := by decide +kernel
theorem dX6_goesBy_8 : decode cX6_goesBy 8 = .ok (.iaload, 1) := by decide +kernel
theorem dX6_goesBy_9 : decode cX6_goesBy 9 = .ok (.if_icmp .ge 44, 3) := by decide +kernel
theorem dX6_goesBy_12 : decode cX6_goesBy 12 = .ok (.aload_n 0, 1) := by decide +kernel
theorem dX6_goesBy_13 : decode cX6_goesBy 13 = .ok (.getfield 47, 3) := by decide +kernel
theorem dX6_goesBy_16 : decode cX6_goesBy 16 = .ok (.bipush 40, 2) := by decide +kernel
theorem dX6_goesBy_18 : decode cX6_goesBy 18 = .ok (.iload_n 1, 1) := by decide +kernel
theorem dX6_goesBy_19 : decode cX6_goesBy 19 = .ok (.imul, 1) := by decide +kernel
theorem dX6_goesBy_20 : decode cX6_goesBy 20 = .ok (.iload_n 2, 1) := by decide +kernel
theorem dX6_goesBy_21 : decode cX6_goesBy 21 = .ok (.iadd, 1) := by decide +kernel
theorem dX6_goesBy_22 : decode cX6_goesBy 22 = .ok (.iaload, 1) := by decide +kernel
theorem dX6_goesBy_23 : decode cX6_goesBy 23 = .ok (.istore_n 3, 1) := by decide +kernel
theorem dX6_goesBy_24 : decode cX6_goesBy 24 = .ok (.aload_n 0, 1) := by decide +kernel
theorem dX6_goesBy_25 : decode cX6_goesBy 25 = .ok (.iload_n 3, 1) := by decide +kernel
theorem dX6_goesBy_26 : decode cX6_goesBy 26 = .ok (.invokevirtual 186, 3) := by decide +kernel
theorem dX6_goesBy_29 : decode cX6_goesBy 29 = .ok (.ifCond .eq 11, 3) := by decide +kernel
theorem dX6_goesBy_32 : decode cX6_goesBy 32 = .ok (.aload_n 0, 1) := by decide +kernel
theorem dX6_goesBy_33 : decode cX6_goesBy 33 = .ok (.iload_n 3, 1) := by decide +kernel
theorem dX6_goesBy_34 : decode cX6_goesBy 34 = .ok (.invokevirtual 189, 3) := by decide +kernel
theorem dX6_goesBy_37 : decode cX6_goesBy 37 = .ok (.ifCond .ne 5, 3) := by decide +kernel
theorem dX6_goesBy_40 : decode cX6_goesBy 40 = .ok (.iload_n 2, 1) := by decide +kernel
theorem dX6_goesBy_41 : decode cX6_goesBy 41 = .ok (.ireturn, 1) := by decide +kernel
theorem dX6_goesBy_42 : decode cX6_goesBy 42 = .ok (.aload_n 0, 1) := by decide +kernel
theorem dX6_goesBy_43 : decode cX6_goesBy 43 = .ok (.iload_n 3, 1) := by decide +kernel
theorem dX6_goesBy_44 : decode cX6_goesBy 44 = .ok (.invokevirtual 192, 3) := by decide +kernel
theorem dX6_goesBy_47 : decode cX6_goesBy 47 = .ok (.iinc 2 1, 3) := by decide +kernel
theorem dX6_goesBy_50 : decode cX6_goesBy 50 = .ok (.goto (-48), 3) := by decide +kernel
theorem dX6_goesBy_53 : decode cX6_goesBy 53 = .ok (.iconst (-1), 1) := by decide +kernel
theorem dX6_goesBy_54 : decode cX6_goesBy 54 = .ok (.ireturn, 1) := by decide +kernel
theorem dX6_judge_0 : decode cX6_judge 0 = .ok (.aload_n 0, 1) := by decide +kernel
theorem dX6_judge_1 : decode cX6_judge 1 = .ok (.iload_n 1, 1) := by decide +kernel
theorem dX6_judge_2 : decode cX6_judge 2 = .ok (.invokevirtual 236, 3) := by decide +kernel
theorem dX6_judge_5 : decode cX6_judge 5 = .ok (.istore_n 2, 1) := by decide +kernel
theorem dX6_judge_6 : decode cX6_judge 6 = .ok (.iload_n 2, 1) := by decide +kernel
theorem dX6_judge_7 : decode cX6_judge 7 = .ok (.ifCond .eq 5, 3) := by decide +kernel
theorem dX6_judge_10 : decode cX6_judge 10 = .ok (.iload_n 2, 1) := by decide +kernel
theorem dX6_judge_11 : decode cX6_judge 11 = .ok (.ireturn, 1) := by decide +kernel
theorem dX6_judge_12 : decode cX6_judge 12 = .ok (.aload_n 0, 1) := by decide +kernel
theorem dX6_judge_13 : decode cX6_judge 13 = .ok (.iconst 0, 1) := by decide +kernel
theorem dX6_judge_14 : decode cX6_judge 14 = .ok (.invokevirtual 198, 3) := by decide +kernel
theorem dX6_judge_17 : decode cX6_judge 17 = .ok (.aload_n 0, 1) := by decide +kernel
theorem dX6_judge_18 : decode cX6_judge 18 = .ok (.iload_n 1, 1) := by decide +kernel
theorem dX6_judge_19 : decode cX6_judge 19 = .ok (.invokevirtual 239, 3) := by decide +kernel
theorem dX6_judge_22 : decode cX6_judge 22 = .ok (.istore_n 3, 1) := by decide +kernel
theorem dX6_judge_23 : decode cX6_judge 23 = .ok (.aload_n 0, 1) := by decide +kernel
theorem dX6_judge_24 : decode cX6_judge 24 = .ok (.iconst 0, 1) := by decide +kernel
theorem dX6_judge_25 : decode cX6_judge 25 = .ok (.invokevirtual 204, 3) := by decide +kernel
theorem dX6_judge_28 : decode cX6_judge 28 = .ok (.iload_n 3, 1) := by decide +kernel
theorem dX6_judge_29 : decode cX6_judge 29 = .ok (.ireturn, 1) := by decide +kernel
theorem dX6_behind_0 : decode cX6_behind 0 = .ok (.aload_n 0, 1) := by decide +kernel
theorem dX6_behind_1 : decode cX6_behind 1 = .ok (.iload_n 1, 1) := by decide +kernel
theorem dX6_behind_2 : decode cX6_behind 2 = .ok (.invokevirtual 236, 3) := by decide +kernel
theorem dX6_behind_5 : decode cX6_behind 5 = .ok (.istore_n 3, 1) := by decide +kernel
theorem dX6_behind_6 : decode cX6_behind 6 = .ok (.iload_n 3, 1) := by decide +kernel
theorem dX6_behind_7 : decode cX6_behind 7 = .ok (.ifCond .eq 5, 3) := by decide +kernel
theorem dX6_behind_10 : decode cX6_behind 10 = .ok (.iload_n 3, 1) := by decide +kernel
theorem dX6_behind_11 : decode cX6_behind 11 = .ok (.ireturn, 1) := by decide +kernel
theorem dX6_behind_12 : decode cX6_behind 12 = .ok (.iload_n 2, 1) := by decide +kernel
theorem dX6_behind_13 : decode cX6_behind 13 = .ok (.iconst 0, 1) := by decide +kernel
theorem dX6_behind_14 : decode cX6_behind 14 = .ok (.bipush 6, 2) := by decide +kernel
theorem dX6_behind_16 : decode cX6_behind 16 = .ok (.invokestatic 78, 3) := by decide +kernel
theorem dX6_behind_19 : decode cX6_behind 19 = .ok (.ifCond .ne 6, 3) := by decide +kernel
theorem dX6_behind_22 : decode cX6_behind 22 = .ok (.bipush (-7), 2) := by decide +kernel
theorem dX6_behind_24 : decode cX6_behind 24 = .ok (.ireturn, 1) := by decide +kernel
theorem dX6_behind_25 : decode cX6_behind 25 = .ok (.aload_n 0, 1) := by decide +kernel
theorem dX6_behind_26 : decode cX6_behind 26 = .ok (.iconst 0, 1) := by decide +kernel
theorem dX6_behind_27 : decode cX6_behind 27 = .ok (.invokevirtual 198, 3) := by decide +kernel
theorem dX6_behind_30 : decode cX6_behind 30 = .ok (.aload_n 0, 1) := by decide +kernel
theorem dX6_behind_31 : decode cX6_behind 31 = .ok (.iload_n 1, 1) := by decide +kernel
theorem dX6_behind_32 : decode cX6_behind 32 = .ok (.invokevirtual 239, 3) := by decide +kernel
theorem dX6_behind_35 : decode cX6_behind 35 = .ok (.iconst (-1), 1) := by decide +kernel
theorem dX6_behind_36 : decode cX6_behind 36 = .ok (.if_icmp .ne 12, 3) := by decide +kernel
theorem dX6_behind_39 : decode cX6_behind 39 = .ok (.aload_n 0, 1) := by decide +kernel
theorem dX6_behind_40 : decode cX6_behind 40 = .ok (.getfield 7, 3) := by decide +kernel
theorem dX6_behind_43 : decode cX6_behind 43 = .ok (.iload_n 2, 1) := by decide +kernel
theorem dX6_behind_44 : decode cX6_behind 44 = .ok (.iaload, 1) := by decide +kernel
theorem dX6_behind_45 : decode cX6_behind 45 = .ok (.goto 5, 3) := by decide +kernel
theorem dX6_behind_48 : decode cX6_behind 48 = .ok (.bipush (-9), 2) := by decide +kernel
theorem dX6_behind_50 : decode cX6_behind 50 = .ok (.istore 4, 2) := by decide +kernel
theorem dX6_behind_52 : decode cX6_behind 52 = .ok (.aload_n 0, 1) := by decide +kernel
theorem dX6_behind_53 : decode cX6_behind 53 = .ok (.iconst 0, 1) := by decide +kernel
theorem dX6_behind_54 : decode cX6_behind 54 = .ok (.invokevirtual 204, 3) := by decide +kernel
theorem dX6_behind_57 : decode cX6_behind 57 = .ok (.iload 4, 2) := by decide +kernel
theorem dX6_behind_59 : decode cX6_behind 59 = .ok (.ireturn, 1) := by decide +kernel
theorem dX6_film_0 : decode cX6_film 0 = .ok (.iload_n 1, 1) := by decide +kernel
theorem dX6_film_1 : decode cX6_film 1 = .ok (.iconst 0, 1) := by decide +kernel
theorem dX6_film_2 : decode cX6_film 2 = .ok (.iconst 3, 1) := by decide +kernel
theorem dX6_film_3 : decode cX6_film 3 = .ok (.invokestatic 78, 3) := by decide +kernel
theorem dX6_film_6 : decode cX6_film 6 = .ok (.ifCond .ne 6, 3) := by decide +kernel
theorem dX6_film_9 : decode cX6_film 9 = .ok (.bipush (-2), 2) := by decide +kernel
theorem dX6_film_11 : decode cX6_film 11 = .ok (.ireturn, 1) := by decide +kernel
theorem dX6_film_12 : decode cX6_film 12 = .ok (.iload_n 2, 1) := by decide +kernel
theorem dX6_film_13 : decode cX6_film 13 = .ok (.iconst 0, 1) := by decide +kernel
theorem dX6_film_14 : decode cX6_film 14 = .ok (.bipush 40, 2) := by decide +kernel
theorem dX6_film_16 : decode cX6_film 16 = .ok (.invokestatic 78, 3) := by decide +kernel
theorem dX6_film_19 : decode cX6_film 19 = .ok (.ifCond .ne 6, 3) := by decide +kernel
theorem dX6_film_22 : decode cX6_film 22 = .ok (.bipush (-7), 2) := by decide +kernel
theorem dX6_film_24 : decode cX6_film 24 = .ok (.ireturn, 1) := by decide +kernel
theorem dX6_film_25 : decode cX6_film 25 = .ok (.iconst 0, 1) := by decide +kernel
theorem dX6_film_26 : decode cX6_film 26 = .ok (.istore_n 3, 1) := by decide +kernel
theorem dX6_film_27 : decode cX6_film 27 = .ok (.iload_n 3, 1) := by decide +kernel
theorem dX6_film_28 : decode cX6_film 28 = .ok (.bipush 40, 2) := by decide +kernel
theorem dX6_film_30 : decode cX6_film 30 = .ok (.if_icmp .ge 21, 3) := by decide +kernel
theorem dX6_film_33 : decode cX6_film 33 = .ok (.aload_n 0, 1) := by decide +kernel
theorem dX6_film_34 : decode cX6_film 34 = .ok (.getfield 47, 3) := by decide +kernel
theorem dX6_film_37 : decode cX6_film 37 = .ok (.bipush 40, 2) := by decide +kernel
theorem dX6_film_39 : decode cX6_film 39 = .ok (.iload_n 1, 1) := by decide +kernel
theorem dX6_film_40 : decode cX6_film 40 = .ok (.imul, 1) := by decide +kernel
theorem dX6_film_41 : decode cX6_film 41 = .ok (.iload_n 3, 1) := by decide +kernel
theorem dX6_film_42 : decode cX6_film 42 = .ok (.iadd, 1) := by decide +kernel
theorem dX6_film_43 : decode cX6_film 43 = .ok (.iconst 0, 1) := by decide +kernel
theorem dX6_film_44 : decode cX6_film 44 = .ok (.iastore, 1) := by decide +kernel
theorem dX6_film_45 : decode cX6_film 45 = .ok (.iinc 3 1, 3) := by decide +kernel
theorem dX6_film_48 : decode cX6_film 48 = .ok (.goto (-21), 3) := by decide +kernel
theorem dX6_film_51 : decode cX6_film 51 = .ok (.aload_n 0, 1) := by decide +kernel
theorem dX6_film_52 : decode cX6_film 52 = .ok (.iconst 0, 1) := by decide +kernel
theorem dX6_film_53 : decode cX6_film 53 = .ok (.invokevirtual 198, 3) := by decide +kernel
theorem dX6_film_56 : decode cX6_film 56 = .ok (.iconst 0, 1) := by decide +kernel
theorem dX6_film_57 : decode cX6_film 57 = .ok (.istore_n 3, 1) := by decide +kernel
theorem dX6_film_58 : decode cX6_film 58 = .ok (.iload_n 2, 1) := by decide +kernel
theorem dX6_film_59 : decode cX6_film 59 = .ok (.ifCond .le 10, 3) := by decide +kernel
theorem dX6_film_62 : decode cX6_film 62 = .ok (.aload_n 0, 1) := by decide +kernel
theorem dX6_film_63 : decode cX6_film 63 = .ok (.invokevirtual 195, 3) := by decide +kernel
theorem dX6_film_66 : decode cX6_film 66 = .ok (.goto 4, 3) := by decide +kernel
theorem dX6_film_69 : decode cX6_film 69 = .ok (.iconst (-1), 1) := by decide +kernel
theorem dX6_film_70 : decode cX6_film 70 = .ok (.istore 4, 2) := by decide +kernel
theorem dX6_film_72 : decode cX6_film 72 = .ok (.iload 4, 2) := by decide +kernel
theorem dX6_film_74 : decode cX6_film 74 = .ok (.iconst (-1), 1) := by decide +kernel
theorem dX6_film_75 : decode cX6_film 75 = .ok (.if_icmp .eq 43, 3) := by decide +kernel
theorem dX6_film_78 : decode cX6_film 78 = .ok (.aload_n 0, 1) := by decide +kernel
theorem dX6_film_79 : decode cX6_film 79 = .ok (.getfield 47, 3) := by decide +kernel
theorem dX6_film_82 : decode cX6_film 82 = .ok (.bipush 40, 2) := by decide +kernel
theorem dX6_film_84 : decode cX6_film 84 = .ok (.iload_n 1, 1) := by decide +kernel
theorem dX6_film_85 : decode cX6_film 85 = .ok (.imul, 1) := by decide +kernel
theorem dX6_film_86 : decode cX6_film 86 = .ok (.iload_n 3, 1) := by decide +kernel
theorem dX6_film_87 : decode cX6_film 87 = .ok (.iadd, 1) := by decide +kernel
theorem dX6_film_88 : decode cX6_film 88 = .ok (.iload 4, 2) := by decide +kernel
theorem dX6_film_90 : decode cX6_film 90 = .ok (.iastore, 1) := by decide +kernel
theorem dX6_film_91 : decode cX6_film 91 = .ok (.aload_n 0, 1) := by decide +kernel
theorem dX6_film_92 : decode cX6_film 92 = .ok (.iload 4, 2) := by decide +kernel
theorem dX6_film_94 : decode cX6_film 94 = .ok (.invokevirtual 192, 3) := by decide +kernel
theorem dX6_film_97 : decode cX6_film 97 = .ok (.iinc 3 1, 3) := by decide +kernel
theorem dX6_film_100 : decode cX6_film 100 = .ok (.iload_n 3, 1) := by decide +kernel
theorem dX6_film_101 : decode cX6_film 101 = .ok (.iload_n 2, 1) := by decide +kernel
theorem dX6_film_102 : decode cX6_film 102 = .ok (.if_icmp .ge 10, 3) := by decide +kernel
theorem dX6_film_105 : decode cX6_film 105 = .ok (.aload_n 0, 1) := by decide +kernel
theorem dX6_film_106 : decode cX6_film 106 = .ok (.invokevirtual 195, 3) := by decide +kernel
theorem dX6_film_109 : decode cX6_film 109 = .ok (.goto 4, 3) := by decide +kernel
theorem dX6_film_112 : decode cX6_film 112 = .ok (.iconst (-1), 1) := by decide +kernel
theorem dX6_film_113 : decode cX6_film 113 = .ok (.istore 4, 2) := by decide +kernel
theorem dX6_film_115 : decode cX6_film 115 = .ok (.goto (-43), 3) := by decide +kernel
theorem dX6_film_118 : decode cX6_film 118 = .ok (.aload_n 0, 1) := by decide +kernel
theorem dX6_film_119 : decode cX6_film 119 = .ok (.iconst 0, 1) := by decide +kernel
theorem dX6_film_120 : decode cX6_film 120 = .ok (.invokevirtual 204, 3) := by decide +kernel
theorem dX6_film_123 : decode cX6_film 123 = .ok (.aload_n 0, 1) := by decide +kernel
theorem dX6_film_124 : decode cX6_film 124 = .ok (.getfield 41, 3) := by decide +kernel
theorem dX6_film_127 : decode cX6_film 127 = .ok (.iload_n 1, 1) := by decide +kernel
theorem dX6_film_128 : decode cX6_film 128 = .ok (.iconst 2, 1) := by decide +kernel
theorem dX6_film_129 : decode cX6_film 129 = .ok (.iastore, 1) := by decide +kernel
theorem dX6_film_130 : decode cX6_film 130 = .ok (.aload_n 0, 1) := by decide +kernel
theorem dX6_film_131 : decode cX6_film 131 = .ok (.getfield 44, 3) := by decide +kernel
theorem dX6_film_134 : decode cX6_film 134 = .ok (.iload_n 1, 1) := by decide +kernel
theorem dX6_film_135 : decode cX6_film 135 = .ok (.iload_n 3, 1) := by decide +kernel
theorem dX6_film_136 : decode cX6_film 136 = .ok (.iastore, 1) := by decide +kernel
theorem dX6_film_137 : decode cX6_film 137 = .ok (.iload_n 3, 1) := by decide +kernel
theorem dX6_film_138 : decode cX6_film 138 = .ok (.ireturn, 1) := by decide +kernel
theorem dX6_laws_0 : decode cX6_laws 0 = .ok (.iload_n 1, 1) := by decide +kernel
theorem dX6_laws_1 : decode cX6_laws 1 = .ok (.iconst 0, 1) := by decide +kernel
theorem dX6_laws_2 : decode cX6_laws 2 = .ok (.sipush 999, 3) := by decide +kernel
theorem dX6_laws_5 : decode cX6_laws 5 = .ok (.invokestatic 78, 3) := by decide +kernel
theorem dX6_laws_8 : decode cX6_laws 8 = .ok (.ifCond .ne 6, 3) := by decide +kernel
theorem dX6_laws_11 : decode cX6_laws 11 = .ok (.bipush (-2), 2) := by decide +kernel
theorem dX6_laws_13 : decode cX6_laws 13 = .ok (.ireturn, 1) := by decide +kernel
theorem dX6_laws_14 : decode cX6_laws 14 = .ok (.aload_n 0, 1) := by decide +kernel
theorem dX6_laws_15 : decode cX6_laws 15 = .ok (.getfield 85, 3) := by decide +kernel
theorem dX6_laws_18 : decode cX6_laws 18 = .ok (.istore_n 2, 1) := by decide +kernel
theorem dX6_laws_19 : decode cX6_laws 19 = .ok (.iconst 0, 1) := by decide +kernel
theorem dX6_laws_20 : decode cX6_laws 20 = .ok (.istore_n 3, 1) := by decide +kernel
theorem dX6_laws_21 : decode cX6_laws 21 = .ok (.iconst 0, 1) := by decide +kernel
theorem dX6_laws_22 : decode cX6_laws 22 = .ok (.istore 4, 2) := by decide +kernel
theorem dX6_laws_24 : decode cX6_laws 24 = .ok (.iload 4, 2) := by decide +kernel
theorem dX6_laws_26 : decode cX6_laws 26 = .ok (.aload_n 0, 1) := by decide +kernel
theorem dX6_laws_27 : decode cX6_laws 27 = .ok (.getfield 82, 3) := by decide +kernel
theorem dX6_laws_30 : decode cX6_laws 30 = .ok (.if_icmp .ge 40, 3) := by decide +kernel
theorem dX6_laws_33 : decode cX6_laws 33 = .ok (.aload_n 0, 1) := by decide +kernel
theorem dX6_laws_34 : decode cX6_laws 34 = .ok (.iload 4, 2) := by decide +kernel
theorem dX6_laws_36 : decode cX6_laws 36 = .ok (.putfield 85, 3) := by decide +kernel
theorem dX6_laws_39 : decode cX6_laws 39 = .ok (.iload_n 3, 1) := by decide +kernel
theorem dX6_laws_40 : decode cX6_laws 40 = .ok (.aload_n 0, 1) := by decide +kernel
theorem dX6_laws_41 : decode cX6_laws 41 = .ok (.aload_n 0, 1) := by decide +kernel
theorem dX6_laws_42 : decode cX6_laws 42 = .ok (.getfield 7, 3) := by decide +kernel
theorem dX6_laws_45 : decode cX6_laws 45 = .ok (.iconst 0, 1) := by decide +kernel
theorem dX6_laws_46 : decode cX6_laws 46 = .ok (.iaload, 1) := by decide +kernel
theorem dX6_laws_47 : decode cX6_laws 47 = .ok (.invokevirtual 224, 3) := by decide +kernel
theorem dX6_laws_50 : decode cX6_laws 50 = .ok (.iload_n 1, 1) := by decide +kernel
theorem dX6_laws_51 : decode cX6_laws 51 = .ok (.if_icmp .ne 10, 3) := by decide +kernel
theorem dX6_laws_54 : decode cX6_laws 54 = .ok (.iconst 1, 1) := by decide +kernel
theorem dX6_laws_55 : decode cX6_laws 55 = .ok (.iload 4, 2) := by decide +kernel
theorem dX6_laws_57 : decode cX6_laws 57 = .ok (.ishl, 1) := by decide +kernel
theorem dX6_laws_58 : decode cX6_laws 58 = .ok (.goto 4, 3) := by decide +kernel
theorem dX6_laws_61 : decode cX6_laws 61 = .ok (.iconst 0, 1) := by decide +kernel
theorem dX6_laws_62 : decode cX6_laws 62 = .ok (.ior, 1) := by decide +kernel
theorem dX6_laws_63 : decode cX6_laws 63 = .ok (.istore_n 3, 1) := by decide +kernel
theorem dX6_laws_64 : decode cX6_laws 64 = .ok (.iinc 4 1, 3) := by decide +kernel
theorem dX6_laws_67 : decode cX6_laws 67 = .ok (.goto (-43), 3) := by decide +kernel
theorem dX6_laws_70 : decode cX6_laws 70 = .ok (.aload_n 0, 1) := by decide +kernel
theorem dX6_laws_71 : decode cX6_laws 71 = .ok (.iload_n 2, 1) := by decide +kernel
theorem dX6_laws_72 : decode cX6_laws 72 = .ok (.putfield 85, 3) := by decide +kernel
theorem dX6_laws_75 : decode cX6_laws 75 = .ok (.iload_n 3, 1) := by decide +kernel
theorem dX6_laws_76 : decode cX6_laws 76 = .ok (.ireturn, 1) := by decide +kernel
theorem dX6_drunkBy_0 : decode cX6_drunkBy 0 = .ok (.iload_n 1, 1) := by decide +kernel
theorem dX6_drunkBy_1 : decode cX6_drunkBy 1 = .ok (.i2l, 1) := by decide +kernel
theorem dX6_drunkBy_2 : decode cX6_drunkBy 2 = .ok (.lconst 1, 1) := by decide +kernel
theorem dX6_drunkBy_3 : decode cX6_drunkBy 3 = .ok (.ladd, 1) := by decide +kernel
theorem dX6_drunkBy_4 : decode cX6_drunkBy 4 = .ok (.lstore_n 3, 1) := by decide +kernel
theorem dX6_drunkBy_5 : decode cX6_drunkBy 5 = .ok (.aload_n 0, 1) := by decide +kernel
theorem dX6_drunkBy_6 : decode cX6_drunkBy 6 = .ok (.iconst 0, 1) := by decide +kernel
theorem dX6_drunkBy_7 : decode cX6_drunkBy 7 = .ok (.invokevirtual 198, 3) := by decide +kernel
theorem dX6_drunkBy_10 : decode cX6_drunkBy 10 = .ok (.iload_n 2, 1) := by decide +kernel
theorem dX6_drunkBy_11 : decode cX6_drunkBy 11 = .ok (.ifCond .le 10, 3) := by decide +kernel
theorem dX6_drunkBy_14 : decode cX6_drunkBy 14 = .ok (.aload_n 0, 1) := by decide +kernel
theorem dX6_drunkBy_15 : decode cX6_drunkBy 15 = .ok (.invokevirtual 195, 3) := by decide +kernel
theorem dX6_drunkBy_18 : decode cX6_drunkBy 18 = .ok (.goto 4, 3) := by decide +kernel
theorem dX6_drunkBy_21 : decode cX6_drunkBy 21 = .ok (.iconst (-1), 1) := by decide +kernel
theorem dX6_drunkBy_22 : decode cX6_drunkBy 22 = .ok (.istore 5, 2) := by decide +kernel
theorem dX6_drunkBy_24 : decode cX6_drunkBy 24 = .ok (.iconst 1, 1) := by decide +kernel
theorem dX6_drunkBy_25 : decode cX6_drunkBy 25 = .ok (.istore 6, 2) := by decide +kernel
theorem dX6_drunkBy_27 : decode cX6_drunkBy 27 = .ok (.iload 5, 2) := by decide +kernel
theorem dX6_drunkBy_29 : decode cX6_drunkBy 29 = .ok (.iconst (-1), 1) := by decide +kernel
theorem dX6_drunkBy_30 : decode cX6_drunkBy 30 = .ok (.if_icmp .eq 88, 3) := by decide +kernel
theorem dX6_drunkBy_33 : decode cX6_drunkBy 33 = .ok (.aload_n 0, 1) := by decide +kernel
theorem dX6_drunkBy_34 : decode cX6_drunkBy 34 = .ok (.iconst 2, 1) := by decide +kernel
theorem dX6_drunkBy_35 : decode cX6_drunkBy 35 = .ok (.invokevirtual 158, 3) := by decide +kernel
theorem dX6_drunkBy_38 : decode cX6_drunkBy 38 = .ok (.istore 7, 2) := by decide +kernel
theorem dX6_drunkBy_40 : decode cX6_drunkBy 40 = .ok (.aload_n 0, 1) := by decide +kernel
theorem dX6_drunkBy_41 : decode cX6_drunkBy 41 = .ok (.iload 5, 2) := by decide +kernel
theorem dX6_drunkBy_43 : decode cX6_drunkBy 43 = .ok (.invokevirtual 192, 3) := by decide +kernel
theorem dX6_drunkBy_46 : decode cX6_drunkBy 46 = .ok (.iload 5, 2) := by decide +kernel
theorem dX6_drunkBy_48 : decode cX6_drunkBy 48 = .ok (.ifCond .ne 48, 3) := by decide +kernel
theorem dX6_drunkBy_51 : decode cX6_drunkBy 51 = .ok (.lload_n 3, 1) := by decide +kernel
theorem dX6_drunkBy_52 : decode cX6_drunkBy 52 = .ok (.ldc2_w 242, 3) := by decide +kernel
theorem dX6_drunkBy_55 : decode cX6_drunkBy 55 = .ok (.lmul, 1) := by decide +kernel
theorem dX6_drunkBy_56 : decode cX6_drunkBy 56 = .ok (.ldc2_w 244, 3) := by decide +kernel
theorem dX6_drunkBy_59 : decode cX6_drunkBy 59 = .ok (.lrem, 1) := by decide +kernel
theorem dX6_drunkBy_60 : decode cX6_drunkBy 60 = .ok (.lstore_n 3, 1) := by decide +kernel
theorem dX6_drunkBy_61 : decode cX6_drunkBy 61 = .ok (.aload_n 0, 1) := by decide +kernel
theorem dX6_drunkBy_62 : decode cX6_drunkBy 62 = .ok (.getfield 7, 3) := by decide +kernel
theorem dX6_drunkBy_65 : decode cX6_drunkBy 65 = .ok (.iconst 1, 1) := by decide +kernel
theorem dX6_drunkBy_66 : decode cX6_drunkBy 66 = .ok (.dup2, 1) := by decide +kernel
theorem dX6_drunkBy_67 : decode cX6_drunkBy 67 = .ok (.iaload, 1) := by decide +kernel
theorem dX6_drunkBy_68 : decode cX6_drunkBy 68 = .ok (.aload_n 0, 1) := by decide +kernel
theorem dX6_drunkBy_69 : decode cX6_drunkBy 69 = .ok (.getfield 7, 3) := by decide +kernel
theorem dX6_drunkBy_72 : decode cX6_drunkBy 72 = .ok (.iconst 1, 1) := by decide +kernel
theorem dX6_drunkBy_73 : decode cX6_drunkBy 73 = .ok (.iaload, 1) := by decide +kernel
theorem dX6_drunkBy_74 : decode cX6_drunkBy 74 = .ok (.ifCond .le 19, 3) := by decide +kernel
theorem dX6_drunkBy_77 : decode cX6_drunkBy 77 = .ok (.lload_n 3, 1) := by decide +kernel
theorem dX6_drunkBy_78 : decode cX6_drunkBy 78 = .ok (.ldc2_w 246, 3) := by decide +kernel
theorem dX6_drunkBy_81 : decode cX6_drunkBy 81 = .ok (.lrem, 1) := by decide +kernel
theorem dX6_drunkBy_82 : decode cX6_drunkBy 82 = .ok (.iload 7, 2) := by decide +kernel
theorem dX6_drunkBy_84 : decode cX6_drunkBy 84 = .ok (.i2l, 1) := by decide +kernel
theorem dX6_drunkBy_85 : decode cX6_drunkBy 85 = .ok (.lcmp, 1) := by decide +kernel
theorem dX6_drunkBy_86 : decode cX6_drunkBy 86 = .ok (.ifCond .ge 7, 3) := by decide +kernel
theorem dX6_drunkBy_89 : decode cX6_drunkBy 89 = .ok (.iconst 1, 1) := by decide +kernel
theorem dX6_drunkBy_90 : decode cX6_drunkBy 90 = .ok (.goto 4, 3) := by decide +kernel
theorem dX6_drunkBy_93 : decode cX6_drunkBy 93 = .ok (.iconst 0, 1) := by decide +kernel
theorem dX6_drunkBy_94 : decode cX6_drunkBy 94 = .ok (.isub, 1) := by decide +kernel
theorem dX6_drunkBy_95 : decode cX6_drunkBy 95 = .ok (.iastore, 1) := by decide +kernel
theorem dX6_drunkBy_96 : decode cX6_drunkBy 96 = .ok (.iload 6, 2) := by decide +kernel
theorem dX6_drunkBy_98 : decode cX6_drunkBy 98 = .ok (.iload_n 2, 1) := by decide +kernel
theorem dX6_drunkBy_99 : decode cX6_drunkBy 99 = .ok (.if_icmp .ge 10, 3) := by decide +kernel
theorem dX6_drunkBy_102 : decode cX6_drunkBy 102 = .ok (.aload_n 0, 1) := by decide +kernel
theorem dX6_drunkBy_103 : decode cX6_drunkBy 103 = .ok (.invokevirtual 195, 3) := by decide +kernel
theorem dX6_drunkBy_106 : decode cX6_drunkBy 106 = .ok (.goto 4, 3) := by decide +kernel
theorem dX6_drunkBy_109 : decode cX6_drunkBy 109 = .ok (.iconst (-1), 1) := by decide +kernel
theorem dX6_drunkBy_110 : decode cX6_drunkBy 110 = .ok (.istore 5, 2) := by decide +kernel
theorem dX6_drunkBy_112 : decode cX6_drunkBy 112 = .ok (.iinc 6 1, 3) := by decide +kernel
theorem dX6_drunkBy_115 : decode cX6_drunkBy 115 = .ok (.goto (-88), 3) := by decide +kernel
theorem dX6_drunkBy_118 : decode cX6_drunkBy 118 = .ok (.aload_n 0, 1) := by decide +kernel
theorem dX6_drunkBy_119 : decode cX6_drunkBy 119 = .ok (.getfield 7, 3) := by decide +kernel
theorem dX6_drunkBy_122 : decode cX6_drunkBy 122 = .ok (.iconst 5, 1) := by decide +kernel
theorem dX6_drunkBy_123 : decode cX6_drunkBy 123 = .ok (.iaload, 1) := by decide +kernel
theorem dX6_drunkBy_124 : decode cX6_drunkBy 124 = .ok (.istore 6, 2) := by decide +kernel
theorem dX6_drunkBy_126 : decode cX6_drunkBy 126 = .ok (.aload_n 0, 1) := by decide +kernel
theorem dX6_drunkBy_127 : decode cX6_drunkBy 127 = .ok (.iconst 0, 1) := by decide +kernel
theorem dX6_drunkBy_128 : decode cX6_drunkBy 128 = .ok (.invokevirtual 204, 3) := by decide +kernel
theorem dX6_drunkBy_131 : decode cX6_drunkBy 131 = .ok (.iload 6, 2) := by decide +kernel
theorem dX6_drunkBy_133 : decode cX6_drunkBy 133 = .ok (.ireturn, 1) := by decide +kernel
theorem dX6_isDrawn_0 : decode cX6_isDrawn 0 = .ok (.iload_n 0, 1) := by decide +kernel
theorem dX6_isDrawn_1 : decode cX6_isDrawn 1 = .ok (.iconst 0, 1) := by decide +kernel
theorem dX6_isDrawn_2 : decode cX6_isDrawn 2 = .ok (.ldc 248, 2) := by decide +kernel
theorem dX6_isDrawn_4 : decode cX6_isDrawn 4 = .ok (.invokestatic 78, 3) := by decide +kernel
theorem dX6_isDrawn_7 : decode cX6_isDrawn 7 = .ok (.ifCond .eq 18, 3) := by decide +kernel
theorem dX6_isDrawn_10 : decode cX6_isDrawn 10 = .ok (.iload_n 1, 1) := by decide +kernel
theorem dX6_isDrawn_11 : decode cX6_isDrawn 11 = .ok (.iconst 0, 1) := by decide +kernel
theorem dX6_isDrawn_12 : decode cX6_isDrawn 12 = .ok (.sipush 200, 3) := by decide +kernel
theorem dX6_isDrawn_15 : decode cX6_isDrawn 15 = .ok (.invokestatic 78, 3) := by decide +kernel
theorem dX6_isDrawn_18 : decode cX6_isDrawn 18 = .ok (.ifCond .eq 7, 3) := by decide +kernel
theorem dX6_isDrawn_21 : decode cX6_isDrawn 21 = .ok (.iconst 1, 1) := by decide +kernel
theorem dX6_isDrawn_22 : decode cX6_isDrawn 22 = .ok (.goto 4, 3) := by decide +kernel
theorem dX6_isDrawn_25 : decode cX6_isDrawn 25 = .ok (.iconst 0, 1) := by decide +kernel
theorem dX6_isDrawn_26 : decode cX6_isDrawn 26 = .ok (.ireturn, 1) := by decide +kernel
theorem dX6_drawn_0 : decode cX6_drawn 0 = .ok (.iload_n 1, 1) := by decide +kernel
theorem dX6_drawn_1 : decode cX6_drawn 1 = .ok (.iload_n 2, 1) := by decide +kernel
theorem dX6_drawn_2 : decode cX6_drawn 2 = .ok (.invokestatic 249, 3) := by decide +kernel
theorem dX6_drawn_5 : decode cX6_drawn 5 = .ok (.ifCond .eq 12, 3) := by decide +kernel
theorem dX6_drawn_8 : decode cX6_drawn 8 = .ok (.aload_n 0, 1) := by decide +kernel
theorem dX6_drawn_9 : decode cX6_drawn 9 = .ok (.iload_n 1, 1) := by decide +kernel
theorem dX6_drawn_10 : decode cX6_drawn 10 = .ok (.iload_n 2, 1) := by decide +kernel
theorem dX6_drawn_11 : decode cX6_drawn 11 = .ok (.invokevirtual 252, 3) := by decide +kernel
theorem dX6_drawn_14 : decode cX6_drawn 14 = .ok (.goto 5, 3) := by decide +kernel
theorem dX6_drawn_17 : decode cX6_drawn 17 = .ok (.bipush (-2), 2) := by decide +kernel
theorem dX6_drawn_19 : decode cX6_drawn 19 = .ok (.ireturn, 1) := by decide +kernel
theorem dX6_lowest_0 : decode cX6_lowest 0 = .ok (.lload_n 0, 1) := by decide +kernel
theorem dX6_lowest_1 : decode cX6_lowest 1 = .ok (.lconst 0, 1) := by decide +kernel
theorem dX6_lowest_2 : decode cX6_lowest 2 = .ok (.lcmp, 1) := by decide +kernel
theorem dX6_lowest_3 : decode cX6_lowest 3 = .ok (.ifCond .ne 7, 3) := by decide +kernel
theorem dX6_lowest_6 : decode cX6_lowest 6 = .ok (.iload 4, 2) := by decide +kernel
theorem dX6_lowest_8 : decode cX6_lowest 8 = .ok (.i2l, 1) := by decide +kernel
theorem dX6_lowest_9 : decode cX6_lowest 9 = .ok (.lreturn, 1) := by decide +kernel
theorem dX6_lowest_10 : decode cX6_lowest 10 = .ok (.lload_n 0, 1) := by decide +kernel
theorem dX6_lowest_11 : decode cX6_lowest 11 = .ok (.lstore 5, 2) := by decide +kernel
theorem dX6_lowest_13 : decode cX6_lowest 13 = .ok (.lload_n 2, 1) := by decide +kernel
theorem dX6_lowest_14 : decode cX6_lowest 14 = .ok (.lstore 7, 2) := by decide +kernel
theorem dX6_lowest_16 : decode cX6_lowest 16 = .ok (.lload 7, 2) := by decide +kernel
theorem dX6_lowest_18 : decode cX6_lowest 18 = .ok (.lconst 0, 1) := by decide +kernel
theorem dX6_lowest_19 : decode cX6_lowest 19 = .ok (.lcmp, 1) := by decide +kernel
theorem dX6_lowest_20 : decode cX6_lowest 20 = .ok (.ifCond .eq 21, 3) := by decide +kernel
theorem dX6_lowest_23 : decode cX6_lowest 23 = .ok (.lload 5, 2) := by decide +kernel
theorem dX6_lowest_25 : decode cX6_lowest 25 = .ok (.lload 7, 2) := by decide +kernel
theorem dX6_lowest_27 : decode cX6_lowest 27 = .ok (.lrem, 1) := by decide +kernel
theorem dX6_lowest_28 : decode cX6_lowest 28 = .ok (.lstore 9, 2) := by decide +kernel
theorem dX6_lowest_30 : decode cX6_lowest 30 = .ok (.lload 7, 2) := by decide +kernel
theorem dX6_lowest_32 : decode cX6_lowest 32 = .ok (.lstore 5, 2) := by decide +kernel
theorem dX6_lowest_34 : decode cX6_lowest 34 = .ok (.lload 9, 2) := by decide +kernel
theorem dX6_lowest_36 : decode cX6_lowest 36 = .ok (.lstore 7, 2) := by decide +kernel
theorem dX6_lowest_38 : decode cX6_lowest 38 = .ok (.goto (-22), 3) := by decide +kernel
theorem dX6_lowest_41 : decode cX6_lowest 41 = .ok (.iload 4, 2) := by decide +kernel
theorem dX6_lowest_43 : decode cX6_lowest 43 = .ok (.ifCond .ne 7, 3) := by decide +kernel
theorem dX6_lowest_46 : decode cX6_lowest 46 = .ok (.lload_n 0, 1) := by decide +kernel
theorem dX6_lowest_47 : decode cX6_lowest 47 = .ok (.goto 4, 3) := by decide +kernel
theorem dX6_lowest_50 : decode cX6_lowest 50 = .ok (.lload_n 2, 1) := by decide +kernel
theorem dX6_lowest_51 : decode cX6_lowest 51 = .ok (.lload 5, 2) := by decide +kernel
theorem dX6_lowest_53 : decode cX6_lowest 53 = .ok (.ldiv, 1) := by decide +kernel
theorem dX6_lowest_54 : decode cX6_lowest 54 = .ok (.lreturn, 1) := by decide +kernel
theorem dX6_mean_0 : decode cX6_mean 0 = .ok (.iload_n 1, 1) := by decide +kernel
theorem dX6_mean_1 : decode cX6_mean 1 = .ok (.iload_n 3, 1) := by decide +kernel
theorem dX6_mean_2 : decode cX6_mean 2 = .ok (.invokestatic 249, 3) := by decide +kernel
theorem dX6_mean_5 : decode cX6_mean 5 = .ok (.ifCond .eq 23, 3) := by decide +kernel
theorem dX6_mean_8 : decode cX6_mean 8 = .ok (.iload_n 2, 1) := by decide +kernel
theorem dX6_mean_9 : decode cX6_mean 9 = .ok (.iconst 1, 1) := by decide +kernel
theorem dX6_mean_10 : decode cX6_mean 10 = .ok (.bipush 30, 2) := by decide +kernel
theorem dX6_mean_12 : decode cX6_mean 12 = .ok (.invokestatic 78, 3) := by decide +kernel
theorem dX6_mean_15 : decode cX6_mean 15 = .ok (.ifCond .eq 13, 3) := by decide +kernel
theorem dX6_mean_18 : decode cX6_mean 18 = .ok (.iload 4, 2) := by decide +kernel
theorem dX6_mean_20 : decode cX6_mean 20 = .ok (.iconst 0, 1) := by decide +kernel
theorem dX6_mean_21 : decode cX6_mean 21 = .ok (.iconst 1, 1) := by decide +kernel
theorem dX6_mean_22 : decode cX6_mean 22 = .ok (.invokestatic 78, 3) := by decide +kernel
theorem dX6_mean_25 : decode cX6_mean 25 = .ok (.ifCond .ne 7, 3) := by decide +kernel
theorem dX6_mean_28 : decode cX6_mean 28 = .ok (.ldc2_w 227, 3) := by decide +kernel
theorem dX6_mean_31 : decode cX6_mean 31 = .ok (.lreturn, 1) := by decide +kernel
theorem dX6_mean_32 : decode cX6_mean 32 = .ok (.lconst 0, 1) := by decide +kernel
theorem dX6_mean_33 : decode cX6_mean 33 = .ok (.lstore 5, 2) := by decide +kernel
theorem dX6_mean_35 : decode cX6_mean 35 = .ok (.iconst 0, 1) := by decide +kernel
theorem dX6_mean_36 : decode cX6_mean 36 = .ok (.istore 7, 2) := by decide +kernel
theorem dX6_mean_38 : decode cX6_mean 38 = .ok (.iload 7, 2) := by decide +kernel
theorem dX6_mean_40 : decode cX6_mean 40 = .ok (.iload_n 2, 1) := by decide +kernel
theorem dX6_mean_41 : decode cX6_mean 41 = .ok (.if_icmp .ge 24, 3) := by decide +kernel
theorem dX6_mean_44 : decode cX6_mean 44 = .ok (.lload 5, 2) := by decide +kernel
theorem dX6_mean_46 : decode cX6_mean 46 = .ok (.aload_n 0, 1) := by decide +kernel
theorem dX6_mean_47 : decode cX6_mean 47 = .ok (.iload_n 1, 1) := by decide +kernel
theorem dX6_mean_48 : decode cX6_mean 48 = .ok (.iload 7, 2) := by decide +kernel
theorem dX6_mean_50 : decode cX6_mean 50 = .ok (.iadd, 1) := by decide +kernel
theorem dX6_mean_51 : decode cX6_mean 51 = .ok (.iload_n 3, 1) := by decide +kernel
theorem dX6_mean_52 : decode cX6_mean 52 = .ok (.invokevirtual 252, 3) := by decide +kernel
theorem dX6_mean_55 : decode cX6_mean 55 = .ok (.i2l, 1) := by decide +kernel
theorem dX6_mean_56 : decode cX6_mean 56 = .ok (.ladd, 1) := by decide +kernel
theorem dX6_mean_57 : decode cX6_mean 57 = .ok (.lstore 5, 2) := by decide +kernel
theorem dX6_mean_59 : decode cX6_mean 59 = .ok (.iinc 7 1, 3) := by decide +kernel
theorem dX6_mean_62 : decode cX6_mean 62 = .ok (.goto (-24), 3) := by decide +kernel
theorem dX6_mean_65 : decode cX6_mean 65 = .ok (.lload 5, 2) := by decide +kernel
theorem dX6_mean_67 : decode cX6_mean 67 = .ok (.iload_n 2, 1) := by decide +kernel
theorem dX6_mean_68 : decode cX6_mean 68 = .ok (.i2l, 1) := by decide +kernel
theorem dX6_mean_69 : decode cX6_mean 69 = .ok (.iload 4, 2) := by decide +kernel
theorem dX6_mean_71 : decode cX6_mean 71 = .ok (.invokestatic 255, 3) := by decide +kernel
theorem dX6_mean_74 : decode cX6_mean 74 = .ok (.lreturn, 1) := by decide +kernel
theorem dX6_image_0 : decode cX6_image 0 = .ok (.aload_n 0, 1) := by decide +kernel
theorem dX6_image_1 : decode cX6_image 1 = .ok (.iconst 1, 1) := by decide +kernel
theorem dX6_image_2 : decode cX6_image 2 = .ok (.putfield 259, 3) := by decide +kernel
theorem dX6_image_5 : decode cX6_image 5 = .ok (.aload_n 0, 1) := by decide +kernel
theorem dX6_image_6 : decode cX6_image 6 = .ok (.aload_n 0, 1) := by decide +kernel
theorem dX6_image_7 : decode cX6_image 7 = .ok (.getfield 75, 3) := by decide +kernel
theorem dX6_image_10 : decode cX6_image 10 = .ok (.putfield 262, 3) := by decide +kernel
theorem dX6_image_13 : decode cX6_image 13 = .ok (.aload_n 0, 1) := by decide +kernel
theorem dX6_image_14 : decode cX6_image 14 = .ok (.aload_n 0, 1) := by decide +kernel
theorem dX6_image_15 : decode cX6_image 15 = .ok (.getfield 85, 3) := by decide +kernel
theorem dX6_image_18 : decode cX6_image 18 = .ok (.putfield 265, 3) := by decide +kernel
theorem dX6_image_21 : decode cX6_image 21 = .ok (.iconst 0, 1) := by decide +kernel
theorem dX6_image_22 : decode cX6_image 22 = .ok (.istore_n 1, 1) := by decide +kernel
theorem dX6_image_23 : decode cX6_image 23 = .ok (.iload_n 1, 1) := by decide +kernel
theorem dX6_image_24 : decode cX6_image 24 = .ok (.bipush 7, 2) := by decide +kernel
theorem dX6_image_26 : decode cX6_image 26 = .ok (.if_icmp .ge 21, 3) := by decide +kernel
theorem dX6_image_29 : decode cX6_image 29 = .ok (.aload_n 0, 1) := by decide +kernel
theorem dX6_image_30 : decode cX6_image 30 = .ok (.getfield 38, 3) := by decide +kernel
theorem dX6_image_33 : decode cX6_image 33 = .ok (.iload_n 1, 1) := by decide +kernel
theorem dX6_image_34 : decode cX6_image 34 = .ok (.aload_n 0, 1) := by decide +kernel
theorem dX6_image_35 : decode cX6_image 35 = .ok (.getfield 7, 3) := by decide +kernel
theorem dX6_image_38 : decode cX6_image 38 = .ok (.iload_n 1, 1) := by decide +kernel
theorem dX6_image_39 : decode cX6_image 39 = .ok (.iaload, 1) := by decide +kernel
theorem dX6_image_40 : decode cX6_image 40 = .ok (.iastore, 1) := by decide +kernel
theorem dX6_image_41 : decode cX6_image 41 = .ok (.iinc 1 1, 3) := by decide +kernel
theorem dX6_image_44 : decode cX6_image 44 = .ok (.goto (-21), 3) := by decide +kernel
theorem dX6_image_47 : decode cX6_image 47 = .ok (.iconst 0, 1) := by decide +kernel
theorem dX6_image_48 : decode cX6_image 48 = .ok (.istore_n 1, 1) := by decide +kernel
theorem dX6_image_49 : decode cX6_image 49 = .ok (.iload_n 1, 1) := by decide +kernel
theorem dX6_image_50 : decode cX6_image 50 = .ok (.iconst 5, 1) := by decide +kernel
theorem dX6_image_51 : decode cX6_image 51 = .ok (.if_icmp .ge 39, 3) := by decide +kernel
theorem dX6_image_54 : decode cX6_image 54 = .ok (.aload_n 0, 1) := by decide +kernel
theorem dX6_image_55 : decode cX6_image 55 = .ok (.getfield 38, 3) := by decide +kernel
theorem dX6_image_58 : decode cX6_image 58 = .ok (.bipush 7, 2) := by decide +kernel
theorem dX6_image_60 : decode cX6_image 60 = .ok (.iload_n 1, 1) := by decide +kernel
theorem dX6_image_61 : decode cX6_image 61 = .ok (.iadd, 1) := by decide +kernel
theorem dX6_image_62 : decode cX6_image 62 = .ok (.aload_n 0, 1) := by decide +kernel
theorem dX6_image_63 : decode cX6_image 63 = .ok (.getfield 13, 3) := by decide +kernel
theorem dX6_image_66 : decode cX6_image 66 = .ok (.iload_n 1, 1) := by decide +kernel
theorem dX6_image_67 : decode cX6_image 67 = .ok (.iaload, 1) := by decide +kernel
theorem dX6_image_68 : decode cX6_image 68 = .ok (.iastore, 1) := by decide +kernel
theorem dX6_image_69 : decode cX6_image 69 = .ok (.aload_n 0, 1) := by decide +kernel
theorem dX6_image_70 : decode cX6_image 70 = .ok (.getfield 38, 3) := by decide +kernel
theorem dX6_image_73 : decode cX6_image 73 = .ok (.bipush 12, 2) := by decide +kernel
theorem dX6_image_75 : decode cX6_image 75 = .ok (.iload_n 1, 1) := by decide +kernel
theorem dX6_image_76 : decode cX6_image 76 = .ok (.iadd, 1) := by decide +kernel
theorem dX6_image_77 : decode cX6_image 77 = .ok (.aload_n 0, 1) := by decide +kernel
theorem dX6_image_78 : decode cX6_image 78 = .ok (.getfield 22, 3) := by decide +kernel
theorem dX6_image_81 : decode cX6_image 81 = .ok (.iload_n 1, 1) := by decide +kernel
theorem dX6_image_82 : decode cX6_image 82 = .ok (.iaload, 1) := by decide +kernel
theorem dX6_image_83 : decode cX6_image 83 = .ok (.iastore, 1) := by decide +kernel
theorem dX6_image_84 : decode cX6_image 84 = .ok (.iinc 1 1, 3) := by decide +kernel
theorem dX6_image_87 : decode cX6_image 87 = .ok (.goto (-38), 3) := by decide +kernel
theorem dX6_image_90 : decode cX6_image 90 = .ok (.aload_n 0, 1) := by decide +kernel
theorem dX6_image_91 : decode cX6_image 91 = .ok (.getfield 75, 3) := by decide +kernel
theorem dX6_image_94 : decode cX6_image 94 = .ok (.ireturn, 1) := by decide +kernel
theorem dX6_back_0 : decode cX6_back 0 = .ok (.aload_n 0, 1) := by decide +kernel
theorem dX6_back_1 : decode cX6_back 1 = .ok (.getfield 259, 3) := by decide +kernel
theorem dX6_back_4 : decode cX6_back 4 = .ok (.ifCond .ne 6, 3) := by decide +kernel
theorem dX6_back_7 : decode cX6_back 7 = .ok (.bipush (-3), 2) := by decide +kernel
theorem dX6_back_9 : decode cX6_back 9 = .ok (.ireturn, 1) := by decide +kernel
theorem dX6_back_10 : decode cX6_back 10 = .ok (.aload_n 0, 1) := by decide +kernel
theorem dX6_back_11 : decode cX6_back 11 = .ok (.aload_n 0, 1) := by decide +kernel
theorem dX6_back_12 : decode cX6_back 12 = .ok (.getfield 262, 3) := by decide +kernel
theorem dX6_back_15 : decode cX6_back 15 = .ok (.putfield 75, 3) := by decide +kernel
theorem dX6_back_18 : decode cX6_back 18 = .ok (.aload_n 0, 1) := by decide +kernel
theorem dX6_back_19 : decode cX6_back 19 = .ok (.aload_n 0, 1) := by decide +kernel
theorem dX6_back_20 : decode cX6_back 20 = .ok (.getfield 265, 3) := by decide +kernel
theorem dX6_back_23 : decode cX6_back 23 = .ok (.putfield 85, 3) := by decide +kernel
theorem dX6_back_26 : decode cX6_back 26 = .ok (.iconst 0, 1) := by decide +kernel
theorem dX6_back_27 : decode cX6_back 27 = .ok (.istore_n 1, 1) := by decide +kernel
theorem dX6_back_28 : decode cX6_back 28 = .ok (.iload_n 1, 1) := by decide +kernel
theorem dX6_back_29 : decode cX6_back 29 = .ok (.bipush 7, 2) := by decide +kernel
theorem dX6_back_31 : decode cX6_back 31 = .ok (.if_icmp .ge 21, 3) := by decide +kernel
theorem dX6_back_34 : decode cX6_back 34 = .ok (.aload_n 0, 1) := by decide +kernel
theorem dX6_back_35 : decode cX6_back 35 = .ok (.getfield 7, 3) := by decide +kernel
theorem dX6_back_38 : decode cX6_back 38 = .ok (.iload_n 1, 1) := by decide +kernel
theorem dX6_back_39 : decode cX6_back 39 = .ok (.aload_n 0, 1) := by decide +kernel
theorem dX6_back_40 : decode cX6_back 40 = .ok (.getfield 38, 3) := by decide +kernel
theorem dX6_back_43 : decode cX6_back 43 = .ok (.iload_n 1, 1) := by decide +kernel
theorem dX6_back_44 : decode cX6_back 44 = .ok (.iaload, 1) := by decide +kernel
theorem dX6_back_45 : decode cX6_back 45 = .ok (.iastore, 1) := by decide +kernel
theorem dX6_back_46 : decode cX6_back 46 = .ok (.iinc 1 1, 3) := by decide +kernel
theorem dX6_back_49 : decode cX6_back 49 = .ok (.goto (-21), 3) := by decide +kernel
theorem dX6_back_52 : decode cX6_back 52 = .ok (.iconst 0, 1) := by decide +kernel
theorem dX6_back_53 : decode cX6_back 53 = .ok (.istore_n 1, 1) := by decide +kernel
theorem dX6_back_54 : decode cX6_back 54 = .ok (.iload_n 1, 1) := by decide +kernel
theorem dX6_back_55 : decode cX6_back 55 = .ok (.iconst 5, 1) := by decide +kernel
theorem dX6_back_56 : decode cX6_back 56 = .ok (.if_icmp .ge 39, 3) := by decide +kernel
theorem dX6_back_59 : decode cX6_back 59 = .ok (.aload_n 0, 1) := by decide +kernel
theorem dX6_back_60 : decode cX6_back 60 = .ok (.getfield 13, 3) := by decide +kernel
theorem dX6_back_63 : decode cX6_back 63 = .ok (.iload_n 1, 1) := by decide +kernel
theorem dX6_back_64 : decode cX6_back 64 = .ok (.aload_n 0, 1) := by decide +kernel
theorem dX6_back_65 : decode cX6_back 65 = .ok (.getfield 38, 3) := by decide +kernel
theorem dX6_back_68 : decode cX6_back 68 = .ok (.bipush 7, 2) := by decide +kernel
theorem dX6_back_70 : decode cX6_back 70 = .ok (.iload_n 1, 1) := by decide +kernel
theorem dX6_back_71 : decode cX6_back 71 = .ok (.iadd, 1) := by decide +kernel
theorem dX6_back_72 : decode cX6_back 72 = .ok (.iaload, 1) := by decide +kernel
theorem dX6_back_73 : decode cX6_back 73 = .ok (.iastore, 1) := by decide +kernel
theorem dX6_back_74 : decode cX6_back 74 = .ok (.aload_n 0, 1) := by decide +kernel
theorem dX6_back_75 : decode cX6_back 75 = .ok (.getfield 22, 3) := by decide +kernel
theorem dX6_back_78 : decode cX6_back 78 = .ok (.iload_n 1, 1) := by decide +kernel
theorem dX6_back_79 : decode cX6_back 79 = .ok (.aload_n 0, 1) := by decide +kernel
theorem dX6_back_80 : decode cX6_back 80 = .ok (.getfield 38, 3) := by decide +kernel
theorem dX6_back_83 : decode cX6_back 83 = .ok (.bipush 12, 2) := by decide +kernel
theorem dX6_back_85 : decode cX6_back 85 = .ok (.iload_n 1, 1) := by decide +kernel
theorem dX6_back_86 : decode cX6_back 86 = .ok (.iadd, 1) := by decide +kernel
theorem dX6_back_87 : decode cX6_back 87 = .ok (.iaload, 1) := by decide +kernel
theorem dX6_back_88 : decode cX6_back 88 = .ok (.iastore, 1) := by decide +kernel
theorem dX6_back_89 : decode cX6_back 89 = .ok (.iinc 1 1, 3) := by decide +kernel
theorem dX6_back_92 : decode cX6_back 92 = .ok (.goto (-38), 3) := by decide +kernel
theorem dX6_back_95 : decode cX6_back 95 = .ok (.aload_n 0, 1) := by decide +kernel
theorem dX6_back_96 : decode cX6_back 96 = .ok (.getfield 75, 3) := by decide +kernel
theorem dX6_back_99 : decode cX6_back 99 = .ok (.ireturn, 1) := by decide +kernel
theorem dX6_sheet_0 : decode cX6_sheet 0 = .ok (.iload_n 1, 1) := by decide +kernel
theorem dX6_sheet_1 : decode cX6_sheet 1 = .ok (.iconst 0, 1) := by decide +kernel
theorem dX6_sheet_2 : decode cX6_sheet 2 = .ok (.iconst 3, 1) := by decide +kernel
theorem dX6_sheet_3 : decode cX6_sheet 3 = .ok (.invokestatic 78, 3) := by decide +kernel
theorem dX6_sheet_6 : decode cX6_sheet 6 = .ok (.ifCond .eq 23, 3) := by decide +kernel
theorem dX6_sheet_9 : decode cX6_sheet 9 = .ok (.iload_n 2, 1) := by decide +kernel
theorem dX6_sheet_10 : decode cX6_sheet 10 = .ok (.iconst (-1), 1) := by decide +kernel
theorem dX6_sheet_11 : decode cX6_sheet 11 = .ok (.iconst 2, 1) := by decide +kernel
theorem dX6_sheet_12 : decode cX6_sheet 12 = .ok (.invokestatic 78, 3) := by decide +kernel
theorem dX6_sheet_15 : decode cX6_sheet 15 = .ok (.ifCond .eq 14, 3) := by decide +kernel
theorem dX6_sheet_18 : decode cX6_sheet 18 = .ok (.iload_n 2, 1) := by decide +kernel
theorem dX6_sheet_19 : decode cX6_sheet 19 = .ok (.iconst (-1), 1) := by decide +kernel
theorem dX6_sheet_20 : decode cX6_sheet 20 = .ok (.if_icmp .eq 12, 3) := by decide +kernel
theorem dX6_sheet_23 : decode cX6_sheet 23 = .ok (.iload_n 3, 1) := by decide +kernel
theorem dX6_sheet_24 : decode cX6_sheet 24 = .ok (.bipush 40, 2) := by decide +kernel
theorem dX6_sheet_26 : decode cX6_sheet 26 = .ok (.if_icmp .le 6, 3) := by decide +kernel
theorem dX6_sheet_29 : decode cX6_sheet 29 = .ok (.bipush (-2), 2) := by decide +kernel
theorem dX6_sheet_31 : decode cX6_sheet 31 = .ok (.ireturn, 1) := by decide +kernel
theorem dX6_sheet_32 : decode cX6_sheet 32 = .ok (.iload_n 2, 1) := by decide +kernel
theorem dX6_sheet_33 : decode cX6_sheet 33 = .ok (.iconst (-1), 1) := by decide +kernel
theorem dX6_sheet_34 : decode cX6_sheet 34 = .ok (.if_icmp .eq 10, 3) := by decide +kernel
theorem dX6_sheet_37 : decode cX6_sheet 37 = .ok (.iload_n 3, 1) := by decide +kernel
theorem dX6_sheet_38 : decode cX6_sheet 38 = .ok (.ifCond .ge 6, 3) := by decide +kernel
theorem dX6_sheet_41 : decode cX6_sheet 41 = .ok (.bipush (-14), 2) := by decide +kernel
theorem dX6_sheet_43 : decode cX6_sheet 43 = .ok (.ireturn, 1) := by decide +kernel
theorem dX6_sheet_44 : decode cX6_sheet 44 = .ok (.aload_n 0, 1) := by decide +kernel
theorem dX6_sheet_45 : decode cX6_sheet 45 = .ok (.getfield 41, 3) := by decide +kernel
theorem dX6_sheet_48 : decode cX6_sheet 48 = .ok (.iload_n 1, 1) := by decide +kernel
theorem dX6_sheet_49 : decode cX6_sheet 49 = .ok (.iload_n 2, 1) := by decide +kernel
theorem dX6_sheet_50 : decode cX6_sheet 50 = .ok (.iastore, 1) := by decide +kernel
theorem dX6_sheet_51 : decode cX6_sheet 51 = .ok (.aload_n 0, 1) := by decide +kernel
theorem dX6_sheet_52 : decode cX6_sheet 52 = .ok (.getfield 44, 3) := by decide +kernel
theorem dX6_sheet_55 : decode cX6_sheet 55 = .ok (.iload_n 1, 1) := by decide +kernel
theorem dX6_sheet_56 : decode cX6_sheet 56 = .ok (.iload_n 2, 1) := by decide +kernel
theorem dX6_sheet_57 : decode cX6_sheet 57 = .ok (.iconst (-1), 1) := by decide +kernel
theorem dX6_sheet_58 : decode cX6_sheet 58 = .ok (.if_icmp .ne 7, 3) := by decide +kernel
theorem dX6_sheet_61 : decode cX6_sheet 61 = .ok (.iconst 0, 1) := by decide +kernel
theorem dX6_sheet_62 : decode cX6_sheet 62 = .ok (.goto 4, 3) := by decide +kernel
theorem dX6_sheet_65 : decode cX6_sheet 65 = .ok (.iload_n 3, 1) := by decide +kernel
theorem dX6_sheet_66 : decode cX6_sheet 66 = .ok (.iastore, 1) := by decide +kernel
theorem dX6_sheet_67 : decode cX6_sheet 67 = .ok (.iconst 0, 1) := by decide +kernel
theorem dX6_sheet_68 : decode cX6_sheet 68 = .ok (.istore 4, 2) := by decide +kernel
theorem dX6_sheet_70 : decode cX6_sheet 70 = .ok (.iload 4, 2) := by decide +kernel
theorem dX6_sheet_72 : decode cX6_sheet 72 = .ok (.bipush 40, 2) := by decide +kernel
theorem dX6_sheet_74 : decode cX6_sheet 74 = .ok (.if_icmp .ge 22, 3) := by decide +kernel
theorem dX6_sheet_77 : decode cX6_sheet 77 = .ok (.aload_n 0, 1) := by decide +kernel
theorem dX6_sheet_78 : decode cX6_sheet 78 = .ok (.getfield 47, 3) := by decide +kernel
theorem dX6_sheet_81 : decode cX6_sheet 81 = .ok (.bipush 40, 2) := by decide +kernel
theorem dX6_sheet_83 : decode cX6_sheet 83 = .ok (.iload_n 1, 1) := by decide +kernel
theorem dX6_sheet_84 : decode cX6_sheet 84 = .ok (.imul, 1) := by decide +kernel
theorem dX6_sheet_85 : decode cX6_sheet 85 = .ok (.iload 4, 2) := by decide +kernel
theorem dX6_sheet_87 : decode cX6_sheet 87 = .ok (.iadd, 1) := by decide +kernel
theorem dX6_sheet_88 : decode cX6_sheet 88 = .ok (.iconst 0, 1) := by decide +kernel
theorem dX6_sheet_89 : decode cX6_sheet 89 = .ok (.iastore, 1) := by decide +kernel
theorem dX6_sheet_90 : decode cX6_sheet 90 = .ok (.iinc 4 1, 3) := by decide +kernel
theorem dX6_sheet_93 : decode cX6_sheet 93 = .ok (.goto (-23), 3) := by decide +kernel
theorem dX6_sheet_96 : decode cX6_sheet 96 = .ok (.iconst 1, 1) := by decide +kernel
theorem dX6_sheet_97 : decode cX6_sheet 97 = .ok (.ireturn, 1) := by decide +kernel
theorem dX6_cell_0 : decode cX6_cell 0 = .ok (.iload_n 1, 1) := by decide +kernel
theorem dX6_cell_1 : decode cX6_cell 1 = .ok (.iconst 0, 1) := by decide +kernel
theorem dX6_cell_2 : decode cX6_cell 2 = .ok (.iconst 3, 1) := by decide +kernel
theorem dX6_cell_3 : decode cX6_cell 3 = .ok (.invokestatic 78, 3) := by decide +kernel
theorem dX6_cell_6 : decode cX6_cell 6 = .ok (.ifCond .ne 6, 3) := by decide +kernel
theorem dX6_cell_9 : decode cX6_cell 9 = .ok (.bipush (-2), 2) := by decide +kernel
theorem dX6_cell_11 : decode cX6_cell 11 = .ok (.ireturn, 1) := by decide +kernel
theorem dX6_cell_12 : decode cX6_cell 12 = .ok (.aload_n 0, 1) := by decide +kernel
theorem dX6_cell_13 : decode cX6_cell 13 = .ok (.getfield 41, 3) := by decide +kernel
theorem dX6_cell_16 : decode cX6_cell 16 = .ok (.iload_n 1, 1) := by decide +kernel
theorem dX6_cell_17 : decode cX6_cell 17 = .ok (.iaload, 1) := by decide +kernel
theorem dX6_cell_18 : decode cX6_cell 18 = .ok (.iconst (-1), 1) := by decide +kernel
theorem dX6_cell_19 : decode cX6_cell 19 = .ok (.if_icmp .ne 6, 3) := by decide +kernel
theorem dX6_cell_22 : decode cX6_cell 22 = .ok (.bipush (-11), 2) := by decide +kernel
theorem dX6_cell_24 : decode cX6_cell 24 = .ok (.ireturn, 1) := by decide +kernel
theorem dX6_cell_25 : decode cX6_cell 25 = .ok (.iload_n 2, 1) := by decide +kernel
theorem dX6_cell_26 : decode cX6_cell 26 = .ok (.iconst 0, 1) := by decide +kernel
theorem dX6_cell_27 : decode cX6_cell 27 = .ok (.aload_n 0, 1) := by decide +kernel
theorem dX6_cell_28 : decode cX6_cell 28 = .ok (.getfield 44, 3) := by decide +kernel
theorem dX6_cell_31 : decode cX6_cell 31 = .ok (.iload_n 1, 1) := by decide +kernel
theorem dX6_cell_32 : decode cX6_cell 32 = .ok (.iaload, 1) := by decide +kernel
theorem dX6_cell_33 : decode cX6_cell 33 = .ok (.iconst 1, 1) := by decide +kernel
theorem dX6_cell_34 : decode cX6_cell 34 = .ok (.isub, 1) := by decide +kernel
theorem dX6_cell_35 : decode cX6_cell 35 = .ok (.invokestatic 78, 3) := by decide +kernel
theorem dX6_cell_38 : decode cX6_cell 38 = .ok (.ifCond .ne 6, 3) := by decide +kernel
theorem dX6_cell_41 : decode cX6_cell 41 = .ok (.bipush (-12), 2) := by decide +kernel
theorem dX6_cell_43 : decode cX6_cell 43 = .ok (.ireturn, 1) := by decide +kernel
theorem dX6_cell_44 : decode cX6_cell 44 = .ok (.aload_n 0, 1) := by decide +kernel
theorem dX6_cell_45 : decode cX6_cell 45 = .ok (.getfield 47, 3) := by decide +kernel
theorem dX6_cell_48 : decode cX6_cell 48 = .ok (.bipush 40, 2) := by decide +kernel
theorem dX6_cell_50 : decode cX6_cell 50 = .ok (.iload_n 1, 1) := by decide +kernel
theorem dX6_cell_51 : decode cX6_cell 51 = .ok (.imul, 1) := by decide +kernel
theorem dX6_cell_52 : decode cX6_cell 52 = .ok (.iload_n 2, 1) := by decide +kernel
theorem dX6_cell_53 : decode cX6_cell 53 = .ok (.iadd, 1) := by decide +kernel
theorem dX6_cell_54 : decode cX6_cell 54 = .ok (.aload_n 0, 1) := by decide +kernel
theorem dX6_cell_55 : decode cX6_cell 55 = .ok (.getfield 41, 3) := by decide +kernel
theorem dX6_cell_58 : decode cX6_cell 58 = .ok (.iload_n 1, 1) := by decide +kernel
theorem dX6_cell_59 : decode cX6_cell 59 = .ok (.iaload, 1) := by decide +kernel
theorem dX6_cell_60 : decode cX6_cell 60 = .ok (.ifCond .ne 8, 3) := by decide +kernel
theorem dX6_cell_63 : decode cX6_cell 63 = .ok (.iload_n 3, 1) := by decide +kernel
theorem dX6_cell_64 : decode cX6_cell 64 = .ok (.i2b, 1) := by decide +kernel
theorem dX6_cell_65 : decode cX6_cell 65 = .ok (.goto 19, 3) := by decide +kernel
theorem dX6_cell_68 : decode cX6_cell 68 = .ok (.aload_n 0, 1) := by decide +kernel
theorem dX6_cell_69 : decode cX6_cell 69 = .ok (.getfield 41, 3) := by decide +kernel
theorem dX6_cell_72 : decode cX6_cell 72 = .ok (.iload_n 1, 1) := by decide +kernel
theorem dX6_cell_73 : decode cX6_cell 73 = .ok (.iaload, 1) := by decide +kernel
theorem dX6_cell_74 : decode cX6_cell 74 = .ok (.iconst 1, 1) := by decide +kernel
theorem dX6_cell_75 : decode cX6_cell 75 = .ok (.if_icmp .ne 8, 3) := by decide +kernel
theorem dX6_cell_78 : decode cX6_cell 78 = .ok (.iload_n 3, 1) := by decide +kernel
theorem dX6_cell_79 : decode cX6_cell 79 = .ok (.i2s, 1) := by decide +kernel
theorem dX6_cell_80 : decode cX6_cell 80 = .ok (.goto 4, 3) := by decide +kernel
theorem dX6_cell_83 : decode cX6_cell 83 = .ok (.iload_n 3, 1) := by decide +kernel
theorem dX6_cell_84 : decode cX6_cell 84 = .ok (.iastore, 1) := by decide +kernel
theorem dX6_cell_85 : decode cX6_cell 85 = .ok (.iconst 1, 1) := by decide +kernel
theorem dX6_cell_86 : decode cX6_cell 86 = .ok (.ireturn, 1) := by decide +kernel
theorem dX6_copy_0 : decode cX6_copy 0 = .ok (.iload_n 1, 1) := by decide +kernel
theorem dX6_copy_1 : decode cX6_copy 1 = .ok (.iconst 0, 1) := by decide +kernel
theorem dX6_copy_2 : decode cX6_copy 2 = .ok (.iconst 3, 1) := by decide +kernel
theorem dX6_copy_3 : decode cX6_copy 3 = .ok (.invokestatic 78, 3) := by decide +kernel
theorem dX6_copy_6 : decode cX6_copy 6 = .ok (.ifCond .eq 12, 3) := by decide +kernel
theorem dX6_copy_9 : decode cX6_copy 9 = .ok (.iload_n 3, 1) := by decide +kernel
theorem dX6_copy_10 : decode cX6_copy 10 = .ok (.iconst 0, 1) := by decide +kernel
theorem dX6_copy_11 : decode cX6_copy 11 = .ok (.iconst 3, 1) := by decide +kernel
theorem dX6_copy_12 : decode cX6_copy 12 = .ok (.invokestatic 78, 3) := by decide +kernel
theorem dX6_copy_15 : decode cX6_copy 15 = .ok (.ifCond .ne 6, 3) := by decide +kernel
theorem dX6_copy_18 : decode cX6_copy 18 = .ok (.bipush (-2), 2) := by decide +kernel
theorem dX6_copy_20 : decode cX6_copy 20 = .ok (.ireturn, 1) := by decide +kernel
theorem dX6_copy_21 : decode cX6_copy 21 = .ok (.aload_n 0, 1) := by decide +kernel
theorem dX6_copy_22 : decode cX6_copy 22 = .ok (.getfield 41, 3) := by decide +kernel
theorem dX6_copy_25 : decode cX6_copy 25 = .ok (.iload_n 1, 1) := by decide +kernel
theorem dX6_copy_26 : decode cX6_copy 26 = .ok (.iaload, 1) := by decide +kernel
theorem dX6_copy_27 : decode cX6_copy 27 = .ok (.iconst (-1), 1) := by decide +kernel
theorem dX6_copy_28 : decode cX6_copy 28 = .ok (.if_icmp .eq 13, 3) := by decide +kernel
theorem dX6_copy_31 : decode cX6_copy 31 = .ok (.aload_n 0, 1) := by decide +kernel
theorem dX6_copy_32 : decode cX6_copy 32 = .ok (.getfield 41, 3) := by decide +kernel
theorem dX6_copy_35 : decode cX6_copy 35 = .ok (.iload_n 3, 1) := by decide +kernel
theorem dX6_copy_36 : decode cX6_copy 36 = .ok (.iaload, 1) := by decide +kernel
theorem dX6_copy_37 : decode cX6_copy 37 = .ok (.iconst (-1), 1) := by decide +kernel
theorem dX6_copy_38 : decode cX6_copy 38 = .ok (.if_icmp .ne 6, 3) := by decide +kernel
theorem dX6_copy_41 : decode cX6_copy 41 = .ok (.bipush (-11), 2) := by decide +kernel
theorem dX6_copy_43 : decode cX6_copy 43 = .ok (.ireturn, 1) := by decide +kernel
theorem dX6_copy_44 : decode cX6_copy 44 = .ok (.aload_n 0, 1) := by decide +kernel
theorem dX6_copy_45 : decode cX6_copy 45 = .ok (.getfield 41, 3) := by decide +kernel
theorem dX6_copy_48 : decode cX6_copy 48 = .ok (.iload_n 1, 1) := by decide +kernel
theorem dX6_copy_49 : decode cX6_copy 49 = .ok (.iaload, 1) := by decide +kernel
theorem dX6_copy_50 : decode cX6_copy 50 = .ok (.aload_n 0, 1) := by decide +kernel
theorem dX6_copy_51 : decode cX6_copy 51 = .ok (.getfield 41, 3) := by decide +kernel
theorem dX6_copy_54 : decode cX6_copy 54 = .ok (.iload_n 3, 1) := by decide +kernel
theorem dX6_copy_55 : decode cX6_copy 55 = .ok (.iaload, 1) := by decide +kernel
theorem dX6_copy_56 : decode cX6_copy 56 = .ok (.if_icmp .eq 6, 3) := by decide +kernel
theorem dX6_copy_59 : decode cX6_copy 59 = .ok (.bipush (-13), 2) := by decide +kernel
theorem dX6_copy_61 : decode cX6_copy 61 = .ok (.ireturn, 1) := by decide +kernel
theorem dX6_copy_62 : decode cX6_copy 62 = .ok (.iload 5, 2) := by decide +kernel
theorem dX6_copy_64 : decode cX6_copy 64 = .ok (.ifCond .lt 60, 3) := by decide +kernel
theorem dX6_copy_67 : decode cX6_copy 67 = .ok (.iload_n 2, 1) := by decide +kernel
theorem dX6_copy_68 : decode cX6_copy 68 = .ok (.ifCond .lt 56, 3) := by decide +kernel
theorem dX6_copy_71 : decode cX6_copy 71 = .ok (.iload 4, 2) := by decide +kernel
theorem dX6_copy_73 : decode cX6_copy 73 = .ok (.ifCond .lt 51, 3) := by decide +kernel
theorem dX6_copy_76 : decode cX6_copy 76 = .ok (.iload_n 2, 1) := by decide +kernel
theorem dX6_copy_77 : decode cX6_copy 77 = .ok (.aload_n 0, 1) := by decide +kernel
theorem dX6_copy_78 : decode cX6_copy 78 = .ok (.getfield 44, 3) := by decide +kernel
theorem dX6_copy_81 : decode cX6_copy 81 = .ok (.iload_n 1, 1) := by decide +kernel
theorem dX6_copy_82 : decode cX6_copy 82 = .ok (.iaload, 1) := by decide +kernel
theorem dX6_copy_83 : decode cX6_copy 83 = .ok (.if_icmp .gt 41, 3) := by decide +kernel
theorem dX6_copy_86 : decode cX6_copy 86 = .ok (.iload 4, 2) := by decide +kernel
theorem dX6_copy_88 : decode cX6_copy 88 = .ok (.aload_n 0, 1) := by decide +kernel
theorem dX6_copy_89 : decode cX6_copy 89 = .ok (.getfield 44, 3) := by decide +kernel
theorem dX6_copy_92 : decode cX6_copy 92 = .ok (.iload_n 3, 1) := by decide +kernel
theorem dX6_copy_93 : decode cX6_copy 93 = .ok (.iaload, 1) := by decide +kernel
theorem dX6_copy_94 : decode cX6_copy 94 = .ok (.if_icmp .gt 30, 3) := by decide +kernel
theorem dX6_copy_97 : decode cX6_copy 97 = .ok (.iload 5, 2) := by decide +kernel
theorem dX6_copy_99 : decode cX6_copy 99 = .ok (.aload_n 0, 1) := by decide +kernel
theorem dX6_copy_100 : decode cX6_copy 100 = .ok (.getfield 44, 3) := by decide +kernel
theorem dX6_copy_103 : decode cX6_copy 103 = .ok (.iload_n 1, 1) := by decide +kernel
theorem dX6_copy_104 : decode cX6_copy 104 = .ok (.iaload, 1) := by decide +kernel
theorem dX6_copy_105 : decode cX6_copy 105 = .ok (.iload_n 2, 1) := by decide +kernel
theorem dX6_copy_106 : decode cX6_copy 106 = .ok (.isub, 1) := by decide +kernel
theorem dX6_copy_107 : decode cX6_copy 107 = .ok (.if_icmp .gt 17, 3) := by decide +kernel
theorem dX6_copy_110 : decode cX6_copy 110 = .ok (.iload 5, 2) := by decide +kernel
theorem dX6_copy_112 : decode cX6_copy 112 = .ok (.aload_n 0, 1) := by decide +kernel
theorem dX6_copy_113 : decode cX6_copy 113 = .ok (.getfield 44, 3) := by decide +kernel
theorem dX6_copy_116 : decode cX6_copy 116 = .ok (.iload_n 3, 1) := by decide +kernel
theorem dX6_copy_117 : decode cX6_copy 117 = .ok (.iaload, 1) := by decide +kernel
theorem dX6_copy_118 : decode cX6_copy 118 = .ok (.iload 4, 2) := by decide +kernel
theorem dX6_copy_120 : decode cX6_copy 120 = .ok (.isub, 1) := by decide +kernel
theorem dX6_copy_121 : decode cX6_copy 121 = .ok (.if_icmp .le 6, 3) := by decide +kernel
theorem dX6_copy_124 : decode cX6_copy 124 = .ok (.bipush (-12), 2) := by decide +kernel
theorem dX6_copy_126 : decode cX6_copy 126 = .ok (.ireturn, 1) := by decide +kernel
theorem dX6_copy_127 : decode cX6_copy 127 = .ok (.bipush 40, 2) := by decide +kernel
theorem dX6_copy_129 : decode cX6_copy 129 = .ok (.iload_n 1, 1) := by decide +kernel
theorem dX6_copy_130 : decode cX6_copy 130 = .ok (.imul, 1) := by decide +kernel
theorem dX6_copy_131 : decode cX6_copy 131 = .ok (.iload_n 2, 1) := by decide +kernel
theorem dX6_copy_132 : decode cX6_copy 132 = .ok (.iadd, 1) := by decide +kernel
theorem dX6_copy_133 : decode cX6_copy 133 = .ok (.istore 6, 2) := by decide +kernel
theorem dX6_copy_135 : decode cX6_copy 135 = .ok (.bipush 40, 2) := by decide +kernel
theorem dX6_copy_137 : decode cX6_copy 137 = .ok (.iload_n 3, 1) := by decide +kernel
theorem dX6_copy_138 : decode cX6_copy 138 = .ok (.imul, 1) := by decide +kernel
theorem dX6_copy_139 : decode cX6_copy 139 = .ok (.iload 4, 2) := by decide +kernel
theorem dX6_copy_141 : decode cX6_copy 141 = .ok (.iadd, 1) := by decide +kernel
theorem dX6_copy_142 : decode cX6_copy 142 = .ok (.istore 7, 2) := by decide +kernel
theorem dX6_copy_144 : decode cX6_copy 144 = .ok (.iconst 0, 1) := by decide +kernel
theorem dX6_copy_145 : decode cX6_copy 145 = .ok (.istore 8, 2) := by decide +kernel
theorem dX6_copy_147 : decode cX6_copy 147 = .ok (.iload 8, 2) := by decide +kernel
theorem dX6_copy_149 : decode cX6_copy 149 = .ok (.iload 5, 2) := by decide +kernel
theorem dX6_copy_151 : decode cX6_copy 151 = .ok (.if_icmp .ge 50, 3) := by decide +kernel
theorem dX6_copy_154 : decode cX6_copy 154 = .ok (.iload 6, 2) := by decide +kernel
theorem dX6_copy_156 : decode cX6_copy 156 = .ok (.iload 7, 2) := by decide +kernel
theorem dX6_copy_158 : decode cX6_copy 158 = .ok (.if_icmp .ge 13, 3) := by decide +kernel
theorem dX6_copy_161 : decode cX6_copy 161 = .ok (.iload 5, 2) := by decide +kernel
theorem dX6_copy_163 : decode cX6_copy 163 = .ok (.iconst 1, 1) := by decide +kernel
theorem dX6_copy_164 : decode cX6_copy 164 = .ok (.isub, 1) := by decide +kernel
theorem dX6_copy_165 : decode cX6_copy 165 = .ok (.iload 8, 2) := by decide +kernel
theorem dX6_copy_167 : decode cX6_copy 167 = .ok (.isub, 1) := by decide +kernel
theorem dX6_copy_168 : decode cX6_copy 168 = .ok (.goto 5, 3) := by decide +kernel
theorem dX6_copy_171 : decode cX6_copy 171 = .ok (.iload 8, 2) := by decide +kernel
theorem dX6_copy_173 : decode cX6_copy 173 = .ok (.istore 9, 2) := by decide +kernel
theorem dX6_copy_175 : decode cX6_copy 175 = .ok (.aload_n 0, 1) := by decide +kernel
theorem dX6_copy_176 : decode cX6_copy 176 = .ok (.getfield 47, 3) := by decide +kernel
theorem dX6_copy_179 : decode cX6_copy 179 = .ok (.iload 7, 2) := by decide +kernel
theorem dX6_copy_181 : decode cX6_copy 181 = .ok (.iload 9, 2) := by decide +kernel
theorem dX6_copy_183 : decode cX6_copy 183 = .ok (.iadd, 1) := by decide +kernel
theorem dX6_copy_184 : decode cX6_copy 184 = .ok (.aload_n 0, 1) := by decide +kernel
theorem dX6_copy_185 : decode cX6_copy 185 = .ok (.getfield 47, 3) := by decide +kernel
theorem dX6_copy_188 : decode cX6_copy 188 = .ok (.iload 6, 2) := by decide +kernel
theorem dX6_copy_190 : decode cX6_copy 190 = .ok (.iload 9, 2) := by decide +kernel
theorem dX6_copy_192 : decode cX6_copy 192 = .ok (.iadd, 1) := by decide +kernel
theorem dX6_copy_193 : decode cX6_copy 193 = .ok (.iaload, 1) := by decide +kernel
theorem dX6_copy_194 : decode cX6_copy 194 = .ok (.iastore, 1) := by decide +kernel
theorem dX6_copy_195 : decode cX6_copy 195 = .ok (.iinc 8 1, 3) := by decide +kernel
theorem dX6_copy_198 : decode cX6_copy 198 = .ok (.goto (-51), 3) := by decide +kernel
theorem dX6_copy_201 : decode cX6_copy 201 = .ok (.iload 5, 2) := by decide +kernel
theorem dX6_copy_203 : decode cX6_copy 203 = .ok (.ireturn, 1) := by decide +kernel
theorem dX6_ratesBy_0 : decode cX6_ratesBy 0 = .ok (.iload_n 1, 1) := by decide +kernel
theorem dX6_ratesBy_1 : decode cX6_ratesBy 1 = .ok (.iconst 0, 1) := by decide +kernel
theorem dX6_ratesBy_2 : decode cX6_ratesBy 2 = .ok (.iconst 3, 1) := by decide +kernel
theorem dX6_ratesBy_3 : decode cX6_ratesBy 3 = .ok (.invokestatic 78, 3) := by decide +kernel
theorem dX6_ratesBy_6 : decode cX6_ratesBy 6 = .ok (.ifCond .eq 22, 3) := by decide +kernel
theorem dX6_ratesBy_9 : decode cX6_ratesBy 9 = .ok (.iload_n 2, 1) := by decide +kernel
theorem dX6_ratesBy_10 : decode cX6_ratesBy 10 = .ok (.iconst 0, 1) := by decide +kernel
theorem dX6_ratesBy_11 : decode cX6_ratesBy 11 = .ok (.iconst 2, 1) := by decide +kernel
theorem dX6_ratesBy_12 : decode cX6_ratesBy 12 = .ok (.invokestatic 78, 3) := by decide +kernel
theorem dX6_ratesBy_15 : decode cX6_ratesBy 15 = .ok (.ifCond .eq 13, 3) := by decide +kernel
theorem dX6_ratesBy_18 : decode cX6_ratesBy 18 = .ok (.iload 4, 2) := by decide +kernel
theorem dX6_ratesBy_20 : decode cX6_ratesBy 20 = .ok (.iconst 0, 1) := by decide +kernel
theorem dX6_ratesBy_21 : decode cX6_ratesBy 21 = .ok (.iconst 5, 1) := by decide +kernel
theorem dX6_ratesBy_22 : decode cX6_ratesBy 22 = .ok (.invokestatic 78, 3) := by decide +kernel
theorem dX6_ratesBy_25 : decode cX6_ratesBy 25 = .ok (.ifCond .ne 6, 3) := by decide +kernel
theorem dX6_ratesBy_28 : decode cX6_ratesBy 28 = .ok (.bipush (-2), 2) := by decide +kernel
theorem dX6_ratesBy_30 : decode cX6_ratesBy 30 = .ok (.ireturn, 1) := by decide +kernel
theorem dX6_ratesBy_31 : decode cX6_ratesBy 31 = .ok (.aload_n 0, 1) := by decide +kernel
theorem dX6_ratesBy_32 : decode cX6_ratesBy 32 = .ok (.getfield 41, 3) := by decide +kernel
theorem dX6_ratesBy_35 : decode cX6_ratesBy 35 = .ok (.iload_n 1, 1) := by decide +kernel
theorem dX6_ratesBy_36 : decode cX6_ratesBy 36 = .ok (.iaload, 1) := by decide +kernel
theorem dX6_ratesBy_37 : decode cX6_ratesBy 37 = .ok (.iconst (-1), 1) := by decide +kernel
theorem dX6_ratesBy_38 : decode cX6_ratesBy 38 = .ok (.if_icmp .ne 6, 3) := by decide +kernel
theorem dX6_ratesBy_41 : decode cX6_ratesBy 41 = .ok (.bipush (-11), 2) := by decide +kernel
theorem dX6_ratesBy_43 : decode cX6_ratesBy 43 = .ok (.ireturn, 1) := by decide +kernel
theorem dX6_ratesBy_44 : decode cX6_ratesBy 44 = .ok (.aload_n 0, 1) := by decide +kernel
theorem dX6_ratesBy_45 : decode cX6_ratesBy 45 = .ok (.getfield 41, 3) := by decide +kernel
theorem dX6_ratesBy_48 : decode cX6_ratesBy 48 = .ok (.iload_n 1, 1) := by decide +kernel
theorem dX6_ratesBy_49 : decode cX6_ratesBy 49 = .ok (.iaload, 1) := by decide +kernel
theorem dX6_ratesBy_50 : decode cX6_ratesBy 50 = .ok (.iload_n 2, 1) := by decide +kernel
theorem dX6_ratesBy_51 : decode cX6_ratesBy 51 = .ok (.if_icmp .eq 6, 3) := by decide +kernel
theorem dX6_ratesBy_54 : decode cX6_ratesBy 54 = .ok (.bipush (-13), 2) := by decide +kernel
theorem dX6_ratesBy_56 : decode cX6_ratesBy 56 = .ok (.ireturn, 1) := by decide +kernel
theorem dX6_ratesBy_57 : decode cX6_ratesBy 57 = .ok (.iconst 0, 1) := by decide +kernel
theorem dX6_ratesBy_58 : decode cX6_ratesBy 58 = .ok (.istore 5, 2) := by decide +kernel
theorem dX6_ratesBy_60 : decode cX6_ratesBy 60 = .ok (.iconst 0, 1) := by decide +kernel
theorem dX6_ratesBy_61 : decode cX6_ratesBy 61 = .ok (.istore 6, 2) := by decide +kernel
theorem dX6_ratesBy_63 : decode cX6_ratesBy 63 = .ok (.iload 6, 2) := by decide +kernel
theorem dX6_ratesBy_65 : decode cX6_ratesBy 65 = .ok (.iload 4, 2) := by decide +kernel
theorem dX6_ratesBy_67 : decode cX6_ratesBy 67 = .ok (.if_icmp .ge 94, 3) := by decide +kernel
theorem dX6_ratesBy_70 : decode cX6_ratesBy 70 = .ok (.iload_n 3, 1) := by decide +kernel
theorem dX6_ratesBy_71 : decode cX6_ratesBy 71 = .ok (.iconst 3, 1) := by decide +kernel
theorem dX6_ratesBy_72 : decode cX6_ratesBy 72 = .ok (.iload 6, 2) := by decide +kernel
theorem dX6_ratesBy_74 : decode cX6_ratesBy 74 = .ok (.imul, 1) := by decide +kernel
theorem dX6_ratesBy_75 : decode cX6_ratesBy 75 = .ok (.iadd, 1) := by decide +kernel
theorem dX6_ratesBy_76 : decode cX6_ratesBy 76 = .ok (.istore 7, 2) := by decide +kernel
theorem dX6_ratesBy_78 : decode cX6_ratesBy 78 = .ok (.iload_n 3, 1) := by decide +kernel
theorem dX6_ratesBy_79 : decode cX6_ratesBy 79 = .ok (.ifCond .lt 22, 3) := by decide +kernel
theorem dX6_ratesBy_82 : decode cX6_ratesBy 82 = .ok (.iload 7, 2) := by decide +kernel
theorem dX6_ratesBy_84 : decode cX6_ratesBy 84 = .ok (.iload_n 3, 1) := by decide +kernel
theorem dX6_ratesBy_85 : decode cX6_ratesBy 85 = .ok (.if_icmp .lt 16, 3) := by decide +kernel
theorem dX6_ratesBy_88 : decode cX6_ratesBy 88 = .ok (.iload 7, 2) := by decide +kernel
theorem dX6_ratesBy_90 : decode cX6_ratesBy 90 = .ok (.aload_n 0, 1) := by decide +kernel
theorem dX6_ratesBy_91 : decode cX6_ratesBy 91 = .ok (.getfield 44, 3) := by decide +kernel
theorem dX6_ratesBy_94 : decode cX6_ratesBy 94 = .ok (.iload_n 1, 1) := by decide +kernel
theorem dX6_ratesBy_95 : decode cX6_ratesBy 95 = .ok (.iaload, 1) := by decide +kernel
theorem dX6_ratesBy_96 : decode cX6_ratesBy 96 = .ok (.iconst 3, 1) := by decide +kernel
theorem dX6_ratesBy_97 : decode cX6_ratesBy 97 = .ok (.isub, 1) := by decide +kernel
theorem dX6_ratesBy_98 : decode cX6_ratesBy 98 = .ok (.if_icmp .le 6, 3) := by decide +kernel
theorem dX6_ratesBy_101 : decode cX6_ratesBy 101 = .ok (.bipush (-12), 2) := by decide +kernel
theorem dX6_ratesBy_103 : decode cX6_ratesBy 103 = .ok (.ireturn, 1) := by decide +kernel
theorem dX6_ratesBy_104 : decode cX6_ratesBy 104 = .ok (.bipush 40, 2) := by decide +kernel
theorem dX6_ratesBy_106 : decode cX6_ratesBy 106 = .ok (.iload_n 1, 1) := by decide +kernel
theorem dX6_ratesBy_107 : decode cX6_ratesBy 107 = .ok (.imul, 1) := by decide +kernel
theorem dX6_ratesBy_108 : decode cX6_ratesBy 108 = .ok (.iload 7, 2) := by decide +kernel
theorem dX6_ratesBy_110 : decode cX6_ratesBy 110 = .ok (.iadd, 1) := by decide +kernel
theorem dX6_ratesBy_111 : decode cX6_ratesBy 111 = .ok (.istore 8, 2) := by decide +kernel
theorem dX6_ratesBy_113 : decode cX6_ratesBy 113 = .ok (.iload 5, 2) := by decide +kernel
theorem dX6_ratesBy_115 : decode cX6_ratesBy 115 = .ok (.aload_n 0, 1) := by decide +kernel
theorem dX6_ratesBy_116 : decode cX6_ratesBy 116 = .ok (.aload_n 0, 1) := by decide +kernel
theorem dX6_ratesBy_117 : decode cX6_ratesBy 117 = .ok (.getfield 47, 3) := by decide +kernel
theorem dX6_ratesBy_120 : decode cX6_ratesBy 120 = .ok (.iload 8, 2) := by decide +kernel
theorem dX6_ratesBy_122 : decode cX6_ratesBy 122 = .ok (.iaload, 1) := by decide +kernel
theorem dX6_ratesBy_123 : decode cX6_ratesBy 123 = .ok (.aload_n 0, 1) := by decide +kernel
theorem dX6_ratesBy_124 : decode cX6_ratesBy 124 = .ok (.getfield 47, 3) := by decide +kernel
theorem dX6_ratesBy_127 : decode cX6_ratesBy 127 = .ok (.iload 8, 2) := by decide +kernel
theorem dX6_ratesBy_129 : decode cX6_ratesBy 129 = .ok (.iconst 1, 1) := by decide +kernel
theorem dX6_ratesBy_130 : decode cX6_ratesBy 130 = .ok (.iadd, 1) := by decide +kernel
theorem dX6_ratesBy_131 : decode cX6_ratesBy 131 = .ok (.iaload, 1) := by decide +kernel
theorem dX6_ratesBy_132 : decode cX6_ratesBy 132 = .ok (.aload_n 0, 1) := by decide +kernel
theorem dX6_ratesBy_133 : decode cX6_ratesBy 133 = .ok (.getfield 47, 3) := by decide +kernel
theorem dX6_ratesBy_136 : decode cX6_ratesBy 136 = .ok (.iload 8, 2) := by decide +kernel
theorem dX6_ratesBy_138 : decode cX6_ratesBy 138 = .ok (.iconst 2, 1) := by decide +kernel
theorem dX6_ratesBy_139 : decode cX6_ratesBy 139 = .ok (.iadd, 1) := by decide +kernel
theorem dX6_ratesBy_140 : decode cX6_ratesBy 140 = .ok (.iaload, 1) := by decide +kernel
theorem dX6_ratesBy_141 : decode cX6_ratesBy 141 = .ok (.invokevirtual 268, 3) := by decide +kernel
theorem dX6_ratesBy_144 : decode cX6_ratesBy 144 = .ok (.ifCond .lt 7, 3) := by decide +kernel
theorem dX6_ratesBy_147 : decode cX6_ratesBy 147 = .ok (.iconst 1, 1) := by decide +kernel
theorem dX6_ratesBy_148 : decode cX6_ratesBy 148 = .ok (.goto 4, 3) := by decide +kernel
theorem dX6_ratesBy_151 : decode cX6_ratesBy 151 = .ok (.iconst 0, 1) := by decide +kernel
theorem dX6_ratesBy_152 : decode cX6_ratesBy 152 = .ok (.iadd, 1) := by decide +kernel
theorem dX6_ratesBy_153 : decode cX6_ratesBy 153 = .ok (.istore 5, 2) := by decide +kernel
theorem dX6_ratesBy_155 : decode cX6_ratesBy 155 = .ok (.iinc 6 1, 3) := by decide +kernel
theorem dX6_ratesBy_158 : decode cX6_ratesBy 158 = .ok (.goto (-95), 3) := by decide +kernel
theorem dX6_ratesBy_161 : decode cX6_ratesBy 161 = .ok (.iload 5, 2) := by decide +kernel
theorem dX6_ratesBy_163 : decode cX6_ratesBy 163 = .ok (.ireturn, 1) := by decide +kernel
theorem dX6_isUnder_0 : decode cX6_isUnder 0 = .ok (.iload_n 1, 1) := by decide +kernel
theorem dX6_isUnder_1 : decode cX6_isUnder 1 = .ok (.ifCond .eq 28, 3) := by decide +kernel
theorem dX6_isUnder_4 : decode cX6_isUnder 4 = .ok (.iload_n 0, 1) := by decide +kernel
theorem dX6_isUnder_5 : decode cX6_isUnder 5 = .ok (.iload_n 1, 1) := by decide +kernel
theorem dX6_isUnder_6 : decode cX6_isUnder 6 = .ok (.if_icmp .eq 23, 3) := by decide +kernel
theorem dX6_isUnder_9 : decode cX6_isUnder 9 = .ok (.iload_n 1, 1) := by decide +kernel
theorem dX6_isUnder_10 : decode cX6_isUnder 10 = .ok (.iconst 1, 1) := by decide +kernel
theorem dX6_isUnder_11 : decode cX6_isUnder 11 = .ok (.if_icmp .ne 8, 3) := by decide +kernel
theorem dX6_isUnder_14 : decode cX6_isUnder 14 = .ok (.iload_n 0, 1) := by decide +kernel
theorem dX6_isUnder_15 : decode cX6_isUnder 15 = .ok (.iconst 3, 1) := by decide +kernel
theorem dX6_isUnder_16 : decode cX6_isUnder 16 = .ok (.if_icmp .eq 13, 3) := by decide +kernel
theorem dX6_isUnder_19 : decode cX6_isUnder 19 = .ok (.iload_n 1, 1) := by decide +kernel
theorem dX6_isUnder_20 : decode cX6_isUnder 20 = .ok (.iconst 2, 1) := by decide +kernel
theorem dX6_isUnder_21 : decode cX6_isUnder 21 = .ok (.if_icmp .ne 12, 3) := by decide +kernel
theorem dX6_isUnder_24 : decode cX6_isUnder 24 = .ok (.iload_n 0, 1) := by decide +kernel
theorem dX6_isUnder_25 : decode cX6_isUnder 25 = .ok (.iconst 4, 1) := by decide +kernel
theorem dX6_isUnder_26 : decode cX6_isUnder 26 = .ok (.if_icmp .ne 7, 3) := by decide +kernel
theorem dX6_isUnder_29 : decode cX6_isUnder 29 = .ok (.iconst 1, 1) := by decide +kernel
theorem dX6_isUnder_30 : decode cX6_isUnder 30 = .ok (.goto 4, 3) := by decide +kernel
theorem dX6_isUnder_33 : decode cX6_isUnder 33 = .ok (.iconst 0, 1) := by decide +kernel
theorem dX6_isUnder_34 : decode cX6_isUnder 34 = .ok (.ireturn, 1) := by decide +kernel
theorem dX6_taken_0 : decode cX6_taken 0 = .ok (.iload_n 2, 1) := by decide +kernel
theorem dX6_taken_1 : decode cX6_taken 1 = .ok (.iconst 0, 1) := by decide +kernel
theorem dX6_taken_2 : decode cX6_taken 2 = .ok (.bipush 6, 2) := by decide +kernel
theorem dX6_taken_4 : decode cX6_taken 4 = .ok (.invokestatic 78, 3) := by decide +kernel
theorem dX6_taken_7 : decode cX6_taken 7 = .ok (.ifCond .ne 6, 3) := by decide +kernel
theorem dX6_taken_10 : decode cX6_taken 10 = .ok (.bipush (-2), 2) := by decide +kernel
theorem dX6_taken_12 : decode cX6_taken 12 = .ok (.ireturn, 1) := by decide +kernel
theorem dX6_taken_13 : decode cX6_taken 13 = .ok (.iload_n 1, 1) := by decide +kernel
theorem dX6_taken_14 : decode cX6_taken 14 = .ok (.iconst 0, 1) := by decide +kernel
theorem dX6_taken_15 : decode cX6_taken 15 = .ok (.bipush 8, 2) := by decide +kernel
theorem dX6_taken_17 : decode cX6_taken 17 = .ok (.invokestatic 78, 3) := by decide +kernel
theorem dX6_taken_20 : decode cX6_taken 20 = .ok (.ifCond .ne 6, 3) := by decide +kernel
theorem dX6_taken_23 : decode cX6_taken 23 = .ok (.bipush (-12), 2) := by decide +kernel
theorem dX6_taken_25 : decode cX6_taken 25 = .ok (.ireturn, 1) := by decide +kernel
theorem dX6_taken_26 : decode cX6_taken 26 = .ok (.iload_n 1, 1) := by decide +kernel
theorem dX6_taken_27 : decode cX6_taken 27 = .ok (.iconst 4, 1) := by decide +kernel
theorem dX6_taken_28 : decode cX6_taken 28 = .ok (.if_icmp .ge 35, 3) := by decide +kernel
theorem dX6_taken_31 : decode cX6_taken 31 = .ok (.aload_n 0, 1) := by decide +kernel
theorem dX6_taken_32 : decode cX6_taken 32 = .ok (.getfield 7, 3) := by decide +kernel
theorem dX6_taken_35 : decode cX6_taken 35 = .ok (.iload_n 1, 1) := by decide +kernel
theorem dX6_taken_36 : decode cX6_taken 36 = .ok (.iaload, 1) := by decide +kernel
theorem dX6_taken_37 : decode cX6_taken 37 = .ok (.ifCond .ne 8, 3) := by decide +kernel
theorem dX6_taken_40 : decode cX6_taken 40 = .ok (.bipush (-11), 2) := by decide +kernel
theorem dX6_taken_42 : decode cX6_taken 42 = .ok (.goto 20, 3) := by decide +kernel
theorem dX6_taken_45 : decode cX6_taken 45 = .ok (.iload_n 2, 1) := by decide +kernel
theorem dX6_taken_46 : decode cX6_taken 46 = .ok (.bipush 6, 2) := by decide +kernel
theorem dX6_taken_48 : decode cX6_taken 48 = .ok (.if_icmp .ne 12, 3) := by decide +kernel
theorem dX6_taken_51 : decode cX6_taken 51 = .ok (.aload_n 0, 1) := by decide +kernel
theorem dX6_taken_52 : decode cX6_taken 52 = .ok (.getfield 7, 3) := by decide +kernel
theorem dX6_taken_55 : decode cX6_taken 55 = .ok (.iload_n 1, 1) := by decide +kernel
theorem dX6_taken_56 : decode cX6_taken 56 = .ok (.iaload, 1) := by decide +kernel
theorem dX6_taken_57 : decode cX6_taken 57 = .ok (.goto 5, 3) := by decide +kernel
theorem dX6_taken_60 : decode cX6_taken 60 = .ok (.bipush (-13), 2) := by decide +kernel
theorem dX6_taken_62 : decode cX6_taken 62 = .ok (.ireturn, 1) := by decide +kernel
theorem dX6_taken_63 : decode cX6_taken 63 = .ok (.iload_n 1, 1) := by decide +kernel
theorem dX6_taken_64 : decode cX6_taken 64 = .ok (.iconst 4, 1) := by decide +kernel
theorem dX6_taken_65 : decode cX6_taken 65 = .ok (.isub, 1) := by decide +kernel
theorem dX6_taken_66 : decode cX6_taken 66 = .ok (.aload_n 0, 1) := by decide +kernel
theorem dX6_taken_67 : decode cX6_taken 67 = .ok (.getfield 75, 3) := by decide +kernel
theorem dX6_taken_70 : decode cX6_taken 70 = .ok (.if_icmp .lt 8, 3) := by decide +kernel
theorem dX6_taken_73 : decode cX6_taken 73 = .ok (.bipush (-11), 2) := by decide +kernel
theorem dX6_taken_75 : decode cX6_taken 75 = .ok (.goto 32, 3) := by decide +kernel
theorem dX6_taken_78 : decode cX6_taken 78 = .ok (.iload_n 2, 1) := by decide +kernel
theorem dX6_taken_79 : decode cX6_taken 79 = .ok (.bipush 6, 2) := by decide +kernel
theorem dX6_taken_81 : decode cX6_taken 81 = .ok (.if_icmp .ge 24, 3) := by decide +kernel
theorem dX6_taken_84 : decode cX6_taken 84 = .ok (.aload_n 0, 1) := by decide +kernel
theorem dX6_taken_85 : decode cX6_taken 85 = .ok (.getfield 13, 3) := by decide +kernel
theorem dX6_taken_88 : decode cX6_taken 88 = .ok (.iload_n 1, 1) := by decide +kernel
theorem dX6_taken_89 : decode cX6_taken 89 = .ok (.iconst 4, 1) := by decide +kernel
theorem dX6_taken_90 : decode cX6_taken 90 = .ok (.isub, 1) := by decide +kernel
theorem dX6_taken_91 : decode cX6_taken 91 = .ok (.iaload, 1) := by decide +kernel
theorem dX6_taken_92 : decode cX6_taken 92 = .ok (.iload_n 2, 1) := by decide +kernel
theorem dX6_taken_93 : decode cX6_taken 93 = .ok (.invokestatic 271, 3) := by decide +kernel
theorem dX6_taken_96 : decode cX6_taken 96 = .ok (.ifCond .eq 9, 3) := by decide +kernel
theorem dX6_taken_99 : decode cX6_taken 99 = .ok (.iload_n 1, 1) := by decide +kernel
theorem dX6_taken_100 : decode cX6_taken 100 = .ok (.iconst 4, 1) := by decide +kernel
theorem dX6_taken_101 : decode cX6_taken 101 = .ok (.isub, 1) := by decide +kernel
theorem dX6_taken_102 : decode cX6_taken 102 = .ok (.goto 5, 3) := by decide +kernel
theorem dX6_taken_105 : decode cX6_taken 105 = .ok (.bipush (-13), 2) := by decide +kernel
theorem dX6_taken_107 : decode cX6_taken 107 = .ok (.ireturn, 1) := by decide +kernel
theorem dJ9_max_7cf53_0 : decode cJ9_max_7cf53 0 = .ok (.iload_n 0, 1) := by decide +kernel
theorem dJ9_max_7cf53_1 : decode cJ9_max_7cf53 1 = .ok (.iload_n 1, 1) := by decide +kernel
theorem dJ9_max_7cf53_2 : decode cJ9_max_7cf53 2 = .ok (.if_icmp .lt 7, 3) := by decide +kernel
theorem dJ9_max_7cf53_5 : decode cJ9_max_7cf53 5 = .ok (.iload_n 0, 1) := by decide +kernel
theorem dJ9_max_7cf53_6 : decode cJ9_max_7cf53 6 = .ok (.goto 4, 3) := by decide +kernel
theorem dJ9_max_7cf53_9 : decode cJ9_max_7cf53 9 = .ok (.iload_n 1, 1) := by decide +kernel
theorem dJ9_max_7cf53_10 : decode cJ9_max_7cf53 10 = .ok (.ireturn, 1) := by decide +kernel
theorem dJ9_min_7cf53_0 : decode cJ9_min_7cf53 0 = .ok (.iload_n 0, 1) := by decide +kernel
theorem dJ9_min_7cf53_1 : decode cJ9_min_7cf53 1 = .ok (.iload_n 1, 1) := by decide +kernel
theorem dJ9_min_7cf53_2 : decode cJ9_min_7cf53 2 = .ok (.if_icmp .gt 7, 3) := by decide +kernel
theorem dJ9_min_7cf53_5 : decode cJ9_min_7cf53 5 = .ok (.iload_n 0, 1) := by decide +kernel
theorem dJ9_min_7cf53_6 : decode cJ9_min_7cf53 6 = .ok (.goto 4, 3) := by decide +kernel
theorem dJ9_min_7cf53_9 : decode cJ9_min_7cf53 9 = .ok (.iload_n 1, 1) := by decide +kernel
theorem dJ9_min_7cf53_10 : decode cJ9_min_7cf53 10 = .ok (.ireturn, 1) := by decide +kernel
theorem dJ0_length_8abf5_0 : decode cJ0_length_8abf5 0 = .ok (.aload_n 0, 1) := by decide +kernel
theorem dJ0_length_8abf5_1 : decode cJ0_length_8abf5 1 = .ok (.getfield 9, 3) := by decide +kernel
theorem dJ0_length_8abf5_4 : decode cJ0_length_8abf5 4 = .ok (.arraylength, 1) := by decide +kernel
theorem dJ0_length_8abf5_5 : decode cJ0_length_8abf5 5 = .ok (.aload_n 0, 1) := by decide +kernel
theorem dJ0_length_8abf5_6 : decode cJ0_length_8abf5 6 = .ok (.invokevirtual 335, 3) := by decide +kernel
theorem dJ0_length_8abf5_9 : decode cJ0_length_8abf5 9 = .ok (.ishr, 1) := by decide +kernel
theorem dJ0_length_8abf5_10 : decode cJ0_length_8abf5 10 = .ok (.ireturn, 1) := by decide +kernel
theorem dJ0_charAt_5068e_0 : decode cJ0_charAt_5068e 0 = .ok (.aload_n 0, 1) := by decide +kernel
theorem dJ0_charAt_5068e_1 : decode cJ0_charAt_5068e 1 = .ok (.invokevirtual 492, 3) := by decide +kernel
theorem dJ0_charAt_5068e_4 : decode cJ0_charAt_5068e 4 = .ok (.ifCond .eq 12, 3) := by decide +kernel
theorem dJ0_charAt_5068e_7 : decode cJ0_charAt_5068e 7 = .ok (.aload_n 0, 1) := by decide +kernel
theorem dJ0_charAt_5068e_8 : decode cJ0_charAt_5068e 8 = .ok (.getfield 9, 3) := by decide +kernel
theorem dJ0_charAt_5068e_11 : decode cJ0_charAt_5068e 11 = .ok (.iload_n 1, 1) := by decide +kernel
theorem dJ0_charAt_5068e_12 : decode cJ0_charAt_5068e 12 = .ok (.invokestatic 495, 3) := by decide +kernel
theorem dJ0_charAt_5068e_15 : decode cJ0_charAt_5068e 15 = .ok (.ireturn, 1) := by decide +kernel
theorem dJ0_charAt_5068e_16 : decode cJ0_charAt_5068e 16 = .ok (.aload_n 0, 1) := by decide +kernel
theorem dJ0_charAt_5068e_17 : decode cJ0_charAt_5068e 17 = .ok (.getfield 9, 3) := by decide +kernel
theorem dJ0_charAt_5068e_20 : decode cJ0_charAt_5068e 20 = .ok (.iload_n 1, 1) := by decide +kernel
theorem dJ0_charAt_5068e_21 : decode cJ0_charAt_5068e 21 = .ok (.invokestatic 498, 3) := by decide +kernel
theorem dJ0_charAt_5068e_24 : decode cJ0_charAt_5068e 24 = .ok (.ireturn, 1) := by decide +kernel
theorem dJ0_coder_7d493_0 : decode cJ0_coder_7d493 0 = .ok (.getstatic 38, 3) := by decide +kernel
theorem dJ0_coder_7d493_3 : decode cJ0_coder_7d493 3 = .ok (.ifCond .eq 10, 3) := by decide +kernel
theorem dJ0_coder_7d493_6 : decode cJ0_coder_7d493 6 = .ok (.aload_n 0, 1) := by decide +kernel
theorem dJ0_coder_7d493_7 : decode cJ0_coder_7d493 7 = .ok (.getfield 15, 3) := by decide +kernel
theorem dJ0_coder_7d493_10 : decode cJ0_coder_7d493 10 = .ok (.goto 4, 3) := by decide +kernel
theorem dJ0_coder_7d493_13 : decode cJ0_coder_7d493 13 = .ok (.iconst 1, 1) := by decide +kernel
theorem dJ0_coder_7d493_14 : decode cJ0_coder_7d493 14 = .ok (.ireturn, 1) := by decide +kernel
theorem dJ0_isLatin1_aae02_0 : decode cJ0_isLatin1_aae02 0 = .ok (.getstatic 38, 3) := by decide +kernel
theorem dJ0_isLatin1_aae02_3 : decode cJ0_isLatin1_aae02 3 = .ok (.ifCond .eq 14, 3) := by decide +kernel
theorem dJ0_isLatin1_aae02_6 : decode cJ0_isLatin1_aae02 6 = .ok (.aload_n 0, 1) := by decide +kernel
theorem dJ0_isLatin1_aae02_7 : decode cJ0_isLatin1_aae02 7 = .ok (.getfield 15, 3) := by decide +kernel
theorem dJ0_isLatin1_aae02_10 : decode cJ0_isLatin1_aae02 10 = .ok (.ifCond .ne 7, 3) := by decide +kernel
theorem dJ0_isLatin1_aae02_13 : decode cJ0_isLatin1_aae02 13 = .ok (.iconst 1, 1) := by decide +kernel
theorem dJ0_isLatin1_aae02_14 : decode cJ0_isLatin1_aae02 14 = .ok (.goto 4, 3) := by decide +kernel
theorem dJ0_isLatin1_aae02_17 : decode cJ0_isLatin1_aae02 17 = .ok (.iconst 0, 1) := by decide +kernel
theorem dJ0_isLatin1_aae02_18 : decode cJ0_isLatin1_aae02 18 = .ok (.ireturn, 1) := by decide +kernel
theorem dJ0_checkIndex_df160_0 : decode cJ0_checkIndex_df160 0 = .ok (.iload_n 0, 1) := by decide +kernel
theorem dJ0_checkIndex_df160_1 : decode cJ0_checkIndex_df160 1 = .ok (.iload_n 1, 1) := by decide +kernel
theorem dJ0_checkIndex_df160_2 : decode cJ0_checkIndex_df160 2 = .ok (.getstatic 1053, 3) := by decide +kernel
theorem dJ0_checkIndex_df160_5 : decode cJ0_checkIndex_df160 5 = .ok (.invokestatic 1059, 3) := by decide +kernel
theorem dJ0_checkIndex_df160_8 : decode cJ0_checkIndex_df160 8 = .ok (.pop, 1) := by decide +kernel
theorem dJ0_checkIndex_df160_9 : decode cJ0_checkIndex_df160 9 = .ok (.return_, 1) := by decide +kernel
theorem dJ1_charAt_3b067_0 : decode cJ1_charAt_3b067 0 = .ok (.iload_n 1, 1) := by decide +kernel
theorem dJ1_charAt_3b067_1 : decode cJ1_charAt_3b067 1 = .ok (.aload_n 0, 1) := by decide +kernel
theorem dJ1_charAt_3b067_2 : decode cJ1_charAt_3b067 2 = .ok (.arraylength, 1) := by decide +kernel
theorem dJ1_charAt_3b067_3 : decode cJ1_charAt_3b067 3 = .ok (.invokestatic 9, 3) := by decide +kernel
theorem dJ1_charAt_3b067_6 : decode cJ1_charAt_3b067 6 = .ok (.aload_n 0, 1) := by decide +kernel
theorem dJ1_charAt_3b067_7 : decode cJ1_charAt_3b067 7 = .ok (.iload_n 1, 1) := by decide +kernel
theorem dJ1_charAt_3b067_8 : decode cJ1_charAt_3b067 8 = .ok (.baload, 1) := by decide +kernel
theorem dJ1_charAt_3b067_9 : decode cJ1_charAt_3b067 9 = .ok (.sipush 255, 3) := by decide +kernel
theorem dJ1_charAt_3b067_12 : decode cJ1_charAt_3b067 12 = .ok (.iand, 1) := by decide +kernel
theorem dJ1_charAt_3b067_13 : decode cJ1_charAt_3b067 13 = .ok (.i2c, 1) := by decide +kernel
theorem dJ1_charAt_3b067_14 : decode cJ1_charAt_3b067 14 = .ok (.ireturn, 1) := by decide +kernel
theorem dJ2_getChar_3b067_0 : decode cJ2_getChar_3b067 0 = .ok (.getstatic 44, 3) := by decide +kernel
theorem dJ2_getChar_3b067_3 : decode cJ2_getChar_3b067 3 = .ok (.ifCond .ne 25, 3) := by decide +kernel
theorem dJ2_getChar_3b067_6 : decode cJ2_getChar_3b067 6 = .ok (.iload_n 1, 1) := by decide +kernel
theorem dJ2_getChar_3b067_7 : decode cJ2_getChar_3b067 7 = .ok (.ifCond .lt 11, 3) := by decide +kernel
theorem dJ2_getChar_3b067_10 : decode cJ2_getChar_3b067 10 = .ok (.iload_n 1, 1) := by decide +kernel
theorem dJ2_getChar_3b067_11 : decode cJ2_getChar_3b067 11 = .ok (.aload_n 0, 1) := by decide +kernel
theorem dJ2_getChar_3b067_12 : decode cJ2_getChar_3b067 12 = .ok (.invokestatic 48, 3) := by decide +kernel
theorem dJ2_getChar_3b067_15 : decode cJ2_getChar_3b067 15 = .ok (.if_icmp .lt 13, 3) := by decide +kernel
theorem dJ2_getChar_3b067_18 : decode cJ2_getChar_3b067 18 = .ok (.new 52, 3) := by decide +kernel
theorem dJ2_getChar_3b067_21 : decode cJ2_getChar_3b067 21 = .ok (.dup, 1) := by decide +kernel
theorem dJ2_getChar_3b067_22 : decode cJ2_getChar_3b067 22 = .ok (.ldc 54, 2) := by decide +kernel
theorem dJ2_getChar_3b067_24 : decode cJ2_getChar_3b067 24 = .ok (.invokespecial 56, 3) := by decide +kernel
theorem dJ2_getChar_3b067_27 : decode cJ2_getChar_3b067 27 = .ok (.athrow, 1) := by decide +kernel
theorem dJ2_getChar_3b067_28 : decode cJ2_getChar_3b067 28 = .ok (.iload_n 1, 1) := by decide +kernel
theorem dJ2_getChar_3b067_29 : decode cJ2_getChar_3b067 29 = .ok (.iconst 1, 1) := by decide +kernel
theorem dJ2_getChar_3b067_30 : decode cJ2_getChar_3b067 30 = .ok (.ishl, 1) := by decide +kernel
theorem dJ2_getChar_3b067_31 : decode cJ2_getChar_3b067 31 = .ok (.istore_n 1, 1) := by decide +kernel
theorem dJ2_getChar_3b067_32 : decode cJ2_getChar_3b067 32 = .ok (.aload_n 0, 1) := by decide +kernel
theorem dJ2_getChar_3b067_33 : decode cJ2_getChar_3b067 33 = .ok (.iload_n 1, 1) := by decide +kernel
theorem dJ2_getChar_3b067_34 : decode cJ2_getChar_3b067 34 = .ok (.iinc 1 1, 3) := by decide +kernel
theorem dJ2_getChar_3b067_37 : decode cJ2_getChar_3b067 37 = .ok (.baload, 1) := by decide +kernel
theorem dJ2_getChar_3b067_38 : decode cJ2_getChar_3b067 38 = .ok (.sipush 255, 3) := by decide +kernel
theorem dJ2_getChar_3b067_41 : decode cJ2_getChar_3b067 41 = .ok (.iand, 1) := by decide +kernel
theorem dJ2_getChar_3b067_42 : decode cJ2_getChar_3b067 42 = .ok (.getstatic 59, 3) := by decide +kernel
theorem dJ2_getChar_3b067_45 : decode cJ2_getChar_3b067 45 = .ok (.ishl, 1) := by decide +kernel
theorem dJ2_getChar_3b067_46 : decode cJ2_getChar_3b067 46 = .ok (.aload_n 0, 1) := by decide +kernel
theorem dJ2_getChar_3b067_47 : decode cJ2_getChar_3b067 47 = .ok (.iload_n 1, 1) := by decide +kernel
theorem dJ2_getChar_3b067_48 : decode cJ2_getChar_3b067 48 = .ok (.baload, 1) := by decide +kernel
theorem dJ2_getChar_3b067_49 : decode cJ2_getChar_3b067 49 = .ok (.sipush 255, 3) := by decide +kernel
theorem dJ2_getChar_3b067_52 : decode cJ2_getChar_3b067 52 = .ok (.iand, 1) := by decide +kernel
theorem dJ2_getChar_3b067_53 : decode cJ2_getChar_3b067 53 = .ok (.getstatic 63, 3) := by decide +kernel
theorem dJ2_getChar_3b067_56 : decode cJ2_getChar_3b067 56 = .ok (.ishl, 1) := by decide +kernel
theorem dJ2_getChar_3b067_57 : decode cJ2_getChar_3b067 57 = .ok (.ior, 1) := by decide +kernel
theorem dJ2_getChar_3b067_58 : decode cJ2_getChar_3b067 58 = .ok (.i2c, 1) := by decide +kernel
theorem dJ2_getChar_3b067_59 : decode cJ2_getChar_3b067 59 = .ok (.ireturn, 1) := by decide +kernel
theorem dJ2_length_9d52b_0 : decode cJ2_length_9d52b 0 = .ok (.aload_n 0, 1) := by decide +kernel
theorem dJ2_length_9d52b_1 : decode cJ2_length_9d52b 1 = .ok (.arraylength, 1) := by decide +kernel
theorem dJ2_length_9d52b_2 : decode cJ2_length_9d52b 2 = .ok (.iconst 1, 1) := by decide +kernel
theorem dJ2_length_9d52b_3 : decode cJ2_length_9d52b 3 = .ok (.ishr, 1) := by decide +kernel
theorem dJ2_length_9d52b_4 : decode cJ2_length_9d52b 4 = .ok (.ireturn, 1) := by decide +kernel
theorem dJ2_charAt_3b067_0 : decode cJ2_charAt_3b067 0 = .ok (.iload_n 1, 1) := by decide +kernel
theorem dJ2_charAt_3b067_1 : decode cJ2_charAt_3b067 1 = .ok (.aload_n 0, 1) := by decide +kernel
theorem dJ2_charAt_3b067_2 : decode cJ2_charAt_3b067 2 = .ok (.invokestatic 67, 3) := by decide +kernel
theorem dJ2_charAt_3b067_5 : decode cJ2_charAt_3b067 5 = .ok (.aload_n 0, 1) := by decide +kernel
theorem dJ2_charAt_3b067_6 : decode cJ2_charAt_3b067 6 = .ok (.iload_n 1, 1) := by decide +kernel
theorem dJ2_charAt_3b067_7 : decode cJ2_charAt_3b067 7 = .ok (.invokestatic 71, 3) := by decide +kernel
theorem dJ2_charAt_3b067_10 : decode cJ2_charAt_3b067 10 = .ok (.ireturn, 1) := by decide +kernel
theorem dJ2_checkIndex_2214a_0 : decode cJ2_checkIndex_2214a 0 = .ok (.iload_n 0, 1) := by decide +kernel
theorem dJ2_checkIndex_2214a_1 : decode cJ2_checkIndex_2214a 1 = .ok (.aload_n 1, 1) := by decide +kernel
theorem dJ2_checkIndex_2214a_2 : decode cJ2_checkIndex_2214a 2 = .ok (.invokestatic 48, 3) := by decide +kernel
theorem dJ2_checkIndex_2214a_5 : decode cJ2_checkIndex_2214a 5 = .ok (.invokestatic 414, 3) := by decide +kernel
theorem dJ2_checkIndex_2214a_8 : decode cJ2_checkIndex_2214a 8 = .ok (.return_, 1) := by decide +kernel
theorem dJ3_checkIndex_8e157_0 : decode cJ3_checkIndex_8e157 0 = .ok (.iload_n 0, 1) := by decide +kernel
theorem dJ3_checkIndex_8e157_1 : decode cJ3_checkIndex_8e157 1 = .ok (.ifCond .lt 8, 3) := by decide +kernel
theorem dJ3_checkIndex_8e157_4 : decode cJ3_checkIndex_8e157 4 = .ok (.iload_n 0, 1) := by decide +kernel
theorem dJ3_checkIndex_8e157_5 : decode cJ3_checkIndex_8e157 5 = .ok (.iload_n 1, 1) := by decide +kernel
theorem dJ3_checkIndex_8e157_6 : decode cJ3_checkIndex_8e157 6 = .ok (.if_icmp .lt 10, 3) := by decide +kernel
theorem dJ3_checkIndex_8e157_9 : decode cJ3_checkIndex_8e157 9 = .ok (.aload_n 2, 1) := by decide +kernel
theorem dJ3_checkIndex_8e157_10 : decode cJ3_checkIndex_8e157 10 = .ok (.iload_n 0, 1) := by decide +kernel
theorem dJ3_checkIndex_8e157_11 : decode cJ3_checkIndex_8e157 11 = .ok (.iload_n 1, 1) := by decide +kernel
theorem dJ3_checkIndex_8e157_12 : decode cJ3_checkIndex_8e157 12 = .ok (.invokestatic 95, 3) := by decide +kernel
theorem dJ3_checkIndex_8e157_15 : decode cJ3_checkIndex_8e157 15 = .ok (.athrow, 1) := by decide +kernel
theorem dJ3_checkIndex_8e157_16 : decode cJ3_checkIndex_8e157 16 = .ok (.iload_n 0, 1) := by decide +kernel
theorem dJ3_checkIndex_8e157_17 : decode cJ3_checkIndex_8e157 17 = .ok (.ireturn, 1) := by decide +kernel
theorem dL_law_0 : decode cL_law 0 = .ok (.new 7, 3) := by decide +kernel
theorem dL_law_3 : decode cL_law 3 = .ok (.dup, 1) := by decide +kernel
theorem dL_law_4 : decode cL_law 4 = .ok (.invokespecial 9, 3) := by decide +kernel
theorem dL_law_7 : decode cL_law 7 = .ok (.astore_n 1, 1) := by decide +kernel
theorem dL_law_8 : decode cL_law 8 = .ok (.new 10, 3) := by decide +kernel
theorem dL_law_11 : decode cL_law 11 = .ok (.dup, 1) := by decide +kernel
theorem dL_law_12 : decode cL_law 12 = .ok (.invokespecial 12, 3) := by decide +kernel
theorem dL_law_15 : decode cL_law 15 = .ok (.astore_n 2, 1) := by decide +kernel
theorem dL_law_16 : decode cL_law 16 = .ok (.iconst 0, 1) := by decide +kernel
theorem dL_law_17 : decode cL_law 17 = .ok (.istore_n 3, 1) := by decide +kernel
theorem dL_law_18 : decode cL_law 18 = .ok (.iload_n 3, 1) := by decide +kernel
theorem dL_law_19 : decode cL_law 19 = .ok (.aload_n 0, 1) := by decide +kernel
theorem dL_law_20 : decode cL_law 20 = .ok (.arraylength, 1) := by decide +kernel
theorem dL_law_21 : decode cL_law 21 = .ok (.bipush 7, 2) := by decide +kernel
theorem dL_law_23 : decode cL_law 23 = .ok (.isub, 1) := by decide +kernel
theorem dL_law_24 : decode cL_law 24 = .ok (.if_icmp .gt 1252, 3) := by decide +kernel
theorem dL_law_27 : decode cL_law 27 = .ok (.aload_n 0, 1) := by decide +kernel
theorem dL_law_28 : decode cL_law 28 = .ok (.iload_n 3, 1) := by decide +kernel
theorem dL_law_29 : decode cL_law 29 = .ok (.iaload, 1) := by decide +kernel
theorem dL_law_30 : decode cL_law 30 = .ok (.bipush 63, 2) := by decide +kernel
theorem dL_law_32 : decode cL_law 32 = .ok (.iand, 1) := by decide +kernel
theorem dL_law_33 : decode cL_law 33 = .ok (.tableswitch 1237 0 33 #[151, 184, 207, 282, 295, 318, 341, 384, 427, 460, 483, 506, 529, 552, 575, 608, 641, 675, 708, 731, 754, 777, 800, 833, 866, 889, 922, 976, 989, 1002, 1045, 1088, 1151, 1204], 151) := by decide +kernel
theorem dL_law_184 : decode cL_law 184 = .ok (.aload_n 1, 1) := by decide +kernel
theorem dL_law_185 : decode cL_law 185 = .ok (.aload_n 0, 1) := by decide +kernel
theorem dL_law_186 : decode cL_law 186 = .ok (.iload_n 3, 1) := by decide +kernel
theorem dL_law_187 : decode cL_law 187 = .ok (.iconst 1, 1) := by decide +kernel
theorem dL_law_188 : decode cL_law 188 = .ok (.iadd, 1) := by decide +kernel
theorem dL_law_189 : decode cL_law 189 = .ok (.iaload, 1) := by decide +kernel
theorem dL_law_190 : decode cL_law 190 = .ok (.aload_n 0, 1) := by decide +kernel
theorem dL_law_191 : decode cL_law 191 = .ok (.iload_n 3, 1) := by decide +kernel
theorem dL_law_192 : decode cL_law 192 = .ok (.iconst 2, 1) := by decide +kernel
theorem dL_law_193 : decode cL_law 193 = .ok (.iadd, 1) := by decide +kernel
theorem dL_law_194 : decode cL_law 194 = .ok (.iaload, 1) := by decide +kernel
theorem dL_law_195 : decode cL_law 195 = .ok (.invokevirtual 13, 3) := by decide +kernel
theorem dL_law_198 : decode cL_law 198 = .ok (.aload_n 2, 1) := by decide +kernel
theorem dL_law_199 : decode cL_law 199 = .ok (.aload_n 0, 1) := by decide +kernel
theorem dL_law_200 : decode cL_law 200 = .ok (.iload_n 3, 1) := by decide +kernel
theorem dL_law_201 : decode cL_law 201 = .ok (.iconst 1, 1) := by decide +kernel
theorem dL_law_202 : decode cL_law 202 = .ok (.iadd, 1) := by decide +kernel
theorem dL_law_203 : decode cL_law 203 = .ok (.iaload, 1) := by decide +kernel
theorem dL_law_204 : decode cL_law 204 = .ok (.aload_n 0, 1) := by decide +kernel
theorem dL_law_205 : decode cL_law 205 = .ok (.iload_n 3, 1) := by decide +kernel
theorem dL_law_206 : decode cL_law 206 = .ok (.iconst 2, 1) := by decide +kernel
theorem dL_law_207 : decode cL_law 207 = .ok (.iadd, 1) := by decide +kernel
theorem dL_law_208 : decode cL_law 208 = .ok (.iaload, 1) := by decide +kernel
theorem dL_law_209 : decode cL_law 209 = .ok (.invokevirtual 17, 3) := by decide +kernel
theorem dL_law_212 : decode cL_law 212 = .ok (.if_icmp .eq 1058, 3) := by decide +kernel
theorem dL_law_215 : decode cL_law 215 = .ok (.iconst 0, 1) := by decide +kernel
theorem dL_law_216 : decode cL_law 216 = .ok (.ireturn, 1) := by decide +kernel
theorem dL_law_217 : decode cL_law 217 = .ok (.aload_n 1, 1) := by decide +kernel
theorem dL_law_218 : decode cL_law 218 = .ok (.aload_n 0, 1) := by decide +kernel
theorem dL_law_219 : decode cL_law 219 = .ok (.iload_n 3, 1) := by decide +kernel
theorem dL_law_220 : decode cL_law 220 = .ok (.iconst 1, 1) := by decide +kernel
theorem dL_law_221 : decode cL_law 221 = .ok (.iadd, 1) := by decide +kernel
theorem dL_law_222 : decode cL_law 222 = .ok (.iaload, 1) := by decide +kernel
theorem dL_law_223 : decode cL_law 223 = .ok (.invokevirtual 18, 3) := by decide +kernel
theorem dL_law_226 : decode cL_law 226 = .ok (.aload_n 2, 1) := by decide +kernel
theorem dL_law_227 : decode cL_law 227 = .ok (.aload_n 0, 1) := by decide +kernel
theorem dL_law_228 : decode cL_law 228 = .ok (.iload_n 3, 1) := by decide +kernel
theorem dL_law_229 : decode cL_law 229 = .ok (.iconst 1, 1) := by decide +kernel
theorem dL_law_230 : decode cL_law 230 = .ok (.iadd, 1) := by decide +kernel
theorem dL_law_231 : decode cL_law 231 = .ok (.iaload, 1) := by decide +kernel
theorem dL_law_232 : decode cL_law 232 = .ok (.invokevirtual 22, 3) := by decide +kernel
theorem dL_law_235 : decode cL_law 235 = .ok (.if_icmp .eq 1035, 3) := by decide +kernel
theorem dL_law_238 : decode cL_law 238 = .ok (.iconst 0, 1) := by decide +kernel
theorem dL_law_239 : decode cL_law 239 = .ok (.ireturn, 1) := by decide +kernel
theorem dL_law_240 : decode cL_law 240 = .ok (.aload_n 1, 1) := by decide +kernel
theorem dL_law_241 : decode cL_law 241 = .ok (.aload_n 0, 1) := by decide +kernel
theorem dL_law_242 : decode cL_law 242 = .ok (.iload_n 3, 1) := by decide +kernel
theorem dL_law_243 : decode cL_law 243 = .ok (.iconst 1, 1) := by decide +kernel
theorem dL_law_244 : decode cL_law 244 = .ok (.iadd, 1) := by decide +kernel
theorem dL_law_245 : decode cL_law 245 = .ok (.iaload, 1) := by decide +kernel
theorem dL_law_246 : decode cL_law 246 = .ok (.aload_n 0, 1) := by decide +kernel
theorem dL_law_247 : decode cL_law 247 = .ok (.iload_n 3, 1) := by decide +kernel
theorem dL_law_248 : decode cL_law 248 = .ok (.iconst 2, 1) := by decide +kernel
theorem dL_law_249 : decode cL_law 249 = .ok (.iadd, 1) := by decide +kernel
theorem dL_law_250 : decode cL_law 250 = .ok (.iaload, 1) := by decide +kernel
theorem dL_law_251 : decode cL_law 251 = .ok (.aload_n 0, 1) := by decide +kernel
theorem dL_law_252 : decode cL_law 252 = .ok (.iload_n 3, 1) := by decide +kernel
theorem dL_law_253 : decode cL_law 253 = .ok (.iconst 3, 1) := by decide +kernel
theorem dL_law_254 : decode cL_law 254 = .ok (.iadd, 1) := by decide +kernel
theorem dL_law_255 : decode cL_law 255 = .ok (.iaload, 1) := by decide +kernel
theorem dL_law_256 : decode cL_law 256 = .ok (.aload_n 0, 1) := by decide +kernel
theorem dL_law_257 : decode cL_law 257 = .ok (.iload_n 3, 1) := by decide +kernel
theorem dL_law_258 : decode cL_law 258 = .ok (.iconst 4, 1) := by decide +kernel
theorem dL_law_259 : decode cL_law 259 = .ok (.iadd, 1) := by decide +kernel
theorem dL_law_260 : decode cL_law 260 = .ok (.iaload, 1) := by decide +kernel
theorem dL_law_261 : decode cL_law 261 = .ok (.aload_n 0, 1) := by decide +kernel
theorem dL_law_262 : decode cL_law 262 = .ok (.iload_n 3, 1) := by decide +kernel
theorem dL_law_263 : decode cL_law 263 = .ok (.iconst 5, 1) := by decide +kernel
theorem dL_law_264 : decode cL_law 264 = .ok (.iadd, 1) := by decide +kernel
theorem dL_law_265 : decode cL_law 265 = .ok (.iaload, 1) := by decide +kernel
theorem dL_law_266 : decode cL_law 266 = .ok (.aload_n 0, 1) := by decide +kernel
theorem dL_law_267 : decode cL_law 267 = .ok (.iload_n 3, 1) := by decide +kernel
theorem dL_law_268 : decode cL_law 268 = .ok (.bipush 6, 2) := by decide +kernel
theorem dL_law_270 : decode cL_law 270 = .ok (.iadd, 1) := by decide +kernel
theorem dL_law_271 : decode cL_law 271 = .ok (.iaload, 1) := by decide +kernel
theorem dL_law_272 : decode cL_law 272 = .ok (.invokevirtual 23, 3) := by decide +kernel
theorem dL_law_275 : decode cL_law 275 = .ok (.aload_n 2, 1) := by decide +kernel
theorem dL_law_276 : decode cL_law 276 = .ok (.aload_n 0, 1) := by decide +kernel
theorem dL_law_277 : decode cL_law 277 = .ok (.iload_n 3, 1) := by decide +kernel
theorem dL_law_278 : decode cL_law 278 = .ok (.iconst 1, 1) := by decide +kernel
theorem dL_law_279 : decode cL_law 279 = .ok (.iadd, 1) := by decide +kernel
theorem dL_law_280 : decode cL_law 280 = .ok (.iaload, 1) := by decide +kernel
theorem dL_law_281 : decode cL_law 281 = .ok (.aload_n 0, 1) := by decide +kernel
theorem dL_law_282 : decode cL_law 282 = .ok (.iload_n 3, 1) := by decide +kernel
theorem dL_law_283 : decode cL_law 283 = .ok (.iconst 2, 1) := by decide +kernel
theorem dL_law_284 : decode cL_law 284 = .ok (.iadd, 1) := by decide +kernel
theorem dL_law_285 : decode cL_law 285 = .ok (.iaload, 1) := by decide +kernel
theorem dL_law_286 : decode cL_law 286 = .ok (.aload_n 0, 1) := by decide +kernel
theorem dL_law_287 : decode cL_law 287 = .ok (.iload_n 3, 1) := by decide +kernel
theorem dL_law_288 : decode cL_law 288 = .ok (.iconst 3, 1) := by decide +kernel
theorem dL_law_289 : decode cL_law 289 = .ok (.iadd, 1) := by decide +kernel
theorem dL_law_290 : decode cL_law 290 = .ok (.iaload, 1) := by decide +kernel
theorem dL_law_291 : decode cL_law 291 = .ok (.aload_n 0, 1) := by decide +kernel
theorem dL_law_292 : decode cL_law 292 = .ok (.iload_n 3, 1) := by decide +kernel
theorem dL_law_293 : decode cL_law 293 = .ok (.iconst 4, 1) := by decide +kernel
theorem dL_law_294 : decode cL_law 294 = .ok (.iadd, 1) := by decide +kernel
theorem dL_law_295 : decode cL_law 295 = .ok (.iaload, 1) := by decide +kernel
theorem dL_law_296 : decode cL_law 296 = .ok (.aload_n 0, 1) := by decide +kernel
theorem dL_law_297 : decode cL_law 297 = .ok (.iload_n 3, 1) := by decide +kernel
theorem dL_law_298 : decode cL_law 298 = .ok (.iconst 5, 1) := by decide +kernel
theorem dL_law_299 : decode cL_law 299 = .ok (.iadd, 1) := by decide +kernel
theorem dL_law_300 : decode cL_law 300 = .ok (.iaload, 1) := by decide +kernel
theorem dL_law_301 : decode cL_law 301 = .ok (.aload_n 0, 1) := by decide +kernel
theorem dL_law_302 : decode cL_law 302 = .ok (.iload_n 3, 1) := by decide +kernel
theorem dL_law_303 : decode cL_law 303 = .ok (.bipush 6, 2) := by decide +kernel
theorem dL_law_305 : decode cL_law 305 = .ok (.iadd, 1) := by decide +kernel
theorem dL_law_306 : decode cL_law 306 = .ok (.iaload, 1) := by decide +kernel
theorem dL_law_307 : decode cL_law 307 = .ok (.invokevirtual 27, 3) := by decide +kernel
theorem dL_law_310 : decode cL_law 310 = .ok (.if_icmp .eq 960, 3) := by decide +kernel
theorem dL_law_313 : decode cL_law 313 = .ok (.iconst 0, 1) := by decide +kernel
theorem dL_law_314 : decode cL_law 314 = .ok (.ireturn, 1) := by decide +kernel
theorem dL_law_315 : decode cL_law 315 = .ok (.aload_n 1, 1) := by decide +kernel
theorem dL_law_316 : decode cL_law 316 = .ok (.invokevirtual 28, 3) := by decide +kernel
theorem dL_law_319 : decode cL_law 319 = .ok (.aload_n 2, 1) := by decide +kernel
theorem dL_law_320 : decode cL_law 320 = .ok (.invokevirtual 32, 3) := by decide +kernel
theorem dL_law_323 : decode cL_law 323 = .ok (.if_icmp .eq 947, 3) := by decide +kernel
theorem dL_law_326 : decode cL_law 326 = .ok (.iconst 0, 1) := by decide +kernel
theorem dL_law_327 : decode cL_law 327 = .ok (.ireturn, 1) := by decide +kernel
theorem dL_law_328 : decode cL_law 328 = .ok (.aload_n 1, 1) := by decide +kernel
theorem dL_law_329 : decode cL_law 329 = .ok (.aload_n 0, 1) := by decide +kernel
theorem dL_law_330 : decode cL_law 330 = .ok (.iload_n 3, 1) := by decide +kernel
theorem dL_law_331 : decode cL_law 331 = .ok (.iconst 1, 1) := by decide +kernel
theorem dL_law_332 : decode cL_law 332 = .ok (.iadd, 1) := by decide +kernel
theorem dL_law_333 : decode cL_law 333 = .ok (.iaload, 1) := by decide +kernel
theorem dL_law_334 : decode cL_law 334 = .ok (.invokevirtual 33, 3) := by decide +kernel
theorem dL_law_337 : decode cL_law 337 = .ok (.aload_n 2, 1) := by decide +kernel
theorem dL_law_338 : decode cL_law 338 = .ok (.aload_n 0, 1) := by decide +kernel
theorem dL_law_339 : decode cL_law 339 = .ok (.iload_n 3, 1) := by decide +kernel
theorem dL_law_340 : decode cL_law 340 = .ok (.iconst 1, 1) := by decide +kernel
theorem dL_law_341 : decode cL_law 341 = .ok (.iadd, 1) := by decide +kernel
theorem dL_law_342 : decode cL_law 342 = .ok (.iaload, 1) := by decide +kernel
theorem dL_law_343 : decode cL_law 343 = .ok (.invokevirtual 36, 3) := by decide +kernel
theorem dL_law_346 : decode cL_law 346 = .ok (.if_icmp .eq 924, 3) := by decide +kernel
theorem dL_law_349 : decode cL_law 349 = .ok (.iconst 0, 1) := by decide +kernel
theorem dL_law_350 : decode cL_law 350 = .ok (.ireturn, 1) := by decide +kernel
theorem dL_law_351 : decode cL_law 351 = .ok (.aload_n 1, 1) := by decide +kernel
theorem dL_law_352 : decode cL_law 352 = .ok (.aload_n 0, 1) := by decide +kernel
theorem dL_law_353 : decode cL_law 353 = .ok (.iload_n 3, 1) := by decide +kernel
theorem dL_law_354 : decode cL_law 354 = .ok (.iconst 1, 1) := by decide +kernel
theorem dL_law_355 : decode cL_law 355 = .ok (.iadd, 1) := by decide +kernel
theorem dL_law_356 : decode cL_law 356 = .ok (.iaload, 1) := by decide +kernel
theorem dL_law_357 : decode cL_law 357 = .ok (.invokevirtual 37, 3) := by decide +kernel
theorem dL_law_360 : decode cL_law 360 = .ok (.aload_n 2, 1) := by decide +kernel
theorem dL_law_361 : decode cL_law 361 = .ok (.aload_n 0, 1) := by decide +kernel
theorem dL_law_362 : decode cL_law 362 = .ok (.iload_n 3, 1) := by decide +kernel
theorem dL_law_363 : decode cL_law 363 = .ok (.iconst 1, 1) := by decide +kernel
theorem dL_law_364 : decode cL_law 364 = .ok (.iadd, 1) := by decide +kernel
theorem dL_law_365 : decode cL_law 365 = .ok (.iaload, 1) := by decide +kernel
theorem dL_law_366 : decode cL_law 366 = .ok (.invokevirtual 40, 3) := by decide +kernel
theorem dL_law_369 : decode cL_law 369 = .ok (.if_icmp .eq 901, 3) := by decide +kernel
theorem dL_law_372 : decode cL_law 372 = .ok (.iconst 0, 1) := by decide +kernel
theorem dL_law_373 : decode cL_law 373 = .ok (.ireturn, 1) := by decide +kernel
theorem dL_law_374 : decode cL_law 374 = .ok (.aload_n 1, 1) := by decide +kernel
theorem dL_law_375 : decode cL_law 375 = .ok (.aload_n 0, 1) := by decide +kernel
theorem dL_law_376 : decode cL_law 376 = .ok (.iload_n 3, 1) := by decide +kernel
theorem dL_law_377 : decode cL_law 377 = .ok (.iconst 1, 1) := by decide +kernel
theorem dL_law_378 : decode cL_law 378 = .ok (.iadd, 1) := by decide +kernel
theorem dL_law_379 : decode cL_law 379 = .ok (.iaload, 1) := by decide +kernel
theorem dL_law_380 : decode cL_law 380 = .ok (.aload_n 0, 1) := by decide +kernel
theorem dL_law_381 : decode cL_law 381 = .ok (.iload_n 3, 1) := by decide +kernel
theorem dL_law_382 : decode cL_law 382 = .ok (.iconst 2, 1) := by decide +kernel
theorem dL_law_383 : decode cL_law 383 = .ok (.iadd, 1) := by decide +kernel
theorem dL_law_384 : decode cL_law 384 = .ok (.iaload, 1) := by decide +kernel
theorem dL_law_385 : decode cL_law 385 = .ok (.aload_n 0, 1) := by decide +kernel
theorem dL_law_386 : decode cL_law 386 = .ok (.iload_n 3, 1) := by decide +kernel
theorem dL_law_387 : decode cL_law 387 = .ok (.iconst 3, 1) := by decide +kernel
theorem dL_law_388 : decode cL_law 388 = .ok (.iadd, 1) := by decide +kernel
theorem dL_law_389 : decode cL_law 389 = .ok (.iaload, 1) := by decide +kernel
theorem dL_law_390 : decode cL_law 390 = .ok (.invokevirtual 41, 3) := by decide +kernel
theorem dL_law_393 : decode cL_law 393 = .ok (.aload_n 2, 1) := by decide +kernel
theorem dL_law_394 : decode cL_law 394 = .ok (.aload_n 0, 1) := by decide +kernel
theorem dL_law_395 : decode cL_law 395 = .ok (.iload_n 3, 1) := by decide +kernel
theorem dL_law_396 : decode cL_law 396 = .ok (.iconst 1, 1) := by decide +kernel
theorem dL_law_397 : decode cL_law 397 = .ok (.iadd, 1) := by decide +kernel
theorem dL_law_398 : decode cL_law 398 = .ok (.iaload, 1) := by decide +kernel
theorem dL_law_399 : decode cL_law 399 = .ok (.aload_n 0, 1) := by decide +kernel
theorem dL_law_400 : decode cL_law 400 = .ok (.iload_n 3, 1) := by decide +kernel
theorem dL_law_401 : decode cL_law 401 = .ok (.iconst 2, 1) := by decide +kernel
theorem dL_law_402 : decode cL_law 402 = .ok (.iadd, 1) := by decide +kernel
theorem dL_law_403 : decode cL_law 403 = .ok (.iaload, 1) := by decide +kernel
theorem dL_law_404 : decode cL_law 404 = .ok (.aload_n 0, 1) := by decide +kernel
theorem dL_law_405 : decode cL_law 405 = .ok (.iload_n 3, 1) := by decide +kernel
theorem dL_law_406 : decode cL_law 406 = .ok (.iconst 3, 1) := by decide +kernel
theorem dL_law_407 : decode cL_law 407 = .ok (.iadd, 1) := by decide +kernel
theorem dL_law_408 : decode cL_law 408 = .ok (.iaload, 1) := by decide +kernel
theorem dL_law_409 : decode cL_law 409 = .ok (.invokevirtual 45, 3) := by decide +kernel
theorem dL_law_412 : decode cL_law 412 = .ok (.if_icmp .eq 858, 3) := by decide +kernel
theorem dL_law_415 : decode cL_law 415 = .ok (.iconst 0, 1) := by decide +kernel
theorem dL_law_416 : decode cL_law 416 = .ok (.ireturn, 1) := by decide +kernel
theorem dL_law_417 : decode cL_law 417 = .ok (.aload_n 1, 1) := by decide +kernel
theorem dL_law_418 : decode cL_law 418 = .ok (.aload_n 0, 1) := by decide +kernel
theorem dL_law_419 : decode cL_law 419 = .ok (.iload_n 3, 1) := by decide +kernel
theorem dL_law_420 : decode cL_law 420 = .ok (.iconst 1, 1) := by decide +kernel
theorem dL_law_421 : decode cL_law 421 = .ok (.iadd, 1) := by decide +kernel
theorem dL_law_422 : decode cL_law 422 = .ok (.iaload, 1) := by decide +kernel
theorem dL_law_423 : decode cL_law 423 = .ok (.aload_n 0, 1) := by decide +kernel
theorem dL_law_424 : decode cL_law 424 = .ok (.iload_n 3, 1) := by decide +kernel
theorem dL_law_425 : decode cL_law 425 = .ok (.iconst 2, 1) := by decide +kernel
theorem dL_law_426 : decode cL_law 426 = .ok (.iadd, 1) := by decide +kernel
theorem dL_law_427 : decode cL_law 427 = .ok (.iaload, 1) := by decide +kernel
theorem dL_law_428 : decode cL_law 428 = .ok (.aload_n 0, 1) := by decide +kernel
theorem dL_law_429 : decode cL_law 429 = .ok (.iload_n 3, 1) := by decide +kernel
theorem dL_law_430 : decode cL_law 430 = .ok (.iconst 3, 1) := by decide +kernel
theorem dL_law_431 : decode cL_law 431 = .ok (.iadd, 1) := by decide +kernel
theorem dL_law_432 : decode cL_law 432 = .ok (.iaload, 1) := by decide +kernel
theorem dL_law_433 : decode cL_law 433 = .ok (.invokevirtual 46, 3) := by decide +kernel
theorem dL_law_436 : decode cL_law 436 = .ok (.aload_n 2, 1) := by decide +kernel
theorem dL_law_437 : decode cL_law 437 = .ok (.aload_n 0, 1) := by decide +kernel
theorem dL_law_438 : decode cL_law 438 = .ok (.iload_n 3, 1) := by decide +kernel
theorem dL_law_439 : decode cL_law 439 = .ok (.iconst 1, 1) := by decide +kernel
theorem dL_law_440 : decode cL_law 440 = .ok (.iadd, 1) := by decide +kernel
theorem dL_law_441 : decode cL_law 441 = .ok (.iaload, 1) := by decide +kernel
theorem dL_law_442 : decode cL_law 442 = .ok (.aload_n 0, 1) := by decide +kernel
theorem dL_law_443 : decode cL_law 443 = .ok (.iload_n 3, 1) := by decide +kernel
theorem dL_law_444 : decode cL_law 444 = .ok (.iconst 2, 1) := by decide +kernel
theorem dL_law_445 : decode cL_law 445 = .ok (.iadd, 1) := by decide +kernel
theorem dL_law_446 : decode cL_law 446 = .ok (.iaload, 1) := by decide +kernel
theorem dL_law_447 : decode cL_law 447 = .ok (.aload_n 0, 1) := by decide +kernel
theorem dL_law_448 : decode cL_law 448 = .ok (.iload_n 3, 1) := by decide +kernel
theorem dL_law_449 : decode cL_law 449 = .ok (.iconst 3, 1) := by decide +kernel
theorem dL_law_450 : decode cL_law 450 = .ok (.iadd, 1) := by decide +kernel
theorem dL_law_451 : decode cL_law 451 = .ok (.iaload, 1) := by decide +kernel
theorem dL_law_452 : decode cL_law 452 = .ok (.invokevirtual 49, 3) := by decide +kernel
theorem dL_law_455 : decode cL_law 455 = .ok (.if_icmp .eq 815, 3) := by decide +kernel
theorem dL_law_458 : decode cL_law 458 = .ok (.iconst 0, 1) := by decide +kernel
theorem dL_law_459 : decode cL_law 459 = .ok (.ireturn, 1) := by decide +kernel
theorem dL_law_460 : decode cL_law 460 = .ok (.aload_n 1, 1) := by decide +kernel
theorem dL_law_461 : decode cL_law 461 = .ok (.aload_n 0, 1) := by decide +kernel
theorem dL_law_462 : decode cL_law 462 = .ok (.iload_n 3, 1) := by decide +kernel
theorem dL_law_463 : decode cL_law 463 = .ok (.iconst 1, 1) := by decide +kernel
theorem dL_law_464 : decode cL_law 464 = .ok (.iadd, 1) := by decide +kernel
theorem dL_law_465 : decode cL_law 465 = .ok (.iaload, 1) := by decide +kernel
theorem dL_law_466 : decode cL_law 466 = .ok (.aload_n 0, 1) := by decide +kernel
theorem dL_law_467 : decode cL_law 467 = .ok (.iload_n 3, 1) := by decide +kernel
theorem dL_law_468 : decode cL_law 468 = .ok (.iconst 2, 1) := by decide +kernel
theorem dL_law_469 : decode cL_law 469 = .ok (.iadd, 1) := by decide +kernel
theorem dL_law_470 : decode cL_law 470 = .ok (.iaload, 1) := by decide +kernel
theorem dL_law_471 : decode cL_law 471 = .ok (.invokevirtual 50, 3) := by decide +kernel
theorem dL_law_474 : decode cL_law 474 = .ok (.aload_n 2, 1) := by decide +kernel
theorem dL_law_475 : decode cL_law 475 = .ok (.aload_n 0, 1) := by decide +kernel
theorem dL_law_476 : decode cL_law 476 = .ok (.iload_n 3, 1) := by decide +kernel
theorem dL_law_477 : decode cL_law 477 = .ok (.iconst 1, 1) := by decide +kernel
theorem dL_law_478 : decode cL_law 478 = .ok (.iadd, 1) := by decide +kernel
theorem dL_law_479 : decode cL_law 479 = .ok (.iaload, 1) := by decide +kernel
theorem dL_law_480 : decode cL_law 480 = .ok (.aload_n 0, 1) := by decide +kernel
theorem dL_law_481 : decode cL_law 481 = .ok (.iload_n 3, 1) := by decide +kernel
theorem dL_law_482 : decode cL_law 482 = .ok (.iconst 2, 1) := by decide +kernel
theorem dL_law_483 : decode cL_law 483 = .ok (.iadd, 1) := by decide +kernel
theorem dL_law_484 : decode cL_law 484 = .ok (.iaload, 1) := by decide +kernel
theorem dL_law_485 : decode cL_law 485 = .ok (.invokevirtual 53, 3) := by decide +kernel
theorem dL_law_488 : decode cL_law 488 = .ok (.if_icmp .eq 782, 3) := by decide +kernel
theorem dL_law_491 : decode cL_law 491 = .ok (.iconst 0, 1) := by decide +kernel
theorem dL_law_492 : decode cL_law 492 = .ok (.ireturn, 1) := by decide +kernel
theorem dL_law_493 : decode cL_law 493 = .ok (.aload_n 1, 1) := by decide +kernel
theorem dL_law_494 : decode cL_law 494 = .ok (.aload_n 0, 1) := by decide +kernel
theorem dL_law_495 : decode cL_law 495 = .ok (.iload_n 3, 1) := by decide +kernel
theorem dL_law_496 : decode cL_law 496 = .ok (.iconst 1, 1) := by decide +kernel
theorem dL_law_497 : decode cL_law 497 = .ok (.iadd, 1) := by decide +kernel
theorem dL_law_498 : decode cL_law 498 = .ok (.iaload, 1) := by decide +kernel
theorem dL_law_499 : decode cL_law 499 = .ok (.invokevirtual 54, 3) := by decide +kernel
theorem dL_law_502 : decode cL_law 502 = .ok (.aload_n 2, 1) := by decide +kernel
theorem dL_law_503 : decode cL_law 503 = .ok (.aload_n 0, 1) := by decide +kernel
theorem dL_law_504 : decode cL_law 504 = .ok (.iload_n 3, 1) := by decide +kernel
theorem dL_law_505 : decode cL_law 505 = .ok (.iconst 1, 1) := by decide +kernel
theorem dL_law_506 : decode cL_law 506 = .ok (.iadd, 1) := by decide +kernel
theorem dL_law_507 : decode cL_law 507 = .ok (.iaload, 1) := by decide +kernel
theorem dL_law_508 : decode cL_law 508 = .ok (.invokevirtual 57, 3) := by decide +kernel
theorem dL_law_511 : decode cL_law 511 = .ok (.if_icmp .eq 759, 3) := by decide +kernel
theorem dL_law_514 : decode cL_law 514 = .ok (.iconst 0, 1) := by decide +kernel
theorem dL_law_515 : decode cL_law 515 = .ok (.ireturn, 1) := by decide +kernel
theorem dL_law_516 : decode cL_law 516 = .ok (.aload_n 1, 1) := by decide +kernel
theorem dL_law_517 : decode cL_law 517 = .ok (.aload_n 0, 1) := by decide +kernel
theorem dL_law_518 : decode cL_law 518 = .ok (.iload_n 3, 1) := by decide +kernel
theorem dL_law_519 : decode cL_law 519 = .ok (.iconst 1, 1) := by decide +kernel
theorem dL_law_520 : decode cL_law 520 = .ok (.iadd, 1) := by decide +kernel
theorem dL_law_521 : decode cL_law 521 = .ok (.iaload, 1) := by decide +kernel
theorem dL_law_522 : decode cL_law 522 = .ok (.invokevirtual 58, 3) := by decide +kernel
theorem dL_law_525 : decode cL_law 525 = .ok (.aload_n 2, 1) := by decide +kernel
theorem dL_law_526 : decode cL_law 526 = .ok (.aload_n 0, 1) := by decide +kernel
theorem dL_law_527 : decode cL_law 527 = .ok (.iload_n 3, 1) := by decide +kernel
theorem dL_law_528 : decode cL_law 528 = .ok (.iconst 1, 1) := by decide +kernel
theorem dL_law_529 : decode cL_law 529 = .ok (.iadd, 1) := by decide +kernel
theorem dL_law_530 : decode cL_law 530 = .ok (.iaload, 1) := by decide +kernel
theorem dL_law_531 : decode cL_law 531 = .ok (.invokevirtual 61, 3) := by decide +kernel
theorem dL_law_534 : decode cL_law 534 = .ok (.if_icmp .eq 736, 3) := by decide +kernel
theorem dL_law_537 : decode cL_law 537 = .ok (.iconst 0, 1) := by decide +kernel
theorem dL_law_538 : decode cL_law 538 = .ok (.ireturn, 1) := by decide +kernel
theorem dL_law_539 : decode cL_law 539 = .ok (.aload_n 1, 1) := by decide +kernel
theorem dL_law_540 : decode cL_law 540 = .ok (.aload_n 0, 1) := by decide +kernel
theorem dL_law_541 : decode cL_law 541 = .ok (.iload_n 3, 1) := by decide +kernel
theorem dL_law_542 : decode cL_law 542 = .ok (.iconst 1, 1) := by decide +kernel
theorem dL_law_543 : decode cL_law 543 = .ok (.iadd, 1) := by decide +kernel
theorem dL_law_544 : decode cL_law 544 = .ok (.iaload, 1) := by decide +kernel
theorem dL_law_545 : decode cL_law 545 = .ok (.invokevirtual 62, 3) := by decide +kernel
theorem dL_law_548 : decode cL_law 548 = .ok (.aload_n 2, 1) := by decide +kernel
theorem dL_law_549 : decode cL_law 549 = .ok (.aload_n 0, 1) := by decide +kernel
theorem dL_law_550 : decode cL_law 550 = .ok (.iload_n 3, 1) := by decide +kernel
theorem dL_law_551 : decode cL_law 551 = .ok (.iconst 1, 1) := by decide +kernel
theorem dL_law_552 : decode cL_law 552 = .ok (.iadd, 1) := by decide +kernel
theorem dL_law_553 : decode cL_law 553 = .ok (.iaload, 1) := by decide +kernel
theorem dL_law_554 : decode cL_law 554 = .ok (.invokevirtual 65, 3) := by decide +kernel
theorem dL_law_557 : decode cL_law 557 = .ok (.if_icmp .eq 713, 3) := by decide +kernel
theorem dL_law_560 : decode cL_law 560 = .ok (.iconst 0, 1) := by decide +kernel
theorem dL_law_561 : decode cL_law 561 = .ok (.ireturn, 1) := by decide +kernel
theorem dL_law_562 : decode cL_law 562 = .ok (.aload_n 1, 1) := by decide +kernel
theorem dL_law_563 : decode cL_law 563 = .ok (.aload_n 0, 1) := by decide +kernel
theorem dL_law_564 : decode cL_law 564 = .ok (.iload_n 3, 1) := by decide +kernel
theorem dL_law_565 : decode cL_law 565 = .ok (.iconst 1, 1) := by decide +kernel
theorem dL_law_566 : decode cL_law 566 = .ok (.iadd, 1) := by decide +kernel
theorem dL_law_567 : decode cL_law 567 = .ok (.iaload, 1) := by decide +kernel
theorem dL_law_568 : decode cL_law 568 = .ok (.invokevirtual 66, 3) := by decide +kernel
theorem dL_law_571 : decode cL_law 571 = .ok (.aload_n 2, 1) := by decide +kernel
theorem dL_law_572 : decode cL_law 572 = .ok (.aload_n 0, 1) := by decide +kernel
theorem dL_law_573 : decode cL_law 573 = .ok (.iload_n 3, 1) := by decide +kernel
theorem dL_law_574 : decode cL_law 574 = .ok (.iconst 1, 1) := by decide +kernel
theorem dL_law_575 : decode cL_law 575 = .ok (.iadd, 1) := by decide +kernel
theorem dL_law_576 : decode cL_law 576 = .ok (.iaload, 1) := by decide +kernel
theorem dL_law_577 : decode cL_law 577 = .ok (.invokevirtual 69, 3) := by decide +kernel
theorem dL_law_580 : decode cL_law 580 = .ok (.if_icmp .eq 690, 3) := by decide +kernel
theorem dL_law_583 : decode cL_law 583 = .ok (.iconst 0, 1) := by decide +kernel
theorem dL_law_584 : decode cL_law 584 = .ok (.ireturn, 1) := by decide +kernel
theorem dL_law_585 : decode cL_law 585 = .ok (.aload_n 1, 1) := by decide +kernel
theorem dL_law_586 : decode cL_law 586 = .ok (.aload_n 0, 1) := by decide +kernel
theorem dL_law_587 : decode cL_law 587 = .ok (.iload_n 3, 1) := by decide +kernel
theorem dL_law_588 : decode cL_law 588 = .ok (.iconst 1, 1) := by decide +kernel
theorem dL_law_589 : decode cL_law 589 = .ok (.iadd, 1) := by decide +kernel
theorem dL_law_590 : decode cL_law 590 = .ok (.iaload, 1) := by decide +kernel
theorem dL_law_591 : decode cL_law 591 = .ok (.invokevirtual 70, 3) := by decide +kernel
theorem dL_law_594 : decode cL_law 594 = .ok (.aload_n 2, 1) := by decide +kernel
theorem dL_law_595 : decode cL_law 595 = .ok (.aload_n 0, 1) := by decide +kernel
theorem dL_law_596 : decode cL_law 596 = .ok (.iload_n 3, 1) := by decide +kernel
theorem dL_law_597 : decode cL_law 597 = .ok (.iconst 1, 1) := by decide +kernel
theorem dL_law_598 : decode cL_law 598 = .ok (.iadd, 1) := by decide +kernel
theorem dL_law_599 : decode cL_law 599 = .ok (.iaload, 1) := by decide +kernel
theorem dL_law_600 : decode cL_law 600 = .ok (.invokevirtual 73, 3) := by decide +kernel
theorem dL_law_603 : decode cL_law 603 = .ok (.if_icmp .eq 667, 3) := by decide +kernel
theorem dL_law_606 : decode cL_law 606 = .ok (.iconst 0, 1) := by decide +kernel
theorem dL_law_607 : decode cL_law 607 = .ok (.ireturn, 1) := by decide +kernel
theorem dL_law_608 : decode cL_law 608 = .ok (.aload_n 1, 1) := by decide +kernel
theorem dL_law_609 : decode cL_law 609 = .ok (.aload_n 0, 1) := by decide +kernel
theorem dL_law_610 : decode cL_law 610 = .ok (.iload_n 3, 1) := by decide +kernel
theorem dL_law_611 : decode cL_law 611 = .ok (.iconst 1, 1) := by decide +kernel
theorem dL_law_612 : decode cL_law 612 = .ok (.iadd, 1) := by decide +kernel
theorem dL_law_613 : decode cL_law 613 = .ok (.iaload, 1) := by decide +kernel
theorem dL_law_614 : decode cL_law 614 = .ok (.aload_n 0, 1) := by decide +kernel
theorem dL_law_615 : decode cL_law 615 = .ok (.iload_n 3, 1) := by decide +kernel
theorem dL_law_616 : decode cL_law 616 = .ok (.iconst 2, 1) := by decide +kernel
theorem dL_law_617 : decode cL_law 617 = .ok (.iadd, 1) := by decide +kernel
theorem dL_law_618 : decode cL_law 618 = .ok (.iaload, 1) := by decide +kernel
theorem dL_law_619 : decode cL_law 619 = .ok (.invokevirtual 74, 3) := by decide +kernel
theorem dL_law_622 : decode cL_law 622 = .ok (.aload_n 2, 1) := by decide +kernel
theorem dL_law_623 : decode cL_law 623 = .ok (.aload_n 0, 1) := by decide +kernel
theorem dL_law_624 : decode cL_law 624 = .ok (.iload_n 3, 1) := by decide +kernel
theorem dL_law_625 : decode cL_law 625 = .ok (.iconst 1, 1) := by decide +kernel
theorem dL_law_626 : decode cL_law 626 = .ok (.iadd, 1) := by decide +kernel
theorem dL_law_627 : decode cL_law 627 = .ok (.iaload, 1) := by decide +kernel
theorem dL_law_628 : decode cL_law 628 = .ok (.aload_n 0, 1) := by decide +kernel
theorem dL_law_629 : decode cL_law 629 = .ok (.iload_n 3, 1) := by decide +kernel
theorem dL_law_630 : decode cL_law 630 = .ok (.iconst 2, 1) := by decide +kernel
theorem dL_law_631 : decode cL_law 631 = .ok (.iadd, 1) := by decide +kernel
theorem dL_law_632 : decode cL_law 632 = .ok (.iaload, 1) := by decide +kernel
theorem dL_law_633 : decode cL_law 633 = .ok (.invokevirtual 77, 3) := by decide +kernel
theorem dL_law_636 : decode cL_law 636 = .ok (.if_icmp .eq 634, 3) := by decide +kernel
theorem dL_law_639 : decode cL_law 639 = .ok (.iconst 0, 1) := by decide +kernel
theorem dL_law_640 : decode cL_law 640 = .ok (.ireturn, 1) := by decide +kernel
theorem dL_law_641 : decode cL_law 641 = .ok (.aload_n 1, 1) := by decide +kernel
theorem dL_law_642 : decode cL_law 642 = .ok (.aload_n 0, 1) := by decide +kernel
theorem dL_law_643 : decode cL_law 643 = .ok (.iload_n 3, 1) := by decide +kernel
theorem dL_law_644 : decode cL_law 644 = .ok (.iconst 1, 1) := by decide +kernel
theorem dL_law_645 : decode cL_law 645 = .ok (.iadd, 1) := by decide +kernel
theorem dL_law_646 : decode cL_law 646 = .ok (.iaload, 1) := by decide +kernel
theorem dL_law_647 : decode cL_law 647 = .ok (.aload_n 0, 1) := by decide +kernel
theorem dL_law_648 : decode cL_law 648 = .ok (.iload_n 3, 1) := by decide +kernel
theorem dL_law_649 : decode cL_law 649 = .ok (.iconst 2, 1) := by decide +kernel
theorem dL_law_650 : decode cL_law 650 = .ok (.iadd, 1) := by decide +kernel
theorem dL_law_651 : decode cL_law 651 = .ok (.iaload, 1) := by decide +kernel
theorem dL_law_652 : decode cL_law 652 = .ok (.invokevirtual 78, 3) := by decide +kernel
theorem dL_law_655 : decode cL_law 655 = .ok (.aload_n 2, 1) := by decide +kernel
theorem dL_law_656 : decode cL_law 656 = .ok (.aload_n 0, 1) := by decide +kernel
theorem dL_law_657 : decode cL_law 657 = .ok (.iload_n 3, 1) := by decide +kernel
theorem dL_law_658 : decode cL_law 658 = .ok (.iconst 1, 1) := by decide +kernel
theorem dL_law_659 : decode cL_law 659 = .ok (.iadd, 1) := by decide +kernel
theorem dL_law_660 : decode cL_law 660 = .ok (.iaload, 1) := by decide +kernel
theorem dL_law_661 : decode cL_law 661 = .ok (.aload_n 0, 1) := by decide +kernel
theorem dL_law_662 : decode cL_law 662 = .ok (.iload_n 3, 1) := by decide +kernel
theorem dL_law_663 : decode cL_law 663 = .ok (.iconst 2, 1) := by decide +kernel
theorem dL_law_664 : decode cL_law 664 = .ok (.iadd, 1) := by decide +kernel
theorem dL_law_665 : decode cL_law 665 = .ok (.iaload, 1) := by decide +kernel
theorem dL_law_666 : decode cL_law 666 = .ok (.invokevirtual 81, 3) := by decide +kernel
theorem dL_law_669 : decode cL_law 669 = .ok (.if_icmp .eq 601, 3) := by decide +kernel
theorem dL_law_672 : decode cL_law 672 = .ok (.iconst 0, 1) := by decide +kernel
theorem dL_law_673 : decode cL_law 673 = .ok (.ireturn, 1) := by decide +kernel
theorem dL_law_674 : decode cL_law 674 = .ok (.aload_n 1, 1) := by decide +kernel
theorem dL_law_675 : decode cL_law 675 = .ok (.aload_n 0, 1) := by decide +kernel
theorem dL_law_676 : decode cL_law 676 = .ok (.iload_n 3, 1) := by decide +kernel
theorem dL_law_677 : decode cL_law 677 = .ok (.iconst 1, 1) := by decide +kernel
theorem dL_law_678 : decode cL_law 678 = .ok (.iadd, 1) := by decide +kernel
theorem dL_law_679 : decode cL_law 679 = .ok (.iaload, 1) := by decide +kernel
theorem dL_law_680 : decode cL_law 680 = .ok (.aload_n 0, 1) := by decide +kernel
theorem dL_law_681 : decode cL_law 681 = .ok (.iload_n 3, 1) := by decide +kernel
theorem dL_law_682 : decode cL_law 682 = .ok (.iconst 2, 1) := by decide +kernel
theorem dL_law_683 : decode cL_law 683 = .ok (.iadd, 1) := by decide +kernel
theorem dL_law_684 : decode cL_law 684 = .ok (.iaload, 1) := by decide +kernel
theorem dL_law_685 : decode cL_law 685 = .ok (.invokevirtual 82, 3) := by decide +kernel
theorem dL_law_688 : decode cL_law 688 = .ok (.aload_n 2, 1) := by decide +kernel
theorem dL_law_689 : decode cL_law 689 = .ok (.aload_n 0, 1) := by decide +kernel
theorem dL_law_690 : decode cL_law 690 = .ok (.iload_n 3, 1) := by decide +kernel
theorem dL_law_691 : decode cL_law 691 = .ok (.iconst 1, 1) := by decide +kernel
theorem dL_law_692 : decode cL_law 692 = .ok (.iadd, 1) := by decide +kernel
theorem dL_law_693 : decode cL_law 693 = .ok (.iaload, 1) := by decide +kernel
theorem dL_law_694 : decode cL_law 694 = .ok (.aload_n 0, 1) := by decide +kernel
theorem dL_law_695 : decode cL_law 695 = .ok (.iload_n 3, 1) := by decide +kernel
theorem dL_law_696 : decode cL_law 696 = .ok (.iconst 2, 1) := by decide +kernel
theorem dL_law_697 : decode cL_law 697 = .ok (.iadd, 1) := by decide +kernel
theorem dL_law_698 : decode cL_law 698 = .ok (.iaload, 1) := by decide +kernel
theorem dL_law_699 : decode cL_law 699 = .ok (.invokevirtual 86, 3) := by decide +kernel
theorem dL_law_702 : decode cL_law 702 = .ok (.lcmp, 1) := by decide +kernel
theorem dL_law_703 : decode cL_law 703 = .ok (.ifCond .eq 567, 3) := by decide +kernel
theorem dL_law_706 : decode cL_law 706 = .ok (.iconst 0, 1) := by decide +kernel
theorem dL_law_707 : decode cL_law 707 = .ok (.ireturn, 1) := by decide +kernel
theorem dL_law_708 : decode cL_law 708 = .ok (.aload_n 1, 1) := by decide +kernel
theorem dL_law_709 : decode cL_law 709 = .ok (.aload_n 0, 1) := by decide +kernel
theorem dL_law_710 : decode cL_law 710 = .ok (.iload_n 3, 1) := by decide +kernel
theorem dL_law_711 : decode cL_law 711 = .ok (.iconst 1, 1) := by decide +kernel
theorem dL_law_712 : decode cL_law 712 = .ok (.iadd, 1) := by decide +kernel
theorem dL_law_713 : decode cL_law 713 = .ok (.iaload, 1) := by decide +kernel
theorem dL_law_714 : decode cL_law 714 = .ok (.aload_n 0, 1) := by decide +kernel
theorem dL_law_715 : decode cL_law 715 = .ok (.iload_n 3, 1) := by decide +kernel
theorem dL_law_716 : decode cL_law 716 = .ok (.iconst 2, 1) := by decide +kernel
theorem dL_law_717 : decode cL_law 717 = .ok (.iadd, 1) := by decide +kernel
theorem dL_law_718 : decode cL_law 718 = .ok (.iaload, 1) := by decide +kernel
theorem dL_law_719 : decode cL_law 719 = .ok (.invokevirtual 87, 3) := by decide +kernel
theorem dL_law_722 : decode cL_law 722 = .ok (.aload_n 2, 1) := by decide +kernel
theorem dL_law_723 : decode cL_law 723 = .ok (.aload_n 0, 1) := by decide +kernel
theorem dL_law_724 : decode cL_law 724 = .ok (.iload_n 3, 1) := by decide +kernel
theorem dL_law_725 : decode cL_law 725 = .ok (.iconst 1, 1) := by decide +kernel
theorem dL_law_726 : decode cL_law 726 = .ok (.iadd, 1) := by decide +kernel
theorem dL_law_727 : decode cL_law 727 = .ok (.iaload, 1) := by decide +kernel
theorem dL_law_728 : decode cL_law 728 = .ok (.aload_n 0, 1) := by decide +kernel
theorem dL_law_729 : decode cL_law 729 = .ok (.iload_n 3, 1) := by decide +kernel
theorem dL_law_730 : decode cL_law 730 = .ok (.iconst 2, 1) := by decide +kernel
theorem dL_law_731 : decode cL_law 731 = .ok (.iadd, 1) := by decide +kernel
theorem dL_law_732 : decode cL_law 732 = .ok (.iaload, 1) := by decide +kernel
theorem dL_law_733 : decode cL_law 733 = .ok (.invokevirtual 90, 3) := by decide +kernel
theorem dL_law_736 : decode cL_law 736 = .ok (.if_icmp .eq 534, 3) := by decide +kernel
theorem dL_law_739 : decode cL_law 739 = .ok (.iconst 0, 1) := by decide +kernel
theorem dL_law_740 : decode cL_law 740 = .ok (.ireturn, 1) := by decide +kernel
theorem dL_law_741 : decode cL_law 741 = .ok (.aload_n 1, 1) := by decide +kernel
theorem dL_law_742 : decode cL_law 742 = .ok (.aload_n 0, 1) := by decide +kernel
theorem dL_law_743 : decode cL_law 743 = .ok (.iload_n 3, 1) := by decide +kernel
theorem dL_law_744 : decode cL_law 744 = .ok (.iconst 1, 1) := by decide +kernel
theorem dL_law_745 : decode cL_law 745 = .ok (.iadd, 1) := by decide +kernel
theorem dL_law_746 : decode cL_law 746 = .ok (.iaload, 1) := by decide +kernel
theorem dL_law_747 : decode cL_law 747 = .ok (.invokevirtual 91, 3) := by decide +kernel
theorem dL_law_750 : decode cL_law 750 = .ok (.aload_n 2, 1) := by decide +kernel
theorem dL_law_751 : decode cL_law 751 = .ok (.aload_n 0, 1) := by decide +kernel
theorem dL_law_752 : decode cL_law 752 = .ok (.iload_n 3, 1) := by decide +kernel
theorem dL_law_753 : decode cL_law 753 = .ok (.iconst 1, 1) := by decide +kernel
theorem dL_law_754 : decode cL_law 754 = .ok (.iadd, 1) := by decide +kernel
theorem dL_law_755 : decode cL_law 755 = .ok (.iaload, 1) := by decide +kernel
theorem dL_law_756 : decode cL_law 756 = .ok (.invokevirtual 94, 3) := by decide +kernel
theorem dL_law_759 : decode cL_law 759 = .ok (.if_icmp .eq 511, 3) := by decide +kernel
theorem dL_law_762 : decode cL_law 762 = .ok (.iconst 0, 1) := by decide +kernel
theorem dL_law_763 : decode cL_law 763 = .ok (.ireturn, 1) := by decide +kernel
theorem dL_law_764 : decode cL_law 764 = .ok (.aload_n 1, 1) := by decide +kernel
theorem dL_law_765 : decode cL_law 765 = .ok (.aload_n 0, 1) := by decide +kernel
theorem dL_law_766 : decode cL_law 766 = .ok (.iload_n 3, 1) := by decide +kernel
theorem dL_law_767 : decode cL_law 767 = .ok (.iconst 1, 1) := by decide +kernel
theorem dL_law_768 : decode cL_law 768 = .ok (.iadd, 1) := by decide +kernel
theorem dL_law_769 : decode cL_law 769 = .ok (.iaload, 1) := by decide +kernel
theorem dL_law_770 : decode cL_law 770 = .ok (.invokevirtual 95, 3) := by decide +kernel
theorem dL_law_773 : decode cL_law 773 = .ok (.aload_n 2, 1) := by decide +kernel
theorem dL_law_774 : decode cL_law 774 = .ok (.aload_n 0, 1) := by decide +kernel
theorem dL_law_775 : decode cL_law 775 = .ok (.iload_n 3, 1) := by decide +kernel
theorem dL_law_776 : decode cL_law 776 = .ok (.iconst 1, 1) := by decide +kernel
theorem dL_law_777 : decode cL_law 777 = .ok (.iadd, 1) := by decide +kernel
theorem dL_law_778 : decode cL_law 778 = .ok (.iaload, 1) := by decide +kernel
theorem dL_law_779 : decode cL_law 779 = .ok (.invokevirtual 98, 3) := by decide +kernel
theorem dL_law_782 : decode cL_law 782 = .ok (.if_icmp .eq 488, 3) := by decide +kernel
theorem dL_law_785 : decode cL_law 785 = .ok (.iconst 0, 1) := by decide +kernel
theorem dL_law_786 : decode cL_law 786 = .ok (.ireturn, 1) := by decide +kernel
theorem dL_law_787 : decode cL_law 787 = .ok (.aload_n 1, 1) := by decide +kernel
theorem dL_law_788 : decode cL_law 788 = .ok (.aload_n 0, 1) := by decide +kernel
theorem dL_law_789 : decode cL_law 789 = .ok (.iload_n 3, 1) := by decide +kernel
theorem dL_law_790 : decode cL_law 790 = .ok (.iconst 1, 1) := by decide +kernel
theorem dL_law_791 : decode cL_law 791 = .ok (.iadd, 1) := by decide +kernel
theorem dL_law_792 : decode cL_law 792 = .ok (.iaload, 1) := by decide +kernel
theorem dL_law_793 : decode cL_law 793 = .ok (.invokevirtual 99, 3) := by decide +kernel
theorem dL_law_796 : decode cL_law 796 = .ok (.aload_n 2, 1) := by decide +kernel
theorem dL_law_797 : decode cL_law 797 = .ok (.aload_n 0, 1) := by decide +kernel
theorem dL_law_798 : decode cL_law 798 = .ok (.iload_n 3, 1) := by decide +kernel
theorem dL_law_799 : decode cL_law 799 = .ok (.iconst 1, 1) := by decide +kernel
theorem dL_law_800 : decode cL_law 800 = .ok (.iadd, 1) := by decide +kernel
theorem dL_law_801 : decode cL_law 801 = .ok (.iaload, 1) := by decide +kernel
theorem dL_law_802 : decode cL_law 802 = .ok (.invokevirtual 102, 3) := by decide +kernel
theorem dL_law_805 : decode cL_law 805 = .ok (.if_icmp .eq 465, 3) := by decide +kernel
theorem dL_law_808 : decode cL_law 808 = .ok (.iconst 0, 1) := by decide +kernel
theorem dL_law_809 : decode cL_law 809 = .ok (.ireturn, 1) := by decide +kernel
theorem dL_law_810 : decode cL_law 810 = .ok (.aload_n 1, 1) := by decide +kernel
theorem dL_law_811 : decode cL_law 811 = .ok (.aload_n 0, 1) := by decide +kernel
theorem dL_law_812 : decode cL_law 812 = .ok (.iload_n 3, 1) := by decide +kernel
theorem dL_law_813 : decode cL_law 813 = .ok (.iconst 1, 1) := by decide +kernel
theorem dL_law_814 : decode cL_law 814 = .ok (.iadd, 1) := by decide +kernel
theorem dL_law_815 : decode cL_law 815 = .ok (.iaload, 1) := by decide +kernel
theorem dL_law_816 : decode cL_law 816 = .ok (.invokevirtual 103, 3) := by decide +kernel
theorem dL_law_819 : decode cL_law 819 = .ok (.aload_n 2, 1) := by decide +kernel
theorem dL_law_820 : decode cL_law 820 = .ok (.aload_n 0, 1) := by decide +kernel
theorem dL_law_821 : decode cL_law 821 = .ok (.iload_n 3, 1) := by decide +kernel
theorem dL_law_822 : decode cL_law 822 = .ok (.iconst 1, 1) := by decide +kernel
theorem dL_law_823 : decode cL_law 823 = .ok (.iadd, 1) := by decide +kernel
theorem dL_law_824 : decode cL_law 824 = .ok (.iaload, 1) := by decide +kernel
theorem dL_law_825 : decode cL_law 825 = .ok (.invokevirtual 106, 3) := by decide +kernel
theorem dL_law_828 : decode cL_law 828 = .ok (.if_icmp .eq 442, 3) := by decide +kernel
theorem dL_law_831 : decode cL_law 831 = .ok (.iconst 0, 1) := by decide +kernel
theorem dL_law_832 : decode cL_law 832 = .ok (.ireturn, 1) := by decide +kernel
theorem dL_law_833 : decode cL_law 833 = .ok (.aload_n 1, 1) := by decide +kernel
theorem dL_law_834 : decode cL_law 834 = .ok (.aload_n 0, 1) := by decide +kernel
theorem dL_law_835 : decode cL_law 835 = .ok (.iload_n 3, 1) := by decide +kernel
theorem dL_law_836 : decode cL_law 836 = .ok (.iconst 1, 1) := by decide +kernel
theorem dL_law_837 : decode cL_law 837 = .ok (.iadd, 1) := by decide +kernel
theorem dL_law_838 : decode cL_law 838 = .ok (.iaload, 1) := by decide +kernel
theorem dL_law_839 : decode cL_law 839 = .ok (.aload_n 0, 1) := by decide +kernel
theorem dL_law_840 : decode cL_law 840 = .ok (.iload_n 3, 1) := by decide +kernel
theorem dL_law_841 : decode cL_law 841 = .ok (.iconst 2, 1) := by decide +kernel
theorem dL_law_842 : decode cL_law 842 = .ok (.iadd, 1) := by decide +kernel
theorem dL_law_843 : decode cL_law 843 = .ok (.iaload, 1) := by decide +kernel
theorem dL_law_844 : decode cL_law 844 = .ok (.invokevirtual 107, 3) := by decide +kernel
theorem dL_law_847 : decode cL_law 847 = .ok (.aload_n 2, 1) := by decide +kernel
theorem dL_law_848 : decode cL_law 848 = .ok (.aload_n 0, 1) := by decide +kernel
theorem dL_law_849 : decode cL_law 849 = .ok (.iload_n 3, 1) := by decide +kernel
theorem dL_law_850 : decode cL_law 850 = .ok (.iconst 1, 1) := by decide +kernel
theorem dL_law_851 : decode cL_law 851 = .ok (.iadd, 1) := by decide +kernel
theorem dL_law_852 : decode cL_law 852 = .ok (.iaload, 1) := by decide +kernel
theorem dL_law_853 : decode cL_law 853 = .ok (.aload_n 0, 1) := by decide +kernel
theorem dL_law_854 : decode cL_law 854 = .ok (.iload_n 3, 1) := by decide +kernel
theorem dL_law_855 : decode cL_law 855 = .ok (.iconst 2, 1) := by decide +kernel
theorem dL_law_856 : decode cL_law 856 = .ok (.iadd, 1) := by decide +kernel
theorem dL_law_857 : decode cL_law 857 = .ok (.iaload, 1) := by decide +kernel
theorem dL_law_858 : decode cL_law 858 = .ok (.invokevirtual 110, 3) := by decide +kernel
theorem dL_law_861 : decode cL_law 861 = .ok (.if_icmp .eq 409, 3) := by decide +kernel
theorem dL_law_864 : decode cL_law 864 = .ok (.iconst 0, 1) := by decide +kernel
theorem dL_law_865 : decode cL_law 865 = .ok (.ireturn, 1) := by decide +kernel
theorem dL_law_866 : decode cL_law 866 = .ok (.aload_n 1, 1) := by decide +kernel
theorem dL_law_867 : decode cL_law 867 = .ok (.aload_n 0, 1) := by decide +kernel
theorem dL_law_868 : decode cL_law 868 = .ok (.iload_n 3, 1) := by decide +kernel
theorem dL_law_869 : decode cL_law 869 = .ok (.iconst 1, 1) := by decide +kernel
theorem dL_law_870 : decode cL_law 870 = .ok (.iadd, 1) := by decide +kernel
theorem dL_law_871 : decode cL_law 871 = .ok (.iaload, 1) := by decide +kernel
theorem dL_law_872 : decode cL_law 872 = .ok (.aload_n 0, 1) := by decide +kernel
theorem dL_law_873 : decode cL_law 873 = .ok (.iload_n 3, 1) := by decide +kernel
theorem dL_law_874 : decode cL_law 874 = .ok (.iconst 2, 1) := by decide +kernel
theorem dL_law_875 : decode cL_law 875 = .ok (.iadd, 1) := by decide +kernel
theorem dL_law_876 : decode cL_law 876 = .ok (.iaload, 1) := by decide +kernel
theorem dL_law_877 : decode cL_law 877 = .ok (.invokevirtual 111, 3) := by decide +kernel
theorem dL_law_880 : decode cL_law 880 = .ok (.aload_n 2, 1) := by decide +kernel
theorem dL_law_881 : decode cL_law 881 = .ok (.aload_n 0, 1) := by decide +kernel
theorem dL_law_882 : decode cL_law 882 = .ok (.iload_n 3, 1) := by decide +kernel
theorem dL_law_883 : decode cL_law 883 = .ok (.iconst 1, 1) := by decide +kernel
theorem dL_law_884 : decode cL_law 884 = .ok (.iadd, 1) := by decide +kernel
theorem dL_law_885 : decode cL_law 885 = .ok (.iaload, 1) := by decide +kernel
theorem dL_law_886 : decode cL_law 886 = .ok (.aload_n 0, 1) := by decide +kernel
theorem dL_law_887 : decode cL_law 887 = .ok (.iload_n 3, 1) := by decide +kernel
theorem dL_law_888 : decode cL_law 888 = .ok (.iconst 2, 1) := by decide +kernel
theorem dL_law_889 : decode cL_law 889 = .ok (.iadd, 1) := by decide +kernel
theorem dL_law_890 : decode cL_law 890 = .ok (.iaload, 1) := by decide +kernel
theorem dL_law_891 : decode cL_law 891 = .ok (.invokevirtual 114, 3) := by decide +kernel
theorem dL_law_894 : decode cL_law 894 = .ok (.if_icmp .eq 376, 3) := by decide +kernel
theorem dL_law_897 : decode cL_law 897 = .ok (.iconst 0, 1) := by decide +kernel
theorem dL_law_898 : decode cL_law 898 = .ok (.ireturn, 1) := by decide +kernel
theorem dL_law_899 : decode cL_law 899 = .ok (.aload_n 1, 1) := by decide +kernel
theorem dL_law_900 : decode cL_law 900 = .ok (.aload_n 0, 1) := by decide +kernel
theorem dL_law_901 : decode cL_law 901 = .ok (.iload_n 3, 1) := by decide +kernel
theorem dL_law_902 : decode cL_law 902 = .ok (.iconst 1, 1) := by decide +kernel
theorem dL_law_903 : decode cL_law 903 = .ok (.iadd, 1) := by decide +kernel
theorem dL_law_904 : decode cL_law 904 = .ok (.iaload, 1) := by decide +kernel
theorem dL_law_905 : decode cL_law 905 = .ok (.invokevirtual 115, 3) := by decide +kernel
theorem dL_law_908 : decode cL_law 908 = .ok (.aload_n 2, 1) := by decide +kernel
theorem dL_law_909 : decode cL_law 909 = .ok (.aload_n 0, 1) := by decide +kernel
theorem dL_law_910 : decode cL_law 910 = .ok (.iload_n 3, 1) := by decide +kernel
theorem dL_law_911 : decode cL_law 911 = .ok (.iconst 1, 1) := by decide +kernel
theorem dL_law_912 : decode cL_law 912 = .ok (.iadd, 1) := by decide +kernel
theorem dL_law_913 : decode cL_law 913 = .ok (.iaload, 1) := by decide +kernel
theorem dL_law_914 : decode cL_law 914 = .ok (.invokevirtual 118, 3) := by decide +kernel
theorem dL_law_917 : decode cL_law 917 = .ok (.if_icmp .eq 353, 3) := by decide +kernel
theorem dL_law_920 : decode cL_law 920 = .ok (.iconst 0, 1) := by decide +kernel
theorem dL_law_921 : decode cL_law 921 = .ok (.ireturn, 1) := by decide +kernel
theorem dL_law_922 : decode cL_law 922 = .ok (.aload_n 1, 1) := by decide +kernel
theorem dL_law_923 : decode cL_law 923 = .ok (.aload_n 0, 1) := by decide +kernel
theorem dL_law_924 : decode cL_law 924 = .ok (.iload_n 3, 1) := by decide +kernel
theorem dL_law_925 : decode cL_law 925 = .ok (.iconst 1, 1) := by decide +kernel
theorem dL_law_926 : decode cL_law 926 = .ok (.iadd, 1) := by decide +kernel
theorem dL_law_927 : decode cL_law 927 = .ok (.iaload, 1) := by decide +kernel
theorem dL_law_928 : decode cL_law 928 = .ok (.aload_n 0, 1) := by decide +kernel
theorem dL_law_929 : decode cL_law 929 = .ok (.iload_n 3, 1) := by decide +kernel
theorem dL_law_930 : decode cL_law 930 = .ok (.iconst 2, 1) := by decide +kernel
theorem dL_law_931 : decode cL_law 931 = .ok (.iadd, 1) := by decide +kernel
theorem dL_law_932 : decode cL_law 932 = .ok (.iaload, 1) := by decide +kernel
theorem dL_law_933 : decode cL_law 933 = .ok (.invokevirtual 119, 3) := by decide +kernel
theorem dL_law_936 : decode cL_law 936 = .ok (.aload_n 2, 1) := by decide +kernel
theorem dL_law_937 : decode cL_law 937 = .ok (.aload_n 0, 1) := by decide +kernel
theorem dL_law_938 : decode cL_law 938 = .ok (.iload_n 3, 1) := by decide +kernel
theorem dL_law_939 : decode cL_law 939 = .ok (.iconst 1, 1) := by decide +kernel
theorem dL_law_940 : decode cL_law 940 = .ok (.iadd, 1) := by decide +kernel
theorem dL_law_941 : decode cL_law 941 = .ok (.iaload, 1) := by decide +kernel
theorem dL_law_942 : decode cL_law 942 = .ok (.aload_n 0, 1) := by decide +kernel
theorem dL_law_943 : decode cL_law 943 = .ok (.iload_n 3, 1) := by decide +kernel
theorem dL_law_944 : decode cL_law 944 = .ok (.iconst 2, 1) := by decide +kernel
theorem dL_law_945 : decode cL_law 945 = .ok (.iadd, 1) := by decide +kernel
theorem dL_law_946 : decode cL_law 946 = .ok (.iaload, 1) := by decide +kernel
theorem dL_law_947 : decode cL_law 947 = .ok (.invokevirtual 122, 3) := by decide +kernel
theorem dL_law_950 : decode cL_law 950 = .ok (.if_icmp .eq 320, 3) := by decide +kernel
theorem dL_law_953 : decode cL_law 953 = .ok (.iconst 0, 1) := by decide +kernel
theorem dL_law_954 : decode cL_law 954 = .ok (.ireturn, 1) := by decide +kernel
theorem dL_law_955 : decode cL_law 955 = .ok (.aload_n 1, 1) := by decide +kernel
theorem dL_law_956 : decode cL_law 956 = .ok (.aload_n 0, 1) := by decide +kernel
theorem dL_law_957 : decode cL_law 957 = .ok (.iload_n 3, 1) := by decide +kernel
theorem dL_law_958 : decode cL_law 958 = .ok (.iconst 1, 1) := by decide +kernel
theorem dL_law_959 : decode cL_law 959 = .ok (.iadd, 1) := by decide +kernel
theorem dL_law_960 : decode cL_law 960 = .ok (.iaload, 1) := by decide +kernel
theorem dL_law_961 : decode cL_law 961 = .ok (.aload_n 0, 1) := by decide +kernel
theorem dL_law_962 : decode cL_law 962 = .ok (.iload_n 3, 1) := by decide +kernel
theorem dL_law_963 : decode cL_law 963 = .ok (.iconst 2, 1) := by decide +kernel
theorem dL_law_964 : decode cL_law 964 = .ok (.iadd, 1) := by decide +kernel
theorem dL_law_965 : decode cL_law 965 = .ok (.iaload, 1) := by decide +kernel
theorem dL_law_966 : decode cL_law 966 = .ok (.aload_n 0, 1) := by decide +kernel
theorem dL_law_967 : decode cL_law 967 = .ok (.iload_n 3, 1) := by decide +kernel
theorem dL_law_968 : decode cL_law 968 = .ok (.iconst 3, 1) := by decide +kernel
theorem dL_law_969 : decode cL_law 969 = .ok (.iadd, 1) := by decide +kernel
theorem dL_law_970 : decode cL_law 970 = .ok (.iaload, 1) := by decide +kernel
theorem dL_law_971 : decode cL_law 971 = .ok (.aload_n 0, 1) := by decide +kernel
theorem dL_law_972 : decode cL_law 972 = .ok (.iload_n 3, 1) := by decide +kernel
theorem dL_law_973 : decode cL_law 973 = .ok (.iconst 4, 1) := by decide +kernel
theorem dL_law_974 : decode cL_law 974 = .ok (.iadd, 1) := by decide +kernel
theorem dL_law_975 : decode cL_law 975 = .ok (.iaload, 1) := by decide +kernel
theorem dL_law_976 : decode cL_law 976 = .ok (.invokevirtual 123, 3) := by decide +kernel
theorem dL_law_979 : decode cL_law 979 = .ok (.aload_n 2, 1) := by decide +kernel
theorem dL_law_980 : decode cL_law 980 = .ok (.aload_n 0, 1) := by decide +kernel
theorem dL_law_981 : decode cL_law 981 = .ok (.iload_n 3, 1) := by decide +kernel
theorem dL_law_982 : decode cL_law 982 = .ok (.iconst 1, 1) := by decide +kernel
theorem dL_law_983 : decode cL_law 983 = .ok (.iadd, 1) := by decide +kernel
theorem dL_law_984 : decode cL_law 984 = .ok (.iaload, 1) := by decide +kernel
theorem dL_law_985 : decode cL_law 985 = .ok (.aload_n 0, 1) := by decide +kernel
theorem dL_law_986 : decode cL_law 986 = .ok (.iload_n 3, 1) := by decide +kernel
theorem dL_law_987 : decode cL_law 987 = .ok (.iconst 2, 1) := by decide +kernel
theorem dL_law_988 : decode cL_law 988 = .ok (.iadd, 1) := by decide +kernel
theorem dL_law_989 : decode cL_law 989 = .ok (.iaload, 1) := by decide +kernel
theorem dL_law_990 : decode cL_law 990 = .ok (.aload_n 0, 1) := by decide +kernel
theorem dL_law_991 : decode cL_law 991 = .ok (.iload_n 3, 1) := by decide +kernel
theorem dL_law_992 : decode cL_law 992 = .ok (.iconst 3, 1) := by decide +kernel
theorem dL_law_993 : decode cL_law 993 = .ok (.iadd, 1) := by decide +kernel
theorem dL_law_994 : decode cL_law 994 = .ok (.iaload, 1) := by decide +kernel
theorem dL_law_995 : decode cL_law 995 = .ok (.aload_n 0, 1) := by decide +kernel
theorem dL_law_996 : decode cL_law 996 = .ok (.iload_n 3, 1) := by decide +kernel
theorem dL_law_997 : decode cL_law 997 = .ok (.iconst 4, 1) := by decide +kernel
theorem dL_law_998 : decode cL_law 998 = .ok (.iadd, 1) := by decide +kernel
theorem dL_law_999 : decode cL_law 999 = .ok (.iaload, 1) := by decide +kernel
theorem dL_law_1000 : decode cL_law 1000 = .ok (.invokevirtual 127, 3) := by decide +kernel
theorem dL_law_1003 : decode cL_law 1003 = .ok (.lcmp, 1) := by decide +kernel
theorem dL_law_1004 : decode cL_law 1004 = .ok (.ifCond .eq 266, 3) := by decide +kernel
theorem dL_law_1007 : decode cL_law 1007 = .ok (.iconst 0, 1) := by decide +kernel
theorem dL_law_1008 : decode cL_law 1008 = .ok (.ireturn, 1) := by decide +kernel
theorem dL_law_1009 : decode cL_law 1009 = .ok (.aload_n 1, 1) := by decide +kernel
theorem dL_law_1010 : decode cL_law 1010 = .ok (.invokevirtual 128, 3) := by decide +kernel
theorem dL_law_1013 : decode cL_law 1013 = .ok (.aload_n 2, 1) := by decide +kernel
theorem dL_law_1014 : decode cL_law 1014 = .ok (.invokevirtual 131, 3) := by decide +kernel
theorem dL_law_1017 : decode cL_law 1017 = .ok (.if_icmp .eq 253, 3) := by decide +kernel
theorem dL_law_1020 : decode cL_law 1020 = .ok (.iconst 0, 1) := by decide +kernel
theorem dL_law_1021 : decode cL_law 1021 = .ok (.ireturn, 1) := by decide +kernel
theorem dL_law_1022 : decode cL_law 1022 = .ok (.aload_n 1, 1) := by decide +kernel
theorem dL_law_1023 : decode cL_law 1023 = .ok (.invokevirtual 132, 3) := by decide +kernel
theorem dL_law_1026 : decode cL_law 1026 = .ok (.aload_n 2, 1) := by decide +kernel
theorem dL_law_1027 : decode cL_law 1027 = .ok (.invokevirtual 135, 3) := by decide +kernel
theorem dL_law_1030 : decode cL_law 1030 = .ok (.if_icmp .eq 240, 3) := by decide +kernel
theorem dL_law_1033 : decode cL_law 1033 = .ok (.iconst 0, 1) := by decide +kernel
theorem dL_law_1034 : decode cL_law 1034 = .ok (.ireturn, 1) := by decide +kernel
theorem dL_law_1035 : decode cL_law 1035 = .ok (.aload_n 1, 1) := by decide +kernel
theorem dL_law_1036 : decode cL_law 1036 = .ok (.aload_n 0, 1) := by decide +kernel
theorem dL_law_1037 : decode cL_law 1037 = .ok (.iload_n 3, 1) := by decide +kernel
theorem dL_law_1038 : decode cL_law 1038 = .ok (.iconst 1, 1) := by decide +kernel
theorem dL_law_1039 : decode cL_law 1039 = .ok (.iadd, 1) := by decide +kernel
theorem dL_law_1040 : decode cL_law 1040 = .ok (.iaload, 1) := by decide +kernel
theorem dL_law_1041 : decode cL_law 1041 = .ok (.aload_n 0, 1) := by decide +kernel
theorem dL_law_1042 : decode cL_law 1042 = .ok (.iload_n 3, 1) := by decide +kernel
theorem dL_law_1043 : decode cL_law 1043 = .ok (.iconst 2, 1) := by decide +kernel
theorem dL_law_1044 : decode cL_law 1044 = .ok (.iadd, 1) := by decide +kernel
theorem dL_law_1045 : decode cL_law 1045 = .ok (.iaload, 1) := by decide +kernel
theorem dL_law_1046 : decode cL_law 1046 = .ok (.aload_n 0, 1) := by decide +kernel
theorem dL_law_1047 : decode cL_law 1047 = .ok (.iload_n 3, 1) := by decide +kernel
theorem dL_law_1048 : decode cL_law 1048 = .ok (.iconst 3, 1) := by decide +kernel
theorem dL_law_1049 : decode cL_law 1049 = .ok (.iadd, 1) := by decide +kernel
theorem dL_law_1050 : decode cL_law 1050 = .ok (.iaload, 1) := by decide +kernel
theorem dL_law_1051 : decode cL_law 1051 = .ok (.invokevirtual 136, 3) := by decide +kernel
theorem dL_law_1054 : decode cL_law 1054 = .ok (.aload_n 2, 1) := by decide +kernel
theorem dL_law_1055 : decode cL_law 1055 = .ok (.aload_n 0, 1) := by decide +kernel
theorem dL_law_1056 : decode cL_law 1056 = .ok (.iload_n 3, 1) := by decide +kernel
theorem dL_law_1057 : decode cL_law 1057 = .ok (.iconst 1, 1) := by decide +kernel
theorem dL_law_1058 : decode cL_law 1058 = .ok (.iadd, 1) := by decide +kernel
theorem dL_law_1059 : decode cL_law 1059 = .ok (.iaload, 1) := by decide +kernel
theorem dL_law_1060 : decode cL_law 1060 = .ok (.aload_n 0, 1) := by decide +kernel
theorem dL_law_1061 : decode cL_law 1061 = .ok (.iload_n 3, 1) := by decide +kernel
theorem dL_law_1062 : decode cL_law 1062 = .ok (.iconst 2, 1) := by decide +kernel
theorem dL_law_1063 : decode cL_law 1063 = .ok (.iadd, 1) := by decide +kernel
theorem dL_law_1064 : decode cL_law 1064 = .ok (.iaload, 1) := by decide +kernel
theorem dL_law_1065 : decode cL_law 1065 = .ok (.aload_n 0, 1) := by decide +kernel
theorem dL_law_1066 : decode cL_law 1066 = .ok (.iload_n 3, 1) := by decide +kernel
theorem dL_law_1067 : decode cL_law 1067 = .ok (.iconst 3, 1) := by decide +kernel
theorem dL_law_1068 : decode cL_law 1068 = .ok (.iadd, 1) := by decide +kernel
theorem dL_law_1069 : decode cL_law 1069 = .ok (.iaload, 1) := by decide +kernel
theorem dL_law_1070 : decode cL_law 1070 = .ok (.invokevirtual 139, 3) := by decide +kernel
theorem dL_law_1073 : decode cL_law 1073 = .ok (.if_icmp .eq 197, 3) := by decide +kernel
theorem dL_law_1076 : decode cL_law 1076 = .ok (.iconst 0, 1) := by decide +kernel
theorem dL_law_1077 : decode cL_law 1077 = .ok (.ireturn, 1) := by decide +kernel
theorem dL_law_1078 : decode cL_law 1078 = .ok (.aload_n 1, 1) := by decide +kernel
theorem dL_law_1079 : decode cL_law 1079 = .ok (.aload_n 0, 1) := by decide +kernel
theorem dL_law_1080 : decode cL_law 1080 = .ok (.iload_n 3, 1) := by decide +kernel
theorem dL_law_1081 : decode cL_law 1081 = .ok (.iconst 1, 1) := by decide +kernel
theorem dL_law_1082 : decode cL_law 1082 = .ok (.iadd, 1) := by decide +kernel
theorem dL_law_1083 : decode cL_law 1083 = .ok (.iaload, 1) := by decide +kernel
theorem dL_law_1084 : decode cL_law 1084 = .ok (.aload_n 0, 1) := by decide +kernel
theorem dL_law_1085 : decode cL_law 1085 = .ok (.iload_n 3, 1) := by decide +kernel
theorem dL_law_1086 : decode cL_law 1086 = .ok (.iconst 2, 1) := by decide +kernel
theorem dL_law_1087 : decode cL_law 1087 = .ok (.iadd, 1) := by decide +kernel
theorem dL_law_1088 : decode cL_law 1088 = .ok (.iaload, 1) := by decide +kernel
theorem dL_law_1089 : decode cL_law 1089 = .ok (.aload_n 0, 1) := by decide +kernel
theorem dL_law_1090 : decode cL_law 1090 = .ok (.iload_n 3, 1) := by decide +kernel
theorem dL_law_1091 : decode cL_law 1091 = .ok (.iconst 3, 1) := by decide +kernel
theorem dL_law_1092 : decode cL_law 1092 = .ok (.iadd, 1) := by decide +kernel
theorem dL_law_1093 : decode cL_law 1093 = .ok (.iaload, 1) := by decide +kernel
theorem dL_law_1094 : decode cL_law 1094 = .ok (.invokevirtual 140, 3) := by decide +kernel
theorem dL_law_1097 : decode cL_law 1097 = .ok (.aload_n 2, 1) := by decide +kernel
theorem dL_law_1098 : decode cL_law 1098 = .ok (.aload_n 0, 1) := by decide +kernel
theorem dL_law_1099 : decode cL_law 1099 = .ok (.iload_n 3, 1) := by decide +kernel
theorem dL_law_1100 : decode cL_law 1100 = .ok (.iconst 1, 1) := by decide +kernel
theorem dL_law_1101 : decode cL_law 1101 = .ok (.iadd, 1) := by decide +kernel
theorem dL_law_1102 : decode cL_law 1102 = .ok (.iaload, 1) := by decide +kernel
theorem dL_law_1103 : decode cL_law 1103 = .ok (.aload_n 0, 1) := by decide +kernel
theorem dL_law_1104 : decode cL_law 1104 = .ok (.iload_n 3, 1) := by decide +kernel
theorem dL_law_1105 : decode cL_law 1105 = .ok (.iconst 2, 1) := by decide +kernel
theorem dL_law_1106 : decode cL_law 1106 = .ok (.iadd, 1) := by decide +kernel
theorem dL_law_1107 : decode cL_law 1107 = .ok (.iaload, 1) := by decide +kernel
theorem dL_law_1108 : decode cL_law 1108 = .ok (.aload_n 0, 1) := by decide +kernel
theorem dL_law_1109 : decode cL_law 1109 = .ok (.iload_n 3, 1) := by decide +kernel
theorem dL_law_1110 : decode cL_law 1110 = .ok (.iconst 3, 1) := by decide +kernel
theorem dL_law_1111 : decode cL_law 1111 = .ok (.iadd, 1) := by decide +kernel
theorem dL_law_1112 : decode cL_law 1112 = .ok (.iaload, 1) := by decide +kernel
theorem dL_law_1113 : decode cL_law 1113 = .ok (.invokevirtual 143, 3) := by decide +kernel
theorem dL_law_1116 : decode cL_law 1116 = .ok (.if_icmp .eq 154, 3) := by decide +kernel
theorem dL_law_1119 : decode cL_law 1119 = .ok (.iconst 0, 1) := by decide +kernel
theorem dL_law_1120 : decode cL_law 1120 = .ok (.ireturn, 1) := by decide +kernel
theorem dL_law_1121 : decode cL_law 1121 = .ok (.aload_n 1, 1) := by decide +kernel
theorem dL_law_1122 : decode cL_law 1122 = .ok (.aload_n 0, 1) := by decide +kernel
theorem dL_law_1123 : decode cL_law 1123 = .ok (.iload_n 3, 1) := by decide +kernel
theorem dL_law_1124 : decode cL_law 1124 = .ok (.iconst 1, 1) := by decide +kernel
theorem dL_law_1125 : decode cL_law 1125 = .ok (.iadd, 1) := by decide +kernel
theorem dL_law_1126 : decode cL_law 1126 = .ok (.iaload, 1) := by decide +kernel
theorem dL_law_1127 : decode cL_law 1127 = .ok (.aload_n 0, 1) := by decide +kernel
theorem dL_law_1128 : decode cL_law 1128 = .ok (.iload_n 3, 1) := by decide +kernel
theorem dL_law_1129 : decode cL_law 1129 = .ok (.iconst 2, 1) := by decide +kernel
theorem dL_law_1130 : decode cL_law 1130 = .ok (.iadd, 1) := by decide +kernel
theorem dL_law_1131 : decode cL_law 1131 = .ok (.iaload, 1) := by decide +kernel
theorem dL_law_1132 : decode cL_law 1132 = .ok (.aload_n 0, 1) := by decide +kernel
theorem dL_law_1133 : decode cL_law 1133 = .ok (.iload_n 3, 1) := by decide +kernel
theorem dL_law_1134 : decode cL_law 1134 = .ok (.iconst 3, 1) := by decide +kernel
theorem dL_law_1135 : decode cL_law 1135 = .ok (.iadd, 1) := by decide +kernel
theorem dL_law_1136 : decode cL_law 1136 = .ok (.iaload, 1) := by decide +kernel
theorem dL_law_1137 : decode cL_law 1137 = .ok (.aload_n 0, 1) := by decide +kernel
theorem dL_law_1138 : decode cL_law 1138 = .ok (.iload_n 3, 1) := by decide +kernel
theorem dL_law_1139 : decode cL_law 1139 = .ok (.iconst 4, 1) := by decide +kernel
theorem dL_law_1140 : decode cL_law 1140 = .ok (.iadd, 1) := by decide +kernel
theorem dL_law_1141 : decode cL_law 1141 = .ok (.iaload, 1) := by decide +kernel
theorem dL_law_1142 : decode cL_law 1142 = .ok (.aload_n 0, 1) := by decide +kernel
theorem dL_law_1143 : decode cL_law 1143 = .ok (.iload_n 3, 1) := by decide +kernel
theorem dL_law_1144 : decode cL_law 1144 = .ok (.iconst 5, 1) := by decide +kernel
theorem dL_law_1145 : decode cL_law 1145 = .ok (.iadd, 1) := by decide +kernel
theorem dL_law_1146 : decode cL_law 1146 = .ok (.iaload, 1) := by decide +kernel
theorem dL_law_1147 : decode cL_law 1147 = .ok (.invokevirtual 144, 3) := by decide +kernel
theorem dL_law_1150 : decode cL_law 1150 = .ok (.aload_n 2, 1) := by decide +kernel
theorem dL_law_1151 : decode cL_law 1151 = .ok (.aload_n 0, 1) := by decide +kernel
theorem dL_law_1152 : decode cL_law 1152 = .ok (.iload_n 3, 1) := by decide +kernel
theorem dL_law_1153 : decode cL_law 1153 = .ok (.iconst 1, 1) := by decide +kernel
theorem dL_law_1154 : decode cL_law 1154 = .ok (.iadd, 1) := by decide +kernel
theorem dL_law_1155 : decode cL_law 1155 = .ok (.iaload, 1) := by decide +kernel
theorem dL_law_1156 : decode cL_law 1156 = .ok (.aload_n 0, 1) := by decide +kernel
theorem dL_law_1157 : decode cL_law 1157 = .ok (.iload_n 3, 1) := by decide +kernel
theorem dL_law_1158 : decode cL_law 1158 = .ok (.iconst 2, 1) := by decide +kernel
theorem dL_law_1159 : decode cL_law 1159 = .ok (.iadd, 1) := by decide +kernel
theorem dL_law_1160 : decode cL_law 1160 = .ok (.iaload, 1) := by decide +kernel
theorem dL_law_1161 : decode cL_law 1161 = .ok (.aload_n 0, 1) := by decide +kernel
theorem dL_law_1162 : decode cL_law 1162 = .ok (.iload_n 3, 1) := by decide +kernel
theorem dL_law_1163 : decode cL_law 1163 = .ok (.iconst 3, 1) := by decide +kernel
theorem dL_law_1164 : decode cL_law 1164 = .ok (.iadd, 1) := by decide +kernel
theorem dL_law_1165 : decode cL_law 1165 = .ok (.iaload, 1) := by decide +kernel
theorem dL_law_1166 : decode cL_law 1166 = .ok (.aload_n 0, 1) := by decide +kernel
theorem dL_law_1167 : decode cL_law 1167 = .ok (.iload_n 3, 1) := by decide +kernel
theorem dL_law_1168 : decode cL_law 1168 = .ok (.iconst 4, 1) := by decide +kernel
theorem dL_law_1169 : decode cL_law 1169 = .ok (.iadd, 1) := by decide +kernel
theorem dL_law_1170 : decode cL_law 1170 = .ok (.iaload, 1) := by decide +kernel
theorem dL_law_1171 : decode cL_law 1171 = .ok (.aload_n 0, 1) := by decide +kernel
theorem dL_law_1172 : decode cL_law 1172 = .ok (.iload_n 3, 1) := by decide +kernel
theorem dL_law_1173 : decode cL_law 1173 = .ok (.iconst 5, 1) := by decide +kernel
theorem dL_law_1174 : decode cL_law 1174 = .ok (.iadd, 1) := by decide +kernel
theorem dL_law_1175 : decode cL_law 1175 = .ok (.iaload, 1) := by decide +kernel
theorem dL_law_1176 : decode cL_law 1176 = .ok (.invokevirtual 148, 3) := by decide +kernel
theorem dL_law_1179 : decode cL_law 1179 = .ok (.if_icmp .eq 91, 3) := by decide +kernel
theorem dL_law_1182 : decode cL_law 1182 = .ok (.iconst 0, 1) := by decide +kernel
theorem dL_law_1183 : decode cL_law 1183 = .ok (.ireturn, 1) := by decide +kernel
theorem dL_law_1184 : decode cL_law 1184 = .ok (.aload_n 1, 1) := by decide +kernel
theorem dL_law_1185 : decode cL_law 1185 = .ok (.aload_n 0, 1) := by decide +kernel
theorem dL_law_1186 : decode cL_law 1186 = .ok (.iload_n 3, 1) := by decide +kernel
theorem dL_law_1187 : decode cL_law 1187 = .ok (.iconst 1, 1) := by decide +kernel
theorem dL_law_1188 : decode cL_law 1188 = .ok (.iadd, 1) := by decide +kernel
theorem dL_law_1189 : decode cL_law 1189 = .ok (.iaload, 1) := by decide +kernel
theorem dL_law_1190 : decode cL_law 1190 = .ok (.aload_n 0, 1) := by decide +kernel
theorem dL_law_1191 : decode cL_law 1191 = .ok (.iload_n 3, 1) := by decide +kernel
theorem dL_law_1192 : decode cL_law 1192 = .ok (.iconst 2, 1) := by decide +kernel
theorem dL_law_1193 : decode cL_law 1193 = .ok (.iadd, 1) := by decide +kernel
theorem dL_law_1194 : decode cL_law 1194 = .ok (.iaload, 1) := by decide +kernel
theorem dL_law_1195 : decode cL_law 1195 = .ok (.aload_n 0, 1) := by decide +kernel
theorem dL_law_1196 : decode cL_law 1196 = .ok (.iload_n 3, 1) := by decide +kernel
theorem dL_law_1197 : decode cL_law 1197 = .ok (.iconst 3, 1) := by decide +kernel
theorem dL_law_1198 : decode cL_law 1198 = .ok (.iadd, 1) := by decide +kernel
theorem dL_law_1199 : decode cL_law 1199 = .ok (.iaload, 1) := by decide +kernel
theorem dL_law_1200 : decode cL_law 1200 = .ok (.aload_n 0, 1) := by decide +kernel
theorem dL_law_1201 : decode cL_law 1201 = .ok (.iload_n 3, 1) := by decide +kernel
theorem dL_law_1202 : decode cL_law 1202 = .ok (.iconst 4, 1) := by decide +kernel
theorem dL_law_1203 : decode cL_law 1203 = .ok (.iadd, 1) := by decide +kernel
theorem dL_law_1204 : decode cL_law 1204 = .ok (.iaload, 1) := by decide +kernel
theorem dL_law_1205 : decode cL_law 1205 = .ok (.invokevirtual 149, 3) := by decide +kernel
theorem dL_law_1208 : decode cL_law 1208 = .ok (.aload_n 2, 1) := by decide +kernel
theorem dL_law_1209 : decode cL_law 1209 = .ok (.aload_n 0, 1) := by decide +kernel
theorem dL_law_1210 : decode cL_law 1210 = .ok (.iload_n 3, 1) := by decide +kernel
theorem dL_law_1211 : decode cL_law 1211 = .ok (.iconst 1, 1) := by decide +kernel
theorem dL_law_1212 : decode cL_law 1212 = .ok (.iadd, 1) := by decide +kernel
theorem dL_law_1213 : decode cL_law 1213 = .ok (.iaload, 1) := by decide +kernel
theorem dL_law_1214 : decode cL_law 1214 = .ok (.aload_n 0, 1) := by decide +kernel
theorem dL_law_1215 : decode cL_law 1215 = .ok (.iload_n 3, 1) := by decide +kernel
theorem dL_law_1216 : decode cL_law 1216 = .ok (.iconst 2, 1) := by decide +kernel
theorem dL_law_1217 : decode cL_law 1217 = .ok (.iadd, 1) := by decide +kernel
theorem dL_law_1218 : decode cL_law 1218 = .ok (.iaload, 1) := by decide +kernel
theorem dL_law_1219 : decode cL_law 1219 = .ok (.aload_n 0, 1) := by decide +kernel
theorem dL_law_1220 : decode cL_law 1220 = .ok (.iload_n 3, 1) := by decide +kernel
theorem dL_law_1221 : decode cL_law 1221 = .ok (.iconst 3, 1) := by decide +kernel
theorem dL_law_1222 : decode cL_law 1222 = .ok (.iadd, 1) := by decide +kernel
theorem dL_law_1223 : decode cL_law 1223 = .ok (.iaload, 1) := by decide +kernel
theorem dL_law_1224 : decode cL_law 1224 = .ok (.aload_n 0, 1) := by decide +kernel
theorem dL_law_1225 : decode cL_law 1225 = .ok (.iload_n 3, 1) := by decide +kernel
theorem dL_law_1226 : decode cL_law 1226 = .ok (.iconst 4, 1) := by decide +kernel
theorem dL_law_1227 : decode cL_law 1227 = .ok (.iadd, 1) := by decide +kernel
theorem dL_law_1228 : decode cL_law 1228 = .ok (.iaload, 1) := by decide +kernel
theorem dL_law_1229 : decode cL_law 1229 = .ok (.invokevirtual 153, 3) := by decide +kernel
theorem dL_law_1232 : decode cL_law 1232 = .ok (.if_icmp .eq 38, 3) := by decide +kernel
theorem dL_law_1235 : decode cL_law 1235 = .ok (.iconst 0, 1) := by decide +kernel
theorem dL_law_1236 : decode cL_law 1236 = .ok (.ireturn, 1) := by decide +kernel
theorem dL_law_1237 : decode cL_law 1237 = .ok (.aload_n 1, 1) := by decide +kernel
theorem dL_law_1238 : decode cL_law 1238 = .ok (.aload_n 0, 1) := by decide +kernel
theorem dL_law_1239 : decode cL_law 1239 = .ok (.iload_n 3, 1) := by decide +kernel
theorem dL_law_1240 : decode cL_law 1240 = .ok (.iconst 1, 1) := by decide +kernel
theorem dL_law_1241 : decode cL_law 1241 = .ok (.iadd, 1) := by decide +kernel
theorem dL_law_1242 : decode cL_law 1242 = .ok (.iaload, 1) := by decide +kernel
theorem dL_law_1243 : decode cL_law 1243 = .ok (.aload_n 0, 1) := by decide +kernel
theorem dL_law_1244 : decode cL_law 1244 = .ok (.iload_n 3, 1) := by decide +kernel
theorem dL_law_1245 : decode cL_law 1245 = .ok (.iconst 2, 1) := by decide +kernel
theorem dL_law_1246 : decode cL_law 1246 = .ok (.iadd, 1) := by decide +kernel
theorem dL_law_1247 : decode cL_law 1247 = .ok (.iaload, 1) := by decide +kernel
theorem dL_law_1248 : decode cL_law 1248 = .ok (.invokevirtual 154, 3) := by decide +kernel
theorem dL_law_1251 : decode cL_law 1251 = .ok (.aload_n 2, 1) := by decide +kernel
theorem dL_law_1252 : decode cL_law 1252 = .ok (.aload_n 0, 1) := by decide +kernel
theorem dL_law_1253 : decode cL_law 1253 = .ok (.iload_n 3, 1) := by decide +kernel
theorem dL_law_1254 : decode cL_law 1254 = .ok (.iconst 1, 1) := by decide +kernel
theorem dL_law_1255 : decode cL_law 1255 = .ok (.iadd, 1) := by decide +kernel
theorem dL_law_1256 : decode cL_law 1256 = .ok (.iaload, 1) := by decide +kernel
theorem dL_law_1257 : decode cL_law 1257 = .ok (.aload_n 0, 1) := by decide +kernel
theorem dL_law_1258 : decode cL_law 1258 = .ok (.iload_n 3, 1) := by decide +kernel
theorem dL_law_1259 : decode cL_law 1259 = .ok (.iconst 2, 1) := by decide +kernel
theorem dL_law_1260 : decode cL_law 1260 = .ok (.iadd, 1) := by decide +kernel
theorem dL_law_1261 : decode cL_law 1261 = .ok (.iaload, 1) := by decide +kernel
theorem dL_law_1262 : decode cL_law 1262 = .ok (.invokevirtual 157, 3) := by decide +kernel
theorem dL_law_1265 : decode cL_law 1265 = .ok (.if_icmp .eq 5, 3) := by decide +kernel
theorem dL_law_1268 : decode cL_law 1268 = .ok (.iconst 0, 1) := by decide +kernel
theorem dL_law_1269 : decode cL_law 1269 = .ok (.ireturn, 1) := by decide +kernel
theorem dL_law_1270 : decode cL_law 1270 = .ok (.iinc 3 7, 3) := by decide +kernel
theorem dL_law_1273 : decode cL_law 1273 = .ok (.goto (-1255), 3) := by decide +kernel
theorem dL_law_1276 : decode cL_law 1276 = .ok (.iconst 1, 1) := by decide +kernel
theorem dL_law_1277 : decode cL_law 1277 = .ok (.ireturn, 1) := by decide +kernel
abbrev vwCl : List vw_C := [(RX0, TX0, 6), (RX1, TX1, 5), (RX2, TX2, 3), (RX3, TX3, 7), (RX4, TX4, 4), (RX5, TX5, 12), (RX6, TX6, 37)]
end
section
/-! the words of the tables that every method of this claim takes: those that keep -/
def gw : List Cond := lw_tbl.filter goodWord
theorem gw_good : GoodIn gw gw := fun w h => ⟨h, good_of_word (List.mem_filter.mp h).2⟩
theorem gw_tbl : ∀ w ∈ gw, w ∈ lw_tbl := fun w h => (List.mem_filter.mp h).1
/-! a world: cell i at the address r i, its numbers v i k -/
abbrev gV : Type := Nat → Nat → Int32
def up2 (v : gV) (i : Nat) (f : Nat → Int32) : gV := fun j => if j = i then f else v j
def up1 (v : gV) (i k : Nat) (x : Int32) : gV := up2 v i (upd (v i) k x)
abbrev gSh : Type := Nat → (Nat → Int32) → va_E
def cw (sh : gSh) (N : Nat) (r : Nat → Nat) (v : gV) : va_W := (List.range N).map (fun i => (r i, sh i (v i)))
theorem cw_get {sh : gSh} {N : Nat} {r : Nat → Nat} {v : gV} {i : Nat} (h : i < N) : (cw sh N r v)[i]? = some (r i, sh i (v i)) := by simp [cw, h]
theorem cw_len {sh : gSh} {N : Nat} {r : Nat → Nat} {v : gV} : (cw sh N r v).length = N := by simp [cw]
theorem cw_set {sh : gSh} {N : Nat} {r : Nat → Nat} {v : gV} {i : Nat} {f : Nat → Int32} (h : i < N) : (cw sh N r v).set i (r i, sh i f) = cw sh N r (up2 v i f) := by
  apply List.ext_getElem?
  intro j
  by_cases hj : j = i
  · subst hj
    rw [List.getElem?_set_self (by rw [cw_len]; exact h), cw_get h]
    simp [up2]
  · rw [List.getElem?_set_ne (Ne.symm hj)]
    by_cases hN : j < N
    · rw [cw_get hN, cw_get hN]
      simp [up2, hj]
    · simp [cw, hN]
def gA (N : Nat) (r : Nat → Nat) (sz : Nat) : Nat → Prop := fun q => (∃ i, i < N ∧ q = r i) ∨ sz ≤ q
theorem cw_D {sh : gSh} {N : Nat} {r : Nat → Nat} {v : gV} {A : Nat → Prop} {sz : Nat} (h : va_D A (cw sh N r v)) : va_D (gA N r sz) (cw sh N r v) := by
  refine ⟨h.1, fun k q hk => ?_⟩
  have hl : k < N := by
    have := (List.getElem?_eq_some_iff.mp hk).1
    rwa [cw_len] at this
  rw [cw_get hl] at hk
  cases hk
  exact Or.inl ⟨k, hl, rfl⟩
theorem cw_in {sh : gSh} {N : Nat} {r : Nat → Nat} {v : gV} {A : Nat → Prop} {sz : Nat} (h : va_D A (cw sh N r v)) (hz : ∀ q, sz ≤ q → A q) : ∀ q, gA N r sz q → A q := by
  rintro q (⟨i, hi, rfl⟩ | hq)
  · exact h.2 i _ (cw_get hi)
  · exact hz q hq
/-! what of the statics and of the strings stands outside the world -/
abbrev gZ : Type := (Nat → Prop) → State → Heap → Prop
def gZok (Z : gZ) : Prop := (∀ A u U H, u.vm.Alike U.vm → Z A u H → Z A U H) ∧ (∀ A U H H1, Z A U H → (∀ a : Nat, a < H.size → ¬ A a → H1[a]? = H[a]?) → Z A U H1) ∧ ∀ A B U H, Z A U H → (∀ q, B q → A q) → Z B U H
abbrev gT : Type := List (ClassId × FieldType)
def QW (D : va_G) (tys : gT) (sh : gSh) (N : Nat) (r : Nat → Nat) (A : Nat → Prop) (res : Option Value) (v' : gV) : Array Value → State → Outcome → State → Prop :=
  fun _ st oc t => oc = .returned res ∧ (va_P D vwCl (cw sh N r v') t.heap ∧ va_K D vwCl tys t ∧ va_D A (cw sh N r v')) ∧ va_F A st t
/-- a contract: from the world v, with these arguments, the method answers res and leaves the world v' -/
def Ct (l : Launch) (D : va_G) (tys : gT) (sh : gSh) (N : Nat) (r : Nat → Nat) (Z : gZ) (y : MethodName) (cc : ByteArray) (nL : Nat) (ret : Option FieldType) (rm : Room) (as : List Value) (v : gV) (res : Option Value) (v' : gV) : Prop :=
  ∀ sz : Nat, Met l y (.code y cc nL ret :: gw) rm (va_Pc as (fun U => U.heap.size = sz ∧ va_P D vwCl (cw sh N r v) U.heap ∧ va_K D vwCl tys U ∧ va_D (fun _ => True) (cw sh N r v) ∧ Z (gA N r sz) U U.heap)) (QW D tys sh N r (gA N r sz) res v') 0 0 (gA N r sz)
abbrev gG : Type := gV → List (Nat × Value) → Nat → List Value → Prop
/-- a method's body under way: G v ls pc st says that from there it comes to its end with res and v' -/
def CX (l : Launch) (D : va_G) (tys : gT) (sh : gSh) (N : Nat) (r : Nat → Nat) (Z : gZ) (own : String) (cc : ByteArray) (nL : Nat) (ret : Option FieldType) (rm : Room) (res : Option Value) (v' : gV) (G : gG) : Prop :=
  ∃ (p : Program) (e : Env) (s : State) (m : MethodId) (args : Array Value) (below : List Frame) (meth : Method) (c : Code) (A : Nat → Prop),
    (p.tables.exec = Jvm.exec ∧ c.code = cc ∧ c.maxLocals = nL ∧ s.vm.findClass own = some m.cls ∧ ∀ w ∈ gw, w.before args s = true) ∧ meth.sig.returnType = ret ∧ meth.locks = false ∧
    va_K D vwCl tys s ∧ Z A s s.heap ∧ gZok Z ∧ (∀ q, s.heap.size ≤ q → A q) ∧
    G = fun v ls pc st => ∀ (H : Heap) (locs : List Loc) (la : Array Slot), va_P D vwCl (cw sh N r v) H → va_D A (cw sh N r v) → va_S A s.heap H locs → lv_has la nL ls →
      W p l e rm s m args below meth c H locs 0 0 (MQ below (QW D tys sh N r A res v') args s 0 0 A) (F0 m pc la st)
theorem ct_of {l : Launch} {D : va_G} {tys : gT} {sh : gSh} {N : Nat} {r : Nat → Nat} {Z : gZ} {y : MethodName} {cc : ByteArray} {nL : Nat} {ret : Option FieldType} {rm : Room} {as : List Value} {v : gV} {res : Option Value} {v' : gV}
    (hy : plainName y.cls = true) (hZ : gZok Z) (hn : (lg_sl as).length ≤ nL) {ls : List (Nat × Value)} (hls : lv_args 0 as = ls)
    (body : ∀ G : gG, CX l D tys sh N r Z y.cls cc nL ret rm res v' G → G v ls 0 []) : Ct l D tys sh N r Z y cc nL ret rm as v res v' := by
  intro sz
  refine Met.ofW (cc := cc) (maxL := nL) (ret := ret) hy rfl ?_
  intro p e s m args below meth c s₁ B hml hv
  obtain ⟨rfl, hsz, hP, hK, hD0, hZ0⟩ := hv
  have hts := atoms_spec (ws := .code y cc nL ret :: gw) B.pre
  have hD := cw_D (sz := sz) hD0
  subst hsz
  subst hls
  have hl := lv_entry as (n := nL) hn
  rw [lg_entry_eq]
  exact body _ ⟨p, e, s, m, _, below, meth, c, gA N r s.heap.size, ⟨B.exec, B.bytes, hml, findClass_of_methodNamed B.named, fun w hw => hts w (List.mem_cons_of_mem _ hw)⟩, B.returns, B.notSynchronized, hK, hZ0, hZ, fun q h => Or.inr h, rfl⟩ s.heap [] _ hP hD va_S.rf hl
section GX
variable {l : Launch} {D : va_G} {tys : gT} {sh : gSh} {N : Nat} {r : Nat → Nat} {Z : gZ} {own : String} {cc : ByteArray} {nL : Nat} {ret : Option FieldType} {rm : Room} {res : Option Value} {v' : gV} {G : gG}
variable {v : gV} {ls : List (Nat × Value)} {pc : Nat} {st : List Value}
theorem g_sub (X : CX l D tys sh N r Z own cc nL ret rm res v' G) (ks : List Nat) {ls' : List (Nat × Value)} (hl : lv_pick ls ks = ls') (k : G v ls' pc st) : G v ls pc st := by
  obtain ⟨p, e, s, m, args, below, meth, c, A, ⟨hx, hb, hml, hown, hts⟩, hr, hlk, hK, hZ0, hZ, hA, rfl⟩ := X
  intro H locs la hP hD hS h
  exact k H locs la hP hD hS (lv_sub h ks hl)
theorem g_iconst (X : CX l D tys sh N r Z own cc nL ret rm res v' G) {n : Int} (x : Int32) (hd : decode cc pc = .ok (.iconst n, 1)) (hv : Int32.ofInt n = x) (k : G v ls (pc + 1) (.int x :: st)) : G v ls pc st := by
  obtain ⟨p, e, s, m, args, below, meth, c, A, ⟨hx, hb, hml, hown, hts⟩, hr, hlk, hK, hZ0, hZ, hA, rfl⟩ := X
  intro H locs la hP hD hS h
  exact lv_iconst hx hb hd hv (k H locs la hP hD hS h)
theorem g_bipush (X : CX l D tys sh N r Z own cc nL ret rm res v' G) {n : Int} (x : Int32) (hd : decode cc pc = .ok (.bipush n, 2)) (hv : (Int8.ofInt n).toInt32 = x) (k : G v ls (pc + 2) (.int x :: st)) : G v ls pc st := by
  obtain ⟨p, e, s, m, args, below, meth, c, A, ⟨hx, hb, hml, hown, hts⟩, hr, hlk, hK, hZ0, hZ, hA, rfl⟩ := X
  intro H locs la hP hD hS h
  exact lv_bipush hx hb hd hv (k H locs la hP hD hS h)
theorem g_sipush (X : CX l D tys sh N r Z own cc nL ret rm res v' G) {n : Int} (x : Int32) (hd : decode cc pc = .ok (.sipush n, 3)) (hv : (Int16.ofInt n).toInt32 = x) (k : G v ls (pc + 3) (.int x :: st)) : G v ls pc st := by
  obtain ⟨p, e, s, m, args, below, meth, c, A, ⟨hx, hb, hml, hown, hts⟩, hr, hlk, hK, hZ0, hZ, hA, rfl⟩ := X
  intro H locs la hP hD hS h
  exact lv_sipush hx hb hd hv (k H locs la hP hD hS h)
theorem g_ldc (X : CX l D tys sh N r Z own cc nL ret rm res v' G) {index : Nat} {x : Int32} (hc : Cond.constant own index x ∈ gw) (hd : decode cc pc = .ok (.ldc index, 2)) (k : G v ls (pc + 2) (.int x :: st)) : G v ls pc st := by
  obtain ⟨p, e, s, m, args, below, meth, c, A, ⟨hx, hb, hml, hown, hts⟩, hr, hlk, hK, hZ0, hZ, hA, rfl⟩ := X
  intro H locs la hP hD hS h
  exact lv_ldc hx hb hown (hts _ hc) hd (k H locs la hP hD hS h)
theorem g_ldc2 (X : CX l D tys sh N r Z own cc nL ret rm res v' G) {index : Nat} {x : Int64} (hc : Cond.constantLong own index x ∈ gw) (hd : decode cc pc = .ok (.ldc2_w index, 3)) (k : G v ls (pc + 3) (.long x :: st)) : G v ls pc st := by
  obtain ⟨p, e, s, m, args, below, meth, c, A, ⟨hx, hb, hml, hown, hts⟩, hr, hlk, hK, hZ0, hZ, hA, rfl⟩ := X
  intro H locs la hP hD hS h
  exact lv_ldc2 hx hb hown (hts _ hc) hd (k H locs la hP hD hS h)
theorem g_lconst (X : CX l D tys sh N r Z own cc nL ret rm res v' G) {n : Fin 2} (x : Int64) (hd : decode cc pc = .ok (.lconst n, 1)) (hv : Int64.ofNat (n : Nat) = x) (k : G v ls (pc + 1) (.long x :: st)) : G v ls pc st := by
  obtain ⟨p, e, s, m, args, below, meth, c, A, ⟨hx, hb, hml, hown, hts⟩, hr, hlk, hK, hZ0, hZ, hA, rfl⟩ := X
  intro H locs la hP hD hS h
  exact lv_lconst hx hb hd hv (k H locs la hP hD hS h)
theorem g_iload_n (X : CX l D tys sh N r Z own cc nL ret rm res v' G) {k : Fin 4} {i : Nat} {x : Int32} (hd : decode cc pc = .ok (.iload_n k, 1)) (hi : (k : Nat) = i) (q : Nat) (hq : ls[q]? = some (i, .int x)) (kk : G v ls (pc + 1) (.int x :: st)) : G v ls pc st := by
  obtain ⟨p, e, s, m, args, below, meth, c, A, ⟨hx, hb, hml, hown, hts⟩, hr, hlk, hK, hZ0, hZ, hA, rfl⟩ := X
  intro H locs la hP hD hS h
  exact lv_iload_n hx hb hd hi (lv_at h q hq) (kk H locs la hP hD hS h)
theorem g_iload (X : CX l D tys sh N r Z own cc nL ret rm res v' G) {i : Nat} {x : Int32} (hd : decode cc pc = .ok (.iload i, 2)) (q : Nat) (hq : ls[q]? = some (i, .int x)) (kk : G v ls (pc + 2) (.int x :: st)) : G v ls pc st := by
  obtain ⟨p, e, s, m, args, below, meth, c, A, ⟨hx, hb, hml, hown, hts⟩, hr, hlk, hK, hZ0, hZ, hA, rfl⟩ := X
  intro H locs la hP hD hS h
  exact lv_iload hx hb hd (lv_at h q hq) (kk H locs la hP hD hS h)
theorem g_lload_n (X : CX l D tys sh N r Z own cc nL ret rm res v' G) {k : Fin 4} {i : Nat} {x : Int64} (hd : decode cc pc = .ok (.lload_n k, 1)) (hi : (k : Nat) = i) (q : Nat) (hq : ls[q]? = some (i, .long x)) (kk : G v ls (pc + 1) (.long x :: st)) : G v ls pc st := by
  obtain ⟨p, e, s, m, args, below, meth, c, A, ⟨hx, hb, hml, hown, hts⟩, hr, hlk, hK, hZ0, hZ, hA, rfl⟩ := X
  intro H locs la hP hD hS h
  exact lv_lload_n hx hb hd hi (lv_at h q hq) (kk H locs la hP hD hS h)
theorem g_lload (X : CX l D tys sh N r Z own cc nL ret rm res v' G) {i : Nat} {x : Int64} (hd : decode cc pc = .ok (.lload i, 2)) (q : Nat) (hq : ls[q]? = some (i, .long x)) (kk : G v ls (pc + 2) (.long x :: st)) : G v ls pc st := by
  obtain ⟨p, e, s, m, args, below, meth, c, A, ⟨hx, hb, hml, hown, hts⟩, hr, hlk, hK, hZ0, hZ, hA, rfl⟩ := X
  intro H locs la hP hD hS h
  exact lv_lload hx hb hd (lv_at h q hq) (kk H locs la hP hD hS h)
theorem g_aload_nQ (X : CX l D tys sh N r Z own cc nL ret rm res v' G) {k : Fin 4} {i : Nat} {a : Option Nat} (hd : decode cc pc = .ok (.aload_n k, 1)) (hi : (k : Nat) = i) (q : Nat) (hq : ls[q]? = some (i, va_rf a)) (kk : G v ls (pc + 1) (va_rf a :: st)) : G v ls pc st := by
  obtain ⟨p, e, s, m, args, below, meth, c, A, ⟨hx, hb, hml, hown, hts⟩, hr, hlk, hK, hZ0, hZ, hA, rfl⟩ := X
  intro H locs la hP hD hS h
  cases a with
  | none => exact lv_aload_nN hx hb hd hi (lv_at h q hq) (kk H locs la hP hD hS h)
  | some a => exact lv_aload_n hx hb hd hi (lv_at h q hq) (kk H locs la hP hD hS h)
theorem g_aloadQ (X : CX l D tys sh N r Z own cc nL ret rm res v' G) {i : Nat} {a : Option Nat} (hd : decode cc pc = .ok (.aload i, 2)) (q : Nat) (hq : ls[q]? = some (i, va_rf a)) (kk : G v ls (pc + 2) (va_rf a :: st)) : G v ls pc st := by
  obtain ⟨p, e, s, m, args, below, meth, c, A, ⟨hx, hb, hml, hown, hts⟩, hr, hlk, hK, hZ0, hZ, hA, rfl⟩ := X
  intro H locs la hP hD hS h
  cases a with
  | none => exact lv_aloadN hx hb hd (lv_at h q hq) (kk H locs la hP hD hS h)
  | some a => exact lv_aload hx hb hd (lv_at h q hq) (kk H locs la hP hD hS h)
theorem g_istore_n (X : CX l D tys sh N r Z own cc nL ret rm res v' G) {k : Fin 4} {i : Nat} {x : Int32} (ls' : List (Nat × Value)) (hd : decode cc pc = .ok (.istore_n k, 1)) (hi : (k : Nat) = i) (hn : i < nL) (hl : (i, Value.int x) :: ls.filter (fun q => !(q.1 == i) && !(q.1 + 1 == i && q.2.category == 2)) = ls') (kk : G v ls' (pc + 1) st) : G v ls pc (.int x :: st) := by
  obtain ⟨p, e, s, m, args, below, meth, c, A, ⟨hx, hb, hml, hown, hts⟩, hr, hlk, hK, hZ0, hZ, hA, rfl⟩ := X
  intro H locs la hP hD hS h
  exact lv_istore_n hx hb hd hi h hn hl (fun la' h' => kk H locs la' hP hD hS h')
theorem g_istore (X : CX l D tys sh N r Z own cc nL ret rm res v' G) {i : Nat} {x : Int32} (ls' : List (Nat × Value)) (hd : decode cc pc = .ok (.istore i, 2)) (hn : i < nL) (hl : (i, Value.int x) :: ls.filter (fun q => !(q.1 == i) && !(q.1 + 1 == i && q.2.category == 2)) = ls') (kk : G v ls' (pc + 2) st) : G v ls pc (.int x :: st) := by
  obtain ⟨p, e, s, m, args, below, meth, c, A, ⟨hx, hb, hml, hown, hts⟩, hr, hlk, hK, hZ0, hZ, hA, rfl⟩ := X
  intro H locs la hP hD hS h
  exact lv_istore hx hb hd h hn hl (fun la' h' => kk H locs la' hP hD hS h')
theorem g_lstore_n (X : CX l D tys sh N r Z own cc nL ret rm res v' G) {k : Fin 4} {i : Nat} {x : Int64} (ls' : List (Nat × Value)) (hd : decode cc pc = .ok (.lstore_n k, 1)) (hi : (k : Nat) = i) (hn : i + 1 < nL) (hl : (i, Value.long x) :: ls.filter (fun q => !(q.1 == i) && (!(q.1 == i + 1) && !(q.1 + 1 == i && q.2.category == 2))) = ls') (kk : G v ls' (pc + 1) st) : G v ls pc (.long x :: st) := by
  obtain ⟨p, e, s, m, args, below, meth, c, A, ⟨hx, hb, hml, hown, hts⟩, hr, hlk, hK, hZ0, hZ, hA, rfl⟩ := X
  intro H locs la hP hD hS h
  exact lv_lstore_n hx hb hd hi h hn hl (fun la' h' => kk H locs la' hP hD hS h')
theorem g_lstore (X : CX l D tys sh N r Z own cc nL ret rm res v' G) {i : Nat} {x : Int64} (ls' : List (Nat × Value)) (hd : decode cc pc = .ok (.lstore i, 2)) (hn : i + 1 < nL) (hl : (i, Value.long x) :: ls.filter (fun q => !(q.1 == i) && (!(q.1 == i + 1) && !(q.1 + 1 == i && q.2.category == 2))) = ls') (kk : G v ls' (pc + 2) st) : G v ls pc (.long x :: st) := by
  obtain ⟨p, e, s, m, args, below, meth, c, A, ⟨hx, hb, hml, hown, hts⟩, hr, hlk, hK, hZ0, hZ, hA, rfl⟩ := X
  intro H locs la hP hD hS h
  exact lv_lstore hx hb hd h hn hl (fun la' h' => kk H locs la' hP hD hS h')
theorem g_astore_nQ (X : CX l D tys sh N r Z own cc nL ret rm res v' G) {k : Fin 4} {i : Nat} {a : Option Nat} (ls' : List (Nat × Value)) (hd : decode cc pc = .ok (.astore_n k, 1)) (hi : (k : Nat) = i) (hn : i < nL) (hl : (i, va_rf a) :: ls.filter (fun q => !(q.1 == i) && !(q.1 + 1 == i && q.2.category == 2)) = ls') (kk : G v ls' (pc + 1) st) : G v ls pc (va_rf a :: st) := by
  obtain ⟨p, e, s, m, args, below, meth, c, A, ⟨hx, hb, hml, hown, hts⟩, hr, hlk, hK, hZ0, hZ, hA, rfl⟩ := X
  intro H locs la hP hD hS h
  cases a with
  | none => exact lv_astore_nN hx hb hd hi h hn hl (fun la' h' => kk H locs la' hP hD hS h')
  | some a => exact lv_astore_n hx hb hd hi h hn hl (fun la' h' => kk H locs la' hP hD hS h')
theorem g_astoreQ (X : CX l D tys sh N r Z own cc nL ret rm res v' G) {i : Nat} {a : Option Nat} (ls' : List (Nat × Value)) (hd : decode cc pc = .ok (.astore i, 2)) (hn : i < nL) (hl : (i, va_rf a) :: ls.filter (fun q => !(q.1 == i) && !(q.1 + 1 == i && q.2.category == 2)) = ls') (kk : G v ls' (pc + 2) st) : G v ls pc (va_rf a :: st) := by
  obtain ⟨p, e, s, m, args, below, meth, c, A, ⟨hx, hb, hml, hown, hts⟩, hr, hlk, hK, hZ0, hZ, hA, rfl⟩ := X
  intro H locs la hP hD hS h
  cases a with
  | none => exact lv_astoreN hx hb hd h hn hl (fun la' h' => kk H locs la' hP hD hS h')
  | some a => exact lv_astore hx hb hd h hn hl (fun la' h' => kk H locs la' hP hD hS h')
theorem g_iinc (X : CX l D tys sh N r Z own cc nL ret rm res v' G) {i : Nat} {n : Int} {x : Int32} (y : Int32) (ls' : List (Nat × Value)) (hd : decode cc pc = .ok (.iinc i n, 3)) (q : Nat) (hq : ls[q]? = some (i, .int x)) (hy : x + Int32.ofInt n = y) (hn : i < nL) (hl : (i, Value.int y) :: ls.filter (fun q => !(q.1 == i) && !(q.1 + 1 == i && q.2.category == 2)) = ls') (kk : G v ls' (pc + 3) st) : G v ls pc st := by
  obtain ⟨p, e, s, m, args, below, meth, c, A, ⟨hx, hb, hml, hown, hts⟩, hr, hlk, hK, hZ0, hZ, hA, rfl⟩ := X
  intro H locs la hP hD hS h
  exact lv_iinc hx hb hd h hq hy hn hl (fun la' h' => kk H locs la' hP hD hS h')
theorem g_aload_n (X : CX l D tys sh N r Z own cc nL ret rm res v' G) {k : Fin 4} {i a : Nat} (hd : decode cc pc = .ok (.aload_n k, 1)) (hi : (k : Nat) = i) (q : Nat) (hq : ls[q]? = some (i, .ref a)) (k : G v ls (pc + 1) (.ref a :: st)) : G v ls pc (st) := by
  obtain ⟨p, e, s, m, args, below, meth, c, A, ⟨hx, hb, hml, hown, hts⟩, hr, hlk, hK, hZ0, hZ, hA, rfl⟩ := X
  intro H locs la hP hD hS h
  exact lv_aload_n hx hb hd hi (lv_at h q hq) (k H locs la hP hD hS h)
theorem g_aload (X : CX l D tys sh N r Z own cc nL ret rm res v' G) {i a : Nat} (hd : decode cc pc = .ok (.aload i, 2)) (q : Nat) (hq : ls[q]? = some (i, .ref a)) (k : G v ls (pc + 2) (.ref a :: st)) : G v ls pc (st) := by
  obtain ⟨p, e, s, m, args, below, meth, c, A, ⟨hx, hb, hml, hown, hts⟩, hr, hlk, hK, hZ0, hZ, hA, rfl⟩ := X
  intro H locs la hP hD hS h
  exact lv_aload hx hb hd (lv_at h q hq) (k H locs la hP hD hS h)
theorem g_astore_n (X : CX l D tys sh N r Z own cc nL ret rm res v' G) {k : Fin 4} {i a : Nat} (ls' : List (Nat × Value)) (hd : decode cc pc = .ok (.astore_n k, 1)) (hi : (k : Nat) = i) (hn : i < nL) (hl : (i, Value.ref a) :: ls.filter (fun q => !(q.1 == i) && !(q.1 + 1 == i && q.2.category == 2)) = ls') (k : G v ls' (pc + 1) st) : G v ls pc (.ref a :: st) := by
  obtain ⟨p, e, s, m, args, below, meth, c, A, ⟨hx, hb, hml, hown, hts⟩, hr, hlk, hK, hZ0, hZ, hA, rfl⟩ := X
  intro H locs la hP hD hS h
  exact lv_astore_n hx hb hd hi h hn hl (fun la' h' => k H locs la' hP hD hS h')
theorem g_astore (X : CX l D tys sh N r Z own cc nL ret rm res v' G) {i a : Nat} (ls' : List (Nat × Value)) (hd : decode cc pc = .ok (.astore i, 2)) (hn : i < nL) (hl : (i, Value.ref a) :: ls.filter (fun q => !(q.1 == i) && !(q.1 + 1 == i && q.2.category == 2)) = ls') (k : G v ls' (pc + 2) st) : G v ls pc (.ref a :: st) := by
  obtain ⟨p, e, s, m, args, below, meth, c, A, ⟨hx, hb, hml, hown, hts⟩, hr, hlk, hK, hZ0, hZ, hA, rfl⟩ := X
  intro H locs la hP hD hS h
  exact lv_astore hx hb hd h hn hl (fun la' h' => k H locs la' hP hD hS h')
end GX
end
section
section GX
variable {l : Launch} {D : va_G} {tys : gT} {sh : gSh} {N : Nat} {r : Nat → Nat} {Z : gZ} {own : String} {cc : ByteArray} {nL : Nat} {ret : Option FieldType} {rm : Room} {res : Option Value} {v' : gV} {G : gG}
variable {v : gV} {ls : List (Nat × Value)} {pc : Nat} {st : List Value}
theorem g_iadd (X : CX l D tys sh N r Z own cc nL ret rm res v' G) {x y : Int32} (hd : decode cc pc = .ok (.iadd, 1)) (k : G v ls (pc + 1) (.int (x + y) :: st)) : G v ls pc (.int y :: .int x :: st) := by
  obtain ⟨p, e, s, m, args, below, meth, c, A, ⟨hx, hb, hml, hown, hts⟩, hr, hlk, hK, hZ0, hZ, hA, rfl⟩ := X
  intro H locs la hP hD hS h
  exact lv_iadd hx hb hd (k H locs la hP hD hS h)
theorem g_isub (X : CX l D tys sh N r Z own cc nL ret rm res v' G) {x y : Int32} (hd : decode cc pc = .ok (.isub, 1)) (k : G v ls (pc + 1) (.int (x - y) :: st)) : G v ls pc (.int y :: .int x :: st) := by
  obtain ⟨p, e, s, m, args, below, meth, c, A, ⟨hx, hb, hml, hown, hts⟩, hr, hlk, hK, hZ0, hZ, hA, rfl⟩ := X
  intro H locs la hP hD hS h
  exact lv_isub hx hb hd (k H locs la hP hD hS h)
theorem g_imul (X : CX l D tys sh N r Z own cc nL ret rm res v' G) {x y : Int32} (hd : decode cc pc = .ok (.imul, 1)) (k : G v ls (pc + 1) (.int (x * y) :: st)) : G v ls pc (.int y :: .int x :: st) := by
  obtain ⟨p, e, s, m, args, below, meth, c, A, ⟨hx, hb, hml, hown, hts⟩, hr, hlk, hK, hZ0, hZ, hA, rfl⟩ := X
  intro H locs la hP hD hS h
  exact lv_imul hx hb hd (k H locs la hP hD hS h)
theorem g_iand (X : CX l D tys sh N r Z own cc nL ret rm res v' G) {x y : Int32} (hd : decode cc pc = .ok (.iand, 1)) (k : G v ls (pc + 1) (.int (x &&& y) :: st)) : G v ls pc (.int y :: .int x :: st) := by
  obtain ⟨p, e, s, m, args, below, meth, c, A, ⟨hx, hb, hml, hown, hts⟩, hr, hlk, hK, hZ0, hZ, hA, rfl⟩ := X
  intro H locs la hP hD hS h
  exact lv_iand hx hb hd (k H locs la hP hD hS h)
theorem g_ior (X : CX l D tys sh N r Z own cc nL ret rm res v' G) {x y : Int32} (hd : decode cc pc = .ok (.ior, 1)) (k : G v ls (pc + 1) (.int (x ||| y) :: st)) : G v ls pc (.int y :: .int x :: st) := by
  obtain ⟨p, e, s, m, args, below, meth, c, A, ⟨hx, hb, hml, hown, hts⟩, hr, hlk, hK, hZ0, hZ, hA, rfl⟩ := X
  intro H locs la hP hD hS h
  exact lv_ior hx hb hd (k H locs la hP hD hS h)
theorem g_ishl (X : CX l D tys sh N r Z own cc nL ret rm res v' G) {x y : Int32} (hd : decode cc pc = .ok (.ishl, 1)) (k : G v ls (pc + 1) (.int (x <<< (y &&& 31)) :: st)) : G v ls pc (.int y :: .int x :: st) := by
  obtain ⟨p, e, s, m, args, below, meth, c, A, ⟨hx, hb, hml, hown, hts⟩, hr, hlk, hK, hZ0, hZ, hA, rfl⟩ := X
  intro H locs la hP hD hS h
  exact lv_ishl hx hb hd (k H locs la hP hD hS h)
theorem g_ishr (X : CX l D tys sh N r Z own cc nL ret rm res v' G) {x y : Int32} (hd : decode cc pc = .ok (.ishr, 1)) (k : G v ls (pc + 1) (.int (x >>> (y &&& 31)) :: st)) : G v ls pc (.int y :: .int x :: st) := by
  obtain ⟨p, e, s, m, args, below, meth, c, A, ⟨hx, hb, hml, hown, hts⟩, hr, hlk, hK, hZ0, hZ, hA, rfl⟩ := X
  intro H locs la hP hD hS h
  exact lv_ishr hx hb hd (k H locs la hP hD hS h)
theorem g_ladd (X : CX l D tys sh N r Z own cc nL ret rm res v' G) {x y : Int64} (hd : decode cc pc = .ok (.ladd, 1)) (k : G v ls (pc + 1) (.long (x + y) :: st)) : G v ls pc (.long y :: .long x :: st) := by
  obtain ⟨p, e, s, m, args, below, meth, c, A, ⟨hx, hb, hml, hown, hts⟩, hr, hlk, hK, hZ0, hZ, hA, rfl⟩ := X
  intro H locs la hP hD hS h
  exact lv_ladd hx hb hd (k H locs la hP hD hS h)
theorem g_lmul (X : CX l D tys sh N r Z own cc nL ret rm res v' G) {x y : Int64} (hd : decode cc pc = .ok (.lmul, 1)) (k : G v ls (pc + 1) (.long (x * y) :: st)) : G v ls pc (.long y :: .long x :: st) := by
  obtain ⟨p, e, s, m, args, below, meth, c, A, ⟨hx, hb, hml, hown, hts⟩, hr, hlk, hK, hZ0, hZ, hA, rfl⟩ := X
  intro H locs la hP hD hS h
  exact lv_lmul hx hb hd (k H locs la hP hD hS h)
theorem g_lor (X : CX l D tys sh N r Z own cc nL ret rm res v' G) {x y : Int64} (hd : decode cc pc = .ok (.lor, 1)) (k : G v ls (pc + 1) (.long (x ||| y) :: st)) : G v ls pc (.long y :: .long x :: st) := by
  obtain ⟨p, e, s, m, args, below, meth, c, A, ⟨hx, hb, hml, hown, hts⟩, hr, hlk, hK, hZ0, hZ, hA, rfl⟩ := X
  intro H locs la hP hD hS h
  exact lv_lor hx hb hd (k H locs la hP hD hS h)
theorem g_idiv (X : CX l D tys sh N r Z own cc nL ret rm res v' G) {x y : Int32} (hd : decode cc pc = .ok (.idiv, 1)) (hne : ¬ y = 0) (k : G v ls (pc + 1) (.int (x / y) :: st)) : G v ls pc (.int y :: .int x :: st) := by
  obtain ⟨p, e, s, m, args, below, meth, c, A, ⟨hx, hb, hml, hown, hts⟩, hr, hlk, hK, hZ0, hZ, hA, rfl⟩ := X
  intro H locs la hP hD hS h
  exact lv_idiv hx hb hd hne (k H locs la hP hD hS h)
theorem g_irem (X : CX l D tys sh N r Z own cc nL ret rm res v' G) {x y : Int32} (hd : decode cc pc = .ok (.irem, 1)) (hne : ¬ y = 0) (k : G v ls (pc + 1) (.int (x - x / y * y) :: st)) : G v ls pc (.int y :: .int x :: st) := by
  obtain ⟨p, e, s, m, args, below, meth, c, A, ⟨hx, hb, hml, hown, hts⟩, hr, hlk, hK, hZ0, hZ, hA, rfl⟩ := X
  intro H locs la hP hD hS h
  exact lv_irem hx hb hd hne (k H locs la hP hD hS h)
theorem g_ldiv (X : CX l D tys sh N r Z own cc nL ret rm res v' G) {x y : Int64} (hd : decode cc pc = .ok (.ldiv, 1)) (hne : ¬ y = 0) (k : G v ls (pc + 1) (.long (x / y) :: st)) : G v ls pc (.long y :: .long x :: st) := by
  obtain ⟨p, e, s, m, args, below, meth, c, A, ⟨hx, hb, hml, hown, hts⟩, hr, hlk, hK, hZ0, hZ, hA, rfl⟩ := X
  intro H locs la hP hD hS h
  exact lv_ldiv hx hb hd hne (k H locs la hP hD hS h)
theorem g_lrem (X : CX l D tys sh N r Z own cc nL ret rm res v' G) {x y : Int64} (hd : decode cc pc = .ok (.lrem, 1)) (hne : ¬ y = 0) (k : G v ls (pc + 1) (.long (x - x / y * y) :: st)) : G v ls pc (.long y :: .long x :: st) := by
  obtain ⟨p, e, s, m, args, below, meth, c, A, ⟨hx, hb, hml, hown, hts⟩, hr, hlk, hK, hZ0, hZ, hA, rfl⟩ := X
  intro H locs la hP hD hS h
  exact lv_lrem hx hb hd hne (k H locs la hP hD hS h)
theorem g_ineg (X : CX l D tys sh N r Z own cc nL ret rm res v' G) {x : Int32} (hd : decode cc pc = .ok (.ineg, 1)) (k : G v ls (pc + 1) (.int (-x) :: st)) : G v ls pc (.int x :: st) := by
  obtain ⟨p, e, s, m, args, below, meth, c, A, ⟨hx, hb, hml, hown, hts⟩, hr, hlk, hK, hZ0, hZ, hA, rfl⟩ := X
  intro H locs la hP hD hS h
  exact lv_ineg hx hb hd (k H locs la hP hD hS h)
theorem g_i2l (X : CX l D tys sh N r Z own cc nL ret rm res v' G) {x : Int32} (hd : decode cc pc = .ok (.i2l, 1)) (k : G v ls (pc + 1) (.long x.toInt64 :: st)) : G v ls pc (.int x :: st) := by
  obtain ⟨p, e, s, m, args, below, meth, c, A, ⟨hx, hb, hml, hown, hts⟩, hr, hlk, hK, hZ0, hZ, hA, rfl⟩ := X
  intro H locs la hP hD hS h
  exact lv_i2l hx hb hd rfl (k H locs la hP hD hS h)
theorem g_i2b (X : CX l D tys sh N r Z own cc nL ret rm res v' G) {x : Int32} (hd : decode cc pc = .ok (.i2b, 1)) (k : G v ls (pc + 1) (.int x.toInt8.toInt32 :: st)) : G v ls pc (.int x :: st) := by
  obtain ⟨p, e, s, m, args, below, meth, c, A, ⟨hx, hb, hml, hown, hts⟩, hr, hlk, hK, hZ0, hZ, hA, rfl⟩ := X
  intro H locs la hP hD hS h
  exact lv_i2b hx hb hd rfl (k H locs la hP hD hS h)
theorem g_i2s (X : CX l D tys sh N r Z own cc nL ret rm res v' G) {x : Int32} (hd : decode cc pc = .ok (.i2s, 1)) (k : G v ls (pc + 1) (.int x.toInt16.toInt32 :: st)) : G v ls pc (.int x :: st) := by
  obtain ⟨p, e, s, m, args, below, meth, c, A, ⟨hx, hb, hml, hown, hts⟩, hr, hlk, hK, hZ0, hZ, hA, rfl⟩ := X
  intro H locs la hP hD hS h
  exact lv_i2s hx hb hd rfl (k H locs la hP hD hS h)
theorem g_lshl (X : CX l D tys sh N r Z own cc nL ret rm res v' G) {x : Int64} {y : Int32} (hd : decode cc pc = .ok (.lshl, 1)) (k : G v ls (pc + 1) (.long (x <<< (y.toInt64 &&& 63)) :: st)) : G v ls pc (.int y :: .long x :: st) := by
  obtain ⟨p, e, s, m, args, below, meth, c, A, ⟨hx, hb, hml, hown, hts⟩, hr, hlk, hK, hZ0, hZ, hA, rfl⟩ := X
  intro H locs la hP hD hS h
  exact lv_lshl hx hb hd rfl (k H locs la hP hD hS h)
theorem g_lcmp (X : CX l D tys sh N r Z own cc nL ret rm res v' G) {x y : Int64} (hd : decode cc pc = .ok (.lcmp, 1)) (k : G v ls (pc + 1) (.int (lg_cmp x y) :: st)) : G v ls pc (.long y :: .long x :: st) := by
  obtain ⟨p, e, s, m, args, below, meth, c, A, ⟨hx, hb, hml, hown, hts⟩, hr, hlk, hK, hZ0, hZ, hA, rfl⟩ := X
  intro H locs la hP hD hS h
  exact W.lcmp hx hb hd (k H locs la hP hD hS h)
theorem g_dup (X : CX l D tys sh N r Z own cc nL ret rm res v' G) {a : Value} (hd : decode cc pc = .ok (.dup, 1)) (ha : a.category = 1) (k : G v ls (pc + 1) (a :: a :: st)) : G v ls pc (a :: st) := by
  obtain ⟨p, e, s, m, args, below, meth, c, A, ⟨hx, hb, hml, hown, hts⟩, hr, hlk, hK, hZ0, hZ, hA, rfl⟩ := X
  intro H locs la hP hD hS h
  exact lv_dup hx hb hd ha (k H locs la hP hD hS h)
theorem g_pop (X : CX l D tys sh N r Z own cc nL ret rm res v' G) {a : Value} (hd : decode cc pc = .ok (.pop, 1)) (ha : a.category = 1) (k : G v ls (pc + 1) st) : G v ls pc (a :: st) := by
  obtain ⟨p, e, s, m, args, below, meth, c, A, ⟨hx, hb, hml, hown, hts⟩, hr, hlk, hK, hZ0, hZ, hA, rfl⟩ := X
  intro H locs la hP hD hS h
  exact lv_pop hx hb hd ha (k H locs la hP hD hS h)
theorem g_dup2 (X : CX l D tys sh N r Z own cc nL ret rm res v' G) {a b : Value} (hd : decode cc pc = .ok (.dup2, 1)) (ha : a.category = 1) (hb2 : b.category = 1) (k : G v ls (pc + 1) (a :: b :: a :: b :: st)) : G v ls pc (a :: b :: st) := by
  obtain ⟨p, e, s, m, args, below, meth, c, A, ⟨hx, hb, hml, hown, hts⟩, hr, hlk, hK, hZ0, hZ, hA, rfl⟩ := X
  intro H locs la hP hD hS h
  exact lv_dup2_11 hx hb hd ha hb2 (k H locs la hP hD hS h)
theorem g_goto (X : CX l D tys sh N r Z own cc nL ret rm res v' G) {off : Int} (tgt : Nat) (hd : decode cc pc = .ok (.goto off, 3)) (ht : (pc : Int) + off = (tgt : Int)) (k : G v ls tgt st) : G v ls pc (st) := by
  obtain ⟨p, e, s, m, args, below, meth, c, A, ⟨hx, hb, hml, hown, hts⟩, hr, hlk, hK, hZ0, hZ, hA, rfl⟩ := X
  intro H locs la hP hD hS h
  exact lv_goto hx hb hd ht (k H locs la hP hD hS h)
theorem g_icmp_eq (X : CX l D tys sh N r Z own cc nL ret rm res v' G) {x y : Int32} {off : Int} (tgt : Nat) (hd : decode cc pc = .ok (.if_icmp .eq off, 3)) (ht : (pc : Int) + off = (tgt : Int)) (kt : x = y → G v ls tgt st) (kf : ¬ x = y → G v ls (pc + 3) st) : G v ls pc (.int y :: .int x :: st) := by
  obtain ⟨p, e, s, m, args, below, meth, c, A, ⟨hx, hb, hml, hown, hts⟩, hr, hlk, hK, hZ0, hZ, hA, rfl⟩ := X
  intro H locs la hP hD hS h
  exact lv_icmp_eq hx hb hd ht (fun q => kt q H locs la hP hD hS h) (fun q => kf q H locs la hP hD hS h)
theorem g_if_eq (X : CX l D tys sh N r Z own cc nL ret rm res v' G) {x : Int32} {off : Int} (tgt : Nat) (hd : decode cc pc = .ok (.ifCond .eq off, 3)) (ht : (pc : Int) + off = (tgt : Int)) (kt : x = 0 → G v ls tgt st) (kf : ¬ x = 0 → G v ls (pc + 3) st) : G v ls pc (.int x :: st) := by
  obtain ⟨p, e, s, m, args, below, meth, c, A, ⟨hx, hb, hml, hown, hts⟩, hr, hlk, hK, hZ0, hZ, hA, rfl⟩ := X
  intro H locs la hP hD hS h
  exact lv_if_eq hx hb hd ht (fun q => kt q H locs la hP hD hS h) (fun q => kf q H locs la hP hD hS h)
theorem g_icmp_ne (X : CX l D tys sh N r Z own cc nL ret rm res v' G) {x y : Int32} {off : Int} (tgt : Nat) (hd : decode cc pc = .ok (.if_icmp .ne off, 3)) (ht : (pc : Int) + off = (tgt : Int)) (kt : ¬ x = y → G v ls tgt st) (kf : x = y → G v ls (pc + 3) st) : G v ls pc (.int y :: .int x :: st) := by
  obtain ⟨p, e, s, m, args, below, meth, c, A, ⟨hx, hb, hml, hown, hts⟩, hr, hlk, hK, hZ0, hZ, hA, rfl⟩ := X
  intro H locs la hP hD hS h
  exact lv_icmp_ne hx hb hd ht (fun q => kt q H locs la hP hD hS h) (fun q => kf q H locs la hP hD hS h)
theorem g_if_ne (X : CX l D tys sh N r Z own cc nL ret rm res v' G) {x : Int32} {off : Int} (tgt : Nat) (hd : decode cc pc = .ok (.ifCond .ne off, 3)) (ht : (pc : Int) + off = (tgt : Int)) (kt : ¬ x = 0 → G v ls tgt st) (kf : x = 0 → G v ls (pc + 3) st) : G v ls pc (.int x :: st) := by
  obtain ⟨p, e, s, m, args, below, meth, c, A, ⟨hx, hb, hml, hown, hts⟩, hr, hlk, hK, hZ0, hZ, hA, rfl⟩ := X
  intro H locs la hP hD hS h
  exact lv_if_ne hx hb hd ht (fun q => kt q H locs la hP hD hS h) (fun q => kf q H locs la hP hD hS h)
theorem g_icmp_lt (X : CX l D tys sh N r Z own cc nL ret rm res v' G) {x y : Int32} {off : Int} (tgt : Nat) (hd : decode cc pc = .ok (.if_icmp .lt off, 3)) (ht : (pc : Int) + off = (tgt : Int)) (kt : x < y → G v ls tgt st) (kf : ¬ x < y → G v ls (pc + 3) st) : G v ls pc (.int y :: .int x :: st) := by
  obtain ⟨p, e, s, m, args, below, meth, c, A, ⟨hx, hb, hml, hown, hts⟩, hr, hlk, hK, hZ0, hZ, hA, rfl⟩ := X
  intro H locs la hP hD hS h
  exact lv_icmp_lt hx hb hd ht (fun q => kt q H locs la hP hD hS h) (fun q => kf q H locs la hP hD hS h)
theorem g_if_lt (X : CX l D tys sh N r Z own cc nL ret rm res v' G) {x : Int32} {off : Int} (tgt : Nat) (hd : decode cc pc = .ok (.ifCond .lt off, 3)) (ht : (pc : Int) + off = (tgt : Int)) (kt : x < 0 → G v ls tgt st) (kf : ¬ x < 0 → G v ls (pc + 3) st) : G v ls pc (.int x :: st) := by
  obtain ⟨p, e, s, m, args, below, meth, c, A, ⟨hx, hb, hml, hown, hts⟩, hr, hlk, hK, hZ0, hZ, hA, rfl⟩ := X
  intro H locs la hP hD hS h
  exact lv_if_lt hx hb hd ht (fun q => kt q H locs la hP hD hS h) (fun q => kf q H locs la hP hD hS h)
theorem g_icmp_ge (X : CX l D tys sh N r Z own cc nL ret rm res v' G) {x y : Int32} {off : Int} (tgt : Nat) (hd : decode cc pc = .ok (.if_icmp .ge off, 3)) (ht : (pc : Int) + off = (tgt : Int)) (kt : y ≤ x → G v ls tgt st) (kf : ¬ y ≤ x → G v ls (pc + 3) st) : G v ls pc (.int y :: .int x :: st) := by
  obtain ⟨p, e, s, m, args, below, meth, c, A, ⟨hx, hb, hml, hown, hts⟩, hr, hlk, hK, hZ0, hZ, hA, rfl⟩ := X
  intro H locs la hP hD hS h
  exact lv_icmp_ge hx hb hd ht (fun q => kt q H locs la hP hD hS h) (fun q => kf q H locs la hP hD hS h)
theorem g_if_ge (X : CX l D tys sh N r Z own cc nL ret rm res v' G) {x : Int32} {off : Int} (tgt : Nat) (hd : decode cc pc = .ok (.ifCond .ge off, 3)) (ht : (pc : Int) + off = (tgt : Int)) (kt : 0 ≤ x → G v ls tgt st) (kf : ¬ 0 ≤ x → G v ls (pc + 3) st) : G v ls pc (.int x :: st) := by
  obtain ⟨p, e, s, m, args, below, meth, c, A, ⟨hx, hb, hml, hown, hts⟩, hr, hlk, hK, hZ0, hZ, hA, rfl⟩ := X
  intro H locs la hP hD hS h
  exact lv_if_ge hx hb hd ht (fun q => kt q H locs la hP hD hS h) (fun q => kf q H locs la hP hD hS h)
theorem g_icmp_gt (X : CX l D tys sh N r Z own cc nL ret rm res v' G) {x y : Int32} {off : Int} (tgt : Nat) (hd : decode cc pc = .ok (.if_icmp .gt off, 3)) (ht : (pc : Int) + off = (tgt : Int)) (kt : y < x → G v ls tgt st) (kf : ¬ y < x → G v ls (pc + 3) st) : G v ls pc (.int y :: .int x :: st) := by
  obtain ⟨p, e, s, m, args, below, meth, c, A, ⟨hx, hb, hml, hown, hts⟩, hr, hlk, hK, hZ0, hZ, hA, rfl⟩ := X
  intro H locs la hP hD hS h
  exact lv_icmp_gt hx hb hd ht (fun q => kt q H locs la hP hD hS h) (fun q => kf q H locs la hP hD hS h)
theorem g_if_gt (X : CX l D tys sh N r Z own cc nL ret rm res v' G) {x : Int32} {off : Int} (tgt : Nat) (hd : decode cc pc = .ok (.ifCond .gt off, 3)) (ht : (pc : Int) + off = (tgt : Int)) (kt : 0 < x → G v ls tgt st) (kf : ¬ 0 < x → G v ls (pc + 3) st) : G v ls pc (.int x :: st) := by
  obtain ⟨p, e, s, m, args, below, meth, c, A, ⟨hx, hb, hml, hown, hts⟩, hr, hlk, hK, hZ0, hZ, hA, rfl⟩ := X
  intro H locs la hP hD hS h
  exact lv_if_gt hx hb hd ht (fun q => kt q H locs la hP hD hS h) (fun q => kf q H locs la hP hD hS h)
theorem g_icmp_le (X : CX l D tys sh N r Z own cc nL ret rm res v' G) {x y : Int32} {off : Int} (tgt : Nat) (hd : decode cc pc = .ok (.if_icmp .le off, 3)) (ht : (pc : Int) + off = (tgt : Int)) (kt : x ≤ y → G v ls tgt st) (kf : ¬ x ≤ y → G v ls (pc + 3) st) : G v ls pc (.int y :: .int x :: st) := by
  obtain ⟨p, e, s, m, args, below, meth, c, A, ⟨hx, hb, hml, hown, hts⟩, hr, hlk, hK, hZ0, hZ, hA, rfl⟩ := X
  intro H locs la hP hD hS h
  exact lv_icmp_le hx hb hd ht (fun q => kt q H locs la hP hD hS h) (fun q => kf q H locs la hP hD hS h)
theorem g_if_le (X : CX l D tys sh N r Z own cc nL ret rm res v' G) {x : Int32} {off : Int} (tgt : Nat) (hd : decode cc pc = .ok (.ifCond .le off, 3)) (ht : (pc : Int) + off = (tgt : Int)) (kt : x ≤ 0 → G v ls tgt st) (kf : ¬ x ≤ 0 → G v ls (pc + 3) st) : G v ls pc (.int x :: st) := by
  obtain ⟨p, e, s, m, args, below, meth, c, A, ⟨hx, hb, hml, hown, hts⟩, hr, hlk, hK, hZ0, hZ, hA, rfl⟩ := X
  intro H locs la hP hD hS h
  exact lv_if_le hx hb hd ht (fun q => kt q H locs la hP hD hS h) (fun q => kf q H locs la hP hD hS h)
theorem g_tableIn (X : CX l D tys sh N r Z own cc nL ret rm res v' G) {dflt lo hi : Int} {offs : Array Int} {len : Nat} {x : Int32} {off : Int} (tgt : Nat) (hd : decode cc pc = .ok (.tableswitch dflt lo hi offs, len)) (h1 : ¬ x.toInt < lo) (h2 : ¬ hi < x.toInt) (ho : offs[(x.toInt - lo).toNat]? = some off) (ht : (pc : Int) + off = (tgt : Int)) (k : G v ls tgt st) : G v ls pc (.int x :: st) := by
  obtain ⟨p, e, s, m, args, below, meth, c, A, ⟨hx, hb, hml, hown, hts⟩, hr, hlk, hK, hZ0, hZ, hA, rfl⟩ := X
  intro H locs la hP hD hS h
  exact lv_tableIn hx hb hd h1 h2 ho ht (k H locs la hP hD hS h)
theorem g_tableOut (X : CX l D tys sh N r Z own cc nL ret rm res v' G) {dflt lo hi : Int} {offs : Array Int} {len : Nat} {x : Int32} (tgt : Nat) (hd : decode cc pc = .ok (.tableswitch dflt lo hi offs, len)) (h1 : x.toInt < lo ∨ hi < x.toInt) (ht : (pc : Int) + dflt = (tgt : Int)) (k : G v ls tgt st) : G v ls pc (.int x :: st) := by
  obtain ⟨p, e, s, m, args, below, meth, c, A, ⟨hx, hb, hml, hown, hts⟩, hr, hlk, hK, hZ0, hZ, hA, rfl⟩ := X
  intro H locs la hP hD hS h
  exact lv_tableOut hx hb hd h1 ht (k H locs la hP hD hS h)
theorem g_lookup (X : CX l D tys sh N r Z own cc nL ret rm res v' G) {dflt : Int} {ps : Array (Int × Int)} {len : Nat} {x : Int32} {off : Int} (tgt : Nat) (hd : decode cc pc = .ok (.lookupswitch dflt ps, len)) (hp : (ps.toList.zip (ps.toList.drop 1)).all (fun (a, next) => a.1 < next.1) = true) (ho : Op.lookupswitch.offset ps.toList dflt x.toInt = off) (ht : (pc : Int) + off = (tgt : Int)) (k : G v ls tgt st) : G v ls pc (.int x :: st) := by
  obtain ⟨p, e, s, m, args, below, meth, c, A, ⟨hx, hb, hml, hown, hts⟩, hr, hlk, hK, hZ0, hZ, hA, rfl⟩ := X
  intro H locs la hP hD hS h
  exact lv_lookup hx hb hd hp ho ht (k H locs la hP hD hS h)
theorem g_ifnullQ (X : CX l D tys sh N r Z own cc nL ret rm res v' G) {a : Option Nat} {off : Int} (tgt : Nat) (hd : decode cc pc = .ok (.ifnull off, 3)) (ht : (pc : Int) + off = (tgt : Int)) (kn : a = none → G v ls tgt st) (ks : ∀ b, a = some b → G v ls (pc + 3) st) : G v ls pc (va_rf a :: st) := by
  obtain ⟨p, e, s, m, args, below, meth, c, A, ⟨hx, hb, hml, hown, hts⟩, hr, hlk, hK, hZ0, hZ, hA, rfl⟩ := X
  intro H locs la hP hD hS h
  exact (by
    cases a with
    | none => exact lv_ifnullN hx hb hd ht (kn rfl H locs la hP hD hS h)
    | some b => exact lv_ifnull hx hb hd (ks b rfl H locs la hP hD hS h))
theorem g_ifnonnullQ (X : CX l D tys sh N r Z own cc nL ret rm res v' G) {a : Option Nat} {off : Int} (tgt : Nat) (hd : decode cc pc = .ok (.ifnonnull off, 3)) (ht : (pc : Int) + off = (tgt : Int)) (kn : a = none → G v ls (pc + 3) st) (ks : ∀ b, a = some b → G v ls tgt st) : G v ls pc (va_rf a :: st) := by
  obtain ⟨p, e, s, m, args, below, meth, c, A, ⟨hx, hb, hml, hown, hts⟩, hr, hlk, hK, hZ0, hZ, hA, rfl⟩ := X
  intro H locs la hP hD hS h
  exact (by
    cases a with
    | none => exact lv_ifnonnullN hx hb hd (kn rfl H locs la hP hD hS h)
    | some b => exact lv_ifnonnull hx hb hd ht (ks b rfl H locs la hP hD hS h))
theorem g_null (X : CX l D tys sh N r Z own cc nL ret rm res v' G) (hd : decode cc pc = .ok (.aconst_null, 1)) (k : G v ls (pc + 1) (va_rf none :: st)) : G v ls pc (st) := by
  obtain ⟨p, e, s, m, args, below, meth, c, A, ⟨hx, hb, hml, hown, hts⟩, hr, hlk, hK, hZ0, hZ, hA, rfl⟩ := X
  intro H locs la hP hD hS h
  exact lv_null hx hb hd (k H locs la hP hD hS h)
end GX
end
section
/-! what the tables say of a field: class ci's slot k, by the pool's place index of own's file -/
def gFld (own : String) (index ci k : Nat) : Prop := ∃ (C : String) (T : u_T) (n : Nat), vwCl[ci]? = some (C, T, n) ∧ (∀ w ∈ u_ws C T n, w ∈ gw) ∧ k < n ∧
  (Cond.fieldLink own index (T k).1 (T k).2.1 (T k).2.2.1 ∈ gw ∨ ∃ host, Cond.fieldLinkNest own index (T k).1 (T k).2.1 (T k).2.2.1 host ∈ gw)
def gFldP (own : String) (index ci k : Nat) (ty : FieldType) : Prop := ∃ (C : String) (T : u_T) (n : Nat) (ty0 : Nat → FieldType), vwCl[ci]? = some (C, T, n) ∧ (∀ w ∈ u_ws C T n, w ∈ gw) ∧ k < n ∧
  (∀ k, k < n → parseFieldDescriptor (T k).2.2.1 = some (ty0 k)) ∧ (∀ a, a < n → ∀ b, b < n → a ≠ b → (T a).2.1 ≠ (T b).2.1) ∧ (T k).2.2.2 = false ∧ ty0 k = ty ∧
  (Cond.fieldLink own index (T k).1 (T k).2.1 (T k).2.2.1 ∈ gw ∨ ∃ host, Cond.fieldLinkNest own index (T k).1 (T k).2.1 (T k).2.2.1 host ∈ gw)
/-- a callee: its words -/
def gCal (y : MethodName) (cc : ByteArray) (nL : Nat) (ret : Option FieldType) (n : Nat) : Prop :=
  Cond.initialized y.cls ∈ gw ∧ Cond.code y cc nL ret ∈ gw ∧ y.cls ≠ "java/lang/invoke/MethodHandle" ∧ y.cls ≠ "java/lang/invoke/VarHandle" ∧ (parseMethodDescriptor y.desc).map (fun d => d.parameters.length) = some n
def gVir (y : MethodName) : Prop := Cond.instanceMethod y ∈ gw ∧ Cond.selects y.cls y y ∈ gw
def gLnk (own : String) (index : Nat) (y : MethodName) : Prop := Cond.methodLink own index y ∈ gw ∨ ∃ host, Cond.methodLinkNest own index y host ∈ gw
/-- the room of a callee that makes nothing, within a caller's -/
def gRm (rm rmY : Room) (nL : Nat) : Prop := rmY.cells = 0 ∧ rmY.slots = 0 ∧ rmY.frames + 1 ≤ rm.frames ∧ 8 + (nL + 11) + rmY.locals ≤ rm.locals
section GY
variable {l : Launch} {D : va_G} {tys : gT} {sh : gSh} {N : Nat} {r : Nat → Nat} {Z : gZ} {own : String} {cc : ByteArray} {nL : Nat} {ret : Option FieldType} {rm : Room} {res : Option Value} {v' : gV} {G : gG}
variable {v : gV} {ls : List (Nat × Value)} {pc : Nat} {st : List Value}
theorem g_get (X : CX l D tys sh N r Z own cc nL ret rm res v' G) {index i ci k : Nat} {fs : List Value} {a : Value} (hf : gFld own index ci k) (hi : i < N) (hs : sh i (v i) = .inr (ci, fs)) (ha : fs[k]? = some a) (hd : decode cc pc = .ok (.getfield index, 3)) (kk : G v ls (pc + 3) (a :: st)) : G v ls pc (.ref (r i) :: st) := by
  obtain ⟨p, e, s, m, args, below, meth, c, A, ⟨hx, hb, hml, hown, hts⟩, hr, hlk, hK, hZ0, hZ, hA, rfl⟩ := X
  obtain ⟨C, T, n, hc, hin, hk, hl⟩ := hf
  intro H locs la hP hD hS h
  have he : (cw sh N r v)[i]? = some (r i, .inr (ci, fs)) := by rw [cw_get hi, hs]
  rcases hl with hl | ⟨host, hl⟩
  · exact va_get hx hb hts hin hown hK hP i he hc k hk (hts _ hl) (fun _ q => q) ha hd (kk H locs la hP hD hS h)
  · exact va_getN hx hb hts hin hown hK hP i he hc k hk (hts _ hl) (fun _ q => q) ha hd (kk H locs la hP hD hS h)
theorem g_putV (X : CX l D tys sh N r Z own cc nL ret rm res v' G) {index i ci k : Nat} {fs fs' : List Value} {a : Value} {ty : FieldType} {f' : Nat → Int32} (hf : gFldP own index ci k ty) (hi : i < N) (hs : sh i (v i) = .inr (ci, fs)) (hs' : sh i f' = .inr (ci, fs')) (hset : fs.set k a = fs') (hk2 : k < fs.length) (hn : narrow ty a = a) (hfit : fits ty a = true) (hd : decode cc pc = .ok (.putfield index, 3)) (kk : G (up2 v i f') ls (pc + 3) st) : G v ls pc (a :: .ref (r i) :: st) := by
  obtain ⟨p, e, s, m, args, below, meth, c, A, ⟨hx, hb, hml, hown, hts⟩, hr, hlk, hK, hZ0, hZ, hA, rfl⟩ := X
  obtain ⟨C, T, n, ty0, hc, hin, hk, hty, hnm, hfin, het, hl⟩ := hf
  intro H locs la hP hD hS h
  subst hset
  have he : (cw sh N r v)[i]? = some (r i, .inr (ci, fs)) := by rw [cw_get hi, hs]
  have hset : (cw sh N r v).set i (r i, .inr (ci, fs.set k a)) = cw sh N r (up2 v i f') := by rw [← hs', cw_set hi]
  have hpd : parseFieldDescriptor (T k).2.2.1 = some ty := by rw [hty k hk, het]
  rcases hl with hl | ⟨host, hl⟩
  · refine va_put hx hb hts hin ty0 hty hnm hown hK hP hD hS i he hc k hk (hts _ hl) (fun _ q => q) hfin hpd hn hfit hk2 hd (fun H1 locs1 hP1 hD1 hS1 => ?_)
    rw [hset] at hP1 hD1
    exact kk H1 locs1 la hP1 hD1 hS1 h
  · refine va_putN hx hb hts hin ty0 hty hnm hown hK hP hD hS i he hc k hk (hts _ hl) (fun _ q => q) hfin hpd hn hfit hk2 hd (fun H1 locs1 hP1 hD1 hS1 => ?_)
    rw [hset] at hP1 hD1
    exact kk H1 locs1 la hP1 hD1 hS1 h
/-- an int field -/
theorem g_put (X : CX l D tys sh N r Z own cc nL ret rm res v' G) {index i ci k : Nat} {x : Int32} (fs : (Nat → Int32) → List Value) (hf : gFldP own index ci k .int) (hi : i < N) (hs : ∀ f, sh i f = .inr (ci, fs f)) (hset : ∀ f, (fs f).set k (.int x) = fs (upd f k x)) (hk2 : k < (fs (v i)).length) (hd : decode cc pc = .ok (.putfield index, 3)) (kk : G (up1 v i k x) ls (pc + 3) st) : G v ls pc (.int x :: .ref (r i) :: st) :=
  g_putV X hf hi (hs _) (hs (upd (v i) k x)) (hset _) hk2 rfl rfl hd kk
/-- a boolean field -/
theorem g_putZ (X : CX l D tys sh N r Z own cc nL ret rm res v' G) {index i ci k : Nat} {x : Int32} (fs : (Nat → Int32) → List Value) (hf : gFldP own index ci k .boolean) (hi : i < N) (hs : ∀ f, sh i f = .inr (ci, fs f)) (hset : ∀ f, (fs f).set k (.int x) = fs (upd f k x)) (hk2 : k < (fs (v i)).length) (hx : x = 0 ∨ x = 1) (hd : decode cc pc = .ok (.putfield index, 3)) (kk : G (up1 v i k x) ls (pc + 3) st) : G v ls pc (.int x :: .ref (r i) :: st) :=
  g_putV X hf hi (hs _) (hs (upd (v i) k x)) (hset _) hk2 (by rcases hx with rfl | rfl <;> rfl) (by rcases hx with rfl | rfl <;> rfl) hd kk
theorem g_iald (X : CX l D tys sh N r Z own cc nL ret rm res v' G) {i n : Nat} {cA : ClassId} {x : Int32} (hi : i < N) (hs : sh i (v i) = .inl (cA, n, .inl (v i))) (ht : tys[0]? = some (cA, .int)) (hin : vp_in x n) (hd : decode cc pc = .ok (.iaload, 1)) (kk : G v ls (pc + 1) (.int (v i x.toNatClampNeg) :: st)) : G v ls pc (.int x :: .ref (r i) :: st) := by
  obtain ⟨p, e, s, m, args, below, meth, c, A, ⟨hx, hb, hml, hown, hts⟩, hr, hlk, hK, hZ0, hZ, hA, rfl⟩ := X
  intro H locs la hP hD hS h
  exact va_iald hx hb hK hP i 0 (by rw [cw_get hi, hs]) ht hin hd (kk H locs la hP hD hS h)
theorem g_iast (X : CX l D tys sh N r Z own cc nL ret rm res v' G) {i n : Nat} {cA : ClassId} {x y : Int32} (hi : i < N) (hs : ∀ f, sh i f = .inl (cA, n, .inl f)) (ht : tys[0]? = some (cA, .int)) (hin : vp_in x n) (hd : decode cc pc = .ok (.iastore, 1)) (kk : G (up1 v i x.toNatClampNeg y) ls (pc + 1) st) : G v ls pc (.int y :: .int x :: .ref (r i) :: st) := by
  obtain ⟨p, e, s, m, args, below, meth, c, A, ⟨hx, hb, hml, hown, hts⟩, hr, hlk, hK, hZ0, hZ, hA, rfl⟩ := X
  intro H locs la hP hD hS h
  refine va_iast hx hb hK hP hD hS i 0 (by rw [cw_get hi, hs]) ht hin hd (fun H1 locs1 hP1 hD1 hS1 => ?_)
  rw [← hs, cw_set hi] at hP1 hD1
  exact kk H1 locs1 la hP1 hD1 hS1 h
theorem g_alen (X : CX l D tys sh N r Z own cc nL ret rm res v' G) {i t0 : Nat} {cA : ClassId} {q : vp_A} {ty : FieldType} (x : Int32) (hi : i < N) (hs : sh i (v i) = .inl (cA, q)) (ht : tys[t0]? = some (cA, ty)) (hx : Int32.ofNat q.1 = x) (hd : decode cc pc = .ok (.arraylength, 1)) (kk : G v ls (pc + 1) (.int x :: st)) : G v ls pc (.ref (r i) :: st) := by
  obtain ⟨p, e, s, m, args, below, meth, c, A, ⟨hx0, hb, hml, hown, hts⟩, hr, hlk, hK, hZ0, hZ, hA, rfl⟩ := X
  intro H locs la hP hD hS h
  exact va_alen hx0 hb hK hP i t0 (by rw [cw_get hi, hs]) ht hx hd (kk H locs la hP hD hS h)
theorem g_aald (X : CX l D tys sh N r Z own cc nL ret rm res v' G) {i n t0 b : Nat} {cA : ClassId} {ty : FieldType} {f : Nat → Option Nat} {x : Int32} (hi : i < N) (hs : sh i (v i) = .inl (cA, n, .inr (.inr (.inr (.inr f))))) (ht : tys[t0]? = some (cA, ty)) (hty : ty.isReference = true) (hin : vp_in x n) (hfb : f x.toNatClampNeg = some b) (hd : decode cc pc = .ok (.aaload, 1)) (kk : G v ls (pc + 1) (.ref b :: st)) : G v ls pc (.int x :: .ref (r i) :: st) := by
  obtain ⟨p, e, s, m, args, below, meth, c, A, ⟨hx, hb, hml, hown, hts⟩, hr, hlk, hK, hZ0, hZ, hA, rfl⟩ := X
  intro H locs la hP hD hS h
  have hlt : x.toNatClampNeg < n := Nat.not_le.mp fun q => hin (Or.inr q)
  have hc : H[r i]? = some (vp_cell cA (n, .inr (.inr (.inr (.inr f))))) := by
    have h1 := hP i (r i, sh i (v i)) (cw_get hi)
    rw [hs] at h1
    exact h1
  exact W.aald (v := .ref b) (ty := ty) hx hb hc ((hK.2 t0 _ ht).1 n (fun j => va_rf (f j))) hty (fun q => by cases q) (by show ¬ (x < 0 ∨ (arrV _ _ _).slots.size ≤ _); rw [arrV_size]; exact hin) (by show (arrV _ _ _).slots[_]? = _; rw [arrV_read _ _ hlt, hfb]; rfl) rfl rfl hd (kk H locs la hP hD hS h)
theorem g_iret (X : CX l D tys sh N r Z own cc nL (some .int) rm res v' G) {x : Int32} (hr : res = some (.int x)) (hv : v' = v) (hd : decode cc pc = .ok (.ireturn, 1)) : G v ls pc [.int x] := by
  obtain ⟨p, e, s, m, args, below, meth, c, A, ⟨hx, hb, hml, hown, hts⟩, hr0, hlk, hK, hZ0, hZ, hA, rfl⟩ := X
  subst hr; subst hv
  intro H locs la hP hD hS h
  exact W.iret hx hb hr0 (fun t ht hW => ⟨rfl, ⟨by rw [ht]; exact hP, va_K.moved hW.alike hK, hD⟩, hS.F ht⟩) hS.2.2 hd
theorem g_zret (X : CX l D tys sh N r Z own cc nL (some .boolean) rm res v' G) {x : Int32} (hz : x = 0 ∨ x = 1) (hr : res = some (.int x)) (hv : v' = v) (hd : decode cc pc = .ok (.ireturn, 1)) : G v ls pc [.int x] := by
  obtain ⟨p, e, s, m, args, below, meth, c, A, ⟨hx, hb, hml, hown, hts⟩, hr0, hlk, hK, hZ0, hZ, hA, rfl⟩ := X
  subst hr; subst hv
  intro H locs la hP hD hS h
  exact W.zret hx hb hr0 (by rcases hz with rfl | rfl <;> rfl) (fun t ht hW => ⟨rfl, ⟨by rw [ht]; exact hP, va_K.moved hW.alike hK, hD⟩, hS.F ht⟩) hS.2.2 hd
theorem g_lret (X : CX l D tys sh N r Z own cc nL (some .long) rm res v' G) {x : Int64} (hr : res = some (.long x)) (hv : v' = v) (hd : decode cc pc = .ok (.lreturn, 1)) : G v ls pc [.long x] := by
  obtain ⟨p, e, s, m, args, below, meth, c, A, ⟨hx, hb, hml, hown, hts⟩, hr0, hlk, hK, hZ0, hZ, hA, rfl⟩ := X
  subst hr; subst hv
  intro H locs la hP hD hS h
  exact W.lret hx hb hr0 (fun t ht hW => ⟨rfl, ⟨by rw [ht]; exact hP, va_K.moved hW.alike hK, hD⟩, hS.F ht⟩) hS.2.2 hd
theorem g_vret (X : CX l D tys sh N r Z own cc nL none rm res v' G) (hr : res = none) (hv : v' = v) (hd : decode cc pc = .ok (.return_, 1)) : G v ls pc [] := by
  obtain ⟨p, e, s, m, args, below, meth, c, A, ⟨hx, hb, hml, hown, hts⟩, hr0, hlk, hK, hZ0, hZ, hA, rfl⟩ := X
  subst hr; subst hv
  intro H locs la hP hD hS h
  exact W.vret hx hb hr0 (fun t ht hW => ⟨rfl, ⟨by rw [ht]; exact hP, va_K.moved hW.alike hK, hD⟩, hS.F ht⟩) hS.2.2 hd
theorem g_aret (X : CX l D tys sh N r Z own cc nL ret rm res v' G) {a : Option Nat} {rt : FieldType} (hrt : ret = some rt) (hrt2 : (∃ n, rt = .object n) ∨ ∃ t, rt = .array t) (hr : res = some (va_rf a)) (hv : v' = v) (hd : decode cc pc = .ok (.areturn, 1)) : G v ls pc [va_rf a] := by
  obtain ⟨p, e, s, m, args, below, meth, c, A, ⟨hx, hb, hml, hown, hts⟩, hr0, hlk, hK, hZ0, hZ, hA, rfl⟩ := X
  subst hr; subst hv; subst hrt
  intro H locs la hP hD hS h
  exact W.aret hx hb hr0 hrt2 (by cases a with | none => exact Or.inl rfl | some a => exact Or.inr ⟨a, rfl⟩) (fun t ht hW => ⟨rfl, ⟨by rw [ht]; exact hP, va_K.moved hW.alike hK, hD⟩, hS.F ht⟩) hS.2.2 hd
/-- behind a call -/
theorem g_behind {p : Program} {e : Env} {s : State} {m : MethodId} {args : Array Value} {below : List Frame} {meth : Method} {c : Code} {A : Nat → Prop} {H : Heap} {locs : List Loc} {la : Array Slot} {st0 : List Value} {a : Array Value} {resY : Option Value} {v1 : gV} {Q : State → Prop}
    (hrun : va_Run p l e rm s m args below meth c H locs 0 0 0 0 (F0 m pc la st0) st (QW D tys sh N r (gA N r H.size) resY v1 a) (gA N r H.size)) (hD : va_D A (cw sh N r v)) (hS : va_S A s.heap H locs) (hA : ∀ q, s.heap.size ≤ q → A q)
    (kk : ∀ (H1 : Heap) (locs1 : List Loc), va_P D vwCl (cw sh N r v1) H1 → va_D A (cw sh N r v1) → va_S A s.heap H1 locs1 → W p l e rm s m args below meth c H1 locs1 0 0 Q (F0 m (pc + 3) la (resY.toList ++ st))) : W p l e rm s m args below meth c H locs 0 0 Q (F0 m pc la st0) := by
  intro T hT X
  have hin := cw_in (N := N) (r := r) (sz := H.size) hD (fun q h => hA q (Nat.le_trans hS.1 h))
  obtain ⟨v, st₀, t, T', L, h0, X', hL, e1, e2, ⟨hres, ⟨hP1, hK1, hD1⟩, hz, hk⟩, stp⟩ := hrun T hT X
  cases hres
  rw [h0] at hz hk
  rw [← e1] at hz hk hP1
  obtain ⟨t2, a1, b1⟩ := kk T'.heap (locs ++ L) hP1 (hD1.weaken (fun _ _ _ h => hin _ h))
    ⟨Nat.le_trans hS.1 hz, fun q h1 h2 => by rw [hk q (Nat.lt_of_lt_of_le h1 hS.1) (fun z => h2 (hin q z))]; exact hS.2.1 q h1 h2, fun q hq => by
      rcases List.mem_append.mp hq with h | h
      · exact hS.2.2 q h
      · exact hin _ (hL q h)⟩ T' rfl X'
  exact ⟨t2, stp t2 a1, b1⟩
theorem g_blind {sz : Nat} {as : List Value} (hZ : gZok Z) : FrameBlind (va_Pc as (fun U => U.heap.size = sz ∧ va_P D vwCl (cw sh N r v) U.heap ∧ va_K D vwCl tys U ∧ va_D (fun _ => True) (cw sh N r v) ∧ Z (gA N r sz) U U.heap)) := by
  rintro a U g mk ⟨h1, h2, h3, h4, h5, h6⟩
  exact ⟨h1, h2, h3, va_K.moved (u := U) (U := U.calling g mk a) (Vm.Alike.refl U.vm) h4, h5, hZ.1 _ U (U.calling g mk a) _ (Vm.Alike.refl U.vm) h6⟩
theorem g_callV (X : CX l D tys sh N r Z own cc nL ret rm res v' G) {y : MethodName} {bytes : ByteArray} {nLY n index i ci nC : Nat} {T : u_T} {retY : Option FieldType} {rmY : Room} {fs As stk st' : List Value} {resY : Option Value} {v1 : gV}
    (hcal : gCal y bytes nLY retY n) (hvir : gVir y) (hlnk : gLnk own index y) (hrm : gRm rm rmY nLY) (hM : Ct l D tys sh N r Z y bytes nLY retY rmY (.ref (r i) :: As) v resY v1) (hi : i < N) (hs : sh i (v i) = .inr (ci, fs)) (hc : vwCl[ci]? = some (y.cls, T, nC)) (hn : As.length = n) (hstk : As.reverse ++ .ref (r i) :: st = stk) (hroom : (st.map fun v => v.category).sum ≤ 8) (hres : resY.toList ++ st = st') (hd : decode cc pc = .ok (.invokevirtual index, 3)) (kk : G v1 ls (pc + 3) st') : G v ls pc stk := by
  obtain ⟨p, e, s, m, args, below, meth, c, A, ⟨hx, hb, hml, hown, hts⟩, hr, hlk, hK, hZ0, hZ, hA, rfl⟩ := X
  subst hres
  intro H locs la hP hD hS h
  obtain ⟨hini, hcode, hdd⟩ := hcal
  have hg : GoodIn gw (Cond.code y bytes nLY retY :: gw) := fun w hw => (List.mem_cons.mp hw).elim (fun q => by rw [q]; exact gw_good _ hcode) (gw_good w)
  have hin := cw_in (N := N) (r := r) (sz := H.size) hD (fun q h => hA q (Nat.le_trans hS.1 h))
  have hpre : PreV s H y.cls (r i) (va_Pc (.ref (r i) :: As) (fun U => U.heap.size = H.size ∧ va_P D vwCl (cw sh N r v) U.heap ∧ va_K D vwCl tys U ∧ va_D (fun _ => True) (cw sh N r v) ∧ Z (gA N r H.size) U U.heap)) As :=
    ⟨g_blind hZ, va_recv hK hP (q0 := i) hc (by rw [cw_get hi, hs]), fun U hU hW => ⟨rfl, by rw [hU], by rw [hU]; exact hP, va_K.moved hW.alike hK, hD.weaken (fun _ _ _ _ => trivial), by
      rw [hU]
      exact hZ.1 _ _ _ _ hW.alike (hZ.2.2 _ _ _ _ (hZ.2.1 _ _ _ _ hZ0 hS.2.1) hin)⟩⟩
  rcases hlnk with hl | ⟨host, hl⟩
  · exact g_behind (va_runV (nL := nL) ⟨hx, hb, hml, hown, hts⟩ (hM H.size) ⟨callB_of n hts hg rfl hrm.1 hrm.2.1 (hts _ hini) (hts _ hl) hdd ⟨hrm.2.2.1, hrm.2.2.2⟩, hts _ hvir.1, hts _ hvir.2⟩ hpre rfl hn h.1 hstk.symm (lv_room hroom) hd ⟨Nat.zero_le _, Nat.zero_le _⟩) hD hS hA (fun H1 locs1 hP1 hD1 hS1 => kk H1 locs1 la hP1 hD1 hS1 h)
  · exact g_behind (va_runVN (nL := nL) ⟨hx, hb, hml, hown, hts⟩ (hM H.size) ⟨va_cnB n hts hg rfl hrm.1 hrm.2.1 (va_Nw.of rfl (hts _ hl)) (hts _ hini) hdd ⟨hrm.2.2.1, hrm.2.2.2⟩, hts _ hvir.1, hts _ hvir.2⟩ hpre rfl hn h.1 hstk.symm (lv_room hroom) hd ⟨Nat.zero_le _, Nat.zero_le _⟩) hD hS hA (fun H1 locs1 hP1 hD1 hS1 => kk H1 locs1 la hP1 hD1 hS1 h)
theorem g_callS (X : CX l D tys sh N r Z own cc nL ret rm res v' G) {y : MethodName} {bytes : ByteArray} {nLY n index : Nat} {retY : Option FieldType} {rmY : Room} {As stk st' : List Value} {resY : Option Value} {v1 : gV}
    (hcal : gCal y bytes nLY retY n) (hsta : Cond.static y ∈ gw) (hlnk : gLnk own index y) (hrm : gRm rm rmY nLY) (hM : Ct l D tys sh N r Z y bytes nLY retY rmY As v resY v1) (hn : As.length = n) (hstk : As.reverse ++ st = stk) (hroom : (st.map fun v => v.category).sum ≤ 8) (hres : resY.toList ++ st = st') (hd : decode cc pc = .ok (.invokestatic index, 3)) (kk : G v1 ls (pc + 3) st') : G v ls pc stk := by
  obtain ⟨p, e, s, m, args, below, meth, c, A, ⟨hx, hb, hml, hown, hts⟩, hr, hlk, hK, hZ0, hZ, hA, rfl⟩ := X
  subst hres
  intro H locs la hP hD hS h
  obtain ⟨hini, hcode, hdd⟩ := hcal
  have hg : GoodIn gw (Cond.code y bytes nLY retY :: gw) := fun w hw => (List.mem_cons.mp hw).elim (fun q => by rw [q]; exact gw_good _ hcode) (gw_good w)
  have hin := cw_in (N := N) (r := r) (sz := H.size) hD (fun q h => hA q (Nat.le_trans hS.1 h))
  have hpre : PreS s H (va_Pc As (fun U => U.heap.size = H.size ∧ va_P D vwCl (cw sh N r v) U.heap ∧ va_K D vwCl tys U ∧ va_D (fun _ => True) (cw sh N r v) ∧ Z (gA N r H.size) U U.heap)) As :=
    ⟨g_blind hZ, fun U hU hW => ⟨rfl, by rw [hU], by rw [hU]; exact hP, va_K.moved hW.alike hK, hD.weaken (fun _ _ _ _ => trivial), by
      rw [hU]
      exact hZ.1 _ _ _ _ hW.alike (hZ.2.2 _ _ _ _ (hZ.2.1 _ _ _ _ hZ0 hS.2.1) hin)⟩⟩
  rcases hlnk with hl | ⟨host, hl⟩
  · exact g_behind (va_runS (nL := nL) ⟨hx, hb, hml, hown, hts⟩ (hM H.size) ⟨callB_of n hts hg rfl hrm.1 hrm.2.1 (hts _ hini) (hts _ hl) hdd ⟨hrm.2.2.1, hrm.2.2.2⟩, hts _ hsta⟩ hpre rfl hn h.1 hstk.symm (lv_room hroom) hd ⟨Nat.zero_le _, Nat.zero_le _⟩) hD hS hA (fun H1 locs1 hP1 hD1 hS1 => kk H1 locs1 la hP1 hD1 hS1 h)
  · exact g_behind (va_runSN (nL := nL) ⟨hx, hb, hml, hown, hts⟩ (hM H.size) ⟨va_cnB n hts hg rfl hrm.1 hrm.2.1 (va_Nw.of rfl (hts _ hl)) (hts _ hini) hdd ⟨hrm.2.2.1, hrm.2.2.2⟩, hts _ hsta, trivial⟩ hpre rfl hn h.1 hstk.symm (lv_room hroom) hd ⟨Nat.zero_le _, Nat.zero_le _⟩) hD hS hA (fun H1 locs1 hP1 hD1 hS1 => kk H1 locs1 la hP1 hD1 hS1 h)
theorem g_max (X : CX l D tys sh N r Z own cc nL ret rm res v' G) {index : Nat} {x y : Int32} (hlink : Cond.methodLink own index Lib.Math.max.name ∈ gw) (hstat : Cond.static Lib.Math.max.name ∈ gw) (hini : Cond.initialized "java/lang/Math" ∈ gw) (hcode : Cond.code Lib.Math.max.name Lib.Math.max.code 2 (some .int) ∈ gw) (hfr : 1 ≤ rm.frames) (hlo : 21 ≤ rm.locals) (hroom : (st.map fun v => v.category).sum ≤ 8) (hd : decode cc pc = .ok (.invokestatic index, 3)) (kk : G v ls (pc + 3) (.int (if x < y then y else x) :: st)) : G v ls pc (.int y :: .int x :: st) := by
  obtain ⟨p, e, s, m, args, below, meth, c, A, ⟨hx, hb, hml, hown, hts⟩, hr, hlk, hK, hZ0, hZ, hA, rfl⟩ := X
  intro H locs la hP hD hS h
  exact va_mmax hx hb (hml.trans h.1.symm) hown (hts _ hlink) (hts _ hstat) (hts _ hini) (hts _ hcode) hfr (by omega) (Nat.zero_le _) (Nat.zero_le _) hd (kk H locs la hP hD hS h)
theorem g_min (X : CX l D tys sh N r Z own cc nL ret rm res v' G) {index : Nat} {x y : Int32} (hlink : Cond.methodLink own index Lib.Math.min.name ∈ gw) (hstat : Cond.static Lib.Math.min.name ∈ gw) (hini : Cond.initialized "java/lang/Math" ∈ gw) (hcode : Cond.code Lib.Math.min.name Lib.Math.min.code 2 (some .int) ∈ gw) (hfr : 1 ≤ rm.frames) (hlo : 21 ≤ rm.locals) (hroom : (st.map fun v => v.category).sum ≤ 8) (hd : decode cc pc = .ok (.invokestatic index, 3)) (kk : G v ls (pc + 3) (.int (if y < x then y else x) :: st)) : G v ls pc (.int y :: .int x :: st) := by
  obtain ⟨p, e, s, m, args, below, meth, c, A, ⟨hx, hb, hml, hown, hts⟩, hr, hlk, hK, hZ0, hZ, hA, rfl⟩ := X
  intro H locs la hP hD hS h
  exact va_mmin hx hb (hml.trans h.1.symm) hown (hts _ hlink) (hts _ hstat) (hts _ hini) (hts _ hcode) hfr (by omega) (Nat.zero_le _) (Nat.zero_le _) hd (kk H locs la hP hD hS h)
theorem g_copy (X : CX l D tys sh N r Z own cc nL ret rm res v' G) {index i j n0 n1 : Nat} {c0 c1 : ClassId} {sp dp n : Int32} (hlink : Cond.methodLink own index arraycopyName ∈ gw) (hnat : Cond.native arraycopyName ∈ gw) (hstat : Cond.static arraycopyName ∈ gw) (hini : Cond.initialized "java/lang/System" ∈ gw) (hi : i < N) (hj : j < N) (hs : sh i (v i) = .inl (c0, n0, .inl (v i))) (hs1 : ∀ f, sh j f = .inl (c1, n1, .inl f)) (ht0 : tys[0]? = some (c0, .int)) (ht1 : tys[0]? = some (c1, .int)) (h1 : ¬ sp < 0) (h2 : ¬ dp < 0) (h3 : ¬ n < 0) (h4 : sp.toNatClampNeg + n.toNatClampNeg ≤ n0) (h5 : dp.toNatClampNeg + n.toNatClampNeg ≤ n1) (hfr : 1 ≤ rm.frames) (hlo : 8 + (nativeFrameWords "java/lang/System" "arraycopy" 5 + 11) ≤ rm.locals) (hroom : (st.map fun v => v.category).sum ≤ 8) (hd : decode cc pc = .ok (.invokestatic index, 3)) (kk : G (up2 v j (va_cpy (v i) (v j) sp.toNatClampNeg dp.toNatClampNeg n.toNatClampNeg)) ls (pc + 3) st) : G v ls pc (.int n :: .int dp :: .ref (r j) :: .int sp :: .ref (r i) :: st) := by
  obtain ⟨p, e, s, m, args, below, meth, c, A, ⟨hx, hb, hml, hown, hts⟩, hr, hlk, hK, hZ0, hZ, hA, rfl⟩ := X
  intro H locs la hP hD hS h
  refine va_copyi hx hb (hml.trans h.1.symm) hown (hts _ hlink) (hts _ hnat) (hts _ hstat) (hts _ hini) hK hP hD hS i j 0 0 (by rw [cw_get hi, hs]) (by rw [cw_get hj, hs1]) ht0 ht1 rfl h1 h2 h3 h4 h5 (fun _ _ => rfl) hfr (by omega) hd (fun H1 locs1 hP1 hD1 hS1 => ?_)
  rw [← hs1, cw_set hj] at hP1 hD1
  exact kk H1 locs1 la hP1 hD1 hS1 h
/-- a static that holds an array of ints outside the world -/
theorem g_gets (X : CX l D tys sh N r Z own cc nL ret rm res v' G) {C n d : String} {a : Value} {index : Nat} (hz : ∀ A U H, Z A U H → va_Z C n d a A U H) (hl : Cond.fieldLink own index C n d ∈ gw ∨ ∃ host, Cond.fieldLinkNest own index C n d host ∈ gw) (hd : decode cc pc = .ok (.getstatic index, 3)) (kk : G v ls (pc + 3) (a :: st)) : G v ls pc st := by
  obtain ⟨p, e, s, m, args, below, meth, c, A, ⟨hx, hb, hml, hown, hts⟩, hr, hlk, hK, hZ0, hZ, hA, rfl⟩ := X
  intro H locs la hP hD hS h
  rcases hl with hl | ⟨host, hl⟩
  · exact va_gets hx hb (hz _ _ _ hZ0) hS hown (hts _ hl) (fun _ q => q) hd (kk H locs la hP hD hS h)
  · exact va_getsN hx hb (hz _ _ _ hZ0) hS hown (hts _ hl) (fun _ q => q) hd (kk H locs la hP hD hS h)
theorem g_ialdT (X : CX l D tys sh N r Z own cc nL ret rm res v' G) {t n : Nat} {f : Nat → Int32} {x : Int32} (hz : ∀ A U H, Z A U H → va_T .int t n (fun j => .int (f j)) A U H) (hin : vp_in x n) (hd : decode cc pc = .ok (.iaload, 1)) (kk : G v ls (pc + 1) (.int (f x.toNatClampNeg) :: st)) : G v ls pc (.int x :: .ref t :: st) := by
  obtain ⟨p, e, s, m, args, below, meth, c, A, ⟨hx, hb, hml, hown, hts⟩, hr, hlk, hK, hZ0, hZ, hA, rfl⟩ := X
  intro H locs la hP hD hS h
  have hlt : x.toNatClampNeg < n := Nat.not_le.mp fun q => hin (Or.inr q)
  obtain ⟨cell, q1, q2, q3, q4, q5, q6, q7⟩ := hz _ _ _ (hZ.2.1 _ _ _ _ hZ0 hS.2.1)
  exact W.iald hx hb q1 q2 q3 (fun q => hin (q.elim Or.inl (fun z => Or.inr (Nat.le_trans q4 z)))) (q6 _ hlt) rfl rfl hd (kk H locs la hP hD hS h)
theorem g_alenT (X : CX l D tys sh N r Z own cc nL ret rm res v' G) {t n : Nat} {f : Nat → Int32} (hz : ∀ A U H, Z A U H → va_T .int t n (fun j => .int (f j)) A U H) (x : Int32) (hx : Int32.ofNat n = x) (hd : decode cc pc = .ok (.arraylength, 1)) (kk : G v ls (pc + 1) (.int x :: st)) : G v ls pc (.ref t :: st) := by
  obtain ⟨p, e, s, m, args, below, meth, c, A, ⟨hx0, hb, hml, hown, hts⟩, hr, hlk, hK, hZ0, hZ, hA, rfl⟩ := X
  intro H locs la hP hD hS h
  obtain ⟨cell, q1, q2, q3, q4, q5, q6, q7⟩ := hz _ _ _ (hZ.2.1 _ _ _ _ hZ0 hS.2.1)
  exact W.alen hx0 hb q1 q2 (q5.trans hx) rfl rfl hd (kk H locs la hP hD hS h)
end GY
end
