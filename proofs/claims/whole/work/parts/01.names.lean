-- ===== PART A: goes FIRST, ahead of the names: the tables' words, and 'selects' of the private methods out of them =====
/-- a private method of a class that the tables say can be made, by its rows of tables_1 -/
def lw_okq (q : MethodName × Nat) : Prop := (q.1.cls ≠ "java/lang/invoke/MethodHandle" ∧ q.1.cls ≠ "java/lang/invoke/VarHandle") ∧ Cond.instantiable q.1.cls q.2 ∈ tables_1 ∧ Cond.privateMethod q.1 ∈ tables_1 ∧ Cond.instanceMethod q.1 ∈ tables_1
theorem lw_p0 : lw_okq (⟨"LastAwake", "bad", "(I)I"⟩, 9) := ⟨⟨by decide +kernel, by decide +kernel⟩, List.mem_of_getElem? (i := 19) (by decide +kernel), List.mem_of_getElem? (i := 271) (by decide +kernel), List.mem_of_getElem? (i := 272) (by decide +kernel)⟩
theorem lw_p1 : lw_okq (⟨"LastAwake", "full", "()I"⟩, 9) := ⟨⟨by decide +kernel, by decide +kernel⟩, List.mem_of_getElem? (i := 19) (by decide +kernel), List.mem_of_getElem? (i := 322) (by decide +kernel), List.mem_of_getElem? (i := 323) (by decide +kernel)⟩
theorem lw_p2 : lw_okq (⟨"LastAwake$Script", "nextToken", "()V"⟩, 7) := ⟨⟨by decide +kernel, by decide +kernel⟩, List.mem_of_getElem? (i := 205) (by decide +kernel), List.mem_of_getElem? (i := 359) (by decide +kernel), List.mem_of_getElem? (i := 360) (by decide +kernel)⟩
theorem lw_p3 : lw_okq (⟨"LastAwake$Script", "takeWord", "()V"⟩, 7) := ⟨⟨by decide +kernel, by decide +kernel⟩, List.mem_of_getElem? (i := 205) (by decide +kernel), List.mem_of_getElem? (i := 366) (by decide +kernel), List.mem_of_getElem? (i := 367) (by decide +kernel)⟩
theorem lw_p4 : lw_okq (⟨"LastAwake$Script", "takeNumber", "()V"⟩, 7) := ⟨⟨by decide +kernel, by decide +kernel⟩, List.mem_of_getElem? (i := 205) (by decide +kernel), List.mem_of_getElem? (i := 373) (by decide +kernel), List.mem_of_getElem? (i := 374) (by decide +kernel)⟩
theorem lw_p5 : lw_okq (⟨"LastAwake$Script", "itemStands", "(LLastAwake$State;Z)Z"⟩, 7) := ⟨⟨by decide +kernel, by decide +kernel⟩, List.mem_of_getElem? (i := 205) (by decide +kernel), List.mem_of_getElem? (i := 377) (by decide +kernel), List.mem_of_getElem? (i := 378) (by decide +kernel)⟩
theorem lw_p6 : lw_okq (⟨"LastAwake$Script", "itemOfWord", "()I"⟩, 7) := ⟨⟨by decide +kernel, by decide +kernel⟩, List.mem_of_getElem? (i := 205) (by decide +kernel), List.mem_of_getElem? (i := 381) (by decide +kernel), List.mem_of_getElem? (i := 382) (by decide +kernel)⟩
theorem lw_p7 : lw_okq (⟨"LastAwake$Script", "wordIs", "(Ljava/lang/String;)Z"⟩, 7) := ⟨⟨by decide +kernel, by decide +kernel⟩, List.mem_of_getElem? (i := 205) (by decide +kernel), List.mem_of_getElem? (i := 386) (by decide +kernel), List.mem_of_getElem? (i := 387) (by decide +kernel)⟩
theorem lw_p8 : lw_okq (⟨"LastAwake$Script", "apply", "(LLastAwake$State;I)V"⟩, 7) := ⟨⟨by decide +kernel, by decide +kernel⟩, List.mem_of_getElem? (i := 205) (by decide +kernel), List.mem_of_getElem? (i := 452) (by decide +kernel), List.mem_of_getElem? (i := 453) (by decide +kernel)⟩
theorem lw_p9 : lw_okq (⟨"LastAwake$Floor", "measureWaysTo", "(I)V"⟩, 9) := ⟨⟨by decide +kernel, by decide +kernel⟩, List.mem_of_getElem? (i := 33) (by decide +kernel), List.mem_of_getElem? (i := 499) (by decide +kernel), List.mem_of_getElem? (i := 500) (by decide +kernel)⟩
theorem lw_p10 : lw_okq (⟨"LastAwake$Floor", "shorten", "(II)Z"⟩, 9) := ⟨⟨by decide +kernel, by decide +kernel⟩, List.mem_of_getElem? (i := 33) (by decide +kernel), List.mem_of_getElem? (i := 504) (by decide +kernel), List.mem_of_getElem? (i := 505) (by decide +kernel)⟩
theorem lw_p11 : lw_okq (⟨"LastAwake$Floor", "wayOver", "(II)I"⟩, 9) := ⟨⟨by decide +kernel, by decide +kernel⟩, List.mem_of_getElem? (i := 33) (by decide +kernel), List.mem_of_getElem? (i := 508) (by decide +kernel), List.mem_of_getElem? (i := 509) (by decide +kernel)⟩
theorem lw_p12 : lw_okq (⟨"LastAwake$State", "errandOf", "(IZ)I"⟩, 4) := ⟨⟨by decide +kernel, by decide +kernel⟩, List.mem_of_getElem? (i := 27) (by decide +kernel), List.mem_of_getElem? (i := 553) (by decide +kernel), List.mem_of_getElem? (i := 554) (by decide +kernel)⟩
theorem lw_p13 : lw_okq (⟨"LastAwake", "no", "()I"⟩, 9) := ⟨⟨by decide +kernel, by decide +kernel⟩, List.mem_of_getElem? (i := 19) (by decide +kernel), List.mem_of_getElem? (i := 561) (by decide +kernel), List.mem_of_getElem? (i := 562) (by decide +kernel)⟩
theorem lw_p14 : lw_okq (⟨"LastAwake", "joyOfReading", "(II)I"⟩, 9) := ⟨⟨by decide +kernel, by decide +kernel⟩, List.mem_of_getElem? (i := 19) (by decide +kernel), List.mem_of_getElem? (i := 624) (by decide +kernel), List.mem_of_getElem? (i := 625) (by decide +kernel)⟩
theorem lw_p15 : lw_okq (⟨"LastAwake", "fillCosts", "(II)V"⟩, 9) := ⟨⟨by decide +kernel, by decide +kernel⟩, List.mem_of_getElem? (i := 19) (by decide +kernel), List.mem_of_getElem? (i := 633) (by decide +kernel), List.mem_of_getElem? (i := 634) (by decide +kernel)⟩
def lw_privs_1 : List (MethodName × Nat) := [(⟨"LastAwake", "bad", "(I)I"⟩, 9), (⟨"LastAwake", "full", "()I"⟩, 9), (⟨"LastAwake$Script", "nextToken", "()V"⟩, 7), (⟨"LastAwake$Script", "takeWord", "()V"⟩, 7), (⟨"LastAwake$Script", "takeNumber", "()V"⟩, 7), (⟨"LastAwake$Script", "itemStands", "(LLastAwake$State;Z)Z"⟩, 7), (⟨"LastAwake$Script", "itemOfWord", "()I"⟩, 7), (⟨"LastAwake$Script", "wordIs", "(Ljava/lang/String;)Z"⟩, 7), (⟨"LastAwake$Script", "apply", "(LLastAwake$State;I)V"⟩, 7), (⟨"LastAwake$Floor", "measureWaysTo", "(I)V"⟩, 9), (⟨"LastAwake$Floor", "shorten", "(II)Z"⟩, 9), (⟨"LastAwake$Floor", "wayOver", "(II)I"⟩, 9), (⟨"LastAwake$State", "errandOf", "(IZ)I"⟩, 4), (⟨"LastAwake", "no", "()I"⟩, 9), (⟨"LastAwake", "joyOfReading", "(II)I"⟩, 9), (⟨"LastAwake", "fillCosts", "(II)V"⟩, 9)]
theorem lw_r1 : ∀ q ∈ lw_privs_1, lw_okq q := List.forall_mem_cons.mpr ⟨lw_p0, List.forall_mem_cons.mpr ⟨lw_p1, List.forall_mem_cons.mpr ⟨lw_p2, List.forall_mem_cons.mpr ⟨lw_p3, List.forall_mem_cons.mpr ⟨lw_p4, List.forall_mem_cons.mpr ⟨lw_p5, List.forall_mem_cons.mpr ⟨lw_p6, List.forall_mem_cons.mpr ⟨lw_p7, List.forall_mem_cons.mpr ⟨lw_p8, List.forall_mem_cons.mpr ⟨lw_p9, List.forall_mem_cons.mpr ⟨lw_p10, List.forall_mem_cons.mpr ⟨lw_p11, List.forall_mem_cons.mpr ⟨lw_p12, List.forall_mem_cons.mpr ⟨lw_p13, List.forall_mem_cons.mpr ⟨lw_p14, List.forall_mem_cons.mpr ⟨lw_p15, fun _ h => absurd h List.not_mem_nil⟩⟩⟩⟩⟩⟩⟩⟩⟩⟩⟩⟩⟩⟩⟩⟩
theorem lw_p16 : lw_okq (⟨"LastAwake", "pairRests", "(II)Z"⟩, 9) := ⟨⟨by decide +kernel, by decide +kernel⟩, List.mem_of_getElem? (i := 19) (by decide +kernel), List.mem_of_getElem? (i := 637) (by decide +kernel), List.mem_of_getElem? (i := 638) (by decide +kernel)⟩
theorem lw_p17 : lw_okq (⟨"LastAwake$State", "burden", "(III)I"⟩, 4) := ⟨⟨by decide +kernel, by decide +kernel⟩, List.mem_of_getElem? (i := 27) (by decide +kernel), List.mem_of_getElem? (i := 650) (by decide +kernel), List.mem_of_getElem? (i := 651) (by decide +kernel)⟩
theorem lw_p18 : lw_okq (⟨"LastAwake$State", "turnsWithin", "(II)I"⟩, 4) := ⟨⟨by decide +kernel, by decide +kernel⟩, List.mem_of_getElem? (i := 27) (by decide +kernel), List.mem_of_getElem? (i := 657) (by decide +kernel), List.mem_of_getElem? (i := 658) (by decide +kernel)⟩
theorem lw_p19 : lw_okq (⟨"LastAwake$State", "ownTurnsWithin", "(III)I"⟩, 4) := ⟨⟨by decide +kernel, by decide +kernel⟩, List.mem_of_getElem? (i := 27) (by decide +kernel), List.mem_of_getElem? (i := 661) (by decide +kernel), List.mem_of_getElem? (i := 662) (by decide +kernel)⟩
theorem lw_p20 : lw_okq (⟨"LastAwake$State", "nextBurden", "(II)I"⟩, 4) := ⟨⟨by decide +kernel, by decide +kernel⟩, List.mem_of_getElem? (i := 27) (by decide +kernel), List.mem_of_getElem? (i := 665) (by decide +kernel), List.mem_of_getElem? (i := 666) (by decide +kernel)⟩
theorem lw_p21 : lw_okq (⟨"LastAwake", "setFraction", "(JJ)V"⟩, 9) := ⟨⟨by decide +kernel, by decide +kernel⟩, List.mem_of_getElem? (i := 19) (by decide +kernel), List.mem_of_getElem? (i := 680) (by decide +kernel), List.mem_of_getElem? (i := 681) (by decide +kernel)⟩
theorem lw_p22 : lw_okq (⟨"LastAwake$Notes", "liarsIf", "(I)I"⟩, 3) := ⟨⟨by decide +kernel, by decide +kernel⟩, List.mem_of_getElem? (i := 128) (by decide +kernel), List.mem_of_getElem? (i := 718) (by decide +kernel), List.mem_of_getElem? (i := 719) (by decide +kernel)⟩
theorem lw_p23 : lw_okq (⟨"LastAwake", "howMany", "(I)I"⟩, 9) := ⟨⟨by decide +kernel, by decide +kernel⟩, List.mem_of_getElem? (i := 19) (by decide +kernel), List.mem_of_getElem? (i := 762) (by decide +kernel), List.mem_of_getElem? (i := 763) (by decide +kernel)⟩
theorem lw_p24 : lw_okq (⟨"LastAwakeModel", "begins", "(III)V"⟩, 26) := ⟨⟨by decide +kernel, by decide +kernel⟩, List.mem_of_getElem? (i := 787) (by decide +kernel), List.mem_of_getElem? (i := 793) (by decide +kernel), List.mem_of_getElem? (i := 794) (by decide +kernel)⟩
theorem lw_p25 : lw_okq (⟨"LastAwakeModel", "bad", "()I"⟩, 26) := ⟨⟨by decide +kernel, by decide +kernel⟩, List.mem_of_getElem? (i := 787) (by decide +kernel), List.mem_of_getElem? (i := 885) (by decide +kernel), List.mem_of_getElem? (i := 886) (by decide +kernel)⟩
theorem lw_p26 : lw_okq (⟨"LastAwakeModel", "met", "(I)I"⟩, 26) := ⟨⟨by decide +kernel, by decide +kernel⟩, List.mem_of_getElem? (i := 787) (by decide +kernel), List.mem_of_getElem? (i := 889) (by decide +kernel), List.mem_of_getElem? (i := 890) (by decide +kernel)⟩
theorem lw_p27 : lw_okq (⟨"LastAwakeModel", "isCell", "(II)Z"⟩, 26) := ⟨⟨by decide +kernel, by decide +kernel⟩, List.mem_of_getElem? (i := 787) (by decide +kernel), List.mem_of_getElem? (i := 897) (by decide +kernel), List.mem_of_getElem? (i := 898) (by decide +kernel)⟩
theorem lw_p28 : lw_okq (⟨"LastAwakeModel", "becomes", "(II)I"⟩, 26) := ⟨⟨by decide +kernel, by decide +kernel⟩, List.mem_of_getElem? (i := 787) (by decide +kernel), List.mem_of_getElem? (i := 901) (by decide +kernel), List.mem_of_getElem? (i := 902) (by decide +kernel)⟩
theorem lw_p29 : lw_okq (⟨"LastAwakeModel", "comes", "(IIIIII)V"⟩, 26) := ⟨⟨by decide +kernel, by decide +kernel⟩, List.mem_of_getElem? (i := 787) (by decide +kernel), List.mem_of_getElem? (i := 927) (by decide +kernel), List.mem_of_getElem? (i := 928) (by decide +kernel)⟩
theorem lw_p30 : lw_okq (⟨"LastAwakeModel", "isOne", "(I)Z"⟩, 26) := ⟨⟨by decide +kernel, by decide +kernel⟩, List.mem_of_getElem? (i := 787) (by decide +kernel), List.mem_of_getElem? (i := 935) (by decide +kernel), List.mem_of_getElem? (i := 936) (by decide +kernel)⟩
theorem lw_p31 : lw_okq (⟨"LastAwakeModel", "badAs", "(I)I"⟩, 26) := ⟨⟨by decide +kernel, by decide +kernel⟩, List.mem_of_getElem? (i := 787) (by decide +kernel), List.mem_of_getElem? (i := 943) (by decide +kernel), List.mem_of_getElem? (i := 944) (by decide +kernel)⟩
def lw_privs_2 : List (MethodName × Nat) := [(⟨"LastAwake", "pairRests", "(II)Z"⟩, 9), (⟨"LastAwake$State", "burden", "(III)I"⟩, 4), (⟨"LastAwake$State", "turnsWithin", "(II)I"⟩, 4), (⟨"LastAwake$State", "ownTurnsWithin", "(III)I"⟩, 4), (⟨"LastAwake$State", "nextBurden", "(II)I"⟩, 4), (⟨"LastAwake", "setFraction", "(JJ)V"⟩, 9), (⟨"LastAwake$Notes", "liarsIf", "(I)I"⟩, 3), (⟨"LastAwake", "howMany", "(I)I"⟩, 9), (⟨"LastAwakeModel", "begins", "(III)V"⟩, 26), (⟨"LastAwakeModel", "bad", "()I"⟩, 26), (⟨"LastAwakeModel", "met", "(I)I"⟩, 26), (⟨"LastAwakeModel", "isCell", "(II)Z"⟩, 26), (⟨"LastAwakeModel", "becomes", "(II)I"⟩, 26), (⟨"LastAwakeModel", "comes", "(IIIIII)V"⟩, 26), (⟨"LastAwakeModel", "isOne", "(I)Z"⟩, 26), (⟨"LastAwakeModel", "badAs", "(I)I"⟩, 26)]
theorem lw_r2 : ∀ q ∈ lw_privs_2, lw_okq q := List.forall_mem_cons.mpr ⟨lw_p16, List.forall_mem_cons.mpr ⟨lw_p17, List.forall_mem_cons.mpr ⟨lw_p18, List.forall_mem_cons.mpr ⟨lw_p19, List.forall_mem_cons.mpr ⟨lw_p20, List.forall_mem_cons.mpr ⟨lw_p21, List.forall_mem_cons.mpr ⟨lw_p22, List.forall_mem_cons.mpr ⟨lw_p23, List.forall_mem_cons.mpr ⟨lw_p24, List.forall_mem_cons.mpr ⟨lw_p25, List.forall_mem_cons.mpr ⟨lw_p26, List.forall_mem_cons.mpr ⟨lw_p27, List.forall_mem_cons.mpr ⟨lw_p28, List.forall_mem_cons.mpr ⟨lw_p29, List.forall_mem_cons.mpr ⟨lw_p30, List.forall_mem_cons.mpr ⟨lw_p31, fun _ h => absurd h List.not_mem_nil⟩⟩⟩⟩⟩⟩⟩⟩⟩⟩⟩⟩⟩⟩⟩⟩
theorem lw_p32 : lw_okq (⟨"LastAwakeModel", "reads", "()Z"⟩, 26) := ⟨⟨by decide +kernel, by decide +kernel⟩, List.mem_of_getElem? (i := 787) (by decide +kernel), List.mem_of_getElem? (i := 959) (by decide +kernel), List.mem_of_getElem? (i := 960) (by decide +kernel)⟩
theorem lw_p33 : lw_okq (⟨"LastAwakeModel", "token", "()V"⟩, 26) := ⟨⟨by decide +kernel, by decide +kernel⟩, List.mem_of_getElem? (i := 787) (by decide +kernel), List.mem_of_getElem? (i := 963) (by decide +kernel), List.mem_of_getElem? (i := 964) (by decide +kernel)⟩
theorem lw_p34 : lw_okq (⟨"LastAwakeModel", "byteAt", "(I)I"⟩, 26) := ⟨⟨by decide +kernel, by decide +kernel⟩, List.mem_of_getElem? (i := 787) (by decide +kernel), List.mem_of_getElem? (i := 967) (by decide +kernel), List.mem_of_getElem? (i := 968) (by decide +kernel)⟩
theorem lw_p35 : lw_okq (⟨"LastAwakeModel", "wordNow", "()I"⟩, 26) := ⟨⟨by decide +kernel, by decide +kernel⟩, List.mem_of_getElem? (i := 787) (by decide +kernel), List.mem_of_getElem? (i := 975) (by decide +kernel), List.mem_of_getElem? (i := 976) (by decide +kernel)⟩
theorem lw_p36 : lw_okq (⟨"LastAwakeModel", "isNamed", "(IIIII)Z"⟩, 26) := ⟨⟨by decide +kernel, by decide +kernel⟩, List.mem_of_getElem? (i := 787) (by decide +kernel), List.mem_of_getElem? (i := 979) (by decide +kernel), List.mem_of_getElem? (i := 980) (by decide +kernel)⟩
theorem lw_p37 : lw_okq (⟨"LastAwakeModel", "takesItem", "(I)Z"⟩, 26) := ⟨⟨by decide +kernel, by decide +kernel⟩, List.mem_of_getElem? (i := 787) (by decide +kernel), List.mem_of_getElem? (i := 983) (by decide +kernel), List.mem_of_getElem? (i := 984) (by decide +kernel)⟩
theorem lw_p38 : lw_okq (⟨"LastAwakeModel", "takesRoom", "()Z"⟩, 26) := ⟨⟨by decide +kernel, by decide +kernel⟩, List.mem_of_getElem? (i := 787) (by decide +kernel), List.mem_of_getElem? (i := 987) (by decide +kernel), List.mem_of_getElem? (i := 988) (by decide +kernel)⟩
theorem lw_p39 : lw_okq (⟨"LastAwakeModel", "takes", "(II)Z"⟩, 26) := ⟨⟨by decide +kernel, by decide +kernel⟩, List.mem_of_getElem? (i := 787) (by decide +kernel), List.mem_of_getElem? (i := 991) (by decide +kernel), List.mem_of_getElem? (i := 992) (by decide +kernel)⟩
theorem lw_p40 : lw_okq (⟨"LastAwakeModel", "takesCell", "()Z"⟩, 26) := ⟨⟨by decide +kernel, by decide +kernel⟩, List.mem_of_getElem? (i := 787) (by decide +kernel), List.mem_of_getElem? (i := 995) (by decide +kernel), List.mem_of_getElem? (i := 996) (by decide +kernel)⟩
theorem lw_p41 : lw_okq (⟨"LastAwakeModel", "takesThing", "()Z"⟩, 26) := ⟨⟨by decide +kernel, by decide +kernel⟩, List.mem_of_getElem? (i := 787) (by decide +kernel), List.mem_of_getElem? (i := 999) (by decide +kernel), List.mem_of_getElem? (i := 1000) (by decide +kernel)⟩
theorem lw_p42 : lw_okq (⟨"LastAwakeModel", "takesSleeper", "()Z"⟩, 26) := ⟨⟨by decide +kernel, by decide +kernel⟩, List.mem_of_getElem? (i := 787) (by decide +kernel), List.mem_of_getElem? (i := 1003) (by decide +kernel), List.mem_of_getElem? (i := 1004) (by decide +kernel)⟩
theorem lw_p43 : lw_okq (⟨"LastAwakeModel", "takesUp", "()Z"⟩, 26) := ⟨⟨by decide +kernel, by decide +kernel⟩, List.mem_of_getElem? (i := 787) (by decide +kernel), List.mem_of_getElem? (i := 1007) (by decide +kernel), List.mem_of_getElem? (i := 1008) (by decide +kernel)⟩
theorem lw_p44 : lw_okq (⟨"LastAwakeModel", "copy", "(II)V"⟩, 26) := ⟨⟨by decide +kernel, by decide +kernel⟩, List.mem_of_getElem? (i := 787) (by decide +kernel), List.mem_of_getElem? (i := 1011) (by decide +kernel), List.mem_of_getElem? (i := 1012) (by decide +kernel)⟩
theorem lw_p45 : lw_okq (⟨"LastAwakeModel", "wayOf", "(II)I"⟩, 26) := ⟨⟨by decide +kernel, by decide +kernel⟩, List.mem_of_getElem? (i := 787) (by decide +kernel), List.mem_of_getElem? (i := 1019) (by decide +kernel), List.mem_of_getElem? (i := 1020) (by decide +kernel)⟩
theorem lw_p46 : lw_okq (⟨"LastAwakeModel", "areBeside", "(II)Z"⟩, 26) := ⟨⟨by decide +kernel, by decide +kernel⟩, List.mem_of_getElem? (i := 787) (by decide +kernel), List.mem_of_getElem? (i := 1024) (by decide +kernel), List.mem_of_getElem? (i := 1025) (by decide +kernel)⟩
theorem lw_p47 : lw_okq (⟨"LastAwakeModel", "stepTo", "(I)I"⟩, 26) := ⟨⟨by decide +kernel, by decide +kernel⟩, List.mem_of_getElem? (i := 787) (by decide +kernel), List.mem_of_getElem? (i := 1028) (by decide +kernel), List.mem_of_getElem? (i := 1029) (by decide +kernel)⟩
def lw_privs_3 : List (MethodName × Nat) := [(⟨"LastAwakeModel", "reads", "()Z"⟩, 26), (⟨"LastAwakeModel", "token", "()V"⟩, 26), (⟨"LastAwakeModel", "byteAt", "(I)I"⟩, 26), (⟨"LastAwakeModel", "wordNow", "()I"⟩, 26), (⟨"LastAwakeModel", "isNamed", "(IIIII)Z"⟩, 26), (⟨"LastAwakeModel", "takesItem", "(I)Z"⟩, 26), (⟨"LastAwakeModel", "takesRoom", "()Z"⟩, 26), (⟨"LastAwakeModel", "takes", "(II)Z"⟩, 26), (⟨"LastAwakeModel", "takesCell", "()Z"⟩, 26), (⟨"LastAwakeModel", "takesThing", "()Z"⟩, 26), (⟨"LastAwakeModel", "takesSleeper", "()Z"⟩, 26), (⟨"LastAwakeModel", "takesUp", "()Z"⟩, 26), (⟨"LastAwakeModel", "copy", "(II)V"⟩, 26), (⟨"LastAwakeModel", "wayOf", "(II)I"⟩, 26), (⟨"LastAwakeModel", "areBeside", "(II)Z"⟩, 26), (⟨"LastAwakeModel", "stepTo", "(I)I"⟩, 26)]
theorem lw_r3 : ∀ q ∈ lw_privs_3, lw_okq q := List.forall_mem_cons.mpr ⟨lw_p32, List.forall_mem_cons.mpr ⟨lw_p33, List.forall_mem_cons.mpr ⟨lw_p34, List.forall_mem_cons.mpr ⟨lw_p35, List.forall_mem_cons.mpr ⟨lw_p36, List.forall_mem_cons.mpr ⟨lw_p37, List.forall_mem_cons.mpr ⟨lw_p38, List.forall_mem_cons.mpr ⟨lw_p39, List.forall_mem_cons.mpr ⟨lw_p40, List.forall_mem_cons.mpr ⟨lw_p41, List.forall_mem_cons.mpr ⟨lw_p42, List.forall_mem_cons.mpr ⟨lw_p43, List.forall_mem_cons.mpr ⟨lw_p44, List.forall_mem_cons.mpr ⟨lw_p45, List.forall_mem_cons.mpr ⟨lw_p46, List.forall_mem_cons.mpr ⟨lw_p47, fun _ h => absurd h List.not_mem_nil⟩⟩⟩⟩⟩⟩⟩⟩⟩⟩⟩⟩⟩⟩⟩⟩
theorem lw_p48 : lw_okq (⟨"LastAwakeModel", "layNow", "()V"⟩, 26) := ⟨⟨by decide +kernel, by decide +kernel⟩, List.mem_of_getElem? (i := 787) (by decide +kernel), List.mem_of_getElem? (i := 1044) (by decide +kernel), List.mem_of_getElem? (i := 1045) (by decide +kernel)⟩
theorem lw_p49 : lw_okq (⟨"LastAwakeModel", "minds", "()V"⟩, 26) := ⟨⟨by decide +kernel, by decide +kernel⟩, List.mem_of_getElem? (i := 787) (by decide +kernel), List.mem_of_getElem? (i := 1048) (by decide +kernel), List.mem_of_getElem? (i := 1049) (by decide +kernel)⟩
theorem lw_p50 : lw_okq (⟨"LastAwakeModel", "goNight", "()V"⟩, 26) := ⟨⟨by decide +kernel, by decide +kernel⟩, List.mem_of_getElem? (i := 787) (by decide +kernel), List.mem_of_getElem? (i := 1052) (by decide +kernel), List.mem_of_getElem? (i := 1053) (by decide +kernel)⟩
theorem lw_p51 : lw_okq (⟨"LastAwakeModel", "waits", "(I)I"⟩, 26) := ⟨⟨by decide +kernel, by decide +kernel⟩, List.mem_of_getElem? (i := 787) (by decide +kernel), List.mem_of_getElem? (i := 1056) (by decide +kernel), List.mem_of_getElem? (i := 1057) (by decide +kernel)⟩
theorem lw_p52 : lw_okq (⟨"LastAwakeModel", "pays", "()V"⟩, 26) := ⟨⟨by decide +kernel, by decide +kernel⟩, List.mem_of_getElem? (i := 787) (by decide +kernel), List.mem_of_getElem? (i := 1060) (by decide +kernel), List.mem_of_getElem? (i := 1061) (by decide +kernel)⟩
theorem lw_p53 : lw_okq (⟨"LastAwakeModel", "costOf", "(I)I"⟩, 26) := ⟨⟨by decide +kernel, by decide +kernel⟩, List.mem_of_getElem? (i := 787) (by decide +kernel), List.mem_of_getElem? (i := 1064) (by decide +kernel), List.mem_of_getElem? (i := 1065) (by decide +kernel)⟩
theorem lw_p54 : lw_okq (⟨"LastAwakeModel", "feltBy", "(I)I"⟩, 26) := ⟨⟨by decide +kernel, by decide +kernel⟩, List.mem_of_getElem? (i := 787) (by decide +kernel), List.mem_of_getElem? (i := 1081) (by decide +kernel), List.mem_of_getElem? (i := 1082) (by decide +kernel)⟩
theorem lw_p55 : lw_okq (⟨"LastAwakeModel", "sumOf", "(I)I"⟩, 26) := ⟨⟨by decide +kernel, by decide +kernel⟩, List.mem_of_getElem? (i := 787) (by decide +kernel), List.mem_of_getElem? (i := 1098) (by decide +kernel), List.mem_of_getElem? (i := 1099) (by decide +kernel)⟩
theorem lw_p56 : lw_okq (⟨"LastAwakeModel", "layWithout", "()V"⟩, 26) := ⟨⟨by decide +kernel, by decide +kernel⟩, List.mem_of_getElem? (i := 787) (by decide +kernel), List.mem_of_getElem? (i := 1107) (by decide +kernel), List.mem_of_getElem? (i := 1108) (by decide +kernel)⟩
theorem lw_p57 : lw_okq (⟨"LastAwakeModel", "layCosts", "(II)V"⟩, 26) := ⟨⟨by decide +kernel, by decide +kernel⟩, List.mem_of_getElem? (i := 787) (by decide +kernel), List.mem_of_getElem? (i := 1120) (by decide +kernel), List.mem_of_getElem? (i := 1121) (by decide +kernel)⟩
theorem lw_p58 : lw_okq (⟨"LastAwakeModel", "mostBy", "(II)I"⟩, 26) := ⟨⟨by decide +kernel, by decide +kernel⟩, List.mem_of_getElem? (i := 787) (by decide +kernel), List.mem_of_getElem? (i := 1132) (by decide +kernel), List.mem_of_getElem? (i := 1133) (by decide +kernel)⟩
theorem lw_p59 : lw_okq (⟨"LastAwakeModel", "tells", "(JJ)V"⟩, 26) := ⟨⟨by decide +kernel, by decide +kernel⟩, List.mem_of_getElem? (i := 787) (by decide +kernel), List.mem_of_getElem? (i := 1144) (by decide +kernel), List.mem_of_getElem? (i := 1145) (by decide +kernel)⟩
theorem lw_p60 : lw_okq (⟨"LastAwakeModel", "liarsIf", "(I)I"⟩, 26) := ⟨⟨by decide +kernel, by decide +kernel⟩, List.mem_of_getElem? (i := 787) (by decide +kernel), List.mem_of_getElem? (i := 1171) (by decide +kernel), List.mem_of_getElem? (i := 1172) (by decide +kernel)⟩
theorem lw_p61 : lw_okq (⟨"LastAwakeModel", "countOf", "(I)I"⟩, 26) := ⟨⟨by decide +kernel, by decide +kernel⟩, List.mem_of_getElem? (i := 787) (by decide +kernel), List.mem_of_getElem? (i := 1205) (by decide +kernel), List.mem_of_getElem? (i := 1206) (by decide +kernel)⟩
theorem lw_p62 : lw_okq (⟨"LastAwakeModel", "mix", "(J)V"⟩, 26) := ⟨⟨by decide +kernel, by decide +kernel⟩, List.mem_of_getElem? (i := 787) (by decide +kernel), List.mem_of_getElem? (i := 1214) (by decide +kernel), List.mem_of_getElem? (i := 1215) (by decide +kernel)⟩
def lw_privs_4 : List (MethodName × Nat) := [(⟨"LastAwakeModel", "layNow", "()V"⟩, 26), (⟨"LastAwakeModel", "minds", "()V"⟩, 26), (⟨"LastAwakeModel", "goNight", "()V"⟩, 26), (⟨"LastAwakeModel", "waits", "(I)I"⟩, 26), (⟨"LastAwakeModel", "pays", "()V"⟩, 26), (⟨"LastAwakeModel", "costOf", "(I)I"⟩, 26), (⟨"LastAwakeModel", "feltBy", "(I)I"⟩, 26), (⟨"LastAwakeModel", "sumOf", "(I)I"⟩, 26), (⟨"LastAwakeModel", "layWithout", "()V"⟩, 26), (⟨"LastAwakeModel", "layCosts", "(II)V"⟩, 26), (⟨"LastAwakeModel", "mostBy", "(II)I"⟩, 26), (⟨"LastAwakeModel", "tells", "(JJ)V"⟩, 26), (⟨"LastAwakeModel", "liarsIf", "(I)I"⟩, 26), (⟨"LastAwakeModel", "countOf", "(I)I"⟩, 26), (⟨"LastAwakeModel", "mix", "(J)V"⟩, 26)]
theorem lw_r4 : ∀ q ∈ lw_privs_4, lw_okq q := List.forall_mem_cons.mpr ⟨lw_p48, List.forall_mem_cons.mpr ⟨lw_p49, List.forall_mem_cons.mpr ⟨lw_p50, List.forall_mem_cons.mpr ⟨lw_p51, List.forall_mem_cons.mpr ⟨lw_p52, List.forall_mem_cons.mpr ⟨lw_p53, List.forall_mem_cons.mpr ⟨lw_p54, List.forall_mem_cons.mpr ⟨lw_p55, List.forall_mem_cons.mpr ⟨lw_p56, List.forall_mem_cons.mpr ⟨lw_p57, List.forall_mem_cons.mpr ⟨lw_p58, List.forall_mem_cons.mpr ⟨lw_p59, List.forall_mem_cons.mpr ⟨lw_p60, List.forall_mem_cons.mpr ⟨lw_p61, List.forall_mem_cons.mpr ⟨lw_p62, fun _ h => absurd h List.not_mem_nil⟩⟩⟩⟩⟩⟩⟩⟩⟩⟩⟩⟩⟩⟩⟩
def lw_privs : List (MethodName × Nat) := lw_privs_1 ++ (lw_privs_2 ++ (lw_privs_3 ++ (lw_privs_4)))
def lw_tbl : List Cond := k2_sels lw_privs ++ tables_1
theorem lw_privs_ok : ∀ q ∈ lw_privs, lw_okq q := by
  show ∀ q ∈ lw_privs_1 ++ (lw_privs_2 ++ (lw_privs_3 ++ (lw_privs_4))), lw_okq q
  exact List.forall_mem_append.mpr ⟨lw_r1, List.forall_mem_append.mpr ⟨lw_r2, List.forall_mem_append.mpr ⟨lw_r3, lw_r4⟩⟩⟩
def RX0 : String := "LastAwake$Beds"
def TX0 : u_T := fun k => match k with
  | 0 => ("LastAwake$Beds", "sleepers", "[LLastAwake$Sleeper;", true)
  | 1 => ("LastAwake$Beds", "size", "I", false)
  | 2 => ("LastAwake$Beds", "nights", "I", false)
  | 3 => ("LastAwake$Beds", "undoable", "I", false)
  | _ => ("LastAwake$Beds", "past", "[[I", true)
def tyX0 : Nat → FieldType := fun k => match k with
  | 0 => .array (.object "LastAwake$Sleeper")
  | 1 => .int
  | 2 => .int
  | 3 => .int
  | _ => .array (.array .int)
abbrev wsX00 : List Cond := u_ws RX0 TX0 5
theorem nmX0 : ∀ a, a < 5 → ∀ b, b < 5 → a ≠ b → (TX0 a).2.1 ≠ (TX0 b).2.1 := by decide +kernel
theorem tyX0_ok : ∀ k, k < 5 → parseFieldDescriptor (TX0 k).2.2.1 = some (tyX0 k) := by decide +kernel
abbrev cX0_init : ByteArray := prog_2_method_1_code
def yX0_init : MethodName := ⟨RX0, "<init>", "()V"⟩
abbrev cX0_startAnew : ByteArray := prog_2_method_2_code
def yX0_startAnew : MethodName := ⟨RX0, "startAnew", "()V"⟩
abbrev cX0_copyFrom : ByteArray := prog_2_method_3_code
def yX0_copyFrom : MethodName := ⟨RX0, "copyFrom", "(LLastAwake$Beds;)V"⟩
abbrev cX0_has : ByteArray := prog_2_method_4_code
def yX0_has : MethodName := ⟨RX0, "has", "(I)Z"⟩
abbrev cX0_welcome : ByteArray := prog_2_method_5_code
def yX0_welcome : MethodName := ⟨RX0, "welcome", "(IIIII)I"⟩
abbrev cX0_leastCount : ByteArray := prog_2_method_6_code
def yX0_leastCount : MethodName := ⟨RX0, "leastCount", "()I"⟩
abbrev cX0_sum : ByteArray := prog_2_method_7_code
def yX0_sum : MethodName := ⟨RX0, "sum", "(I)I"⟩
abbrev cX0_feltBy : ByteArray := prog_2_method_8_code
def yX0_feltBy : MethodName := ⟨RX0, "feltBy", "(I)I"⟩
abbrev cX0_foresee : ByteArray := prog_2_method_9_code
def yX0_foresee : MethodName := ⟨RX0, "foresee", "(LLastAwake$Night;)V"⟩
abbrev cX0_rememberNight : ByteArray := prog_2_method_10_code
def yX0_rememberNight : MethodName := ⟨RX0, "rememberNight", "()V"⟩
abbrev cX0_forgetNight : ByteArray := prog_2_method_11_code
def yX0_forgetNight : MethodName := ⟨RX0, "forgetNight", "()V"⟩
abbrev cX0_drawUps : ByteArray := prog_2_method_12_code
def yX0_drawUps : MethodName := ⟨RX0, "drawUps", "(J)J"⟩
abbrev cX0_mixInto : ByteArray := prog_2_method_13_code
def yX0_mixInto : MethodName := ⟨RX0, "mixInto", "(J)J"⟩
def RX1 : String := "LastAwake$Floor"
def TX1 : u_T := fun k => match k with
  | 0 => ("LastAwake$Floor", "w", "I", false)
  | 1 => ("LastAwake$Floor", "h", "I", false)
  | 2 => ("LastAwake$Floor", "switchCell", "I", false)
  | 3 => ("LastAwake$Floor", "bedCell", "I", false)
  | 4 => ("LastAwake$Floor", "moonlit", "I", false)
  | 5 => ("LastAwake$Floor", "cords", "I", false)
  | 6 => ("LastAwake$Floor", "things", "[I", true)
  | 7 => ("LastAwake$Floor", "ways", "[I", true)
  | _ => ("LastAwake$Floor", "walk", "I", false)
def tyX1 : Nat → FieldType := fun k => match k with
  | 0 => .int
  | 1 => .int
  | 2 => .int
  | 3 => .int
  | 4 => .int
  | 5 => .int
  | 6 => .array .int
  | 7 => .array .int
  | _ => .int
abbrev wsX10 : List Cond := u_ws RX1 TX1 9
theorem nmX1 : ∀ a, a < 9 → ∀ b, b < 9 → a ≠ b → (TX1 a).2.1 ≠ (TX1 b).2.1 := by decide +kernel
theorem tyX1_ok : ∀ k, k < 9 → parseFieldDescriptor (TX1 k).2.2.1 = some (tyX1 k) := by decide +kernel
abbrev cX1_init : ByteArray := prog_3_method_1_code
def yX1_init : MethodName := ⟨RX1, "<init>", "()V"⟩
abbrev cX1_layOut : ByteArray := prog_3_method_2_code
def yX1_layOut : MethodName := ⟨RX1, "layOut", "(II)V"⟩
abbrev cX1_copyFrom : ByteArray := prog_3_method_3_code
def yX1_copyFrom : MethodName := ⟨RX1, "copyFrom", "(LLastAwake$Floor;)V"⟩
abbrev cX1_has : ByteArray := prog_3_method_4_code
def yX1_has : MethodName := ⟨RX1, "has", "(I)Z"⟩
abbrev cX1_putSwitch : ByteArray := prog_3_method_5_code
def yX1_putSwitch : MethodName := ⟨RX1, "putSwitch", "(I)V"⟩
abbrev cX1_putBed : ByteArray := prog_3_method_6_code
def yX1_putBed : MethodName := ⟨RX1, "putBed", "(I)V"⟩
abbrev cX1_putThings : ByteArray := prog_3_method_7_code
def yX1_putThings : MethodName := ⟨RX1, "putThings", "(II)V"⟩
abbrev cX1_shineOn : ByteArray := prog_3_method_8_code
def yX1_shineOn : MethodName := ⟨RX1, "shineOn", "(I)V"⟩
abbrev cX1_measureWalk : ByteArray := prog_3_method_9_code
def yX1_measureWalk : MethodName := ⟨RX1, "measureWalk", "()V"⟩
abbrev cX1_wayBetween : ByteArray := prog_3_method_10_code
def yX1_wayBetween : MethodName := ⟨RX1, "wayBetween", "(II)I"⟩
abbrev cX1_nearestBed : ByteArray := prog_3_method_11_code
def yX1_nearestBed : MethodName := ⟨RX1, "nearestBed", "()I"⟩
abbrev cX1_measureWaysTo : ByteArray := prog_3_method_12_code
def yX1_measureWaysTo : MethodName := ⟨RX1, "measureWaysTo", "(I)V"⟩
abbrev cX1_shorten : ByteArray := prog_3_method_13_code
def yX1_shorten : MethodName := ⟨RX1, "shorten", "(II)Z"⟩
abbrev cX1_wayOver : ByteArray := prog_3_method_14_code
def yX1_wayOver : MethodName := ⟨RX1, "wayOver", "(II)I"⟩
abbrev cX1_mixInto : ByteArray := prog_3_method_15_code
def yX1_mixInto : MethodName := ⟨RX1, "mixInto", "(J)J"⟩
def RX2 : String := "LastAwake$Night"
def TX2 : u_T := fun k => match k with
  | 0 => ("LastAwake$Night", "minute", "I", false)
  | 1 => ("LastAwake$Night", "putOutBy", "I", false)
  | _ => ("LastAwake$Night", "anyhow", "Z", false)
def tyX2 : Nat → FieldType := fun k => match k with
  | 0 => .int
  | 1 => .int
  | _ => .boolean
abbrev wsX20 : List Cond := u_ws RX2 TX2 3
theorem nmX2 : ∀ a, a < 3 → ∀ b, b < 3 → a ≠ b → (TX2 a).2.1 ≠ (TX2 b).2.1 := by decide +kernel
theorem tyX2_ok : ∀ k, k < 3 → parseFieldDescriptor (TX2 k).2.2.1 = some (tyX2 k) := by decide +kernel
abbrev cX2_init : ByteArray := prog_4_method_1_code
def yX2_init : MethodName := ⟨RX2, "<init>", "()V"⟩
abbrev cX2_endAt : ByteArray := prog_4_method_2_code
def yX2_endAt : MethodName := ⟨RX2, "endAt", "(IIZ)V"⟩
def RX3 : String := "LastAwake$Notes"
def TX3 : u_T := fun k => match k with
  | 0 => ("LastAwake$Notes", "size", "I", false)
  | 1 => ("LastAwake$Notes", "writers", "[I", true)
  | _ => ("LastAwake$Notes", "named", "[I", true)
def tyX3 : Nat → FieldType := fun k => match k with
  | 0 => .int
  | 1 => .array .int
  | _ => .array .int
abbrev wsX30 : List Cond := u_ws RX3 TX3 3
theorem nmX3 : ∀ a, a < 3 → ∀ b, b < 3 → a ≠ b → (TX3 a).2.1 ≠ (TX3 b).2.1 := by decide +kernel
theorem tyX3_ok : ∀ k, k < 3 → parseFieldDescriptor (TX3 k).2.2.1 = some (tyX3 k) := by decide +kernel
abbrev cX3_init : ByteArray := prog_5_method_1_code
def yX3_init : MethodName := ⟨RX3, "<init>", "()V"⟩
abbrev cX3_copyFrom : ByteArray := prog_5_method_2_code
def yX3_copyFrom : MethodName := ⟨RX3, "copyFrom", "(LLastAwake$Notes;)V"⟩
abbrev cX3_write : ByteArray := prog_5_method_3_code
def yX3_write : MethodName := ⟨RX3, "write", "(II)I"⟩
abbrev cX3_suspects : ByteArray := prog_5_method_4_code
def yX3_suspects : MethodName := ⟨RX3, "suspects", "(II)I"⟩
abbrev cX3_liarsIf : ByteArray := prog_5_method_5_code
def yX3_liarsIf : MethodName := ⟨RX3, "liarsIf", "(I)I"⟩
abbrev cX3_mixInto : ByteArray := prog_5_method_6_code
def yX3_mixInto : MethodName := ⟨RX3, "mixInto", "(J)J"⟩
def RX4 : String := "LastAwake$Script"
def TX4 : u_T := fun k => match k with
  | 0 => ("LastAwake$Script", "length", "I", false)
  | 1 => ("LastAwake$Script", "bytes", "[B", true)
  | 2 => ("LastAwake$Script", "numbers", "[I", true)
  | 3 => ("LastAwake$Script", "token", "I", false)
  | 4 => ("LastAwake$Script", "start", "I", false)
  | 5 => ("LastAwake$Script", "end", "I", false)
  | _ => ("LastAwake$Script", "value", "I", false)
def tyX4 : Nat → FieldType := fun k => match k with
  | 0 => .int
  | 1 => .array .byte
  | 2 => .array .int
  | 3 => .int
  | 4 => .int
  | 5 => .int
  | _ => .int
abbrev wsX40 : List Cond := u_ws RX4 TX4 7
theorem nmX4 : ∀ a, a < 7 → ∀ b, b < 7 → a ≠ b → (TX4 a).2.1 ≠ (TX4 b).2.1 := by decide +kernel
theorem tyX4_ok : ∀ k, k < 7 → parseFieldDescriptor (TX4 k).2.2.1 = some (tyX4 k) := by decide +kernel
abbrev cX4_init : ByteArray := prog_6_method_1_code
def yX4_init : MethodName := ⟨RX4, "<init>", "()V"⟩
abbrev cX4_append : ByteArray := prog_6_method_2_code
def yX4_append : MethodName := ⟨RX4, "append", "(I)V"⟩
abbrev cX4_tellRoom : ByteArray := prog_6_method_3_code
def yX4_tellRoom : MethodName := ⟨RX4, "tellRoom", "(LLastAwake$State;)I"⟩
abbrev cX4_itemStands : ByteArray := prog_6_method_4_code
def yX4_itemStands : MethodName := ⟨RX4, "itemStands", "(LLastAwake$State;Z)Z"⟩
abbrev cX4_itemOfWord : ByteArray := prog_6_method_5_code
def yX4_itemOfWord : MethodName := ⟨RX4, "itemOfWord", "()I"⟩
abbrev cX4_wordIs : ByteArray := prog_6_method_6_code
def yX4_wordIs : MethodName := ⟨RX4, "wordIs", "(Ljava/lang/String;)Z"⟩
abbrev cX4_mostOfNumber : ByteArray := prog_6_method_7_code
def yX4_mostOfNumber : MethodName := ⟨RX4, "mostOfNumber", "(LLastAwake$State;II)I"⟩
abbrev cX4_apply : ByteArray := prog_6_method_8_code
def yX4_apply : MethodName := ⟨RX4, "apply", "(LLastAwake$State;I)V"⟩
abbrev cX4_nextToken : ByteArray := prog_6_method_9_code
def yX4_nextToken : MethodName := ⟨RX4, "nextToken", "()V"⟩
abbrev cX4_takeWord : ByteArray := prog_6_method_10_code
def yX4_takeWord : MethodName := ⟨RX4, "takeWord", "()V"⟩
abbrev cX4_takeNumber : ByteArray := prog_6_method_11_code
def yX4_takeNumber : MethodName := ⟨RX4, "takeNumber", "()V"⟩
abbrev cX4_isLetter : ByteArray := prog_6_method_12_code
def yX4_isLetter : MethodName := ⟨RX4, "isLetter", "(I)Z"⟩
abbrev cX4_isFigure : ByteArray := prog_6_method_13_code
def yX4_isFigure : MethodName := ⟨RX4, "isFigure", "(I)Z"⟩
def RX5 : String := "LastAwake$Sleeper"
def TX5 : u_T := fun k => match k with
  | _ => ("LastAwake$Sleeper", "traits", "[I", true)
def tyX5 : Nat → FieldType := fun k => match k with
  | _ => .array .int
abbrev wsX50 : List Cond := u_ws RX5 TX5 1
theorem nmX5 : ∀ a, a < 1 → ∀ b, b < 1 → a ≠ b → (TX5 a).2.1 ≠ (TX5 b).2.1 := by decide +kernel
theorem tyX5_ok : ∀ k, k < 1 → parseFieldDescriptor (TX5 k).2.2.1 = some (tyX5 k) := by decide +kernel
abbrev cX5_init : ByteArray := prog_7_method_1_code
def yX5_init : MethodName := ⟨RX5, "<init>", "()V"⟩
abbrev cX5_waits : ByteArray := prog_7_method_2_code
def yX5_waits : MethodName := ⟨RX5, "waits", "(I)I"⟩
abbrev cX5_isUpAnyhow : ByteArray := prog_7_method_3_code
def yX5_isUpAnyhow : MethodName := ⟨RX5, "isUpAnyhow", "()Z"⟩
abbrev cX5_lightCost : ByteArray := prog_7_method_4_code
def yX5_lightCost : MethodName := ⟨RX5, "lightCost", "(I)I"⟩
def RX6 : String := "LastAwake$State"
def TX6 : u_T := fun k => match k with
  | 0 => ("LastAwake$State", "floor", "LLastAwake$Floor;", true)
  | 1 => ("LastAwake$State", "beds", "LLastAwake$Beds;", true)
  | 2 => ("LastAwake$State", "notes", "LLastAwake$Notes;", true)
  | _ => ("LastAwake$State", "night", "LLastAwake$Night;", true)
def tyX6 : Nat → FieldType := fun k => match k with
  | 0 => .object "LastAwake$Floor"
  | 1 => .object "LastAwake$Beds"
  | 2 => .object "LastAwake$Notes"
  | _ => .object "LastAwake$Night"
abbrev wsX60 : List Cond := u_ws RX6 TX6 4
theorem nmX6 : ∀ a, a < 4 → ∀ b, b < 4 → a ≠ b → (TX6 a).2.1 ≠ (TX6 b).2.1 := by decide +kernel
theorem tyX6_ok : ∀ k, k < 4 → parseFieldDescriptor (TX6 k).2.2.1 = some (tyX6 k) := by decide +kernel
abbrev cX6_init : ByteArray := prog_8_method_1_code
def yX6_init : MethodName := ⟨RX6, "<init>", "()V"⟩
abbrev cX6_startAnew : ByteArray := prog_8_method_2_code
def yX6_startAnew : MethodName := ⟨RX6, "startAnew", "(II)V"⟩
abbrev cX6_copyFrom : ByteArray := prog_8_method_3_code
def yX6_copyFrom : MethodName := ⟨RX6, "copyFrom", "(LLastAwake$State;)V"⟩
abbrev cX6_foresee : ByteArray := prog_8_method_4_code
def yX6_foresee : MethodName := ⟨RX6, "foresee", "()V"⟩
abbrev cX6_spendNight : ByteArray := prog_8_method_5_code
def yX6_spendNight : MethodName := ⟨RX6, "spendNight", "()I"⟩
abbrev cX6_costTonight : ByteArray := prog_8_method_6_code
def yX6_costTonight : MethodName := ⟨RX6, "costTonight", "(I)I"⟩
abbrev cX6_errandTonight : ByteArray := prog_8_method_7_code
def yX6_errandTonight : MethodName := ⟨RX6, "errandTonight", "()I"⟩
abbrev cX6_errandOf : ByteArray := prog_8_method_8_code
def yX6_errandOf : MethodName := ⟨RX6, "errandOf", "(IZ)I"⟩
abbrev cX6_burden : ByteArray := prog_8_method_9_code
def yX6_burden : MethodName := ⟨RX6, "burden", "(III)I"⟩
abbrev cX6_leastOfTurns : ByteArray := prog_8_method_10_code
def yX6_leastOfTurns : MethodName := ⟨RX6, "leastOfTurns", "(I)I"⟩
abbrev cX6_turnsWithin : ByteArray := prog_8_method_11_code
def yX6_turnsWithin : MethodName := ⟨RX6, "turnsWithin", "(II)I"⟩
abbrev cX6_ownTurnsWithin : ByteArray := prog_8_method_12_code
def yX6_ownTurnsWithin : MethodName := ⟨RX6, "ownTurnsWithin", "(III)I"⟩
abbrev cX6_nextBurden : ByteArray := prog_8_method_13_code
def yX6_nextBurden : MethodName := ⟨RX6, "nextBurden", "(II)I"⟩
abbrev cX6_whoseTurn : ByteArray := prog_8_method_14_code
def yX6_whoseTurn : MethodName := ⟨RX6, "whoseTurn", "(III)I"⟩
def RX7 : String := "LastAwake"
def TX7 : u_T := fun k => match k with
  | 0 => ("LastAwake", "state", "LLastAwake$State;", true)
  | 1 => ("LastAwake", "trial", "LLastAwake$State;", true)
  | 2 => ("LastAwake", "images", "[LLastAwake$State;", true)
  | 3 => ("LastAwake", "script", "LLastAwake$Script;", true)
  | 4 => ("LastAwake", "refused", "[I", true)
  | 5 => ("LastAwake", "costsOfOne", "[[I", true)
  | 6 => ("LastAwake", "costsOfOther", "[[I", true)
  | 7 => ("LastAwake", "above", "J", false)
  | _ => ("LastAwake", "below", "J", false)
def tyX7 : Nat → FieldType := fun k => match k with
  | 0 => .object "LastAwake$State"
  | 1 => .object "LastAwake$State"
  | 2 => .array (.object "LastAwake$State")
  | 3 => .object "LastAwake$Script"
  | 4 => .array .int
  | 5 => .array (.array .int)
  | 6 => .array (.array .int)
  | 7 => .long
  | _ => .long
abbrev wsX70 : List Cond := u_ws RX7 TX7 9
theorem nmX7 : ∀ a, a < 9 → ∀ b, b < 9 → a ≠ b → (TX7 a).2.1 ≠ (TX7 b).2.1 := by decide +kernel
theorem tyX7_ok : ∀ k, k < 9 → parseFieldDescriptor (TX7 k).2.2.1 = some (tyX7 k) := by decide +kernel
abbrev cX7_init : ByteArray := prog_1_method_1_code
def yX7_init : MethodName := ⟨RX7, "<init>", "()V"⟩
abbrev cX7_room : ByteArray := prog_1_method_2_code
def yX7_room : MethodName := ⟨RX7, "room", "(II)I"⟩
abbrev cX7_place : ByteArray := prog_1_method_3_code
def yX7_place : MethodName := ⟨RX7, "place", "(II)I"⟩
abbrev cX7_things : ByteArray := prog_1_method_4_code
def yX7_things : MethodName := ⟨RX7, "things", "(II)I"⟩
abbrev cX7_moon : ByteArray := prog_1_method_5_code
def yX7_moon : MethodName := ⟨RX7, "moon", "(I)I"⟩
abbrev cX7_cord : ByteArray := prog_1_method_6_code
def yX7_cord : MethodName := ⟨RX7, "cord", "(I)I"⟩
abbrev cX7_sleeper : ByteArray := prog_1_method_7_code
def yX7_sleeper : MethodName := ⟨RX7, "sleeper", "(IIIII)I"⟩
abbrev cX7_become : ByteArray := prog_1_method_8_code
def yX7_become : MethodName := ⟨RX7, "become", "(III)I"⟩
abbrev cX7_type : ByteArray := prog_1_method_9_code
def yX7_type : MethodName := ⟨RX7, "type", "(I)I"⟩
abbrev cX7_clear : ByteArray := prog_1_method_10_code
def yX7_clear : MethodName := ⟨RX7, "clear", "()I"⟩
abbrev cX7_read : ByteArray := prog_1_method_11_code
def yX7_read : MethodName := ⟨RX7, "read", "()I"⟩
abbrev cX7_pass : ByteArray := prog_1_method_12_code
def yX7_pass : MethodName := ⟨RX7, "pass", "(I)I"⟩
abbrev cX7_undo : ByteArray := prog_1_method_13_code
def yX7_undo : MethodName := ⟨RX7, "undo", "()I"⟩
abbrev cX7_about : ByteArray := prog_1_method_14_code
def yX7_about : MethodName := ⟨RX7, "about", "(II)I"⟩
abbrev cX7_way : ByteArray := prog_1_method_15_code
def yX7_way : MethodName := ⟨RX7, "way", "(II)I"⟩
abbrev cX7_bed : ByteArray := prog_1_method_16_code
def yX7_bed : MethodName := ⟨RX7, "bed", "()I"⟩
abbrev cX7_tonight : ByteArray := prog_1_method_17_code
def yX7_tonight : MethodName := ⟨RX7, "tonight", "(I)I"⟩
abbrev cX7_cost : ByteArray := prog_1_method_18_code
def yX7_cost : MethodName := ⟨RX7, "cost", "(I)I"⟩
abbrev cX7_foretold : ByteArray := prog_1_method_19_code
def yX7_foretold : MethodName := ⟨RX7, "foretold", "(III)I"⟩
abbrev cX7_worth : ByteArray := prog_1_method_20_code
def yX7_worth : MethodName := ⟨RX7, "worth", "(I)I"⟩
abbrev cX7_reading : ByteArray := prog_1_method_21_code
def yX7_reading : MethodName := ⟨RX7, "reading", "(I)I"⟩
abbrev cX7_waiting : ByteArray := prog_1_method_22_code
def yX7_waiting : MethodName := ⟨RX7, "waiting", "(III)I"⟩
abbrev cX7_turns : ByteArray := prog_1_method_23_code
def yX7_turns : MethodName := ⟨RX7, "turns", "(II)I"⟩
abbrev cX7_shoe : ByteArray := prog_1_method_24_code
def yX7_shoe : MethodName := ⟨RX7, "shoe", "(III)I"⟩
abbrev cX7_clap : ByteArray := prog_1_method_25_code
def yX7_clap : MethodName := ⟨RX7, "clap", "(III)I"⟩
abbrev cX7_asleep : ByteArray := prog_1_method_26_code
def yX7_asleep : MethodName := ⟨RX7, "asleep", "(IIIII)I"⟩
abbrev cX7_note : ByteArray := prog_1_method_27_code
def yX7_note : MethodName := ⟨RX7, "note", "(II)I"⟩
abbrev cX7_burn : ByteArray := prog_1_method_28_code
def yX7_burn : MethodName := ⟨RX7, "burn", "()I"⟩
abbrev cX7_who : ByteArray := prog_1_method_29_code
def yX7_who : MethodName := ⟨RX7, "who", "(I)I"⟩
abbrev cX7_drawn : ByteArray := prog_1_method_30_code
def yX7_drawn : MethodName := ⟨RX7, "drawn", "(III)I"⟩
abbrev cX7_part : ByteArray := prog_1_method_31_code
def yX7_part : MethodName := ⟨RX7, "part", "(I)J"⟩
abbrev cX7_image : ByteArray := prog_1_method_32_code
def yX7_image : MethodName := ⟨RX7, "image", "(I)I"⟩
abbrev cX7_from : ByteArray := prog_1_method_33_code
def yX7_from : MethodName := ⟨RX7, "from", "(I)I"⟩
abbrev cX7_status : ByteArray := prog_1_method_34_code
def yX7_status : MethodName := ⟨RX7, "status", "(I)I"⟩
abbrev cX7_count : ByteArray := prog_1_method_35_code
def yX7_count : MethodName := ⟨RX7, "count", "(I)I"⟩
abbrev cX7_digest : ByteArray := prog_1_method_36_code
def yX7_digest : MethodName := ⟨RX7, "digest", "()J"⟩
abbrev cX7_within : ByteArray := prog_1_method_37_code
def yX7_within : MethodName := ⟨RX7, "within", "(III)Z"⟩
abbrev cX7_fitsTrait : ByteArray := prog_1_method_38_code
def yX7_fitsTrait : MethodName := ⟨RX7, "fitsTrait", "(II)Z"⟩
abbrev cX7_bad : ByteArray := prog_1_method_39_code
def yX7_bad : MethodName := ⟨RX7, "bad", "(I)I"⟩
abbrev cX7_no : ByteArray := prog_1_method_40_code
def yX7_no : MethodName := ⟨RX7, "no", "()I"⟩
abbrev cX7_full : ByteArray := prog_1_method_41_code
def yX7_full : MethodName := ⟨RX7, "full", "()I"⟩
abbrev cX7_howMany : ByteArray := prog_1_method_42_code
def yX7_howMany : MethodName := ⟨RX7, "howMany", "(I)I"⟩
abbrev cX7_joyOfReading : ByteArray := prog_1_method_43_code
def yX7_joyOfReading : MethodName := ⟨RX7, "joyOfReading", "(II)I"⟩
abbrev cX7_fillCosts : ByteArray := prog_1_method_44_code
def yX7_fillCosts : MethodName := ⟨RX7, "fillCosts", "(II)V"⟩
abbrev cX7_pairRests : ByteArray := prog_1_method_45_code
def yX7_pairRests : MethodName := ⟨RX7, "pairRests", "(II)Z"⟩
abbrev cX7_turnedAbout : ByteArray := prog_1_method_46_code
def yX7_turnedAbout : MethodName := ⟨RX7, "turnedAbout", "(JJI)J"⟩
abbrev cX7_setFraction : ByteArray := prog_1_method_47_code
def yX7_setFraction : MethodName := ⟨RX7, "setFraction", "(JJ)V"⟩
abbrev cX7_commonDivisor : ByteArray := prog_1_method_48_code
def yX7_commonDivisor : MethodName := ⟨RX7, "commonDivisor", "(JJ)J"⟩
def RX8 : String := "LastAwakeModel"
def TX8 : u_T := fun k => match k with
  | 0 => ("LastAwakeModel", "w", "[I", true)
  | 1 => ("LastAwakeModel", "isKept", "[Z", true)
  | 2 => ("LastAwakeModel", "text", "[I", true)
  | 3 => ("LastAwakeModel", "texted", "I", false)
  | 4 => ("LastAwakeModel", "refused", "[I", true)
  | 5 => ("LastAwakeModel", "above", "J", false)
  | 6 => ("LastAwakeModel", "below", "J", false)
  | 7 => ("LastAwakeModel", "at", "I", false)
  | 8 => ("LastAwakeModel", "start", "I", false)
  | 9 => ("LastAwakeModel", "isFigures", "Z", false)
  | 10 => ("LastAwakeModel", "isWord", "Z", false)
  | 11 => ("LastAwakeModel", "value", "I", false)
  | 12 => ("LastAwakeModel", "items", "I", false)
  | 13 => ("LastAwakeModel", "far", "[I", true)
  | 14 => ("LastAwakeModel", "ups", "[I", true)
  | 15 => ("LastAwakeModel", "counts", "[I", true)
  | 16 => ("LastAwakeModel", "paid", "[I", true)
  | 17 => ("LastAwakeModel", "bedWay", "I", false)
  | 18 => ("LastAwakeModel", "cordNow", "I", false)
  | 19 => ("LastAwakeModel", "minute", "I", false)
  | 20 => ("LastAwakeModel", "whoNow", "I", false)
  | 21 => ("LastAwakeModel", "anyhow", "I", false)
  | 22 => ("LastAwakeModel", "without", "[I", true)
  | 23 => ("LastAwakeModel", "costsOne", "[I", true)
  | 24 => ("LastAwakeModel", "costsOther", "[I", true)
  | _ => ("LastAwakeModel", "h", "J", false)
def tyX8 : Nat → FieldType := fun k => match k with
  | 0 => .array .int
  | 1 => .array .boolean
  | 2 => .array .int
  | 3 => .int
  | 4 => .array .int
  | 5 => .long
  | 6 => .long
  | 7 => .int
  | 8 => .int
  | 9 => .boolean
  | 10 => .boolean
  | 11 => .int
  | 12 => .int
  | 13 => .array .int
  | 14 => .array .int
  | 15 => .array .int
  | 16 => .array .int
  | 17 => .int
  | 18 => .int
  | 19 => .int
  | 20 => .int
  | 21 => .int
  | 22 => .array .int
  | 23 => .array .int
  | 24 => .array .int
  | _ => .long
abbrev wsX80 : List Cond := u_ws RX8 TX8 26
theorem nmX8 : ∀ a, a < 26 → ∀ b, b < 26 → a ≠ b → (TX8 a).2.1 ≠ (TX8 b).2.1 := by decide +kernel
theorem tyX8_ok : ∀ k, k < 26 → parseFieldDescriptor (TX8 k).2.2.1 = some (tyX8 k) := by decide +kernel
abbrev cX8_init : ByteArray := prog_10_method_1_code
def yX8_init : MethodName := ⟨RX8, "<init>", "()V"⟩
abbrev cX8_in : ByteArray := prog_10_method_3_code
def yX8_in : MethodName := ⟨RX8, "in", "(JJJ)Z"⟩
abbrev cX8_has : ByteArray := prog_10_method_4_code
def yX8_has : MethodName := ⟨RX8, "has", "(II)Z"⟩
abbrev cX8_more : ByteArray := prog_10_method_5_code
def yX8_more : MethodName := ⟨RX8, "more", "(II)I"⟩
abbrev cX8_met : ByteArray := prog_10_method_6_code
def yX8_met : MethodName := ⟨RX8, "met", "(I)I"⟩
abbrev cX8_bad : ByteArray := prog_10_method_7_code
def yX8_bad : MethodName := ⟨RX8, "bad", "()I"⟩
abbrev cX8_badAs : ByteArray := prog_10_method_8_code
def yX8_badAs : MethodName := ⟨RX8, "badAs", "(I)I"⟩
abbrev cX8_copy : ByteArray := prog_10_method_9_code
def yX8_copy : MethodName := ⟨RX8, "copy", "(II)V"⟩
abbrev cX8_begins : ByteArray := prog_10_method_10_code
def yX8_begins : MethodName := ⟨RX8, "begins", "(III)V"⟩
abbrev cX8_isCell : ByteArray := prog_10_method_11_code
def yX8_isCell : MethodName := ⟨RX8, "isCell", "(II)Z"⟩
abbrev cX8_isOne : ByteArray := prog_10_method_12_code
def yX8_isOne : MethodName := ⟨RX8, "isOne", "(I)Z"⟩
abbrev cX8_most : ByteArray := prog_10_method_13_code
def yX8_most : MethodName := ⟨RX8, "most", "(I)I"⟩
abbrev cX8_comes : ByteArray := prog_10_method_14_code
def yX8_comes : MethodName := ⟨RX8, "comes", "(IIIIII)V"⟩
abbrev cX8_room : ByteArray := prog_10_method_15_code
def yX8_room : MethodName := ⟨RX8, "room", "(II)I"⟩
abbrev cX8_becomes : ByteArray := prog_10_method_16_code
def yX8_becomes : MethodName := ⟨RX8, "becomes", "(II)I"⟩
abbrev cX8_place : ByteArray := prog_10_method_17_code
def yX8_place : MethodName := ⟨RX8, "place", "(II)I"⟩
abbrev cX8_things : ByteArray := prog_10_method_18_code
def yX8_things : MethodName := ⟨RX8, "things", "(II)I"⟩
abbrev cX8_moon : ByteArray := prog_10_method_19_code
def yX8_moon : MethodName := ⟨RX8, "moon", "(I)I"⟩
abbrev cX8_cord : ByteArray := prog_10_method_20_code
def yX8_cord : MethodName := ⟨RX8, "cord", "(I)I"⟩
abbrev cX8_sleeper : ByteArray := prog_10_method_21_code
def yX8_sleeper : MethodName := ⟨RX8, "sleeper", "(IIIII)I"⟩
abbrev cX8_become : ByteArray := prog_10_method_22_code
def yX8_become : MethodName := ⟨RX8, "become", "(III)I"⟩
abbrev cX8_type : ByteArray := prog_10_method_23_code
def yX8_type : MethodName := ⟨RX8, "type", "(I)I"⟩
abbrev cX8_clear : ByteArray := prog_10_method_24_code
def yX8_clear : MethodName := ⟨RX8, "clear", "()I"⟩
abbrev cX8_byteAt : ByteArray := prog_10_method_25_code
def yX8_byteAt : MethodName := ⟨RX8, "byteAt", "(I)I"⟩
abbrev cX8_token : ByteArray := prog_10_method_26_code
def yX8_token : MethodName := ⟨RX8, "token", "()V"⟩
abbrev cX8_takes : ByteArray := prog_10_method_27_code
def yX8_takes : MethodName := ⟨RX8, "takes", "(II)Z"⟩
abbrev cX8_isNamed : ByteArray := prog_10_method_28_code
def yX8_isNamed : MethodName := ⟨RX8, "isNamed", "(IIIII)Z"⟩
abbrev cX8_wordNow : ByteArray := prog_10_method_29_code
def yX8_wordNow : MethodName := ⟨RX8, "wordNow", "()I"⟩
abbrev cX8_takesRoom : ByteArray := prog_10_method_30_code
def yX8_takesRoom : MethodName := ⟨RX8, "takesRoom", "()Z"⟩
abbrev cX8_takesCell : ByteArray := prog_10_method_31_code
def yX8_takesCell : MethodName := ⟨RX8, "takesCell", "()Z"⟩
abbrev cX8_takesSleeper : ByteArray := prog_10_method_32_code
def yX8_takesSleeper : MethodName := ⟨RX8, "takesSleeper", "()Z"⟩
abbrev cX8_takesThing : ByteArray := prog_10_method_33_code
def yX8_takesThing : MethodName := ⟨RX8, "takesThing", "()Z"⟩
abbrev cX8_takesUp : ByteArray := prog_10_method_34_code
def yX8_takesUp : MethodName := ⟨RX8, "takesUp", "()Z"⟩
abbrev cX8_takesItem : ByteArray := prog_10_method_35_code
def yX8_takesItem : MethodName := ⟨RX8, "takesItem", "(I)Z"⟩
abbrev cX8_reads : ByteArray := prog_10_method_36_code
def yX8_reads : MethodName := ⟨RX8, "reads", "()Z"⟩
abbrev cX8_read : ByteArray := prog_10_method_37_code
def yX8_read : MethodName := ⟨RX8, "read", "()I"⟩
abbrev cX8_stepTo : ByteArray := prog_10_method_38_code
def yX8_stepTo : MethodName := ⟨RX8, "stepTo", "(I)I"⟩
abbrev cX8_areBeside : ByteArray := prog_10_method_39_code
def yX8_areBeside : MethodName := ⟨RX8, "areBeside", "(II)Z"⟩
abbrev cX8_wayOf : ByteArray := prog_10_method_40_code
def yX8_wayOf : MethodName := ⟨RX8, "wayOf", "(II)I"⟩
abbrev cX8_way : ByteArray := prog_10_method_41_code
def yX8_way : MethodName := ⟨RX8, "way", "(II)I"⟩
abbrev cX8_bed : ByteArray := prog_10_method_42_code
def yX8_bed : MethodName := ⟨RX8, "bed", "()I"⟩
abbrev cX8_layNow : ByteArray := prog_10_method_43_code
def yX8_layNow : MethodName := ⟨RX8, "layNow", "()V"⟩
abbrev cX8_waits : ByteArray := prog_10_method_44_code
def yX8_waits : MethodName := ⟨RX8, "waits", "(I)I"⟩
abbrev cX8_goNight : ByteArray := prog_10_method_45_code
def yX8_goNight : MethodName := ⟨RX8, "goNight", "()V"⟩
abbrev cX8_costOf : ByteArray := prog_10_method_46_code
def yX8_costOf : MethodName := ⟨RX8, "costOf", "(I)I"⟩
abbrev cX8_pays : ByteArray := prog_10_method_47_code
def yX8_pays : MethodName := ⟨RX8, "pays", "()V"⟩
abbrev cX8_minds : ByteArray := prog_10_method_48_code
def yX8_minds : MethodName := ⟨RX8, "minds", "()V"⟩
abbrev cX8_pass : ByteArray := prog_10_method_49_code
def yX8_pass : MethodName := ⟨RX8, "pass", "(I)I"⟩
abbrev cX8_undo : ByteArray := prog_10_method_50_code
def yX8_undo : MethodName := ⟨RX8, "undo", "()I"⟩
abbrev cX8_feltBy : ByteArray := prog_10_method_51_code
def yX8_feltBy : MethodName := ⟨RX8, "feltBy", "(I)I"⟩
abbrev cX8_about : ByteArray := prog_10_method_52_code
def yX8_about : MethodName := ⟨RX8, "about", "(II)I"⟩
abbrev cX8_tonight : ByteArray := prog_10_method_53_code
def yX8_tonight : MethodName := ⟨RX8, "tonight", "(I)I"⟩
abbrev cX8_cost : ByteArray := prog_10_method_54_code
def yX8_cost : MethodName := ⟨RX8, "cost", "(I)I"⟩
abbrev cX8_sumOf : ByteArray := prog_10_method_55_code
def yX8_sumOf : MethodName := ⟨RX8, "sumOf", "(I)I"⟩
abbrev cX8_foretold : ByteArray := prog_10_method_56_code
def yX8_foretold : MethodName := ⟨RX8, "foretold", "(III)I"⟩
abbrev cX8_layWithout : ByteArray := prog_10_method_57_code
def yX8_layWithout : MethodName := ⟨RX8, "layWithout", "()V"⟩
abbrev cX8_worth : ByteArray := prog_10_method_58_code
def yX8_worth : MethodName := ⟨RX8, "worth", "(I)I"⟩
abbrev cX8_reading : ByteArray := prog_10_method_59_code
def yX8_reading : MethodName := ⟨RX8, "reading", "(I)I"⟩
abbrev cX8_layCosts : ByteArray := prog_10_method_60_code
def yX8_layCosts : MethodName := ⟨RX8, "layCosts", "(II)V"⟩
abbrev cX8_waiting : ByteArray := prog_10_method_61_code
def yX8_waiting : MethodName := ⟨RX8, "waiting", "(III)I"⟩
abbrev cX8_power : ByteArray := prog_10_method_62_code
def yX8_power : MethodName := ⟨RX8, "power", "(II)I"⟩
abbrev cX8_mostBy : ByteArray := prog_10_method_63_code
def yX8_mostBy : MethodName := ⟨RX8, "mostBy", "(II)I"⟩
abbrev cX8_turns : ByteArray := prog_10_method_64_code
def yX8_turns : MethodName := ⟨RX8, "turns", "(II)I"⟩
abbrev cX8_tells : ByteArray := prog_10_method_65_code
def yX8_tells : MethodName := ⟨RX8, "tells", "(JJ)V"⟩
abbrev cX8_raised : ByteArray := prog_10_method_66_code
def yX8_raised : MethodName := ⟨RX8, "raised", "(JI)J"⟩
abbrev cX8_shoe : ByteArray := prog_10_method_67_code
def yX8_shoe : MethodName := ⟨RX8, "shoe", "(III)I"⟩
abbrev cX8_clap : ByteArray := prog_10_method_68_code
def yX8_clap : MethodName := ⟨RX8, "clap", "(III)I"⟩
abbrev cX8_asleep : ByteArray := prog_10_method_69_code
def yX8_asleep : MethodName := ⟨RX8, "asleep", "(IIIII)I"⟩
abbrev cX8_note : ByteArray := prog_10_method_70_code
def yX8_note : MethodName := ⟨RX8, "note", "(II)I"⟩
abbrev cX8_burn : ByteArray := prog_10_method_71_code
def yX8_burn : MethodName := ⟨RX8, "burn", "()I"⟩
abbrev cX8_liarsIf : ByteArray := prog_10_method_72_code
def yX8_liarsIf : MethodName := ⟨RX8, "liarsIf", "(I)I"⟩
abbrev cX8_who : ByteArray := prog_10_method_73_code
def yX8_who : MethodName := ⟨RX8, "who", "(I)I"⟩
abbrev cX8_drawn : ByteArray := prog_10_method_74_code
def yX8_drawn : MethodName := ⟨RX8, "drawn", "(III)I"⟩
abbrev cX8_part : ByteArray := prog_10_method_75_code
def yX8_part : MethodName := ⟨RX8, "part", "(I)J"⟩
abbrev cX8_image : ByteArray := prog_10_method_76_code
def yX8_image : MethodName := ⟨RX8, "image", "(I)I"⟩
abbrev cX8_from : ByteArray := prog_10_method_77_code
def yX8_from : MethodName := ⟨RX8, "from", "(I)I"⟩
abbrev cX8_status : ByteArray := prog_10_method_78_code
def yX8_status : MethodName := ⟨RX8, "status", "(I)I"⟩
abbrev cX8_countOf : ByteArray := prog_10_method_79_code
def yX8_countOf : MethodName := ⟨RX8, "countOf", "(I)I"⟩
abbrev cX8_count : ByteArray := prog_10_method_80_code
def yX8_count : MethodName := ⟨RX8, "count", "(I)I"⟩
abbrev cX8_mix : ByteArray := prog_10_method_81_code
def yX8_mix : MethodName := ⟨RX8, "mix", "(J)V"⟩
abbrev cX8_digest : ByteArray := prog_10_method_82_code
def yX8_digest : MethodName := ⟨RX8, "digest", "()J"⟩
def RJ6 : String := "java/lang/Integer"
abbrev cJ6_bitCount_0f7a4 : ByteArray := prog_11_method_49_code
def yJ6_bitCount_0f7a4 : MethodName := ⟨RJ6, "bitCount", "(I)I"⟩
def RJ9 : String := "java/lang/Math"
abbrev cJ9_max_7cf53 : ByteArray := prog_12_method_65_code
def yJ9_max_7cf53 : MethodName := ⟨RJ9, "max", "(II)I"⟩
abbrev cJ9_min_7cf53 : ByteArray := prog_12_method_69_code
def yJ9_min_7cf53 : MethodName := ⟨RJ9, "min", "(II)I"⟩
def RJ0 : String := "java/lang/String"
abbrev cJ0_length_8abf5 : ByteArray := prog_13_method_54_code
def yJ0_length_8abf5 : MethodName := ⟨RJ0, "length", "()I"⟩
abbrev cJ0_charAt_5068e : ByteArray := prog_13_method_56_code
def yJ0_charAt_5068e : MethodName := ⟨RJ0, "charAt", "(I)C"⟩
abbrev cJ0_coder_7d493 : ByteArray := prog_13_method_152_code
def yJ0_coder_7d493 : MethodName := ⟨RJ0, "coder", "()B"⟩
abbrev cJ0_isLatin1_aae02 : ByteArray := prog_13_method_154_code
def yJ0_isLatin1_aae02 : MethodName := ⟨RJ0, "isLatin1", "()Z"⟩
abbrev cJ0_checkIndex_df160 : ByteArray := prog_13_method_155_code
def yJ0_checkIndex_df160 : MethodName := ⟨RJ0, "checkIndex", "(II)V"⟩
def RJ1 : String := "java/lang/StringLatin1"
abbrev cJ1_charAt_3b067 : ByteArray := prog_14_method_2_code
def yJ1_charAt_3b067 : MethodName := ⟨RJ1, "charAt", "([BI)C"⟩
def RJ2 : String := "java/lang/StringUTF16"
abbrev cJ2_getChar_3b067 : ByteArray := prog_15_method_5_code
def yJ2_getChar_3b067 : MethodName := ⟨RJ2, "getChar", "([BI)C"⟩
abbrev cJ2_length_9d52b : ByteArray := prog_15_method_6_code
def yJ2_length_9d52b : MethodName := ⟨RJ2, "length", "([B)I"⟩
abbrev cJ2_charAt_3b067 : ByteArray := prog_15_method_83_code
def yJ2_charAt_3b067 : MethodName := ⟨RJ2, "charAt", "([BI)C"⟩
abbrev cJ2_checkIndex_2214a : ByteArray := prog_15_method_91_code
def yJ2_checkIndex_2214a : MethodName := ⟨RJ2, "checkIndex", "(I[B)V"⟩
def RJ10 : String := "java/lang/System"
def RJ7 : String := "java/util/Arrays"
abbrev cJ7_fill_53178 : ByteArray := prog_17_method_103_code
def yJ7_fill_53178 : MethodName := ⟨RJ7, "fill", "([II)V"⟩
def RJ3 : String := "jdk/internal/util/Preconditions"
abbrev cJ3_checkIndex_8e157 : ByteArray := prog_18_method_11_code
def yJ3_checkIndex_8e157 : MethodName := ⟨RJ3, "checkIndex", "(IILjava/util/function/BiFunction;)I"⟩
def RL : String := "LastAwakeLaw"
abbrev cL_law : ByteArray := code
def yL_law : MethodName := ⟨RL, "law", "([I)Z"⟩
abbrev vwCl : List vw_C := [(RX0, TX0, 5), (RX1, TX1, 9), (RX2, TX2, 3), (RX3, TX3, 3), (RX4, TX4, 7), (RX5, TX5, 1), (RX6, TX6, 4), (RX7, TX7, 9), (RX8, TX8, 26)]
