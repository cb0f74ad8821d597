section
-- ===== PART A: goes FIRST, ahead of the names: the tables' words, and 'selects' of the private methods out of them =====
/-- a private method of a class that the tables say can be made, by its rows of tables_1 -/
def lw_okq (q : MethodName × Nat) : Prop := (q.1.cls ≠ "java/lang/invoke/MethodHandle" ∧ q.1.cls ≠ "java/lang/invoke/VarHandle") ∧ Cond.instantiable q.1.cls q.2 ∈ tables_1 ∧ Cond.privateMethod q.1 ∈ tables_1 ∧ Cond.instanceMethod q.1 ∈ tables_1
theorem lw_p0 : lw_okq (⟨"LastAwake", "bad", "(I)I"⟩, 9) := ⟨⟨by decide +kernel, by decide +kernel⟩, List.mem_of_getElem? (i := 19) (by decide +kernel), List.mem_of_getElem? (i := 271) (by decide +kernel), List.mem_of_getElem? (i := 272) (by decide +kernel)⟩
theorem lw_p1 : lw_okq (⟨"LastAwake", "full", "()I"⟩, 9) := ⟨⟨by decide +kernel, by decide +kernel⟩, List.mem_of_getElem? (i := 19) (by decide +kernel), List.mem_of_getElem? (i := 322) (by decide +kernel), List.mem_of_getElem? (i := 323) (by decide +kernel)⟩
theorem lw_p2 : lw_okq (⟨"LastAwake$Script", "nextToken", "()V"⟩, 7) := ⟨⟨by decide +kernel, by decide +kernel⟩, List.mem_of_getElem? (i := 205) (by decide +kernel), List.mem_of_getElem? (i := 359) (by decide +kernel), List.mem_of_getElem? (i := 360) (by decide +kernel)⟩
theorem lw_p3 : lw_okq (⟨"LastAwake$Script", "takeWord", "()V"⟩, 7) := ⟨⟨by decide +kernel, by decide +kernel⟩, List.mem_of_getElem? (i := 205) (by decide +kernel), List.mem_of_getElem? (i := 366) (by decide +kernel), List.mem_of_getElem? (i := 367) (by decide +kernel)⟩
theorem lw_p4 : lw_okq (⟨"LastAwake$Script", "takeNumber", "()V"⟩, 7) := ⟨⟨by decide +kernel, by decide +kernel⟩, List.mem_of_getElem? (i := 205) (by decide +kernel), List.mem_of_getElem? (i := 373) (by decide +kernel), List.mem_of_getElem? (i := 374) (by decide +kernel)⟩
theorem lw_p5 : lw_okq (⟨"LastAwake$Script", "itemStands", "(LLastAwake$State;Z)Z"⟩, 7) := ⟨⟨by decide +kernel, by decide +kernel⟩, List.mem_of_getElem? (i := 205) (by decide +kernel), List.mem_of_getElem? (i := 377) (by decide +kernel), List.mem_of_getElem? (i := 378) (by decide +kernel)⟩
theorem lw_p6 : lw_okq (⟨"LastAwake$Script", "itemOfWord", "()I"⟩, 7) := ⟨⟨by decide +kernel, by decide +kernel⟩, List.mem_of_getElem? (i := 205) (by decide +kernel), List.mem_of_getElem? (i := 381) (by decide +kernel), List.mem_of_getElem? (i := 382) (by decide +kernel)⟩
theorem lw_p7 : lw_okq (⟨"LastAwake$Script", "wordIs", "(Ljava/lang/String;)Z"⟩, 7) := ⟨⟨by decide +kernel, by decide +kernel⟩, List.mem_of_getElem? (i := 205) (by decide +kernel), List.mem_of_getElem? (i := 386) (by decide +kernel), List.mem_of_getElem? (i := 387) (by decide +kernel)⟩
theorem lw_p8 : lw_okq (⟨"LastAwake$Script", "apply", "(LLastAwake$State;I)V"⟩, 7) := ⟨⟨by decide +kernel, by decide +kernel⟩, List.mem_of_getElem? (i := 205) (by decide +kernel), List.mem_of_getElem? (i := 452) (by decide +kernel), List.mem_of_getElem? (i := 453) (by decide +kernel)⟩
theorem lw_p9 : lw_okq (⟨"LastAwake$Floor", "measureWaysTo", "(I)V"⟩, 9) := ⟨⟨by decide +kernel, by decide +kernel⟩, List.mem_of_getElem? (i := 33) (by decide +kernel), List.mem_of_getElem? (i := 499) (by decide +kernel), List.mem_of_getElem? (i := 500) (by decide +kernel)⟩
theorem lw_p10 : lw_okq (⟨"LastAwake$Floor", "shorten", "(II)Z"⟩, 9) := ⟨⟨by decide +kernel, by decide +kernel⟩, List.mem_of_getElem? (i := 33) (by decide +kernel), List.mem_of_getElem? (i := 504) (by decide +kernel), List.mem_of_getElem? (i := 505) (by decide +kernel)⟩
theorem lw_p11 : lw_okq (⟨"LastAwake$Floor", "wayOver", "(II)I"⟩, 9) := ⟨⟨by decide +kernel, by decide +kernel⟩, List.mem_of_getElem? (i := 33) (by decide +kernel), List.mem_of_getElem? (i := 508) (by decide +kernel), List.mem_of_getElem? (i := 509) (by decide +kernel)⟩
theorem lw_p12 : lw_okq (⟨"LastAwake$State", "errandOf", "(IZ)I"⟩, 4) := ⟨⟨by decide +kernel, by decide +kernel⟩, List.mem_of_getElem? (i := 27) (by decide +kernel), List.mem_of_getElem? (i := 553) (by decide +kernel), List.mem_of_getElem? (i := 554) (by decide +kernel)⟩
theorem lw_p13 : lw_okq (⟨"LastAwake", "no", "()I"⟩, 9) := ⟨⟨by decide +kernel, by decide +kernel⟩, List.mem_of_getElem? (i := 19) (by decide +kernel), List.mem_of_getElem? (i := 561) (by decide +kernel), List.mem_of_getElem? (i := 562) (by decide +kernel)⟩
theorem lw_p14 : lw_okq (⟨"LastAwake", "joyOfReading", "(II)I"⟩, 9) := ⟨⟨by decide +kernel, by decide +kernel⟩, List.mem_of_getElem? (i := 19) (by decide +kernel), List.mem_of_getElem? (i := 624) (by decide +kernel), List.mem_of_getElem? (i := 625) (by decide +kernel)⟩
theorem lw_p15 : lw_okq (⟨"LastAwake", "fillCosts", "(II)V"⟩, 9) := ⟨⟨by decide +kernel, by decide +kernel⟩, List.mem_of_getElem? (i := 19) (by decide +kernel), List.mem_of_getElem? (i := 633) (by decide +kernel), List.mem_of_getElem? (i := 634) (by decide +kernel)⟩
def lw_privs_1 : List (MethodName × Nat) := [(⟨"LastAwake", "bad", "(I)I"⟩, 9), (⟨"LastAwake", "full", "()I"⟩, 9), (⟨"LastAwake$Script", "nextToken", "()V"⟩, 7), (⟨"LastAwake$Script", "takeWord", "()V"⟩, 7), (⟨"LastAwake$Script", "takeNumber", "()V"⟩, 7), (⟨"LastAwake$Script", "itemStands", "(LLastAwake$State;Z)Z"⟩, 7), (⟨"LastAwake$Script", "itemOfWord", "()I"⟩, 7), (⟨"LastAwake$Script", "wordIs", "(Ljava/lang/String;)Z"⟩, 7), (⟨"LastAwake$Script", "apply", "(LLastAwake$State;I)V"⟩, 7), (⟨"LastAwake$Floor", "measureWaysTo", "(I)V"⟩, 9), (⟨"LastAwake$Floor", "shorten", "(II)Z"⟩, 9), (⟨"LastAwake$Floor", "wayOver", "(II)I"⟩, 9), (⟨"LastAwake$State", "errandOf", "(IZ)I"⟩, 4), (⟨"LastAwake", "no", "()I"⟩, 9), (⟨"LastAwake", "joyOfReading", "(II)I"⟩, 9), (⟨"LastAwake", "fillCosts", "(II)V"⟩, 9)]
theorem lw_r1 : ∀ q ∈ lw_privs_1, lw_okq q := List.forall_mem_cons.mpr ⟨lw_p0, List.forall_mem_cons.mpr ⟨lw_p1, List.forall_mem_cons.mpr ⟨lw_p2, List.forall_mem_cons.mpr ⟨lw_p3, List.forall_mem_cons.mpr ⟨lw_p4, List.forall_mem_cons.mpr ⟨lw_p5, List.forall_mem_cons.mpr ⟨lw_p6, List.forall_mem_cons.mpr ⟨lw_p7, List.forall_mem_cons.mpr ⟨lw_p8, List.forall_mem_cons.mpr ⟨lw_p9, List.forall_mem_cons.mpr ⟨lw_p10, List.forall_mem_cons.mpr ⟨lw_p11, List.forall_mem_cons.mpr ⟨lw_p12, List.forall_mem_cons.mpr ⟨lw_p13, List.forall_mem_cons.mpr ⟨lw_p14, List.forall_mem_cons.mpr ⟨lw_p15, fun _ h => absurd h List.not_mem_nil⟩⟩⟩⟩⟩⟩⟩⟩⟩⟩⟩⟩⟩⟩⟩⟩
theorem lw_p16 : lw_okq (⟨"LastAwake", "pairRests", "(II)Z"⟩, 9) := ⟨⟨by decide +kernel, by decide +kernel⟩, List.mem_of_getElem? (i := 19) (by decide +kernel), List.mem_of_getElem? (i := 637) (by decide +kernel), List.mem_of_getElem? (i := 638) (by decide +kernel)⟩
theorem lw_p17 : lw_okq (⟨"LastAwake$State", "burden", "(III)I"⟩, 4) := ⟨⟨by decide +kernel, by decide +kernel⟩, List.mem_of_getElem? (i := 27) (by decide +kernel), List.mem_of_getElem? (i := 650) (by decide +kernel), List.mem_of_getElem? (i := 651) (by decide +kernel)⟩
theorem lw_p18 : lw_okq (⟨"LastAwake$State", "turnsWithin", "(II)I"⟩, 4) := ⟨⟨by decide +kernel, by decide +kernel⟩, List.mem_of_getElem? (i := 27) (by decide +kernel), List.mem_of_getElem? (i := 657) (by decide +kernel), List.mem_of_getElem? (i := 658) (by decide +kernel)⟩
theorem lw_p19 : lw_okq (⟨"LastAwake$State", "ownTurnsWithin", "(III)I"⟩, 4) := ⟨⟨by decide +kernel, by decide +kernel⟩, List.mem_of_getElem? (i := 27) (by decide +kernel), List.mem_of_getElem? (i := 661) (by decide +kernel), List.mem_of_getElem? (i := 662) (by decide +kernel)⟩
theorem lw_p20 : lw_okq (⟨"LastAwake$State", "nextBurden", "(II)I"⟩, 4) := ⟨⟨by decide +kernel, by decide +kernel⟩, List.mem_of_getElem? (i := 27) (by decide +kernel), List.mem_of_getElem? (i := 665) (by decide +kernel), List.mem_of_getElem? (i := 666) (by decide +kernel)⟩
theorem lw_p21 : lw_okq (⟨"LastAwake", "setFraction", "(JJ)V"⟩, 9) := ⟨⟨by decide +kernel, by decide +kernel⟩, List.mem_of_getElem? (i := 19) (by decide +kernel), List.mem_of_getElem? (i := 680) (by decide +kernel), List.mem_of_getElem? (i := 681) (by decide +kernel)⟩
theorem lw_p22 : lw_okq (⟨"LastAwake$Notes", "liarsIf", "(I)I"⟩, 3) := ⟨⟨by decide +kernel, by decide +kernel⟩, List.mem_of_getElem? (i := 128) (by decide +kernel), List.mem_of_getElem? (i := 718) (by decide +kernel), List.mem_of_getElem? (i := 719) (by decide +kernel)⟩
theorem lw_p23 : lw_okq (⟨"LastAwake", "howMany", "(I)I"⟩, 9) := ⟨⟨by decide +kernel, by decide +kernel⟩, List.mem_of_getElem? (i := 19) (by decide +kernel), List.mem_of_getElem? (i := 762) (by decide +kernel), List.mem_of_getElem? (i := 763) (by decide +kernel)⟩
theorem lw_p24 : lw_okq (⟨"LastAwakeModel", "begins", "(III)V"⟩, 26) := ⟨⟨by decide +kernel, by decide +kernel⟩, List.mem_of_getElem? (i := 787) (by decide +kernel), List.mem_of_getElem? (i := 793) (by decide +kernel), List.mem_of_getElem? (i := 794) (by decide +kernel)⟩
theorem lw_p25 : lw_okq (⟨"LastAwakeModel", "bad", "()I"⟩, 26) := ⟨⟨by decide +kernel, by decide +kernel⟩, List.mem_of_getElem? (i := 787) (by decide +kernel), List.mem_of_getElem? (i := 885) (by decide +kernel), List.mem_of_getElem? (i := 886) (by decide +kernel)⟩
theorem lw_p26 : lw_okq (⟨"LastAwakeModel", "met", "(I)I"⟩, 26) := ⟨⟨by decide +kernel, by decide +kernel⟩, List.mem_of_getElem? (i := 787) (by decide +kernel), List.mem_of_getElem? (i := 889) (by decide +kernel), List.mem_of_getElem? (i := 890) (by decide +kernel)⟩
theorem lw_p27 : lw_okq (⟨"LastAwakeModel", "isCell", "(II)Z"⟩, 26) := ⟨⟨by decide +kernel, by decide +kernel⟩, List.mem_of_getElem? (i := 787) (by decide +kernel), List.mem_of_getElem? (i := 897) (by decide +kernel), List.mem_of_getElem? (i := 898) (by decide +kernel)⟩
theorem lw_p28 : lw_okq (⟨"LastAwakeModel", "becomes", "(II)I"⟩, 26) := ⟨⟨by decide +kernel, by decide +kernel⟩, List.mem_of_getElem? (i := 787) (by decide +kernel), List.mem_of_getElem? (i := 901) (by decide +kernel), List.mem_of_getElem? (i := 902) (by decide +kernel)⟩
theorem lw_p29 : lw_okq (⟨"LastAwakeModel", "comes", "(IIIIII)V"⟩, 26) := ⟨⟨by decide +kernel, by decide +kernel⟩, List.mem_of_getElem? (i := 787) (by decide +kernel), List.mem_of_getElem? (i := 927) (by decide +kernel), List.mem_of_getElem? (i := 928) (by decide +kernel)⟩
theorem lw_p30 : lw_okq (⟨"LastAwakeModel", "isOne", "(I)Z"⟩, 26) := ⟨⟨by decide +kernel, by decide +kernel⟩, List.mem_of_getElem? (i := 787) (by decide +kernel), List.mem_of_getElem? (i := 935) (by decide +kernel), List.mem_of_getElem? (i := 936) (by decide +kernel)⟩
theorem lw_p31 : lw_okq (⟨"LastAwakeModel", "badAs", "(I)I"⟩, 26) := ⟨⟨by decide +kernel, by decide +kernel⟩, List.mem_of_getElem? (i := 787) (by decide +kernel), List.mem_of_getElem? (i := 943) (by decide +kernel), List.mem_of_getElem? (i := 944) (by decide +kernel)⟩
def lw_privs_2 : List (MethodName × Nat) := [(⟨"LastAwake", "pairRests", "(II)Z"⟩, 9), (⟨"LastAwake$State", "burden", "(III)I"⟩, 4), (⟨"LastAwake$State", "turnsWithin", "(II)I"⟩, 4), (⟨"LastAwake$State", "ownTurnsWithin", "(III)I"⟩, 4), (⟨"LastAwake$State", "nextBurden", "(II)I"⟩, 4), (⟨"LastAwake", "setFraction", "(JJ)V"⟩, 9), (⟨"LastAwake$Notes", "liarsIf", "(I)I"⟩, 3), (⟨"LastAwake", "howMany", "(I)I"⟩, 9), (⟨"LastAwakeModel", "begins", "(III)V"⟩, 26), (⟨"LastAwakeModel", "bad", "()I"⟩, 26), (⟨"LastAwakeModel", "met", "(I)I"⟩, 26), (⟨"LastAwakeModel", "isCell", "(II)Z"⟩, 26), (⟨"LastAwakeModel", "becomes", "(II)I"⟩, 26), (⟨"LastAwakeModel", "comes", "(IIIIII)V"⟩, 26), (⟨"LastAwakeModel", "isOne", "(I)Z"⟩, 26), (⟨"LastAwakeModel", "badAs", "(I)I"⟩, 26)]
theorem lw_r2 : ∀ q ∈ lw_privs_2, lw_okq q := List.forall_mem_cons.mpr ⟨lw_p16, List.forall_mem_cons.mpr ⟨lw_p17, List.forall_mem_cons.mpr ⟨lw_p18, List.forall_mem_cons.mpr ⟨lw_p19, List.forall_mem_cons.mpr ⟨lw_p20, List.forall_mem_cons.mpr ⟨lw_p21, List.forall_mem_cons.mpr ⟨lw_p22, List.forall_mem_cons.mpr ⟨lw_p23, List.forall_mem_cons.mpr ⟨lw_p24, List.forall_mem_cons.mpr ⟨lw_p25, List.forall_mem_cons.mpr ⟨lw_p26, List.forall_mem_cons.mpr ⟨lw_p27, List.forall_mem_cons.mpr ⟨lw_p28, List.forall_mem_cons.mpr ⟨lw_p29, List.forall_mem_cons.mpr ⟨lw_p30, List.forall_mem_cons.mpr ⟨lw_p31, fun _ h => absurd h List.not_mem_nil⟩⟩⟩⟩⟩⟩⟩⟩⟩⟩⟩⟩⟩⟩⟩⟩
theorem lw_p32 : lw_okq (⟨"LastAwakeModel", "reads", "()Z"⟩, 26) := ⟨⟨by decide +kernel, by decide +kernel⟩, List.mem_of_getElem? (i := 787) (by decide +kernel), List.mem_of_getElem? (i := 959) (by decide +kernel), List.mem_of_getElem? (i := 960) (by decide +kernel)⟩
theorem lw_p33 : lw_okq (⟨"LastAwakeModel", "token", "()V"⟩, 26) := ⟨⟨by decide +kernel, by decide +kernel⟩, List.mem_of_getElem? (i := 787) (by decide +kernel), List.mem_of_getElem? (i := 963) (by decide +kernel), List.mem_of_getElem? (i := 964) (by decide +kernel)⟩
theorem lw_p34 : lw_okq (⟨"LastAwakeModel", "byteAt", "(I)I"⟩, 26) := ⟨⟨by decide +kernel, by decide +kernel⟩, List.mem_of_getElem? (i := 787) (by decide +kernel), List.mem_of_getElem? (i := 967) (by decide +kernel), List.mem_of_getElem? (i := 968) (by decide +kernel)⟩
theorem lw_p35 : lw_okq (⟨"LastAwakeModel", "wordNow", "()I"⟩, 26) := ⟨⟨by decide +kernel, by decide +kernel⟩, List.mem_of_getElem? (i := 787) (by decide +kernel), List.mem_of_getElem? (i := 975) (by decide +kernel), List.mem_of_getElem? (i := 976) (by decide +kernel)⟩
theorem lw_p36 : lw_okq (⟨"LastAwakeModel", "isNamed", "(IIIII)Z"⟩, 26) := ⟨⟨by decide +kernel, by decide +kernel⟩, List.mem_of_getElem? (i := 787) (by decide +kernel), List.mem_of_getElem? (i := 979) (by decide +kernel), List.mem_of_getElem? (i := 980) (by decide +kernel)⟩
theorem lw_p37 : lw_okq (⟨"LastAwakeModel", "takesItem", "(I)Z"⟩, 26) := ⟨⟨by decide +kernel, by decide +kernel⟩, List.mem_of_getElem? (i := 787) (by decide +kernel), List.mem_of_getElem? (i := 983) (by decide +kernel), List.mem_of_getElem? (i := 984) (by decide +kernel)⟩
theorem lw_p38 : lw_okq (⟨"LastAwakeModel", "takesRoom", "()Z"⟩, 26) := ⟨⟨by decide +kernel, by decide +kernel⟩, List.mem_of_getElem? (i := 787) (by decide +kernel), List.mem_of_getElem? (i := 987) (by decide +kernel), List.mem_of_getElem? (i := 988) (by decide +kernel)⟩
theorem lw_p39 : lw_okq (⟨"LastAwakeModel", "takes", "(II)Z"⟩, 26) := ⟨⟨by decide +kernel, by decide +kernel⟩, List.mem_of_getElem? (i := 787) (by decide +kernel), List.mem_of_getElem? (i := 991) (by decide +kernel), List.mem_of_getElem? (i := 992) (by decide +kernel)⟩
theorem lw_p40 : lw_okq (⟨"LastAwakeModel", "takesCell", "()Z"⟩, 26) := ⟨⟨by decide +kernel, by decide +kernel⟩, List.mem_of_getElem? (i := 787) (by decide +kernel), List.mem_of_getElem? (i := 995) (by decide +kernel), List.mem_of_getElem? (i := 996) (by decide +kernel)⟩
theorem lw_p41 : lw_okq (⟨"LastAwakeModel", "takesThing", "()Z"⟩, 26) := ⟨⟨by decide +kernel, by decide +kernel⟩, List.mem_of_getElem? (i := 787) (by decide +kernel), List.mem_of_getElem? (i := 999) (by decide +kernel), List.mem_of_getElem? (i := 1000) (by decide +kernel)⟩
theorem lw_p42 : lw_okq (⟨"LastAwakeModel", "takesSleeper", "()Z"⟩, 26) := ⟨⟨by decide +kernel, by decide +kernel⟩, List.mem_of_getElem? (i := 787) (by decide +kernel), List.mem_of_getElem? (i := 1003) (by decide +kernel), List.mem_of_getElem? (i := 1004) (by decide +kernel)⟩
theorem lw_p43 : lw_okq (⟨"LastAwakeModel", "takesUp", "()Z"⟩, 26) := ⟨⟨by decide +kernel, by decide +kernel⟩, List.mem_of_getElem? (i := 787) (by decide +kernel), List.mem_of_getElem? (i := 1007) (by decide +kernel), List.mem_of_getElem? (i := 1008) (by decide +kernel)⟩
theorem lw_p44 : lw_okq (⟨"LastAwakeModel", "copy", "(II)V"⟩, 26) := ⟨⟨by decide +kernel, by decide +kernel⟩, List.mem_of_getElem? (i := 787) (by decide +kernel), List.mem_of_getElem? (i := 1011) (by decide +kernel), List.mem_of_getElem? (i := 1012) (by decide +kernel)⟩
theorem lw_p45 : lw_okq (⟨"LastAwakeModel", "wayOf", "(II)I"⟩, 26) := ⟨⟨by decide +kernel, by decide +kernel⟩, List.mem_of_getElem? (i := 787) (by decide +kernel), List.mem_of_getElem? (i := 1019) (by decide +kernel), List.mem_of_getElem? (i := 1020) (by decide +kernel)⟩
theorem lw_p46 : lw_okq (⟨"LastAwakeModel", "areBeside", "(II)Z"⟩, 26) := ⟨⟨by decide +kernel, by decide +kernel⟩, List.mem_of_getElem? (i := 787) (by decide +kernel), List.mem_of_getElem? (i := 1024) (by decide +kernel), List.mem_of_getElem? (i := 1025) (by decide +kernel)⟩
theorem lw_p47 : lw_okq (⟨"LastAwakeModel", "stepTo", "(I)I"⟩, 26) := ⟨⟨by decide +kernel, by decide +kernel⟩, List.mem_of_getElem? (i := 787) (by decide +kernel), List.mem_of_getElem? (i := 1028) (by decide +kernel), List.mem_of_getElem? (i := 1029) (by decide +kernel)⟩
def lw_privs_3 : List (MethodName × Nat) := [(⟨"LastAwakeModel", "reads", "()Z"⟩, 26), (⟨"LastAwakeModel", "token", "()V"⟩, 26), (⟨"LastAwakeModel", "byteAt", "(I)I"⟩, 26), (⟨"LastAwakeModel", "wordNow", "()I"⟩, 26), (⟨"LastAwakeModel", "isNamed", "(IIIII)Z"⟩, 26), (⟨"LastAwakeModel", "takesItem", "(I)Z"⟩, 26), (⟨"LastAwakeModel", "takesRoom", "()Z"⟩, 26), (⟨"LastAwakeModel", "takes", "(II)Z"⟩, 26), (⟨"LastAwakeModel", "takesCell", "()Z"⟩, 26), (⟨"LastAwakeModel", "takesThing", "()Z"⟩, 26), (⟨"LastAwakeModel", "takesSleeper", "()Z"⟩, 26), (⟨"LastAwakeModel", "takesUp", "()Z"⟩, 26), (⟨"LastAwakeModel", "copy", "(II)V"⟩, 26), (⟨"LastAwakeModel", "wayOf", "(II)I"⟩, 26), (⟨"LastAwakeModel", "areBeside", "(II)Z"⟩, 26), (⟨"LastAwakeModel", "stepTo", "(I)I"⟩, 26)]
theorem lw_r3 : ∀ q ∈ lw_privs_3, lw_okq q := List.forall_mem_cons.mpr ⟨lw_p32, List.forall_mem_cons.mpr ⟨lw_p33, List.forall_mem_cons.mpr ⟨lw_p34, List.forall_mem_cons.mpr ⟨lw_p35, List.forall_mem_cons.mpr ⟨lw_p36, List.forall_mem_cons.mpr ⟨lw_p37, List.forall_mem_cons.mpr ⟨lw_p38, List.forall_mem_cons.mpr ⟨lw_p39, List.forall_mem_cons.mpr ⟨lw_p40, List.forall_mem_cons.mpr ⟨lw_p41, List.forall_mem_cons.mpr ⟨lw_p42, List.forall_mem_cons.mpr ⟨lw_p43, List.forall_mem_cons.mpr ⟨lw_p44, List.forall_mem_cons.mpr ⟨lw_p45, List.forall_mem_cons.mpr ⟨lw_p46, List.forall_mem_cons.mpr ⟨lw_p47, fun _ h => absurd h List.not_mem_nil⟩⟩⟩⟩⟩⟩⟩⟩⟩⟩⟩⟩⟩⟩⟩⟩
theorem lw_p48 : lw_okq (⟨"LastAwakeModel", "layNow", "()V"⟩, 26) := ⟨⟨by decide +kernel, by decide +kernel⟩, List.mem_of_getElem? (i := 787) (by decide +kernel), List.mem_of_getElem? (i := 1044) (by decide +kernel), List.mem_of_getElem? (i := 1045) (by decide +kernel)⟩
theorem lw_p49 : lw_okq (⟨"LastAwakeModel", "minds", "()V"⟩, 26) := ⟨⟨by decide +kernel, by decide +kernel⟩, List.mem_of_getElem? (i := 787) (by decide +kernel), List.mem_of_getElem? (i := 1048) (by decide +kernel), List.mem_of_getElem? (i := 1049) (by decide +kernel)⟩
theorem lw_p50 : lw_okq (⟨"LastAwakeModel", "goNight", "()V"⟩, 26) := ⟨⟨by decide +kernel, by decide +kernel⟩, List.mem_of_getElem? (i := 787) (by decide +kernel), List.mem_of_getElem? (i := 1052) (by decide +kernel), List.mem_of_getElem? (i := 1053) (by decide +kernel)⟩
theorem lw_p51 : lw_okq (⟨"LastAwakeModel", "waits", "(I)I"⟩, 26) := ⟨⟨by decide +kernel, by decide +kernel⟩, List.mem_of_getElem? (i := 787) (by decide +kernel), List.mem_of_getElem? (i := 1056) (by decide +kernel), List.mem_of_getElem? (i := 1057) (by decide +kernel)⟩
theorem lw_p52 : lw_okq (⟨"LastAwakeModel", "pays", "()V"⟩, 26) := ⟨⟨by decide +kernel, by decide +kernel⟩, List.mem_of_getElem? (i := 787) (by decide +kernel), List.mem_of_getElem? (i := 1060) (by decide +kernel), List.mem_of_getElem? (i := 1061) (by decide +kernel)⟩
theorem lw_p53 : lw_okq (⟨"LastAwakeModel", "costOf", "(I)I"⟩, 26) := ⟨⟨by decide +kernel, by decide +kernel⟩, List.mem_of_getElem? (i := 787) (by decide +kernel), List.mem_of_getElem? (i := 1064) (by decide +kernel), List.mem_of_getElem? (i := 1065) (by decide +kernel)⟩
theorem lw_p54 : lw_okq (⟨"LastAwakeModel", "feltBy", "(I)I"⟩, 26) := ⟨⟨by decide +kernel, by decide +kernel⟩, List.mem_of_getElem? (i := 787) (by decide +kernel), List.mem_of_getElem? (i := 1081) (by decide +kernel), List.mem_of_getElem? (i := 1082) (by decide +kernel)⟩
theorem lw_p55 : lw_okq (⟨"LastAwakeModel", "sumOf", "(I)I"⟩, 26) := ⟨⟨by decide +kernel, by decide +kernel⟩, List.mem_of_getElem? (i := 787) (by decide +kernel), List.mem_of_getElem? (i := 1098) (by decide +kernel), List.mem_of_getElem? (i := 1099) (by decide +kernel)⟩
theorem lw_p56 : lw_okq (⟨"LastAwakeModel", "layWithout", "()V"⟩, 26) := ⟨⟨by decide +kernel, by decide +kernel⟩, List.mem_of_getElem? (i := 787) (by decide +kernel), List.mem_of_getElem? (i := 1107) (by decide +kernel), List.mem_of_getElem? (i := 1108) (by decide +kernel)⟩
theorem lw_p57 : lw_okq (⟨"LastAwakeModel", "layCosts", "(II)V"⟩, 26) := ⟨⟨by decide +kernel, by decide +kernel⟩, List.mem_of_getElem? (i := 787) (by decide +kernel), List.mem_of_getElem? (i := 1120) (by decide +kernel), List.mem_of_getElem? (i := 1121) (by decide +kernel)⟩
theorem lw_p58 : lw_okq (⟨"LastAwakeModel", "mostBy", "(II)I"⟩, 26) := ⟨⟨by decide +kernel, by decide +kernel⟩, List.mem_of_getElem? (i := 787) (by decide +kernel), List.mem_of_getElem? (i := 1132) (by decide +kernel), List.mem_of_getElem? (i := 1133) (by decide +kernel)⟩
theorem lw_p59 : lw_okq (⟨"LastAwakeModel", "tells", "(JJ)V"⟩, 26) := ⟨⟨by decide +kernel, by decide +kernel⟩, List.mem_of_getElem? (i := 787) (by decide +kernel), List.mem_of_getElem? (i := 1144) (by decide +kernel), List.mem_of_getElem? (i := 1145) (by decide +kernel)⟩
theorem lw_p60 : lw_okq (⟨"LastAwakeModel", "liarsIf", "(I)I"⟩, 26) := ⟨⟨by decide +kernel, by decide +kernel⟩, List.mem_of_getElem? (i := 787) (by decide +kernel), List.mem_of_getElem? (i := 1171) (by decide +kernel), List.mem_of_getElem? (i := 1172) (by decide +kernel)⟩
theorem lw_p61 : lw_okq (⟨"LastAwakeModel", "countOf", "(I)I"⟩, 26) := ⟨⟨by decide +kernel, by decide +kernel⟩, List.mem_of_getElem? (i := 787) (by decide +kernel), List.mem_of_getElem? (i := 1205) (by decide +kernel), List.mem_of_getElem? (i := 1206) (by decide +kernel)⟩
theorem lw_p62 : lw_okq (⟨"LastAwakeModel", "mix", "(J)V"⟩, 26) := ⟨⟨by decide +kernel, by decide +kernel⟩, List.mem_of_getElem? (i := 787) (by decide +kernel), List.mem_of_getElem? (i := 1214) (by decide +kernel), List.mem_of_getElem? (i := 1215) (by decide +kernel)⟩
def lw_privs_4 : List (MethodName × Nat) := [(⟨"LastAwakeModel", "layNow", "()V"⟩, 26), (⟨"LastAwakeModel", "minds", "()V"⟩, 26), (⟨"LastAwakeModel", "goNight", "()V"⟩, 26), (⟨"LastAwakeModel", "waits", "(I)I"⟩, 26), (⟨"LastAwakeModel", "pays", "()V"⟩, 26), (⟨"LastAwakeModel", "costOf", "(I)I"⟩, 26), (⟨"LastAwakeModel", "feltBy", "(I)I"⟩, 26), (⟨"LastAwakeModel", "sumOf", "(I)I"⟩, 26), (⟨"LastAwakeModel", "layWithout", "()V"⟩, 26), (⟨"LastAwakeModel", "layCosts", "(II)V"⟩, 26), (⟨"LastAwakeModel", "mostBy", "(II)I"⟩, 26), (⟨"LastAwakeModel", "tells", "(JJ)V"⟩, 26), (⟨"LastAwakeModel", "liarsIf", "(I)I"⟩, 26), (⟨"LastAwakeModel", "countOf", "(I)I"⟩, 26), (⟨"LastAwakeModel", "mix", "(J)V"⟩, 26)]
theorem lw_r4 : ∀ q ∈ lw_privs_4, lw_okq q := List.forall_mem_cons.mpr ⟨lw_p48, List.forall_mem_cons.mpr ⟨lw_p49, List.forall_mem_cons.mpr ⟨lw_p50, List.forall_mem_cons.mpr ⟨lw_p51, List.forall_mem_cons.mpr ⟨lw_p52, List.forall_mem_cons.mpr ⟨lw_p53, List.forall_mem_cons.mpr ⟨lw_p54, List.forall_mem_cons.mpr ⟨lw_p55, List.forall_mem_cons.mpr ⟨lw_p56, List.forall_mem_cons.mpr ⟨lw_p57, List.forall_mem_cons.mpr ⟨lw_p58, List.forall_mem_cons.mpr ⟨lw_p59, List.forall_mem_cons.mpr ⟨lw_p60, List.forall_mem_cons.mpr ⟨lw_p61, List.forall_mem_cons.mpr ⟨lw_p62, fun _ h => absurd h List.not_mem_nil⟩⟩⟩⟩⟩⟩⟩⟩⟩⟩⟩⟩⟩⟩⟩
def lw_privs : List (MethodName × Nat) := lw_privs_1 ++ (lw_privs_2 ++ (lw_privs_3 ++ (lw_privs_4)))
def lw_tbl : List Cond := k2_sels lw_privs ++ tables_1
theorem lw_privs_ok : ∀ q ∈ lw_privs, lw_okq q := by
  show ∀ q ∈ lw_privs_1 ++ (lw_privs_2 ++ (lw_privs_3 ++ (lw_privs_4))), lw_okq q
  exact List.forall_mem_append.mpr ⟨lw_r1, List.forall_mem_append.mpr ⟨lw_r2, List.forall_mem_append.mpr ⟨lw_r3, lw_r4⟩⟩⟩
def RX0 : String := "LastAwake$Beds"
def TX0 : u_T := fun k => match k with
  | 0 => ("LastAwake$Beds", "sleepers", "[LLastAwake$Sleeper;", true)
  | 1 => ("LastAwake$Beds", "size", "I", false)
  | 2 => ("LastAwake$Beds", "nights", "I", false)
  | 3 => ("LastAwake$Beds", "undoable", "I", false)
  | _ => ("LastAwake$Beds", "past", "[[I", true)
def tyX0 : Nat → FieldType := fun k => match k with
  | 0 => .array (.object "LastAwake$Sleeper")
  | 1 => .int
  | 2 => .int
  | 3 => .int
  | _ => .array (.array .int)
abbrev wsX00 : List Cond := u_ws RX0 TX0 5
theorem nmX0 : ∀ a, a < 5 → ∀ b, b < 5 → a ≠ b → (TX0 a).2.1 ≠ (TX0 b).2.1 := by decide +kernel
theorem tyX0_ok : ∀ k, k < 5 → parseFieldDescriptor (TX0 k).2.2.1 = some (tyX0 k) := by decide +kernel
abbrev cX0_init : ByteArray := prog_2_method_1_code
def yX0_init : MethodName := ⟨RX0, "<init>", "()V"⟩
abbrev cX0_startAnew : ByteArray := prog_2_method_2_code
def yX0_startAnew : MethodName := ⟨RX0, "startAnew", "()V"⟩
abbrev cX0_copyFrom : ByteArray := prog_2_method_3_code
def yX0_copyFrom : MethodName := ⟨RX0, "copyFrom", "(LLastAwake$Beds;)V"⟩
abbrev cX0_has : ByteArray := prog_2_method_4_code
def yX0_has : MethodName := ⟨RX0, "has", "(I)Z"⟩
abbrev cX0_welcome : ByteArray := prog_2_method_5_code
def yX0_welcome : MethodName := ⟨RX0, "welcome", "(IIIII)I"⟩
abbrev cX0_leastCount : ByteArray := prog_2_method_6_code
def yX0_leastCount : MethodName := ⟨RX0, "leastCount", "()I"⟩
abbrev cX0_sum : ByteArray := prog_2_method_7_code
def yX0_sum : MethodName := ⟨RX0, "sum", "(I)I"⟩
abbrev cX0_feltBy : ByteArray := prog_2_method_8_code
def yX0_feltBy : MethodName := ⟨RX0, "feltBy", "(I)I"⟩
abbrev cX0_foresee : ByteArray := prog_2_method_9_code
def yX0_foresee : MethodName := ⟨RX0, "foresee", "(LLastAwake$Night;)V"⟩
abbrev cX0_rememberNight : ByteArray := prog_2_method_10_code
def yX0_rememberNight : MethodName := ⟨RX0, "rememberNight", "()V"⟩
abbrev cX0_forgetNight : ByteArray := prog_2_method_11_code
def yX0_forgetNight : MethodName := ⟨RX0, "forgetNight", "()V"⟩
abbrev cX0_drawUps : ByteArray := prog_2_method_12_code
def yX0_drawUps : MethodName := ⟨RX0, "drawUps", "(J)J"⟩
abbrev cX0_mixInto : ByteArray := prog_2_method_13_code
def yX0_mixInto : MethodName := ⟨RX0, "mixInto", "(J)J"⟩
def RX1 : String := "LastAwake$Floor"
def TX1 : u_T := fun k => match k with
  | 0 => ("LastAwake$Floor", "w", "I", false)
  | 1 => ("LastAwake$Floor", "h", "I", false)
  | 2 => ("LastAwake$Floor", "switchCell", "I", false)
  | 3 => ("LastAwake$Floor", "bedCell", "I", false)
  | 4 => ("LastAwake$Floor", "moonlit", "I", false)
  | 5 => ("LastAwake$Floor", "cords", "I", false)
  | 6 => ("LastAwake$Floor", "things", "[I", true)
  | 7 => ("LastAwake$Floor", "ways", "[I", true)
  | _ => ("LastAwake$Floor", "walk", "I", false)
def tyX1 : Nat → FieldType := fun k => match k with
  | 0 => .int
  | 1 => .int
  | 2 => .int
  | 3 => .int
  | 4 => .int
  | 5 => .int
  | 6 => .array .int
  | 7 => .array .int
  | _ => .int
abbrev wsX10 : List Cond := u_ws RX1 TX1 9
theorem nmX1 : ∀ a, a < 9 → ∀ b, b < 9 → a ≠ b → (TX1 a).2.1 ≠ (TX1 b).2.1 := by decide +kernel
theorem tyX1_ok : ∀ k, k < 9 → parseFieldDescriptor (TX1 k).2.2.1 = some (tyX1 k) := by decide +kernel
abbrev cX1_init : ByteArray := prog_3_method_1_code
def yX1_init : MethodName := ⟨RX1, "<init>", "()V"⟩
abbrev cX1_layOut : ByteArray := prog_3_method_2_code
def yX1_layOut : MethodName := ⟨RX1, "layOut", "(II)V"⟩
abbrev cX1_copyFrom : ByteArray := prog_3_method_3_code
def yX1_copyFrom : MethodName := ⟨RX1, "copyFrom", "(LLastAwake$Floor;)V"⟩
abbrev cX1_has : ByteArray := prog_3_method_4_code
def yX1_has : MethodName := ⟨RX1, "has", "(I)Z"⟩
abbrev cX1_putSwitch : ByteArray := prog_3_method_5_code
def yX1_putSwitch : MethodName := ⟨RX1, "putSwitch", "(I)V"⟩
abbrev cX1_putBed : ByteArray := prog_3_method_6_code
def yX1_putBed : MethodName := ⟨RX1, "putBed", "(I)V"⟩
abbrev cX1_putThings : ByteArray := prog_3_method_7_code
def yX1_putThings : MethodName := ⟨RX1, "putThings", "(II)V"⟩
abbrev cX1_shineOn : ByteArray := prog_3_method_8_code
def yX1_shineOn : MethodName := ⟨RX1, "shineOn", "(I)V"⟩
abbrev cX1_measureWalk : ByteArray := prog_3_method_9_code
def yX1_measureWalk : MethodName := ⟨RX1, "measureWalk", "()V"⟩
abbrev cX1_wayBetween : ByteArray := prog_3_method_10_code
def yX1_wayBetween : MethodName := ⟨RX1, "wayBetween", "(II)I"⟩
abbrev cX1_nearestBed : ByteArray := prog_3_method_11_code
def yX1_nearestBed : MethodName := ⟨RX1, "nearestBed", "()I"⟩
abbrev cX1_measureWaysTo : ByteArray := prog_3_method_12_code
def yX1_measureWaysTo : MethodName := ⟨RX1, "measureWaysTo", "(I)V"⟩
abbrev cX1_shorten : ByteArray := prog_3_method_13_code
def yX1_shorten : MethodName := ⟨RX1, "shorten", "(II)Z"⟩
abbrev cX1_wayOver : ByteArray := prog_3_method_14_code
def yX1_wayOver : MethodName := ⟨RX1, "wayOver", "(II)I"⟩
abbrev cX1_mixInto : ByteArray := prog_3_method_15_code
def yX1_mixInto : MethodName := ⟨RX1, "mixInto", "(J)J"⟩
def RX2 : String := "LastAwake$Night"
def TX2 : u_T := fun k => match k with
  | 0 => ("LastAwake$Night", "minute", "I", false)
  | 1 => ("LastAwake$Night", "putOutBy", "I", false)
  | _ => ("LastAwake$Night", "anyhow", "Z", false)
def tyX2 : Nat → FieldType := fun k => match k with
  | 0 => .int
  | 1 => .int
  | _ => .boolean
abbrev wsX20 : List Cond := u_ws RX2 TX2 3
theorem nmX2 : ∀ a, a < 3 → ∀ b, b < 3 → a ≠ b → (TX2 a).2.1 ≠ (TX2 b).2.1 := by decide +kernel
theorem tyX2_ok : ∀ k, k < 3 → parseFieldDescriptor (TX2 k).2.2.1 = some (tyX2 k) := by decide +kernel
abbrev cX2_init : ByteArray := prog_4_method_1_code
def yX2_init : MethodName := ⟨RX2, "<init>", "()V"⟩
abbrev cX2_endAt : ByteArray := prog_4_method_2_code
def yX2_endAt : MethodName := ⟨RX2, "endAt", "(IIZ)V"⟩
def RX3 : String := "LastAwake$Notes"
def TX3 : u_T := fun k => match k with
  | 0 => ("LastAwake$Notes", "size", "I", false)
  | 1 => ("LastAwake$Notes", "writers", "[I", true)
  | _ => ("LastAwake$Notes", "named", "[I", true)
def tyX3 : Nat → FieldType := fun k => match k with
  | 0 => .int
  | 1 => .array .int
  | _ => .array .int
abbrev wsX30 : List Cond := u_ws RX3 TX3 3
theorem nmX3 : ∀ a, a < 3 → ∀ b, b < 3 → a ≠ b → (TX3 a).2.1 ≠ (TX3 b).2.1 := by decide +kernel
theorem tyX3_ok : ∀ k, k < 3 → parseFieldDescriptor (TX3 k).2.2.1 = some (tyX3 k) := by decide +kernel
abbrev cX3_init : ByteArray := prog_5_method_1_code
def yX3_init : MethodName := ⟨RX3, "<init>", "()V"⟩
abbrev cX3_copyFrom : ByteArray := prog_5_method_2_code
def yX3_copyFrom : MethodName := ⟨RX3, "copyFrom", "(LLastAwake$Notes;)V"⟩
abbrev cX3_write : ByteArray := prog_5_method_3_code
def yX3_write : MethodName := ⟨RX3, "write", "(II)I"⟩
abbrev cX3_suspects : ByteArray := prog_5_method_4_code
def yX3_suspects : MethodName := ⟨RX3, "suspects", "(II)I"⟩
abbrev cX3_liarsIf : ByteArray := prog_5_method_5_code
def yX3_liarsIf : MethodName := ⟨RX3, "liarsIf", "(I)I"⟩
abbrev cX3_mixInto : ByteArray := prog_5_method_6_code
def yX3_mixInto : MethodName := ⟨RX3, "mixInto", "(J)J"⟩
def RX4 : String := "LastAwake$Script"
def TX4 : u_T := fun k => match k with
  | 0 => ("LastAwake$Script", "length", "I", false)
  | 1 => ("LastAwake$Script", "bytes", "[B", true)
  | 2 => ("LastAwake$Script", "numbers", "[I", true)
  | 3 => ("LastAwake$Script", "token", "I", false)
  | 4 => ("LastAwake$Script", "start", "I", false)
  | 5 => ("LastAwake$Script", "end", "I", false)
  | _ => ("LastAwake$Script", "value", "I", false)
def tyX4 : Nat → FieldType := fun k => match k with
  | 0 => .int
  | 1 => .array .byte
  | 2 => .array .int
  | 3 => .int
  | 4 => .int
  | 5 => .int
  | _ => .int
abbrev wsX40 : List Cond := u_ws RX4 TX4 7
theorem nmX4 : ∀ a, a < 7 → ∀ b, b < 7 → a ≠ b → (TX4 a).2.1 ≠ (TX4 b).2.1 := by decide +kernel
theorem tyX4_ok : ∀ k, k < 7 → parseFieldDescriptor (TX4 k).2.2.1 = some (tyX4 k) := by decide +kernel
abbrev cX4_init : ByteArray := prog_6_method_1_code
def yX4_init : MethodName := ⟨RX4, "<init>", "()V"⟩
abbrev cX4_append : ByteArray := prog_6_method_2_code
def yX4_append : MethodName := ⟨RX4, "append", "(I)V"⟩
abbrev cX4_tellRoom : ByteArray := prog_6_method_3_code
def yX4_tellRoom : MethodName := ⟨RX4, "tellRoom", "(LLastAwake$State;)I"⟩
abbrev cX4_itemStands : ByteArray := prog_6_method_4_code
def yX4_itemStands : MethodName := ⟨RX4, "itemStands", "(LLastAwake$State;Z)Z"⟩
abbrev cX4_itemOfWord : ByteArray := prog_6_method_5_code
def yX4_itemOfWord : MethodName := ⟨RX4, "itemOfWord", "()I"⟩
abbrev cX4_wordIs : ByteArray := prog_6_method_6_code
def yX4_wordIs : MethodName := ⟨RX4, "wordIs", "(Ljava/lang/String;)Z"⟩
abbrev cX4_mostOfNumber : ByteArray := prog_6_method_7_code
def yX4_mostOfNumber : MethodName := ⟨RX4, "mostOfNumber", "(LLastAwake$State;II)I"⟩
abbrev cX4_apply : ByteArray := prog_6_method_8_code
def yX4_apply : MethodName := ⟨RX4, "apply", "(LLastAwake$State;I)V"⟩
abbrev cX4_nextToken : ByteArray := prog_6_method_9_code
def yX4_nextToken : MethodName := ⟨RX4, "nextToken", "()V"⟩
abbrev cX4_takeWord : ByteArray := prog_6_method_10_code
def yX4_takeWord : MethodName := ⟨RX4, "takeWord", "()V"⟩
abbrev cX4_takeNumber : ByteArray := prog_6_method_11_code
def yX4_takeNumber : MethodName := ⟨RX4, "takeNumber", "()V"⟩
abbrev cX4_isLetter : ByteArray := prog_6_method_12_code
def yX4_isLetter : MethodName := ⟨RX4, "isLetter", "(I)Z"⟩
abbrev cX4_isFigure : ByteArray := prog_6_method_13_code
def yX4_isFigure : MethodName := ⟨RX4, "isFigure", "(I)Z"⟩
def RX5 : String := "LastAwake$Sleeper"
def TX5 : u_T := fun k => match k with
  | _ => ("LastAwake$Sleeper", "traits", "[I", true)
def tyX5 : Nat → FieldType := fun k => match k with
  | _ => .array .int
abbrev wsX50 : List Cond := u_ws RX5 TX5 1
theorem nmX5 : ∀ a, a < 1 → ∀ b, b < 1 → a ≠ b → (TX5 a).2.1 ≠ (TX5 b).2.1 := by decide +kernel
theorem tyX5_ok : ∀ k, k < 1 → parseFieldDescriptor (TX5 k).2.2.1 = some (tyX5 k) := by decide +kernel
abbrev cX5_init : ByteArray := prog_7_method_1_code
def yX5_init : MethodName := ⟨RX5, "<init>", "()V"⟩
abbrev cX5_waits : ByteArray := prog_7_method_2_code
def yX5_waits : MethodName := ⟨RX5, "waits", "(I)I"⟩
abbrev cX5_isUpAnyhow : ByteArray := prog_7_method_3_code
def yX5_isUpAnyhow : MethodName := ⟨RX5, "isUpAnyhow", "()Z"⟩
abbrev cX5_lightCost : ByteArray := prog_7_method_4_code
def yX5_lightCost : MethodName := ⟨RX5, "lightCost", "(I)I"⟩
def RX6 : String := "LastAwake$State"
def TX6 : u_T := fun k => match k with
  | 0 => ("LastAwake$State", "floor", "LLastAwake$Floor;", true)
  | 1 => ("LastAwake$State", "beds", "LLastAwake$Beds;", true)
  | 2 => ("LastAwake$State", "notes", "LLastAwake$Notes;", true)
  | _ => ("LastAwake$State", "night", "LLastAwake$Night;", true)
def tyX6 : Nat → FieldType := fun k => match k with
  | 0 => .object "LastAwake$Floor"
  | 1 => .object "LastAwake$Beds"
  | 2 => .object "LastAwake$Notes"
  | _ => .object "LastAwake$Night"
abbrev wsX60 : List Cond := u_ws RX6 TX6 4
theorem nmX6 : ∀ a, a < 4 → ∀ b, b < 4 → a ≠ b → (TX6 a).2.1 ≠ (TX6 b).2.1 := by decide +kernel
theorem tyX6_ok : ∀ k, k < 4 → parseFieldDescriptor (TX6 k).2.2.1 = some (tyX6 k) := by decide +kernel
abbrev cX6_init : ByteArray := prog_8_method_1_code
def yX6_init : MethodName := ⟨RX6, "<init>", "()V"⟩
abbrev cX6_startAnew : ByteArray := prog_8_method_2_code
def yX6_startAnew : MethodName := ⟨RX6, "startAnew", "(II)V"⟩
abbrev cX6_copyFrom : ByteArray := prog_8_method_3_code
def yX6_copyFrom : MethodName := ⟨RX6, "copyFrom", "(LLastAwake$State;)V"⟩
abbrev cX6_foresee : ByteArray := prog_8_method_4_code
def yX6_foresee : MethodName := ⟨RX6, "foresee", "()V"⟩
abbrev cX6_spendNight : ByteArray := prog_8_method_5_code
def yX6_spendNight : MethodName := ⟨RX6, "spendNight", "()I"⟩
abbrev cX6_costTonight : ByteArray := prog_8_method_6_code
def yX6_costTonight : MethodName := ⟨RX6, "costTonight", "(I)I"⟩
abbrev cX6_errandTonight : ByteArray := prog_8_method_7_code
def yX6_errandTonight : MethodName := ⟨RX6, "errandTonight", "()I"⟩
abbrev cX6_errandOf : ByteArray := prog_8_method_8_code
def yX6_errandOf : MethodName := ⟨RX6, "errandOf", "(IZ)I"⟩
abbrev cX6_burden : ByteArray := prog_8_method_9_code
def yX6_burden : MethodName := ⟨RX6, "burden", "(III)I"⟩
abbrev cX6_leastOfTurns : ByteArray := prog_8_method_10_code
def yX6_leastOfTurns : MethodName := ⟨RX6, "leastOfTurns", "(I)I"⟩
abbrev cX6_turnsWithin : ByteArray := prog_8_method_11_code
def yX6_turnsWithin : MethodName := ⟨RX6, "turnsWithin", "(II)I"⟩
abbrev cX6_ownTurnsWithin : ByteArray := prog_8_method_12_code
def yX6_ownTurnsWithin : MethodName := ⟨RX6, "ownTurnsWithin", "(III)I"⟩
abbrev cX6_nextBurden : ByteArray := prog_8_method_13_code
def yX6_nextBurden : MethodName := ⟨RX6, "nextBurden", "(II)I"⟩
abbrev cX6_whoseTurn : ByteArray := prog_8_method_14_code
def yX6_whoseTurn : MethodName := ⟨RX6, "whoseTurn", "(III)I"⟩
def RX7 : String := "LastAwake"
def TX7 : u_T := fun k => match k with
  | 0 => ("LastAwake", "state", "LLastAwake$State;", true)
  | 1 => ("LastAwake", "trial", "LLastAwake$State;", true)
  | 2 => ("LastAwake", "images", "[LLastAwake$State;", true)
  | 3 => ("LastAwake", "script", "LLastAwake$Script;", true)
  | 4 => ("LastAwake", "refused", "[I", true)
  | 5 => ("LastAwake", "costsOfOne", "[[I", true)
  | 6 => ("LastAwake", "costsOfOther", "[[I", true)
  | 7 => ("LastAwake", "above", "J", false)
  | _ => ("LastAwake", "below", "J", false)
def tyX7 : Nat → FieldType := fun k => match k with
  | 0 => .object "LastAwake$State"
  | 1 => .object "LastAwake$State"
  | 2 => .array (.object "LastAwake$State")
  | 3 => .object "LastAwake$Script"
  | 4 => .array .int
  | 5 => .array (.array .int)
  | 6 => .array (.array .int)
  | 7 => .long
  | _ => .long
abbrev wsX70 : List Cond := u_ws RX7 TX7 9
theorem nmX7 : ∀ a, a < 9 → ∀ b, b < 9 → a ≠ b → (TX7 a).2.1 ≠ (TX7 b).2.1 := by decide +kernel
theorem tyX7_ok : ∀ k, k < 9 → parseFieldDescriptor (TX7 k).2.2.1 = some (tyX7 k) := by decide +kernel
abbrev cX7_init : ByteArray := prog_1_method_1_code
def yX7_init : MethodName := ⟨RX7, "<init>", "()V"⟩
abbrev cX7_room : ByteArray := prog_1_method_2_code
def yX7_room : MethodName := ⟨RX7, "room", "(II)I"⟩
abbrev cX7_place : ByteArray := prog_1_method_3_code
def yX7_place : MethodName := ⟨RX7, "place", "(II)I"⟩
abbrev cX7_things : ByteArray := prog_1_method_4_code
def yX7_things : MethodName := ⟨RX7, "things", "(II)I"⟩
abbrev cX7_moon : ByteArray := prog_1_method_5_code
def yX7_moon : MethodName := ⟨RX7, "moon", "(I)I"⟩
abbrev cX7_cord : ByteArray := prog_1_method_6_code
def yX7_cord : MethodName := ⟨RX7, "cord", "(I)I"⟩
abbrev cX7_sleeper : ByteArray := prog_1_method_7_code
def yX7_sleeper : MethodName := ⟨RX7, "sleeper", "(IIIII)I"⟩
abbrev cX7_become : ByteArray := prog_1_method_8_code
def yX7_become : MethodName := ⟨RX7, "become", "(III)I"⟩
abbrev cX7_type : ByteArray := prog_1_method_9_code
def yX7_type : MethodName := ⟨RX7, "type", "(I)I"⟩
abbrev cX7_clear : ByteArray := prog_1_method_10_code
def yX7_clear : MethodName := ⟨RX7, "clear", "()I"⟩
abbrev cX7_read : ByteArray := prog_1_method_11_code
def yX7_read : MethodName := ⟨RX7, "read", "()I"⟩
abbrev cX7_pass : ByteArray := prog_1_method_12_code
def yX7_pass : MethodName := ⟨RX7, "pass", "(I)I"⟩
abbrev cX7_undo : ByteArray := prog_1_method_13_code
def yX7_undo : MethodName := ⟨RX7, "undo", "()I"⟩
abbrev cX7_about : ByteArray := prog_1_method_14_code
def yX7_about : MethodName := ⟨RX7, "about", "(II)I"⟩
abbrev cX7_way : ByteArray := prog_1_method_15_code
def yX7_way : MethodName := ⟨RX7, "way", "(II)I"⟩
abbrev cX7_bed : ByteArray := prog_1_method_16_code
def yX7_bed : MethodName := ⟨RX7, "bed", "()I"⟩
abbrev cX7_tonight : ByteArray := prog_1_method_17_code
def yX7_tonight : MethodName := ⟨RX7, "tonight", "(I)I"⟩
abbrev cX7_cost : ByteArray := prog_1_method_18_code
def yX7_cost : MethodName := ⟨RX7, "cost", "(I)I"⟩
abbrev cX7_foretold : ByteArray := prog_1_method_19_code
def yX7_foretold : MethodName := ⟨RX7, "foretold", "(III)I"⟩
abbrev cX7_worth : ByteArray := prog_1_method_20_code
def yX7_worth : MethodName := ⟨RX7, "worth", "(I)I"⟩
abbrev cX7_reading : ByteArray := prog_1_method_21_code
def yX7_reading : MethodName := ⟨RX7, "reading", "(I)I"⟩
abbrev cX7_waiting : ByteArray := prog_1_method_22_code
def yX7_waiting : MethodName := ⟨RX7, "waiting", "(III)I"⟩
abbrev cX7_turns : ByteArray := prog_1_method_23_code
def yX7_turns : MethodName := ⟨RX7, "turns", "(II)I"⟩
abbrev cX7_shoe : ByteArray := prog_1_method_24_code
def yX7_shoe : MethodName := ⟨RX7, "shoe", "(III)I"⟩
abbrev cX7_clap : ByteArray := prog_1_method_25_code
def yX7_clap : MethodName := ⟨RX7, "clap", "(III)I"⟩
abbrev cX7_asleep : ByteArray := prog_1_method_26_code
def yX7_asleep : MethodName := ⟨RX7, "asleep", "(IIIII)I"⟩
abbrev cX7_note : ByteArray := prog_1_method_27_code
def yX7_note : MethodName := ⟨RX7, "note", "(II)I"⟩
abbrev cX7_burn : ByteArray := prog_1_method_28_code
def yX7_burn : MethodName := ⟨RX7, "burn", "()I"⟩
abbrev cX7_who : ByteArray := prog_1_method_29_code
def yX7_who : MethodName := ⟨RX7, "who", "(I)I"⟩
abbrev cX7_drawn : ByteArray := prog_1_method_30_code
def yX7_drawn : MethodName := ⟨RX7, "drawn", "(III)I"⟩
abbrev cX7_part : ByteArray := prog_1_method_31_code
def yX7_part : MethodName := ⟨RX7, "part", "(I)J"⟩
abbrev cX7_image : ByteArray := prog_1_method_32_code
def yX7_image : MethodName := ⟨RX7, "image", "(I)I"⟩
abbrev cX7_from : ByteArray := prog_1_method_33_code
def yX7_from : MethodName := ⟨RX7, "from", "(I)I"⟩
abbrev cX7_status : ByteArray := prog_1_method_34_code
def yX7_status : MethodName := ⟨RX7, "status", "(I)I"⟩
abbrev cX7_count : ByteArray := prog_1_method_35_code
def yX7_count : MethodName := ⟨RX7, "count", "(I)I"⟩
abbrev cX7_digest : ByteArray := prog_1_method_36_code
def yX7_digest : MethodName := ⟨RX7, "digest", "()J"⟩
abbrev cX7_within : ByteArray := prog_1_method_37_code
def yX7_within : MethodName := ⟨RX7, "within", "(III)Z"⟩
abbrev cX7_fitsTrait : ByteArray := prog_1_method_38_code
def yX7_fitsTrait : MethodName := ⟨RX7, "fitsTrait", "(II)Z"⟩
abbrev cX7_bad : ByteArray := prog_1_method_39_code
def yX7_bad : MethodName := ⟨RX7, "bad", "(I)I"⟩
abbrev cX7_no : ByteArray := prog_1_method_40_code
def yX7_no : MethodName := ⟨RX7, "no", "()I"⟩
abbrev cX7_full : ByteArray := prog_1_method_41_code
def yX7_full : MethodName := ⟨RX7, "full", "()I"⟩
abbrev cX7_howMany : ByteArray := prog_1_method_42_code
def yX7_howMany : MethodName := ⟨RX7, "howMany", "(I)I"⟩
abbrev cX7_joyOfReading : ByteArray := prog_1_method_43_code
def yX7_joyOfReading : MethodName := ⟨RX7, "joyOfReading", "(II)I"⟩
abbrev cX7_fillCosts : ByteArray := prog_1_method_44_code
def yX7_fillCosts : MethodName := ⟨RX7, "fillCosts", "(II)V"⟩
abbrev cX7_pairRests : ByteArray := prog_1_method_45_code
def yX7_pairRests : MethodName := ⟨RX7, "pairRests", "(II)Z"⟩
abbrev cX7_turnedAbout : ByteArray := prog_1_method_46_code
def yX7_turnedAbout : MethodName := ⟨RX7, "turnedAbout", "(JJI)J"⟩
abbrev cX7_setFraction : ByteArray := prog_1_method_47_code
def yX7_setFraction : MethodName := ⟨RX7, "setFraction", "(JJ)V"⟩
abbrev cX7_commonDivisor : ByteArray := prog_1_method_48_code
def yX7_commonDivisor : MethodName := ⟨RX7, "commonDivisor", "(JJ)J"⟩
def RX8 : String := "LastAwakeModel"
def TX8 : u_T := fun k => match k with
  | 0 => ("LastAwakeModel", "w", "[I", true)
  | 1 => ("LastAwakeModel", "isKept", "[Z", true)
  | 2 => ("LastAwakeModel", "text", "[I", true)
  | 3 => ("LastAwakeModel", "texted", "I", false)
  | 4 => ("LastAwakeModel", "refused", "[I", true)
  | 5 => ("LastAwakeModel", "above", "J", false)
  | 6 => ("LastAwakeModel", "below", "J", false)
  | 7 => ("LastAwakeModel", "at", "I", false)
  | 8 => ("LastAwakeModel", "start", "I", false)
  | 9 => ("LastAwakeModel", "isFigures", "Z", false)
  | 10 => ("LastAwakeModel", "isWord", "Z", false)
  | 11 => ("LastAwakeModel", "value", "I", false)
  | 12 => ("LastAwakeModel", "items", "I", false)
  | 13 => ("LastAwakeModel", "far", "[I", true)
  | 14 => ("LastAwakeModel", "ups", "[I", true)
  | 15 => ("LastAwakeModel", "counts", "[I", true)
  | 16 => ("LastAwakeModel", "paid", "[I", true)
  | 17 => ("LastAwakeModel", "bedWay", "I", false)
  | 18 => ("LastAwakeModel", "cordNow", "I", false)
  | 19 => ("LastAwakeModel", "minute", "I", false)
  | 20 => ("LastAwakeModel", "whoNow", "I", false)
  | 21 => ("LastAwakeModel", "anyhow", "I", false)
  | 22 => ("LastAwakeModel", "without", "[I", true)
  | 23 => ("LastAwakeModel", "costsOne", "[I", true)
  | 24 => ("LastAwakeModel", "costsOther", "[I", true)
  | _ => ("LastAwakeModel", "h", "J", false)
def tyX8 : Nat → FieldType := fun k => match k with
  | 0 => .array .int
  | 1 => .array .boolean
  | 2 => .array .int
  | 3 => .int
  | 4 => .array .int
  | 5 => .long
  | 6 => .long
  | 7 => .int
  | 8 => .int
  | 9 => .boolean
  | 10 => .boolean
  | 11 => .int
  | 12 => .int
  | 13 => .array .int
  | 14 => .array .int
  | 15 => .array .int
  | 16 => .array .int
  | 17 => .int
  | 18 => .int
  | 19 => .int
  | 20 => .int
  | 21 => .int
  | 22 => .array .int
  | 23 => .array .int
  | 24 => .array .int
  | _ => .long
abbrev wsX80 : List Cond := u_ws RX8 TX8 26
theorem nmX8 : ∀ a, a < 26 → ∀ b, b < 26 → a ≠ b → (TX8 a).2.1 ≠ (TX8 b).2.1 := by decide +kernel
theorem tyX8_ok : ∀ k, k < 26 → parseFieldDescriptor (TX8 k).2.2.1 = some (tyX8 k) := by decide +kernel
abbrev cX8_init : ByteArray := prog_10_method_1_code
def yX8_init : MethodName := ⟨RX8, "<init>", "()V"⟩
abbrev cX8_in : ByteArray := prog_10_method_3_code
def yX8_in : MethodName := ⟨RX8, "in", "(JJJ)Z"⟩
abbrev cX8_has : ByteArray := prog_10_method_4_code
def yX8_has : MethodName := ⟨RX8, "has", "(II)Z"⟩
abbrev cX8_more : ByteArray := prog_10_method_5_code
def yX8_more : MethodName := ⟨RX8, "more", "(II)I"⟩
abbrev cX8_met : ByteArray := prog_10_method_6_code
def yX8_met : MethodName := ⟨RX8, "met", "(I)I"⟩
abbrev cX8_bad : ByteArray := prog_10_method_7_code
def yX8_bad : MethodName := ⟨RX8, "bad", "()I"⟩
abbrev cX8_badAs : ByteArray := prog_10_method_8_code
def yX8_badAs : MethodName := ⟨RX8, "badAs", "(I)I"⟩
abbrev cX8_copy : ByteArray := prog_10_method_9_code
def yX8_copy : MethodName := ⟨RX8, "copy", "(II)V"⟩
abbrev cX8_begins : ByteArray := prog_10_method_10_code
def yX8_begins : MethodName := ⟨RX8, "begins", "(III)V"⟩
abbrev cX8_isCell : ByteArray := prog_10_method_11_code
def yX8_isCell : MethodName := ⟨RX8, "isCell", "(II)Z"⟩
abbrev cX8_isOne : ByteArray := prog_10_method_12_code
def yX8_isOne : MethodName := ⟨RX8, "isOne", "(I)Z"⟩
abbrev cX8_most : ByteArray := prog_10_method_13_code
def yX8_most : MethodName := ⟨RX8, "most", "(I)I"⟩
abbrev cX8_comes : ByteArray := prog_10_method_14_code
def yX8_comes : MethodName := ⟨RX8, "comes", "(IIIIII)V"⟩
abbrev cX8_room : ByteArray := prog_10_method_15_code
def yX8_room : MethodName := ⟨RX8, "room", "(II)I"⟩
abbrev cX8_becomes : ByteArray := prog_10_method_16_code
def yX8_becomes : MethodName := ⟨RX8, "becomes", "(II)I"⟩
abbrev cX8_place : ByteArray := prog_10_method_17_code
def yX8_place : MethodName := ⟨RX8, "place", "(II)I"⟩
abbrev cX8_things : ByteArray := prog_10_method_18_code
def yX8_things : MethodName := ⟨RX8, "things", "(II)I"⟩
abbrev cX8_moon : ByteArray := prog_10_method_19_code
def yX8_moon : MethodName := ⟨RX8, "moon", "(I)I"⟩
abbrev cX8_cord : ByteArray := prog_10_method_20_code
def yX8_cord : MethodName := ⟨RX8, "cord", "(I)I"⟩
abbrev cX8_sleeper : ByteArray := prog_10_method_21_code
def yX8_sleeper : MethodName := ⟨RX8, "sleeper", "(IIIII)I"⟩
abbrev cX8_become : ByteArray := prog_10_method_22_code
def yX8_become : MethodName := ⟨RX8, "become", "(III)I"⟩
abbrev cX8_type : ByteArray := prog_10_method_23_code
def yX8_type : MethodName := ⟨RX8, "type", "(I)I"⟩
abbrev cX8_clear : ByteArray := prog_10_method_24_code
def yX8_clear : MethodName := ⟨RX8, "clear", "()I"⟩
abbrev cX8_byteAt : ByteArray := prog_10_method_25_code
def yX8_byteAt : MethodName := ⟨RX8, "byteAt", "(I)I"⟩
abbrev cX8_token : ByteArray := prog_10_method_26_code
def yX8_token : MethodName := ⟨RX8, "token", "()V"⟩
abbrev cX8_takes : ByteArray := prog_10_method_27_code
def yX8_takes : MethodName := ⟨RX8, "takes", "(II)Z"⟩
abbrev cX8_isNamed : ByteArray := prog_10_method_28_code
def yX8_isNamed : MethodName := ⟨RX8, "isNamed", "(IIIII)Z"⟩
abbrev cX8_wordNow : ByteArray := prog_10_method_29_code
def yX8_wordNow : MethodName := ⟨RX8, "wordNow", "()I"⟩
abbrev cX8_takesRoom : ByteArray := prog_10_method_30_code
def yX8_takesRoom : MethodName := ⟨RX8, "takesRoom", "()Z"⟩
abbrev cX8_takesCell : ByteArray := prog_10_method_31_code
def yX8_takesCell : MethodName := ⟨RX8, "takesCell", "()Z"⟩
abbrev cX8_takesSleeper : ByteArray := prog_10_method_32_code
def yX8_takesSleeper : MethodName := ⟨RX8, "takesSleeper", "()Z"⟩
abbrev cX8_takesThing : ByteArray := prog_10_method_33_code
def yX8_takesThing : MethodName := ⟨RX8, "takesThing", "()Z"⟩
abbrev cX8_takesUp : ByteArray := prog_10_method_34_code
def yX8_takesUp : MethodName := ⟨RX8, "takesUp", "()Z"⟩
abbrev cX8_takesItem : ByteArray := prog_10_method_35_code
def yX8_takesItem : MethodName := ⟨RX8, "takesItem", "(I)Z"⟩
abbrev cX8_reads : ByteArray := prog_10_method_36_code
def yX8_reads : MethodName := ⟨RX8, "reads", "()Z"⟩
abbrev cX8_read : ByteArray := prog_10_method_37_code
def yX8_read : MethodName := ⟨RX8, "read", "()I"⟩
abbrev cX8_stepTo : ByteArray := prog_10_method_38_code
def yX8_stepTo : MethodName := ⟨RX8, "stepTo", "(I)I"⟩
abbrev cX8_areBeside : ByteArray := prog_10_method_39_code
def yX8_areBeside : MethodName := ⟨RX8, "areBeside", "(II)Z"⟩
abbrev cX8_wayOf : ByteArray := prog_10_method_40_code
def yX8_wayOf : MethodName := ⟨RX8, "wayOf", "(II)I"⟩
abbrev cX8_way : ByteArray := prog_10_method_41_code
def yX8_way : MethodName := ⟨RX8, "way", "(II)I"⟩
abbrev cX8_bed : ByteArray := prog_10_method_42_code
def yX8_bed : MethodName := ⟨RX8, "bed", "()I"⟩
abbrev cX8_layNow : ByteArray := prog_10_method_43_code
def yX8_layNow : MethodName := ⟨RX8, "layNow", "()V"⟩
abbrev cX8_waits : ByteArray := prog_10_method_44_code
def yX8_waits : MethodName := ⟨RX8, "waits", "(I)I"⟩
abbrev cX8_goNight : ByteArray := prog_10_method_45_code
def yX8_goNight : MethodName := ⟨RX8, "goNight", "()V"⟩
abbrev cX8_costOf : ByteArray := prog_10_method_46_code
def yX8_costOf : MethodName := ⟨RX8, "costOf", "(I)I"⟩
abbrev cX8_pays : ByteArray := prog_10_method_47_code
def yX8_pays : MethodName := ⟨RX8, "pays", "()V"⟩
abbrev cX8_minds : ByteArray := prog_10_method_48_code
def yX8_minds : MethodName := ⟨RX8, "minds", "()V"⟩
abbrev cX8_pass : ByteArray := prog_10_method_49_code
def yX8_pass : MethodName := ⟨RX8, "pass", "(I)I"⟩
abbrev cX8_undo : ByteArray := prog_10_method_50_code
def yX8_undo : MethodName := ⟨RX8, "undo", "()I"⟩
abbrev cX8_feltBy : ByteArray := prog_10_method_51_code
def yX8_feltBy : MethodName := ⟨RX8, "feltBy", "(I)I"⟩
abbrev cX8_about : ByteArray := prog_10_method_52_code
def yX8_about : MethodName := ⟨RX8, "about", "(II)I"⟩
abbrev cX8_tonight : ByteArray := prog_10_method_53_code
def yX8_tonight : MethodName := ⟨RX8, "tonight", "(I)I"⟩
abbrev cX8_cost : ByteArray := prog_10_method_54_code
def yX8_cost : MethodName := ⟨RX8, "cost", "(I)I"⟩
abbrev cX8_sumOf : ByteArray := prog_10_method_55_code
def yX8_sumOf : MethodName := ⟨RX8, "sumOf", "(I)I"⟩
abbrev cX8_foretold : ByteArray := prog_10_method_56_code
def yX8_foretold : MethodName := ⟨RX8, "foretold", "(III)I"⟩
abbrev cX8_layWithout : ByteArray := prog_10_method_57_code
def yX8_layWithout : MethodName := ⟨RX8, "layWithout", "()V"⟩
abbrev cX8_worth : ByteArray := prog_10_method_58_code
def yX8_worth : MethodName := ⟨RX8, "worth", "(I)I"⟩
abbrev cX8_reading : ByteArray := prog_10_method_59_code
def yX8_reading : MethodName := ⟨RX8, "reading", "(I)I"⟩
abbrev cX8_layCosts : ByteArray := prog_10_method_60_code
def yX8_layCosts : MethodName := ⟨RX8, "layCosts", "(II)V"⟩
abbrev cX8_waiting : ByteArray := prog_10_method_61_code
def yX8_waiting : MethodName := ⟨RX8, "waiting", "(III)I"⟩
abbrev cX8_power : ByteArray := prog_10_method_62_code
def yX8_power : MethodName := ⟨RX8, "power", "(II)I"⟩
abbrev cX8_mostBy : ByteArray := prog_10_method_63_code
def yX8_mostBy : MethodName := ⟨RX8, "mostBy", "(II)I"⟩
abbrev cX8_turns : ByteArray := prog_10_method_64_code
def yX8_turns : MethodName := ⟨RX8, "turns", "(II)I"⟩
abbrev cX8_tells : ByteArray := prog_10_method_65_code
def yX8_tells : MethodName := ⟨RX8, "tells", "(JJ)V"⟩
abbrev cX8_raised : ByteArray := prog_10_method_66_code
def yX8_raised : MethodName := ⟨RX8, "raised", "(JI)J"⟩
abbrev cX8_shoe : ByteArray := prog_10_method_67_code
def yX8_shoe : MethodName := ⟨RX8, "shoe", "(III)I"⟩
abbrev cX8_clap : ByteArray := prog_10_method_68_code
def yX8_clap : MethodName := ⟨RX8, "clap", "(III)I"⟩
abbrev cX8_asleep : ByteArray := prog_10_method_69_code
def yX8_asleep : MethodName := ⟨RX8, "asleep", "(IIIII)I"⟩
abbrev cX8_note : ByteArray := prog_10_method_70_code
def yX8_note : MethodName := ⟨RX8, "note", "(II)I"⟩
abbrev cX8_burn : ByteArray := prog_10_method_71_code
def yX8_burn : MethodName := ⟨RX8, "burn", "()I"⟩
abbrev cX8_liarsIf : ByteArray := prog_10_method_72_code
def yX8_liarsIf : MethodName := ⟨RX8, "liarsIf", "(I)I"⟩
abbrev cX8_who : ByteArray := prog_10_method_73_code
def yX8_who : MethodName := ⟨RX8, "who", "(I)I"⟩
abbrev cX8_drawn : ByteArray := prog_10_method_74_code
def yX8_drawn : MethodName := ⟨RX8, "drawn", "(III)I"⟩
abbrev cX8_part : ByteArray := prog_10_method_75_code
def yX8_part : MethodName := ⟨RX8, "part", "(I)J"⟩
abbrev cX8_image : ByteArray := prog_10_method_76_code
def yX8_image : MethodName := ⟨RX8, "image", "(I)I"⟩
abbrev cX8_from : ByteArray := prog_10_method_77_code
def yX8_from : MethodName := ⟨RX8, "from", "(I)I"⟩
abbrev cX8_status : ByteArray := prog_10_method_78_code
def yX8_status : MethodName := ⟨RX8, "status", "(I)I"⟩
abbrev cX8_countOf : ByteArray := prog_10_method_79_code
def yX8_countOf : MethodName := ⟨RX8, "countOf", "(I)I"⟩
abbrev cX8_count : ByteArray := prog_10_method_80_code
def yX8_count : MethodName := ⟨RX8, "count", "(I)I"⟩
abbrev cX8_mix : ByteArray := prog_10_method_81_code
def yX8_mix : MethodName := ⟨RX8, "mix", "(J)V"⟩
abbrev cX8_digest : ByteArray := prog_10_method_82_code
def yX8_digest : MethodName := ⟨RX8, "digest", "()J"⟩
def RJ6 : String := "java/lang/Integer"
abbrev cJ6_bitCount_0f7a4 : ByteArray := prog_11_method_49_code
def yJ6_bitCount_0f7a4 : MethodName := ⟨RJ6, "bitCount", "(I)I"⟩
def RJ9 : String := "java/lang/Math"
abbrev cJ9_max_7cf53 : ByteArray := prog_12_method_65_code
def yJ9_max_7cf53 : MethodName := ⟨RJ9, "max", "(II)I"⟩
abbrev cJ9_min_7cf53 : ByteArray := prog_12_method_69_code
def yJ9_min_7cf53 : MethodName := ⟨RJ9, "min", "(II)I"⟩
def RJ0 : String := "java/lang/String"
abbrev cJ0_length_8abf5 : ByteArray := prog_13_method_54_code
def yJ0_length_8abf5 : MethodName := ⟨RJ0, "length", "()I"⟩
abbrev cJ0_charAt_5068e : ByteArray := prog_13_method_56_code
def yJ0_charAt_5068e : MethodName := ⟨RJ0, "charAt", "(I)C"⟩
abbrev cJ0_coder_7d493 : ByteArray := prog_13_method_152_code
def yJ0_coder_7d493 : MethodName := ⟨RJ0, "coder", "()B"⟩
abbrev cJ0_isLatin1_aae02 : ByteArray := prog_13_method_154_code
def yJ0_isLatin1_aae02 : MethodName := ⟨RJ0, "isLatin1", "()Z"⟩
abbrev cJ0_checkIndex_df160 : ByteArray := prog_13_method_155_code
def yJ0_checkIndex_df160 : MethodName := ⟨RJ0, "checkIndex", "(II)V"⟩
def RJ1 : String := "java/lang/StringLatin1"
abbrev cJ1_charAt_3b067 : ByteArray := prog_14_method_2_code
def yJ1_charAt_3b067 : MethodName := ⟨RJ1, "charAt", "([BI)C"⟩
def RJ2 : String := "java/lang/StringUTF16"
abbrev cJ2_getChar_3b067 : ByteArray := prog_15_method_5_code
def yJ2_getChar_3b067 : MethodName := ⟨RJ2, "getChar", "([BI)C"⟩
abbrev cJ2_length_9d52b : ByteArray := prog_15_method_6_code
def yJ2_length_9d52b : MethodName := ⟨RJ2, "length", "([B)I"⟩
abbrev cJ2_charAt_3b067 : ByteArray := prog_15_method_83_code
def yJ2_charAt_3b067 : MethodName := ⟨RJ2, "charAt", "([BI)C"⟩
abbrev cJ2_checkIndex_2214a : ByteArray := prog_15_method_91_code
def yJ2_checkIndex_2214a : MethodName := ⟨RJ2, "checkIndex", "(I[B)V"⟩
def RJ10 : String := "java/lang/System"
def RJ7 : String := "java/util/Arrays"
abbrev cJ7_fill_53178 : ByteArray := prog_17_method_103_code
def yJ7_fill_53178 : MethodName := ⟨RJ7, "fill", "([II)V"⟩
def RJ3 : String := "jdk/internal/util/Preconditions"
abbrev cJ3_checkIndex_8e157 : ByteArray := prog_18_method_11_code
def yJ3_checkIndex_8e157 : MethodName := ⟨RJ3, "checkIndex", "(IILjava/util/function/BiFunction;)I"⟩
def RL : String := "LastAwakeLaw"
abbrev cL_law : ByteArray := code
def yL_law : MethodName := ⟨RL, "law", "([I)Z"⟩
abbrev vwCl : List vw_C := [(RX0, TX0, 5), (RX1, TX1, 9), (RX2, TX2, 3), (RX3, TX3, 3), (RX4, TX4, 7), (RX5, TX5, 1), (RX6, TX6, 4), (RX7, TX7, 9), (RX8, TX8, 26)]
end
section
/-! THE SMALL MACHINE: values are integers, the heap is a list of shapes (with the references in them) and one function for all numbers. Every method of the claim becomes a function over it. -/
abbrev AV : Type := Int ⊕ Int ⊕ Nat ⊕ Nat ⊕ Unit
abbrev vI (z : Int) : AV := Sum.inl z
abbrev vL (z : Int) : AV := Sum.inr (Sum.inl z)
abbrev vR (k : Nat) : AV := Sum.inr (Sum.inr (Sum.inl k))
abbrev vO (j : Nat) : AV := Sum.inr (Sum.inr (Sum.inr (Sum.inl j)))
abbrev vN : AV := Sum.inr (Sum.inr (Sum.inr (Sum.inr ())))
/-- kind (0..8 an object of that class, 9 int[], 10 byte[], 11 boolean[], 12 Sleeper[], 13 State[], 14 int[][]), how many places, the references in them -/
abbrev Sh : Type := Nat × Nat × (Nat → Option Nat)
abbrev Hp : Type := List Sh × (Nat → Int → Int)
abbrev St : Type := List AV × List (Option AV) × Hp
def n32 (z : Int) : Int := (z + 2147483648) % 4294967296 - 2147483648
def n64 (z : Int) : Int := (z + 9223372036854775808) % 18446744073709551616 - 9223372036854775808
theorem n32_id {z : Int} (h0 : -2147483648 ≤ z) (h1 : z < 2147483648) : n32 z = z := by unfold n32; omega
theorem n64_id {z : Int} (h0 : -9223372036854775808 ≤ z) (h1 : z < 9223372036854775808) : n64 z = z := by unfold n64; omega
theorem n32_lo (z : Int) : -2147483648 ≤ n32 z := by unfold n32; omega
theorem n32_hi (z : Int) : n32 z < 2147483648 := by unfold n32; omega
theorem n64_lo (z : Int) : -9223372036854775808 ≤ n64 z := by unfold n64; omega
theorem n64_hi (z : Int) : n64 z < 9223372036854775808 := by unfold n64; omega
theorem n32_n32 (z : Int) : n32 (n32 z) = n32 z := n32_id (n32_lo z) (n32_hi z)
def um (M : Nat → Int → Int) (a : Nat) (i v : Int) : Nat → Int → Int := fun a' i' => if a' = a ∧ i' = i then v else M a' i'
def uf (f : Nat → Option Nat) (k : Nat) (v : Option Nat) : Nat → Option Nat := fun j => if j = k then v else f j
def zm (M : Nat → Int → Int) (lo : Nat) : Nat → Int → Int := fun a i => if lo ≤ a then 0 else M a i
def cpm (M : Nat → Int → Int) (a d : Nat) (sp dp n : Int) : Nat → Int → Int := fun a' k => if a' = d ∧ dp ≤ k ∧ k < dp + n then M a (sp + (k - dp)) else M a' k
def rfv (r : Option Nat) : AV := match r with
  | some k => vR k
  | none => vN
/-- the type of a field: 0 a number, 1 a long, 2 a reference, 3 a truth value -/
def ftc (d : String) : Nat := if d = "I" then 0 else if d = "J" then 1 else if d = "Z" then 3 else 2
def clT (c : Nat) : u_T := match c with
  | 0 => TX0
  | 1 => TX1
  | 2 => TX2
  | 3 => TX3
  | 4 => TX4
  | 5 => TX5
  | 6 => TX6
  | 7 => TX7
  | _ => TX8
def clN (c : Nat) : Nat := match c with
  | 0 => 5
  | 1 => 9
  | 2 => 3
  | 3 => 3
  | 4 => 7
  | 5 => 1
  | 6 => 4
  | 7 => 9
  | _ => 26
def clS (c : Nat) : String := match c with
  | 0 => RX0
  | 1 => RX1
  | 2 => RX2
  | 3 => RX3
  | 4 => RX4
  | 5 => RX5
  | 6 => RX6
  | 7 => RX7
  | 8 => RX8
  | 9 => RL
  | 10 => RJ6
  | 11 => RJ9
  | 12 => RJ7
  | 13 => RJ0
  | 14 => RJ1
  | _ => RJ3
/-- field types, as numbers (held against the descriptors below) -/
def fT (c k : Nat) : Nat := match c with
  | 0 => (match k with | 0 => 2 | 4 => 2 | _ => 0)
  | 1 => (match k with | 6 => 2 | 7 => 2 | _ => 0)
  | 2 => (match k with | 2 => 3 | _ => 0)
  | 3 => (match k with | 0 => 0 | _ => 2)
  | 4 => (match k with | 1 => 2 | 2 => 2 | _ => 0)
  | 5 => 2
  | 6 => 2
  | 7 => (match k with | 7 => 1 | 8 => 1 | _ => 2)
  | _ => (match k with | 0 => 2 | 1 => 2 | 2 => 2 | 3 => 0 | 4 => 2 | 5 => 1 | 6 => 1 | 7 => 0 | 8 => 0 | 9 => 3 | 10 => 3 | 11 => 0 | 12 => 0 | 13 => 2 | 14 => 2 | 15 => 2 | 16 => 2 | 17 => 0 | 18 => 0 | 19 => 0 | 20 => 0 | 21 => 0 | 22 => 2 | 23 => 2 | 24 => 2 | _ => 1)
theorem fT_ok : ∀ c, c < 9 → ∀ k, k < clN c → fT c k = ftc (clT c k).2.2.1 := by decide +kernel
/-- what is only read: 0 the script, 1 MOST_OF_TRAIT, 2 NUMBERS_OF, 11 to 18 the letters of the eight words -/
def roL (S : List Int) (j : Nat) : List Int := match j with
  | 0 => S
  | 1 => [5, 120, 9, 20, 60, 120]
  | 2 => [2, 1, 1, 2, 1, 0, 5, 2]
  | 11 => [114, 111, 111, 109]
  | 12 => [115, 119, 105, 116, 99, 104]
  | 13 => [98, 101, 100]
  | 14 => [116, 104, 105, 110, 103]
  | 15 => [109, 111, 111, 110]
  | 16 => [99, 111, 114, 100]
  | 17 => [115, 108, 101, 101, 112, 101, 114]
  | 18 => [117, 112]
  | _ => []
-- one instruction each
def x_push (v : AV) (σ : St) : Option St := some (v :: σ.1, σ.2)
def x_ild (k : Nat) (σ : St) : Option St := match σ.2.1[k]? with
  | some (some (.inl z)) => some (.inl z :: σ.1, σ.2)
  | _ => none
def x_lld (k : Nat) (σ : St) : Option St := match σ.2.1[k]? with
  | some (some (.inr (.inl z))) => some (.inr (.inl z) :: σ.1, σ.2)
  | _ => none
def x_ald (k : Nat) (σ : St) : Option St := match σ.2.1[k]? with
  | some (some (.inr (.inr r))) => some (.inr (.inr r) :: σ.1, σ.2)
  | _ => none
def clr (L : List (Option AV)) (k : Nat) : List (Option AV) := match k with
  | 0 => L
  | j + 1 => match L[j]? with
    | some (some (.inr (.inl _))) => L.set j none
    | _ => L
def st1 (L : List (Option AV)) (k : Nat) (v : AV) : List (Option AV) := (clr L k).set k (some v)
def st2 (L : List (Option AV)) (k : Nat) (v : AV) : List (Option AV) := ((clr L k).set k (some v)).set (k + 1) none
def x_ist (k : Nat) (σ : St) : Option St := match σ.1 with
  | .inl z :: st => if k < σ.2.1.length then some (st, st1 σ.2.1 k (.inl z), σ.2.2) else none
  | _ => none
def x_lst (k : Nat) (σ : St) : Option St := match σ.1 with
  | .inr (.inl z) :: st => if k + 1 < σ.2.1.length then some (st, st2 σ.2.1 k (.inr (.inl z)), σ.2.2) else none
  | _ => none
def x_ast (k : Nat) (σ : St) : Option St := match σ.1 with
  | .inr (.inr z) :: st => if k < σ.2.1.length then some (st, st1 σ.2.1 k (.inr (.inr z)), σ.2.2) else none
  | _ => none
def x_inc (k : Nat) (n : Int) (σ : St) : Option St := match σ.2.1[k]? with
  | some (some (.inl z)) => some (σ.1, st1 σ.2.1 k (.inl (z + n)), σ.2.2)
  | _ => none
def x_ii (f : Int → Int → Int) (σ : St) : Option St := match σ.1 with
  | .inl y :: .inl x :: st => some (.inl (f x y) :: st, σ.2)
  | _ => none
def x_id (f : Int → Int → Int) (σ : St) : Option St := match σ.1 with
  | .inl y :: .inl x :: st => if n32 y = 0 then none else some (.inl (f (n32 x) (n32 y)) :: st, σ.2)
  | _ => none
def x_ll (f : Int → Int → Int) (σ : St) : Option St := match σ.1 with
  | .inr (.inl y) :: .inr (.inl x) :: st => some (.inr (.inl (f x y)) :: st, σ.2)
  | _ => none
def x_ld (f : Int → Int → Int) (σ : St) : Option St := match σ.1 with
  | .inr (.inl y) :: .inr (.inl x) :: st => if n64 y = 0 then none else some (.inr (.inl (f (n64 x) (n64 y))) :: st, σ.2)
  | _ => none
def x_lcmp (σ : St) : Option St := match σ.1 with
  | .inr (.inl y) :: .inr (.inl x) :: st => some (.inl (if n64 y < n64 x then 1 else if n64 x = n64 y then 0 else -1) :: st, σ.2)
  | _ => none
def x_i (f : Int → Int) (σ : St) : Option St := match σ.1 with
  | .inl x :: st => some (.inl (f x) :: st, σ.2)
  | _ => none
def x_i2l (σ : St) : Option St := match σ.1 with
  | .inl x :: st => some (.inr (.inl (n32 x)) :: st, σ.2)
  | _ => none
def x_l2i (σ : St) : Option St := match σ.1 with
  | .inr (.inl x) :: st => some (.inl x :: st, σ.2)
  | _ => none
def o_shl (x y : Int) : Int := (Int32.ofInt x <<< (Int32.ofInt y &&& 31)).toInt
def o_shr (x y : Int) : Int := (Int32.ofInt x >>> (Int32.ofInt y &&& 31)).toInt
def o_ushr (x y : Int) : Int := ((Int32.ofInt x).toUInt32 >>> ((Int32.ofInt y).toUInt32 &&& Int32.toUInt32 31)).toInt32.toInt
def o_and (x y : Int) : Int := (Int32.ofInt x &&& Int32.ofInt y).toInt
def o_or (x y : Int) : Int := (Int32.ofInt x ||| Int32.ofInt y).toInt
def o_i2b (x : Int) : Int := (Int32.ofInt x).toInt8.toInt32.toInt
def o_i2c (x : Int) : Int := ((Int32.ofInt x).toUInt32 % 65536).toInt32.toInt
def o_nz (x : Int) : Int := (vp_nar .boolean (Int32.ofInt x)).toInt
def cat1 (v : AV) : Bool := match v with
  | .inr (.inl _) => false
  | _ => true
def x_dup (σ : St) : Option St := match σ.1 with
  | v :: st => if cat1 v then some (v :: v :: st, σ.2) else none
  | _ => none
def x_dup2 (σ : St) : Option St := match σ.1 with
  | v :: w :: st => if cat1 v && cat1 w then some (v :: w :: v :: w :: st, σ.2) else none
  | _ => none
def x_pop (σ : St) : Option St := match σ.1 with
  | v :: st => if cat1 v then some (st, σ.2) else none
  | _ => none
def x_get (c k : Nat) (σ : St) : Option St := match σ.1 with
  | .inr (.inr (.inl a)) :: st => match σ.2.2.1[a]? with
    | some (c', n, r) => if c' = c ∧ n = clN c then
        (if fT c k = 1 then some (.inr (.inl (σ.2.2.2 a k)) :: st, σ.2) else if fT c k = 2 then some (rfv (r k) :: st, σ.2) else some (.inl (σ.2.2.2 a k) :: st, σ.2))
      else none
    | none => none
  | _ => none
def x_puti (c k : Nat) (σ : St) : Option St := match σ.1 with
  | .inl z :: .inr (.inr (.inl a)) :: st => match σ.2.2.1[a]? with
    | some (c', n, _) => if c' = c ∧ n = clN c ∧ (fT c k = 3 → z = 0 ∨ z = 1) then some (st, σ.2.1, σ.2.2.1, um σ.2.2.2 a k z) else none
    | none => none
  | _ => none
def x_putl (c k : Nat) (σ : St) : Option St := match σ.1 with
  | .inr (.inl z) :: .inr (.inr (.inl a)) :: st => match σ.2.2.1[a]? with
    | some (c', n, _) => if c' = c ∧ n = clN c then some (st, σ.2.1, σ.2.2.1, um σ.2.2.2 a k z) else none
    | none => none
  | _ => none
def x_putr (c k : Nat) (σ : St) : Option St := match σ.1 with
  | .inr (.inr (.inl v)) :: .inr (.inr (.inl a)) :: st => match σ.2.2.1[a]? with
    | some (c', n, r) => if c' = c ∧ n = clN c then some (st, σ.2.1, σ.2.2.1.set a (c, n, uf r k (some v)), σ.2.2.2) else none
    | none => none
  | _ => none
def x_iald (S : List Int) (σ : St) : Option St := match σ.1 with
  | .inl i :: .inr (.inr (.inl a)) :: st => match σ.2.2.1[a]? with
    | some (k', n, _) => if k' = 9 ∧ 0 ≤ n32 i ∧ n32 i < (n : Int) then some (.inl (σ.2.2.2 a (n32 i)) :: st, σ.2) else none
    | none => none
  | .inl i :: .inr (.inr (.inr (.inl j))) :: st => if j < 3 ∧ 0 ≤ n32 i ∧ n32 i < ((roL S j).length : Int) then some (.inl ((roL S j).getD (n32 i).toNat 0) :: st, σ.2) else none
  | _ => none
def x_bald (S : List Int) (σ : St) : Option St := match σ.1 with
  | .inl i :: .inr (.inr (.inl a)) :: st => match σ.2.2.1[a]? with
    | some (k', n, _) => if (k' = 10 ∨ k' = 11) ∧ 0 ≤ n32 i ∧ n32 i < (n : Int) then some (.inl (σ.2.2.2 a (n32 i)) :: st, σ.2) else none
    | none => none
  | .inl i :: .inr (.inr (.inr (.inl j))) :: st => if (11 ≤ j ∧ j < 19) ∧ 0 ≤ n32 i ∧ n32 i < ((roL S j).length : Int) then some (.inl ((roL S j).getD (n32 i).toNat 0) :: st, σ.2) else none
  | _ => none
def x_iast (σ : St) : Option St := match σ.1 with
  | .inl z :: .inl i :: .inr (.inr (.inl a)) :: st => match σ.2.2.1[a]? with
    | some (k', n, _) => if k' = 9 ∧ 0 ≤ n32 i ∧ n32 i < (n : Int) then some (st, σ.2.1, σ.2.2.1, um σ.2.2.2 a (n32 i) z) else none
    | none => none
  | _ => none
def x_bast (σ : St) : Option St := match σ.1 with
  | .inl z :: .inl i :: .inr (.inr (.inl a)) :: st => match σ.2.2.1[a]? with
    | some (k', n, _) => if (k' = 10 ∨ k' = 11) ∧ 0 ≤ n32 i ∧ n32 i < (n : Int) then some (st, σ.2.1, σ.2.2.1, um σ.2.2.2 a (n32 i) (if k' = 10 then o_i2b z else o_nz z)) else none
    | none => none
  | _ => none
def x_aald (σ : St) : Option St := match σ.1 with
  | .inl i :: .inr (.inr (.inl a)) :: st => match σ.2.2.1[a]? with
    | some (k', n, r) => if (12 ≤ k' ∧ k' < 15) ∧ 0 ≤ n32 i ∧ n32 i < (n : Int) then some (rfv (r (n32 i).toNat) :: st, σ.2) else none
    | none => none
  | _ => none
def x_aast (σ : St) : Option St := match σ.1 with
  | .inr (.inr (.inl v)) :: .inl i :: .inr (.inr (.inl a)) :: st => match σ.2.2.1[a]? with
    | some (k', n, r) => match σ.2.2.1[v]? with
      | some (c', n', _) => if ((k' = 12 ∧ c' = 5) ∨ (k' = 13 ∧ c' = 6)) ∧ 0 ≤ n32 i ∧ n32 i < (n : Int) ∧ n' = clN c' then some (st, σ.2.1, σ.2.2.1.set a (k', n, uf r (n32 i).toNat (some v)), σ.2.2.2) else none
      | none => none
    | none => none
  | _ => none
def x_alen (S : List Int) (σ : St) : Option St := match σ.1 with
  | .inr (.inr (.inl a)) :: st => match σ.2.2.1[a]? with
    | some (kd, n, _) => if 9 ≤ kd ∧ kd < 15 then some (.inl (n : Int) :: st, σ.2) else none
    | none => none
  | .inr (.inr (.inr (.inl j))) :: st => if j < 3 ∨ (11 ≤ j ∧ j < 19) then some (.inl ((roL S j).length : Int) :: st, σ.2) else none
  | _ => none
/-- a field of a word: 0 its letters, 1 how they are coded -/
def x_gstr (k : Nat) (σ : St) : Option St := match σ.1 with
  | .inr (.inr (.inr (.inl j))) :: st => if 3 ≤ j ∧ j < 11 then some ((if k = 0 then vO (j + 8) else vI 0) :: st, σ.2) else none
  | _ => none
def nor : Nat → Option Nat := fun _ => none
def x_new (c : Nat) (σ : St) : Option St := some (.inr (.inr (.inl σ.2.2.1.length)) :: σ.1, σ.2.1, σ.2.2.1 ++ [(c, clN c, nor)], zm σ.2.2.2 σ.2.2.1.length)
def x_newa (kd : Nat) (σ : St) : Option St := match σ.1 with
  | .inl z :: st => if (9 ≤ kd ∧ kd < 14) ∧ 0 ≤ n32 z ∧ n32 z ≤ 1000 then some (.inr (.inr (.inl σ.2.2.1.length)) :: st, σ.2.1, σ.2.2.1 ++ [(kd, (n32 z).toNat, nor)], zm σ.2.2.2 σ.2.2.1.length) else none
  | _ => none
def x_mna (σ : St) : Option St := match σ.1 with
  | .inl y :: .inl z :: st => if 0 ≤ n32 z ∧ n32 z ≤ 1000 ∧ 0 ≤ n32 y ∧ n32 y ≤ 1000 then
      some (.inr (.inr (.inl σ.2.2.1.length)) :: st, σ.2.1, σ.2.2.1 ++ (14, (n32 z).toNat, fun i => if i < (n32 z).toNat then some (σ.2.2.1.length + 1 + i) else none) :: List.replicate (n32 z).toNat (9, (n32 y).toNat, nor), zm σ.2.2.2 σ.2.2.1.length) else none
  | _ => none
def x_acp (σ : St) : Option St := match σ.1 with
  | .inl n :: .inl dp :: .inr (.inr (.inl d)) :: .inl sp :: [.inr (.inr (.inl a))] => match σ.2.2.1[a]?, σ.2.2.1[d]? with
    | some (k0, n0, _), some (k1, n1, _) => if k0 = 9 ∧ k1 = 9 ∧ 0 ≤ n32 sp ∧ 0 ≤ n32 dp ∧ 0 ≤ n32 n ∧ n32 sp + n32 n ≤ (n0 : Int) ∧ n32 dp + n32 n ≤ (n1 : Int) then some ([], σ.2.1, σ.2.2.1, cpm σ.2.2.2 a d (n32 sp) (n32 dp) (n32 n)) else none
    | _, _ => none
  | _ => none
def x_oin (σ : St) : Option St := match σ.1 with
  | [.inr (.inr (.inl _))] => some ([], σ.2)
  | _ => none
def x_mm (k : Nat) (σ : St) : Option St := match σ.1 with
  | .inl y :: .inl x :: st => if st.length ≤ 4 then some (.inl (if k = 0 then (if n32 x < n32 y then y else x) else (if n32 y < n32 x then y else x)) :: st, σ.2) else none
  | _ => none
/-- an instruction by its number (the JVM's own, or 200 on), with two numbers -/
def ex (S : List Int) (i : Nat × Int × Int) : St → Option St := match i.1 with
  | 2 => x_push (vI i.2.1)
  | 16 => x_push (vI i.2.1)
  | 17 => x_push (vI i.2.1)
  | 18 => x_push (vI i.2.1)
  | 19 => x_push (vI i.2.1)
  | 9 => x_push (vL i.2.1)
  | 20 => x_push (vL i.2.1)
  | 21 => x_ild i.2.1.toNat
  | 22 => x_lld i.2.1.toNat
  | 25 => x_ald i.2.1.toNat
  | 54 => x_ist i.2.1.toNat
  | 55 => x_lst i.2.1.toNat
  | 58 => x_ast i.2.1.toNat
  | 132 => x_inc i.2.1.toNat i.2.2
  | 96 => x_ii (fun x y => x + y)
  | 100 => x_ii (fun x y => x - y)
  | 104 => x_ii (fun x y => x * y)
  | 120 => x_ii o_shl
  | 122 => x_ii o_shr
  | 124 => x_ii o_ushr
  | 126 => x_ii o_and
  | 128 => x_ii o_or
  | 108 => x_id Int.tdiv
  | 112 => x_id Int.tmod
  | 116 => x_i (fun x => -x)
  | 145 => x_i o_i2b
  | 97 => x_ll (fun x y => x + y)
  | 101 => x_ll (fun x y => x - y)
  | 105 => x_ll (fun x y => x * y)
  | 109 => x_ld Int.tdiv
  | 113 => x_ld Int.tmod
  | 148 => x_lcmp
  | 133 => x_i2l
  | 136 => x_l2i
  | 89 => x_dup
  | 92 => x_dup2
  | 87 => x_pop
  | 180 => x_get (i.2.1.toNat / 100) (i.2.1.toNat % 100)
  | 181 => if fT (i.2.1.toNat / 100) (i.2.1.toNat % 100) = 1 then x_putl (i.2.1.toNat / 100) (i.2.1.toNat % 100) else if fT (i.2.1.toNat / 100) (i.2.1.toNat % 100) = 2 then x_putr (i.2.1.toNat / 100) (i.2.1.toNat % 100) else x_puti (i.2.1.toNat / 100) (i.2.1.toNat % 100)
  | 46 => x_iald S
  | 51 => x_bald S
  | 50 => x_aald
  | 79 => x_iast
  | 84 => x_bast
  | 83 => x_aast
  | 190 => x_alen S
  | 146 => x_i o_i2c
  | 205 => x_gstr i.2.1.toNat
  | 178 => x_push (vO i.2.1.toNat)
  | 200 => x_push (vO i.2.1.toNat)
  | 187 => x_new i.2.1.toNat
  | 188 => x_newa i.2.1.toNat
  | 189 => x_newa i.2.1.toNat
  | 197 => x_mna
  | 201 => x_acp
  | 210 => x_mm i.2.1.toNat
  | 202 => x_oin
  | _ => fun _ => none
abbrev In : Type := Nat × Int × Int
def exL (S : List Int) (is : List In) (σ : St) : Option St := match is with
  | [] => some σ
  | i :: r => (ex S i σ).bind (exL S r)
-- where it goes on: the place, and the state there
abbrev Fn : Type := St → Option (Nat × St)
def j_to (q : Nat) : Fn := fun σ => some (q, σ)
def c1 (op : Nat) (z : Int) : Bool := match op with
  | 0 => decide (z = 0)
  | 1 => decide (z ≠ 0)
  | 2 => decide (z < 0)
  | 3 => decide (0 ≤ z)
  | 4 => decide (0 < z)
  | _ => decide (z ≤ 0)
def c2 (op : Nat) (x y : Int) : Bool := match op with
  | 0 => decide (x = y)
  | 1 => decide (x ≠ y)
  | 2 => decide (x < y)
  | 3 => decide (y ≤ x)
  | 4 => decide (y < x)
  | _ => decide (x ≤ y)
def j_if (op q n : Nat) : Fn := fun σ => match σ.1 with
  | .inl z :: st => some (if c1 op (n32 z) then q else n, st, σ.2)
  | _ => none
def j_cmp (op q n : Nat) : Fn := fun σ => match σ.1 with
  | .inl y :: .inl x :: st => some (if c2 op (n32 x) (n32 y) then q else n, st, σ.2)
  | _ => none
def j_nn (q n : Nat) : Fn := fun σ => match σ.1 with
  | .inr (.inr (.inl _)) :: st => some (q, st, σ.2)
  | .inr (.inr (.inr (.inr _))) :: st => some (n, st, σ.2)
  | _ => none
def j_sw (lo : Int) (qs : List Nat) (d : Nat) : Fn := fun σ => match σ.1 with
  | .inl z :: st => some (if lo ≤ n32 z then qs.getD (n32 z - lo).toNat d else d, st, σ.2)
  | _ => none
/-- how a stretch ends: 0 it goes on at a; 1 goto a; 2 if<z> a else b; 3 if_icmp<z> a else b; 4 ifnonnull a else b; 5 a switch from z on; 6 a return; 7 a call of method a, then on at b, of z arguments -/
abbrev Tn : Type := Nat × Nat × Nat × Int × List Nat
abbrev Bk : Type := Nat × List In × Tn
def jmp (t : Tn) : Fn := match t.1 with
  | 0 => j_to t.2.1
  | 1 => j_to t.2.1
  | 2 => j_if t.2.2.2.1.toNat t.2.1 t.2.2.1
  | 3 => j_cmp t.2.2.2.1.toNat t.2.1 t.2.2.1
  | 4 => j_nn t.2.1 t.2.2.1
  | 5 => j_sw t.2.2.2.1 t.2.2.2.2 t.2.1
  | 8 => j_sw t.2.2.2.1 t.2.2.2.2 t.2.1
  | _ => fun _ => none
/-- the object that is called is of that class (13: a word) -/
def isC (k : Nat) (vs : List AV) (T : List Sh) : Bool := match vs with
  | .inr (.inr (.inl a)) :: _ => (match T[a]? with
    | some (k', n, _) => decide (k' = k ∧ n = clN k ∧ k < 9)
    | none => false)
  | .inr (.inr (.inr (.inl j))) :: _ => decide (k = 13 ∧ 3 ≤ j ∧ j < 11)
  | _ => false
def isR (vs : List AV) : Bool := match vs with
  | .inr (.inr (.inl _)) :: _ => true
  | _ => false
/-- who is called: 0 nobody, 1 an object of that class, 2 a new object -/
def rcv (k r : Nat) (vs : List AV) (T : List Sh) : Bool := match k with
  | 0 => true
  | 1 => isC r vs T
  | _ => isR vs
def lvs (vs : List AV) : List (Option AV) := vs.flatMap (fun v => if cat1 v then [some v] else [some v, none])
def ini (nL : Nat) (vs : List AV) : Option (List (Option AV)) := if (lvs vs).length ≤ nL then some (lvs vs ++ List.replicate (nL - (lvs vs).length) none) else none
/-- what is returned: 0 nothing, 1 a number, 2 a long, 3 a truth value, 4 a byte, 5 a sign -/
def okr (k : Nat) (z : Int) : Bool := match k with
  | 1 => true
  | 3 => decide (z = 0 ∨ z = 1)
  | 4 => decide (z = 0)
  | 5 => decide (0 ≤ z ∧ z < 65536)
  | _ => false
def rtv (k : Nat) (σ : St) : Option (Option AV × Hp) := match σ.1 with
  | [] => if k = 0 then some (none, σ.2.2) else none
  | [.inl z] => if okr k z then some (some (.inl z), σ.2.2) else none
  | [.inr (.inl z)] => if k = 2 then some (some (.inr (.inl z)), σ.2.2) else none
  | _ => none
end
section
/-! THE SMALL MACHINE'S STATES AS THE JVM HAS THEM -/
theorem i32_toInt (z : Int) : (Int32.ofInt z).toInt = n32 z := by
  rw [Int32.toInt_ofInt]
  have h : (Int32.size : Nat) = 4294967296 := rfl
  rw [h]
  unfold Int.bmod n32
  simp only []
  split <;> omega
theorem i64_toInt (z : Int) : (Int64.ofInt z).toInt = n64 z := by
  rw [Int64.toInt_ofInt]
  have h : (Int64.size : Nat) = 18446744073709551616 := rfl
  rw [h]
  unfold Int.bmod n64
  simp only []
  split <;> omega
theorem i32_n32 (z : Int) : Int32.ofInt (n32 z) = Int32.ofInt z := by rw [← i32_toInt, Int32.ofInt_toInt]
theorem i64_n64 (z : Int) : Int64.ofInt (n64 z) = Int64.ofInt z := by rw [← i64_toInt, Int64.ofInt_toInt]
theorem i32_clamp (z : Int) : (Int32.ofInt z).toNatClampNeg = (n32 z).toNat := by rw [← i32_toInt]; rfl
theorem i32_in {z : Int} {n : Nat} (h0 : 0 ≤ n32 z) (h1 : n32 z < (n : Int)) : vp_in (Int32.ofInt z) n := by
  rw [vp_in_iff, i32_toInt]; exact ⟨h0, h1⟩
theorem i32_lt (x y : Int) : Int32.ofInt x < Int32.ofInt y ↔ n32 x < n32 y := by rw [Int32.lt_iff_toInt_lt, i32_toInt, i32_toInt]
theorem i32_le (x y : Int) : Int32.ofInt x ≤ Int32.ofInt y ↔ n32 x ≤ n32 y := by rw [Int32.le_iff_toInt_le, i32_toInt, i32_toInt]
theorem i32_eq (x y : Int) : Int32.ofInt x = Int32.ofInt y ↔ n32 x = n32 y := by rw [← Int32.toInt_inj, i32_toInt, i32_toInt]
theorem i64_lt (x y : Int) : Int64.ofInt x < Int64.ofInt y ↔ n64 x < n64 y := by rw [Int64.lt_iff_toInt_lt, i64_toInt, i64_toInt]
theorem i64_eq (x y : Int) : Int64.ofInt x = Int64.ofInt y ↔ n64 x = n64 y := by rw [← Int64.toInt_inj, i64_toInt, i64_toInt]
theorem i32_0 : (0 : Int32) = Int32.ofInt 0 := by decide
theorem n32_0 : n32 0 = 0 := by decide
theorem n64_0 : n64 0 = 0 := by decide
theorem i32_eq0 (x : Int) : Int32.ofInt x = 0 ↔ n32 x = 0 := by rw [i32_0, i32_eq, n32_0]
theorem i64_0 : (0 : Int64) = Int64.ofInt 0 := by decide
theorem i64_eq0 (x : Int) : Int64.ofInt x = 0 ↔ n64 x = 0 := by rw [i64_0, i64_eq, n64_0]
theorem i32_bm (z : Int) : z.bmod (2 ^ 32) = n32 z := by
  unfold Int.bmod n32
  simp only [Nat.reducePow]
  split <;> omega
theorem i64_bm (z : Int) : z.bmod (2 ^ 64) = n64 z := by
  unfold Int.bmod n64
  simp only [Nat.reducePow]
  split <;> omega
theorem i32_div (x y : Int) : Int32.ofInt (Int.tdiv (n32 x) (n32 y)) = Int32.ofInt x / Int32.ofInt y := by
  rw [← Int32.toInt_inj, i32_toInt, Int32.toInt_div, i32_bm, i32_toInt, i32_toInt]
theorem i64_div (x y : Int) : Int64.ofInt (Int.tdiv (n64 x) (n64 y)) = Int64.ofInt x / Int64.ofInt y := by
  rw [← Int64.toInt_inj, i64_toInt, Int64.toInt_div, i64_bm, i64_toInt, i64_toInt]
theorem i32_mod (x y : Int) : Int32.ofInt (Int.tmod (n32 x) (n32 y)) = Int32.ofInt x - Int32.ofInt x / Int32.ofInt y * Int32.ofInt y := by
  rw [Int.tmod_def, Int32.ofInt_sub, Int32.ofInt_mul, i32_div, i32_n32, i32_n32, Int32.mul_comm]
theorem i64_mod (x y : Int) : Int64.ofInt (Int.tmod (n64 x) (n64 y)) = Int64.ofInt x - Int64.ofInt x / Int64.ofInt y * Int64.ofInt y := by
  rw [Int.tmod_def, Int64.ofInt_sub, Int64.ofInt_mul, i64_div, i64_n64, i64_n64, Int64.mul_comm]
theorem i32_64 (x : Int) : (Int32.ofInt x).toInt64 = Int64.ofInt (n32 x) := by
  rw [← Int64.toInt_inj, Int32.toInt_toInt64, i32_toInt, i64_toInt]
  have := n32_lo x
  have := n32_hi x
  rw [n64_id (by omega) (by omega)]
theorem i64_cmp (x y : Int) : lg_cmp (Int64.ofInt x) (Int64.ofInt y) = Int32.ofInt (if n64 y < n64 x then 1 else if n64 x = n64 y then 0 else -1) := by
  unfold lg_cmp
  simp only [gt_iff_lt, i64_lt, i64_eq]
  split
  · rfl
  · split <;> rfl
-- base, class numbers and slots, array classes, what is only read
abbrev Par : Type := Nat × va_G × (Nat → ClassId) × (Nat → Option Nat)
def cV (P : Par) (v : AV) : Value := match v with
  | .inl z => .int (Int32.ofInt z)
  | .inr (.inl z) => .long (Int64.ofInt z)
  | .inr (.inr (.inl k)) => .ref (P.1 + k)
  | .inr (.inr (.inr (.inl j))) => va_rf (P.2.2.2 j)
  | .inr (.inr (.inr (.inr _))) => .null
def fV (P : Par) (c : Nat) (m : Int → Int) (r : Nat → Option Nat) (k : Nat) : Value :=
  if fT c k = 1 then .long (Int64.ofInt (m k)) else if fT c k = 2 then cV P (rfv (r k)) else .int (Int32.ofInt (m k))
def eC (P : Par) (sh : Sh) (m : Int → Int) : va_E :=
  if sh.1 < 9 then .inr (sh.1, (List.range sh.2.1).map (fV P sh.1 m sh.2.2))
  else if sh.1 < 12 then .inl (P.2.2.1 sh.1, sh.2.1, .inl (fun i => Int32.ofInt (m i)))
  else .inl (P.2.2.1 sh.1, sh.2.1, .inr (.inr (.inr (.inr (fun i => (sh.2.2 i).map (fun k => P.1 + k))))))
def wsOf (P : Par) (h : Hp) : va_W := h.1.mapIdx (fun k sh => (P.1 + k, eC P sh (h.2 k)))
theorem ws_get (P : Par) (h : Hp) (k : Nat) : (wsOf P h)[k]? = (h.1[k]?).map (fun sh => (P.1 + k, eC P sh (h.2 k))) := by
  unfold wsOf
  rw [List.getElem?_mapIdx]
theorem ws_at {P : Par} {h : Hp} {k : Nat} {sh : Sh} (e : h.1[k]? = some sh) : (wsOf P h)[k]? = some (P.1 + k, eC P sh (h.2 k)) := by rw [ws_get, e]; rfl
theorem ws_len (P : Par) (h : Hp) : (wsOf P h).length = h.1.length := by unfold wsOf; rw [List.length_mapIdx]
abbrev aA (P : Par) : Nat → Prop := fun q => P.1 ≤ q
theorem ws_D (P : Par) (h : Hp) : va_D (aA P) (wsOf P h) := by
  refine ⟨fun i j x y hi hj hxy => ?_, fun k q hk => ?_⟩
  · rw [ws_get] at hi hj
    cases e1 : h.1[i]? with
    | none => rw [e1] at hi; cases hi
    | some s1 =>
      cases e2 : h.1[j]? with
      | none => rw [e2] at hj; cases hj
      | some s2 =>
        rw [e1] at hi; rw [e2] at hj
        cases hi; cases hj
        have h9 : P.1 + i = P.1 + j := hxy
        omega
  · rw [ws_get] at hk
    cases e1 : h.1[k]? with
    | none => rw [e1] at hk; cases hk
    | some s1 =>
      rw [e1] at hk
      cases hk
      exact Nat.le_add_right _ _
def hR (P : Par) (h : Hp) (H : Heap) : Prop := H.size = P.1 + h.1.length ∧ va_P P.2.1 vwCl (wsOf P h) H
def lR (P : Par) (nL : Nat) (L : List (Option AV)) (ls : Array Slot) : Prop := L.length = nL ∧ ls.size = nL ∧ lv_wf ls ∧ ∀ (k : Nat) (v : AV), L[k]? = some (some v) → ls[k]? = some (.val (cV P v))
def sz (T : List Sh) : Nat := (T.map (fun s => s.2.1)).sum
def LeT (T T' : List Sh) : Prop := T.length ≤ T'.length ∧ sz T ≤ sz T'
theorem LeT.rf (T : List Sh) : LeT T T := ⟨Nat.le_refl _, Nat.le_refl _⟩
theorem LeT.tr {a b c : List Sh} (h : LeT a b) (g : LeT b c) : LeT a c := ⟨Nat.le_trans h.1 g.1, Nat.le_trans h.2 g.2⟩
-- the words of the tables
def tG : List Cond := lw_tbl.filter goodWord
def isN : Cond → Bool
  | .methodLinkNest .. => true
  | .fieldLinkNest .. => true
  | .arrayOver _ => true
  | _ => false
def nW : List Cond := lw_tbl.filter isN
theorem tG_good : ∀ w ∈ tG, w ∈ lw_tbl ∧ goodWord w = true := fun w hw => List.mem_filter.mp hw
theorem nW_in : ∀ w ∈ nW, w ∈ lw_tbl ∧ isN w = true := fun w hw => List.mem_filter.mp hw
theorem tG_of {w : Cond} (h : w ∈ lw_tbl) (g : goodWord w = true) : w ∈ tG := List.mem_filter.mpr ⟨h, g⟩
abbrev tyL (P : Par) : List (ClassId × FieldType) := [(P.2.2.1 9, .int), (P.2.2.1 10, .byte), (P.2.2.1 11, .boolean), (P.2.2.1 12, .object RX5), (P.2.2.1 13, .object RX6), (P.2.2.1 14, .array .int)]
def sLen : List Nat := [4, 6, 3, 5, 4, 4, 7, 2]
theorem rf_or (P : Par) (z : Nat ⊕ Nat ⊕ Unit) : (∃ a, cV P (.inr (.inr z)) = .ref a) ∨ cV P (.inr (.inr z)) = .null := by
  rcases z with z | z | z
  · exact Or.inl ⟨_, rfl⟩
  · show (∃ a, va_rf (P.2.2.2 z) = .ref a) ∨ va_rf (P.2.2.2 z) = .null
    cases P.2.2.2 z with
    | none => exact Or.inr rfl
    | some a => exact Or.inl ⟨a, rfl⟩
  · exact Or.inr rfl
def sByt : List (List Int32) := [[114, 111, 111, 109], [115, 119, 105, 116, 99, 104], [98, 101, 100], [116, 104, 105, 110, 103], [109, 111, 111, 110], [99, 111, 114, 100], [115, 108, 101, 101, 112, 101, 114], [117, 112]]
/-- the constants of the program below the base: the script, two rows of numbers, the words -/
def Wc (S : List Int) (P : Par) (U : State) (H : Heap) : Prop :=
  ∃ ad : Nat → Nat, (∀ j, j < 19 → P.2.2.2 j = some (ad j)) ∧ va_Z "LastAwake" "MOST_OF_TRAIT" "[I" (.ref (ad 1)) (aA P) U H ∧ va_Z "LastAwake$Script" "NUMBERS_OF" "[I" (.ref (ad 2)) (aA P) U H ∧
  (∀ j, j < 3 → va_T .int (ad j) (roL S j).length (fun i => .int (Int32.ofInt ((roL S j).getD i 0))) (aA P) U H) ∧
  va_Z "java/lang/String" "COMPACT_STRINGS" "Z" (.int 1) (aA P) U H ∧ va_Z "jdk/internal/util/Preconditions" "SIOOBE_FORMATTER" "Ljava/util/function/BiFunction;" (va_rf (P.2.2.2 19)) (aA P) U H ∧ vk_S 8 sLen sByt (fun i => ad (3 + i)) (fun i => ad (11 + i)) (aA P) U H
theorem Wc.moved {S : List Int} {P : Par} {u U : State} {H : Heap} (hvm : u.vm.Alike U.vm) (h : Wc S P u H) : Wc S P U H := by
  obtain ⟨ad, h0, h1, h2, h3, h4, h5, h6⟩ := h
  exact ⟨ad, h0, h1.moved hvm, h2.moved hvm, fun j hj => (h3 j hj).moved hvm, h4.moved hvm, h5.moved hvm, h6.moved hvm⟩
theorem Wc.kept {S : List Int} {P : Par} {U : State} {H H1 : Heap} (h : Wc S P U H) (hq : ∀ a : Nat, a < H.size → ¬ aA P a → H1[a]? = H[a]?) : Wc S P U H1 := by
  obtain ⟨ad, h0, h1, h2, h3, h4, h5, h6⟩ := h
  exact ⟨ad, h0, h1.kept hq, h2.kept hq, fun j hj => (h3 j hj).kept hq, h4.kept hq, h5.kept hq, h6.kept hq⟩
/-- the pool's places of the eight words -/
def sIdx : List (Nat × String) := [(72, "room"), (78, "switch"), (80, "bed"), (82, "thing"), (84, "moon"), (86, "cord"), (88, "sleeper"), (90, "up")]
def Wr (P : Par) (U : State) : Prop := ∀ (i : Nat) (q : Nat × String), sIdx[i]? = some q → ∃ a, P.2.2.2 (3 + i) = some a ∧ vk_R RX4 q.1 q.2 a U
def Wn (U : State) : Prop := ∀ w ∈ nW, va_Nw w U
theorem Wn.warm {s U : State} (hW : s.WarmedH U.vm) (h : Wn s) : Wn U := by
  intro w hw
  have h1 := h w hw
  have h2 := (nW_in w hw).2
  cases w with
  | methodLinkNest a b c d => exact h1.warmM hW
  | fieldLinkNest a b c d e f => exact h1.warmF hW
  | arrayOver t => exact Cond.overAtom_setVm (args := #[]) (s := s) (vm' := U.vm) hW.alike (.arrayOver t) rfl h1
  | _ => cases h2
def Wd (S : List Int) (P : Par) (U : State) : Prop := va_K P.2.1 vwCl (tyL P) U ∧ Wn U ∧ Wr P U ∧ Wc S P U U.heap
theorem Wd.goes {S : List Int} {P : Par} {s U : State} (hW : s.WarmedH U.vm) (hq : ∀ a : Nat, a < s.heap.size → ¬ aA P a → U.heap[a]? = s.heap[a]?) (h : Wd S P s) : Wd S P U := by
  obtain ⟨h1, h2, h3, h4⟩ := h
  exact ⟨va_K.moved hW.alike h1, h2.warm hW, fun i q hi => by obtain ⟨a, e1, e2⟩ := h3 i q hi; exact ⟨a, e1, e2.warm hW⟩, (h4.moved hW.alike).kept hq⟩
theorem Wd.calling {S : List Int} {P : Par} {U : State} {g : JFrame} {mk : MethodId} {a : Array Value} (h : Wd S P U) : Wd S P (U.calling g mk a) := by
  obtain ⟨h1, h2, h3, h4⟩ := h
  refine ⟨va_K.moved (u := U) (U := U.calling g mk a) (Vm.Alike.refl U.vm) h1, fun w hw => ?_, fun i q hi => ?_, ?_⟩
  · have h5 := h2 w hw
    have h6 := (nW_in w hw).2
    cases w with
    | methodLinkNest _ _ _ _ => exact va_Nw.same rfl rfl h5
    | fieldLinkNest _ _ _ _ _ _ => exact va_Nw.same rfl rfl h5
    | arrayOver t => exact h5
    | _ => cases h6
  · obtain ⟨b, e1, e2⟩ := h3 i q hi
    exact ⟨b, e1, vk_R.same (u := U) (U := U.calling g mk a) rfl e2⟩
  · exact h4.moved (U := U.calling g mk a) (Vm.Alike.refl U.vm)
end
section
/-! WHAT THE SMALL MACHINE DOES, THE JVM DOES -/
/-- a method: own class, name, code, locals, frames and words that are left to it -/
abbrev Mt : Type := Nat × String × ByteArray × Nat × Nat × Nat
def Cx (S : List Int) (K : Mt) (P : Par) (p : Program) (R : Room) (s : State) (m : MethodId) (args : Array Value) (meth : Method) (c : Code) : Prop :=
  p.tables.exec = Jvm.exec ∧ c.code = K.2.2.1 ∧ c.maxLocals = K.2.2.2.1 ∧ s.vm.findClass (clS K.1) = some m.cls ∧ (∀ w ∈ tG, w.before args s = true) ∧ (K.2.1 = "<init>" → meth.name = "<init>") ∧ K.2.2.2.2.1 ≤ R.frames ∧ K.2.2.2.2.2 ≤ R.locals ∧ Wd S P s ∧ P.1 ≤ s.heap.size ∧ meth.locks = false
def Ats (S : List Int) (K : Mt) (P : Par) (p : Program) (l : Launch) (e : Env) (R : Room) (s : State) (m : MethodId) (args : Array Value) (below : List Frame) (meth : Method) (c : Code) (Q : State → Prop) (t0 z0 pc : Nat) (σ : St) : Prop :=
  ∀ (ls : Array Slot) (H : Heap) (locs : List Loc), lR P K.2.2.2.1 σ.2.1 ls → hR P σ.2.2 H → va_S (aA P) s.heap H locs → W p l e R s m args below meth c H locs (σ.2.2.1.length - t0) (sz σ.2.2.1 - z0) Q (F0 m pc ls (σ.1.map (cV P)))
/-- from σ at pc the machine comes to σ' at q -/
def Gos (S : List Int) (K : Mt) (pc q : Nat) (σ σ' : St) : Prop := LeT σ.2.2.1 σ'.2.2.1 ∧ ∀ (P : Par) (p : Program) (l : Launch) (e : Env) (R : Room) (s : State) (m : MethodId) (args : Array Value) (below : List Frame) (meth : Method) (c : Code) (Q : State → Prop) (t0 z0 : Nat),
  Cx S K P p R s m args meth c → (s.heap.size = P.1 + t0 ∧ t0 ≤ σ.2.2.1.length) → z0 ≤ sz σ.2.2.1 → σ'.2.2.1.length - t0 ≤ R.cells → sz σ'.2.2.1 - z0 ≤ R.slots → Ats S K P p l e R s m args below meth c Q t0 z0 q σ' → Ats S K P p l e R s m args below meth c Q t0 z0 pc σ
def Seg (S : List Int) (K : Mt) (pc q : Nat) (g : St → Option St) : Prop := ∀ σ σ', g σ = some σ' → Gos S K pc q σ σ'
def Imp (S : List Int) (K : Mt) (pc : Nat) (f : Fn) : Prop := ∀ σ q σ', f σ = some (q, σ') → Gos S K pc q σ σ'
theorem Gos.rf (S : List Int) (K : Mt) (pc : Nat) (σ : St) : Gos S K pc pc σ σ := ⟨LeT.rf _, fun _ _ _ _ _ _ _ _ _ _ _ _ _ _ _ _ _ _ _ h => h⟩
theorem Gos.tr {S : List Int} {K : Mt} {a b d : Nat} {σ τ υ : St} (h : Gos S K a b σ τ) (g : Gos S K b d τ υ) : Gos S K a d σ υ :=
  ⟨h.1.tr g.1, fun P p l e R s m args below meth c Q t0 z0 C h1 h2 h3 h4 k => h.2 P p l e R s m args below meth c Q t0 z0 C h1 h2 (Nat.le_trans (Nat.sub_le_sub_right g.1.1 _) h3) (Nat.le_trans (Nat.sub_le_sub_right g.1.2 _) h4) (g.2 P p l e R s m args below meth c Q t0 z0 C ⟨h1.1, Nat.le_trans h1.2 h.1.1⟩ (Nat.le_trans h2 h.1.2) h3 h4 k)⟩
theorem imp_to (S : List Int) (K : Mt) (q : Nat) : Imp S K q (j_to q) := by
  intro σ q' υ e
  cases e
  exact Gos.rf _ _ _ _
/-- an instruction that leaves the heap as it is -/
theorem gos_same {S : List Int} {K : Mt} {pc q : Nat} {st st' : List AV} {L L' : List (Option AV)} {h : Hp}
    (k : ∀ (P : Par) (p : Program) (l : Launch) (e : Env) (R : Room) (s : State) (m : MethodId) (args : Array Value) (below : List Frame) (meth : Method) (c : Code) (Q : State → Prop) (H : Heap) (locs : List Loc) (cells slots : Nat) (ls : Array Slot),
      Cx S K P p R s m args meth c → hR P h H → va_S (aA P) s.heap H locs → lR P K.2.2.2.1 L ls → (∀ ls', lR P K.2.2.2.1 L' ls' → W p l e R s m args below meth c H locs cells slots Q (F0 m q ls' (st'.map (cV P)))) → W p l e R s m args below meth c H locs cells slots Q (F0 m pc ls (st.map (cV P)))) :
    Gos S K pc q (st, L, h) (st', L', h) :=
  ⟨LeT.rf _, fun P p l e R s m args below meth c Q t0 z0 C _ _ _ _ a ls H locs h1 h2 h3 => k P p l e R s m args below meth c Q H locs _ _ ls C h2 h3 h1 (fun ls' h => a ls' H locs h h2 h3)⟩
/-- an instruction that leaves the locals and the heap -/
theorem gos_st {S : List Int} {K : Mt} {pc q : Nat} {st st' : List AV} {L : List (Option AV)} {h : Hp}
    (k : ∀ (P : Par) (p : Program) (l : Launch) (e : Env) (R : Room) (s : State) (m : MethodId) (args : Array Value) (below : List Frame) (meth : Method) (c : Code) (Q : State → Prop) (H : Heap) (locs : List Loc) (cells slots : Nat) (ls : Array Slot),
      Cx S K P p R s m args meth c → hR P h H → va_S (aA P) s.heap H locs → lR P K.2.2.2.1 L ls → W p l e R s m args below meth c H locs cells slots Q (F0 m q ls (st'.map (cV P))) → W p l e R s m args below meth c H locs cells slots Q (F0 m pc ls (st.map (cV P)))) :
    Gos S K pc q (st, L, h) (st', L, h) :=
  gos_same (fun P p l e R s m args below meth c Q H locs cells slots ls C h2 h3 h1 a => k P p l e R s m args below meth c Q H locs cells slots ls C h2 h3 h1 (a ls h1))
section Ops
variable {S : List Int} {K : Mt} {pc : Nat}
theorem s_iconst {n : Int} (hd : decode K.2.2.1 pc = .ok (.iconst n, 1)) : Seg S K pc (pc + 1) (x_push (vI n)) := by
  rintro ⟨st, L, h⟩ σ' e
  cases e
  refine gos_st fun P p l e R s m args below meth c Q H locs cells slots ls C h2 h3 h1 a => ?_
  exact lv_iconst C.1 C.2.1 hd rfl a
theorem s_bipush {n : Int} (hd : decode K.2.2.1 pc = .ok (.bipush n, 2)) (hn : (Int8.ofInt n).toInt32 = Int32.ofInt n) : Seg S K pc (pc + 2) (x_push (vI n)) := by
  rintro ⟨st, L, h⟩ σ' e
  cases e
  refine gos_st fun P p l e R s m args below meth c Q H locs cells slots ls C h2 h3 h1 a => ?_
  exact lv_bipush C.1 C.2.1 hd hn a
theorem s_sipush {n : Int} (hd : decode K.2.2.1 pc = .ok (.sipush n, 3)) (hn : (Int16.ofInt n).toInt32 = Int32.ofInt n) : Seg S K pc (pc + 3) (x_push (vI n)) := by
  rintro ⟨st, L, h⟩ σ' e
  cases e
  refine gos_st fun P p l e R s m args below meth c Q H locs cells slots ls C h2 h3 h1 a => ?_
  exact lv_sipush C.1 C.2.1 hd hn a
theorem s_ldc {n : Int} {i : Nat} (hd : decode K.2.2.1 pc = .ok (.ldc i, 2)) (hn : Cond.constant (clS K.1) i (Int32.ofInt n) ∈ tG) : Seg S K pc (pc + 2) (x_push (vI n)) := by
  rintro ⟨st, L, h⟩ σ' e
  cases e
  refine gos_st fun P p l e R s m args below meth c Q H locs cells slots ls C h2 h3 h1 a => ?_
  exact lv_ldc C.1 C.2.1 C.2.2.2.1 (C.2.2.2.2.1 _ hn) hd a
theorem s_ldcw {n : Int} {i : Nat} (hd : decode K.2.2.1 pc = .ok (.ldc_w i, 3)) (hn : Cond.constant (clS K.1) i (Int32.ofInt n) ∈ tG) : Seg S K pc (pc + 3) (x_push (vI n)) := by
  rintro ⟨st, L, h⟩ σ' e
  cases e
  refine gos_st fun P p l e R s m args below meth c Q H locs cells slots ls C h2 h3 h1 a => ?_
  exact lv_ldcw C.1 C.2.1 C.2.2.2.1 (C.2.2.2.2.1 _ hn) hd a
theorem s_lconst {n : Fin 2} {z : Int} (hd : decode K.2.2.1 pc = .ok (.lconst n, 1)) (hz : Int64.ofNat (n : Nat) = Int64.ofInt z) : Seg S K pc (pc + 1) (x_push (vL z)) := by
  rintro ⟨st, L, h⟩ σ' e
  cases e
  refine gos_st fun P p l e R s m args below meth c Q H locs cells slots ls C h2 h3 h1 a => ?_
  exact lv_lconst C.1 C.2.1 hd hz a
theorem s_ldc2 {n : Int} {i : Nat} (hd : decode K.2.2.1 pc = .ok (.ldc2_w i, 3)) (hn : Cond.constantLong (clS K.1) i (Int64.ofInt n) ∈ tG) : Seg S K pc (pc + 3) (x_push (vL n)) := by
  rintro ⟨st, L, h⟩ σ' e
  cases e
  refine gos_st fun P p l e R s m args below meth c Q H locs cells slots ls C h2 h3 h1 a => ?_
  exact lv_ldc2 C.1 C.2.1 C.2.2.2.1 (C.2.2.2.2.1 _ hn) hd a
theorem s_iload_n {k : Fin 4} {i : Nat} (hd : decode K.2.2.1 pc = .ok (.iload_n k, 1)) (hi : (k : Nat) = i) : Seg S K pc (pc + 1) (x_ild i) := by
  rintro ⟨st, L, h⟩ σ' e
  unfold x_ild at e
  split at e
  · rename_i z hz
    cases e
    refine gos_st fun P p l e R s m args below meth c Q H locs cells slots ls C h2 h3 h1 a => ?_
    exact lv_iload_n C.1 C.2.1 hd hi (h1.2.2.2 i _ hz) a
  · cases e
theorem s_iload {i : Nat} (hd : decode K.2.2.1 pc = .ok (.iload i, 2)) : Seg S K pc (pc + 2) (x_ild i) := by
  rintro ⟨st, L, h⟩ σ' e
  unfold x_ild at e
  split at e
  · rename_i z hz
    cases e
    refine gos_st fun P p l e R s m args below meth c Q H locs cells slots ls C h2 h3 h1 a => ?_
    exact lv_iload C.1 C.2.1 hd (h1.2.2.2 i _ hz) a
  · cases e
theorem s_lload_n {k : Fin 4} {i : Nat} (hd : decode K.2.2.1 pc = .ok (.lload_n k, 1)) (hi : (k : Nat) = i) : Seg S K pc (pc + 1) (x_lld i) := by
  rintro ⟨st, L, h⟩ σ' e
  unfold x_lld at e
  split at e
  · rename_i z hz
    cases e
    refine gos_st fun P p l e R s m args below meth c Q H locs cells slots ls C h2 h3 h1 a => ?_
    exact lv_lload_n C.1 C.2.1 hd hi (h1.2.2.2 i _ hz) a
  · cases e
theorem s_lload {i : Nat} (hd : decode K.2.2.1 pc = .ok (.lload i, 2)) : Seg S K pc (pc + 2) (x_lld i) := by
  rintro ⟨st, L, h⟩ σ' e
  unfold x_lld at e
  split at e
  · rename_i z hz
    cases e
    refine gos_st fun P p l e R s m args below meth c Q H locs cells slots ls C h2 h3 h1 a => ?_
    exact lv_lload C.1 C.2.1 hd (h1.2.2.2 i _ hz) a
  · cases e
theorem s_aload_n {k : Fin 4} {i : Nat} (hd : decode K.2.2.1 pc = .ok (.aload_n k, 1)) (hi : (k : Nat) = i) : Seg S K pc (pc + 1) (x_ald i) := by
  rintro ⟨st, L, h⟩ σ' e
  unfold x_ald at e
  split at e
  · rename_i z hz
    cases e
    refine gos_st fun P p l e R s m args below meth c Q H locs cells slots ls C h2 h3 h1 a => ?_
    have h9 := h1.2.2.2 i _ hz
    rcases rf_or P z with ⟨b, hb⟩ | hb
    · rw [hb] at h9
      exact lv_aload_n C.1 C.2.1 hd hi h9 (by rw [← hb]; exact a)
    · rw [hb] at h9
      exact lv_aload_nN C.1 C.2.1 hd hi h9 (by rw [← hb]; exact a)
  · cases e
theorem s_aload {i : Nat} (hd : decode K.2.2.1 pc = .ok (.aload i, 2)) : Seg S K pc (pc + 2) (x_ald i) := by
  rintro ⟨st, L, h⟩ σ' e
  unfold x_ald at e
  split at e
  · rename_i z hz
    cases e
    refine gos_st fun P p l e R s m args below meth c Q H locs cells slots ls C h2 h3 h1 a => ?_
    have h9 := h1.2.2.2 i _ hz
    rcases rf_or P z with ⟨b, hb⟩ | hb
    · rw [hb] at h9
      exact lv_aload C.1 C.2.1 hd h9 (by rw [← hb]; exact a)
    · rw [hb] at h9
      exact lv_aloadN C.1 C.2.1 hd h9 (by rw [← hb]; exact a)
  · cases e
end Ops
end
section
/-! STORES, ARITHMETIC, JUMPS -/
def lvO (P : Par) (L : List (Option AV)) : List (Nat × Value) := (List.range L.length).filterMap (fun k => (L[k]?.join).map (fun v => (k, cV P v)))
theorem lvO_mem {P : Par} {L : List (Option AV)} {q : Nat × Value} : q ∈ lvO P L ↔ ∃ v, L[q.1]? = some (some v) ∧ q.2 = cV P v := by
  unfold lvO
  rw [List.mem_filterMap]
  constructor
  · rintro ⟨k, hk, h⟩
    cases e : L[k]? with
    | none => rw [e] at h; cases h
    | some o =>
      cases o with
      | none => rw [e] at h; cases h
      | some v =>
        rw [e] at h
        cases h
        exact ⟨v, e, rfl⟩
  · rintro ⟨v, h1, h2⟩
    refine ⟨q.1, List.mem_range.mpr (List.getElem?_eq_some_iff.mp h1).1, ?_⟩
    rw [h1]
    show some (q.1, cV P v) = some q
    rw [← h2]
theorem lR_has {P : Par} {nL : Nat} {L : List (Option AV)} {ls : Array Slot} (h : lR P nL L ls) : lv_has ls nL (lvO P L) := by
  refine ⟨h.2.1, h.2.2.1, fun q hq => ?_⟩
  obtain ⟨v, h1, h2⟩ := lvO_mem.mp hq
  rw [h2]
  exact h.2.2.2 _ _ h1
theorem cat1_c {P : Par} {v : AV} : (cV P v).category = 2 ↔ cat1 v = false := by
  rcases v with z | z | z
  · simp [cV, Value.category, cat1]
  · simp [cV, Value.category, cat1]
  · rcases rf_or P z with ⟨a, h⟩ | h
    · rw [h]; rcases z with z | z | z <;> simp [Value.category, cat1]
    · rw [h]; rcases z with z | z | z <;> simp [Value.category, cat1]
theorem clr_len (L : List (Option AV)) (k : Nat) : (clr L k).length = L.length := by
  unfold clr
  split
  · rfl
  · split
    · rw [List.length_set]
    · rfl
theorem clr_get {L : List (Option AV)} {i k : Nat} {v : AV} (h : (clr L i)[k]? = some (some v)) : L[k]? = some (some v) ∧ (k + 1 = i → cat1 v = true) := by
  unfold clr at h
  split at h
  · exact ⟨h, fun q => by omega⟩
  · rename_i j
    split at h
    · rename_i z hz
      rw [List.getElem?_set] at h
      split at h
      · split at h <;> cases h
      · rename_i hne
        exact ⟨h, fun q => by omega⟩
    · rename_i hno
      refine ⟨h, fun q => ?_⟩
      have hk : k = j := by omega
      subst hk
      rcases v with z | z | z
      · rfl
      · exact absurd h (hno z)
      · rfl
theorem lR_st1 {P : Par} {nL i : Nat} {L : List (Option AV)} {v : AV} {ls ls' : Array Slot} (h : lR P nL L ls) (h' : lv_has ls' nL ((i, cV P v) :: (lvO P L).filter (fun q => !(q.1 == i) && !(q.1 + 1 == i && q.2.category == 2)))) : lR P nL (st1 L i v) ls' := by
  refine ⟨by unfold st1; rw [List.length_set, clr_len]; exact h.1, h'.1, h'.2.1, fun k w hw => ?_⟩
  unfold st1 at hw
  rw [List.getElem?_set] at hw
  split at hw
  · rename_i hki
    subst hki
    split at hw
    · cases hw
      exact h'.2.2 (i, cV P v) List.mem_cons_self
    · cases hw
  · rename_i hne
    obtain ⟨g1, g2⟩ := clr_get hw
    refine h'.2.2 (k, cV P w) (List.mem_cons_of_mem _ (List.mem_filter.mpr ⟨lvO_mem.mpr ⟨w, g1, rfl⟩, ?_⟩))
    have a1 : (k == i) = false := by simpa using fun q => hne q.symm
    have a2 : (k + 1 == i && (cV P w).category == 2) = false := by
      by_cases q : k + 1 = i
      · have := g2 q
        have : ¬ (cV P w).category = 2 := fun z => by rw [cat1_c.mp z] at this; cases this
        simp [this]
      · simp [q]
    show (!(k == i) && !(k + 1 == i && (cV P w).category == 2)) = true
    rw [a1, a2]
    rfl
theorem lR_st2 {P : Par} {nL i : Nat} {L : List (Option AV)} {v : AV} {ls ls' : Array Slot} (h : lR P nL L ls) (h' : lv_has ls' nL ((i, cV P v) :: (lvO P L).filter (fun q => !(q.1 == i) && (!(q.1 == i + 1) && !(q.1 + 1 == i && q.2.category == 2))))) : lR P nL (st2 L i v) ls' := by
  refine ⟨by unfold st2; rw [List.length_set, List.length_set, clr_len]; exact h.1, h'.1, h'.2.1, fun k w hw => ?_⟩
  unfold st2 at hw
  rw [List.getElem?_set] at hw
  split at hw
  · split at hw <;> cases hw
  · rename_i hne1
    rw [List.getElem?_set] at hw
    split at hw
    · rename_i hki
      subst hki
      split at hw
      · cases hw
        exact h'.2.2 (i, cV P v) List.mem_cons_self
      · cases hw
    · rename_i hne
      obtain ⟨g1, g2⟩ := clr_get hw
      refine h'.2.2 (k, cV P w) (List.mem_cons_of_mem _ (List.mem_filter.mpr ⟨lvO_mem.mpr ⟨w, g1, rfl⟩, ?_⟩))
      have a1 : (k == i) = false := by simpa using fun q => hne q.symm
      have a3 : (k == i + 1) = false := by simpa using fun q => hne1 q.symm
      have a2 : (k + 1 == i && (cV P w).category == 2) = false := by
        by_cases q : k + 1 = i
        · have := g2 q
          have : ¬ (cV P w).category = 2 := fun z => by rw [cat1_c.mp z] at this; cases this
          simp [this]
        · simp [q]
      show (!(k == i) && (!(k == i + 1) && !(k + 1 == i && (cV P w).category == 2))) = true
      rw [a1, a2, a3]
      rfl
theorem cat1_k {P : Par} {v : AV} (h : cat1 v = true) : (cV P v).category = 1 := by
  have h2 : ¬ (cV P v).category = 2 := fun q => by rw [cat1_c.mp q] at h; cases h
  cases hv : cV P v <;> rw [hv] at h2 <;> first | rfl | exact absurd rfl h2
theorem cj1_eq {z : Int} : c1 0 (n32 z) = true ↔ Int32.ofInt z = 0 := by
  unfold c1
  rw [i32_0]
  simp only [decide_eq_true_eq, i32_eq, i32_lt, i32_le, n32_0, ne_eq]
theorem cj2_eq {x y : Int} : c2 0 (n32 x) (n32 y) = true ↔ Int32.ofInt x = Int32.ofInt y := by
  unfold c2
  simp only [decide_eq_true_eq, i32_eq, i32_lt, i32_le, ne_eq]
theorem cj1_ne {z : Int} : c1 1 (n32 z) = true ↔ ¬ Int32.ofInt z = 0 := by
  unfold c1
  rw [i32_0]
  simp only [decide_eq_true_eq, i32_eq, i32_lt, i32_le, n32_0, ne_eq]
theorem cj2_ne {x y : Int} : c2 1 (n32 x) (n32 y) = true ↔ ¬ Int32.ofInt x = Int32.ofInt y := by
  unfold c2
  simp only [decide_eq_true_eq, i32_eq, i32_lt, i32_le, ne_eq]
theorem cj1_lt {z : Int} : c1 2 (n32 z) = true ↔ Int32.ofInt z < 0 := by
  unfold c1
  rw [i32_0]
  simp only [decide_eq_true_eq, i32_eq, i32_lt, i32_le, n32_0, ne_eq]
theorem cj2_lt {x y : Int} : c2 2 (n32 x) (n32 y) = true ↔ Int32.ofInt x < Int32.ofInt y := by
  unfold c2
  simp only [decide_eq_true_eq, i32_eq, i32_lt, i32_le, ne_eq]
theorem cj1_ge {z : Int} : c1 3 (n32 z) = true ↔ 0 ≤ Int32.ofInt z := by
  unfold c1
  rw [i32_0]
  simp only [decide_eq_true_eq, i32_eq, i32_lt, i32_le, n32_0, ne_eq]
theorem cj2_ge {x y : Int} : c2 3 (n32 x) (n32 y) = true ↔ Int32.ofInt y ≤ Int32.ofInt x := by
  unfold c2
  simp only [decide_eq_true_eq, i32_eq, i32_lt, i32_le, ne_eq]
theorem cj1_gt {z : Int} : c1 4 (n32 z) = true ↔ 0 < Int32.ofInt z := by
  unfold c1
  rw [i32_0]
  simp only [decide_eq_true_eq, i32_eq, i32_lt, i32_le, n32_0, ne_eq]
theorem cj2_gt {x y : Int} : c2 4 (n32 x) (n32 y) = true ↔ Int32.ofInt y < Int32.ofInt x := by
  unfold c2
  simp only [decide_eq_true_eq, i32_eq, i32_lt, i32_le, ne_eq]
theorem cj1_le {z : Int} : c1 5 (n32 z) = true ↔ Int32.ofInt z ≤ 0 := by
  unfold c1
  rw [i32_0]
  simp only [decide_eq_true_eq, i32_eq, i32_lt, i32_le, n32_0, ne_eq]
theorem cj2_le {x y : Int} : c2 5 (n32 x) (n32 y) = true ↔ Int32.ofInt x ≤ Int32.ofInt y := by
  unfold c2
  simp only [decide_eq_true_eq, i32_eq, i32_lt, i32_le, ne_eq]
section Ops2
variable {S : List Int} {K : Mt} {pc : Nat}
theorem s_istore {i : Nat} (hd : decode K.2.2.1 pc = .ok (.istore i, 2)) : Seg S K pc (pc + 2) (x_ist i) := by
  rintro ⟨st, L, h⟩ σ' e
  unfold x_ist at e
  split at e
  · rename_i z st0 hz
    simp only at hz
    subst hz
    split at e
    · rename_i hlt
      cases e
      refine gos_same fun P p l e R s m args below meth c Q H locs cells slots ls C h2 h3 h1 a => ?_
      exact lv_istore C.1 C.2.1 hd (lR_has h1) (by rw [← h1.1]; exact hlt) rfl (fun ls' h' => a ls' (lR_st1 (v := .inl z) h1 h'))
    · cases e
  · cases e
theorem s_istore_n {k : Fin 4} {i : Nat} (hd : decode K.2.2.1 pc = .ok (.istore_n k, 1)) (hi : (k : Nat) = i) : Seg S K pc (pc + 1) (x_ist i) := by
  rintro ⟨st, L, h⟩ σ' e
  unfold x_ist at e
  split at e
  · rename_i z st0 hz
    simp only at hz
    subst hz
    split at e
    · rename_i hlt
      cases e
      refine gos_same fun P p l e R s m args below meth c Q H locs cells slots ls C h2 h3 h1 a => ?_
      exact lv_istore_n C.1 C.2.1 hd hi (lR_has h1) (by rw [← h1.1]; exact hlt) rfl (fun ls' h' => a ls' (lR_st1 (v := .inl z) h1 h'))
    · cases e
  · cases e
theorem s_lstore {i : Nat} (hd : decode K.2.2.1 pc = .ok (.lstore i, 2)) : Seg S K pc (pc + 2) (x_lst i) := by
  rintro ⟨st, L, h⟩ σ' e
  unfold x_lst at e
  split at e
  · rename_i z st0 hz
    simp only at hz
    subst hz
    split at e
    · rename_i hlt
      cases e
      refine gos_same fun P p l e R s m args below meth c Q H locs cells slots ls C h2 h3 h1 a => ?_
      exact lv_lstore C.1 C.2.1 hd (lR_has h1) (by rw [← h1.1]; exact hlt) rfl (fun ls' h' => a ls' (lR_st2 (v := .inr (.inl z)) h1 h'))
    · cases e
  · cases e
theorem s_lstore_n {k : Fin 4} {i : Nat} (hd : decode K.2.2.1 pc = .ok (.lstore_n k, 1)) (hi : (k : Nat) = i) : Seg S K pc (pc + 1) (x_lst i) := by
  rintro ⟨st, L, h⟩ σ' e
  unfold x_lst at e
  split at e
  · rename_i z st0 hz
    simp only at hz
    subst hz
    split at e
    · rename_i hlt
      cases e
      refine gos_same fun P p l e R s m args below meth c Q H locs cells slots ls C h2 h3 h1 a => ?_
      exact lv_lstore_n C.1 C.2.1 hd hi (lR_has h1) (by rw [← h1.1]; exact hlt) rfl (fun ls' h' => a ls' (lR_st2 (v := .inr (.inl z)) h1 h'))
    · cases e
  · cases e
theorem s_astore {i : Nat} (hd : decode K.2.2.1 pc = .ok (.astore i, 2)) : Seg S K pc (pc + 2) (x_ast i) := by
  rintro ⟨st, L, h⟩ σ' e
  unfold x_ast at e
  split at e
  · rename_i z st0 hz
    simp only at hz
    subst hz
    split at e
    · rename_i hlt
      cases e
      refine gos_same fun P p l e R s m args below meth c Q H locs cells slots ls C h2 h3 h1 a => ?_
      rcases rf_or P z with ⟨b, hb⟩ | hb
      · refine W.eq (show _ = F0 m pc ls (.ref b :: st0.map (cV P)) by rw [← hb]; rfl) ?_
        exact lv_astore C.1 C.2.1 hd (lR_has h1) (by rw [← h1.1]; exact hlt) rfl (fun ls' h' => a ls' (lR_st1 (v := .inr (.inr z)) h1 (by rw [hb]; exact h')))
      · refine W.eq (show _ = F0 m pc ls (.null :: st0.map (cV P)) by rw [← hb]; rfl) ?_
        exact lv_astoreN C.1 C.2.1 hd (lR_has h1) (by rw [← h1.1]; exact hlt) rfl (fun ls' h' => a ls' (lR_st1 (v := .inr (.inr z)) h1 (by rw [hb]; exact h')))
    · cases e
  · cases e
theorem s_astore_n {k : Fin 4} {i : Nat} (hd : decode K.2.2.1 pc = .ok (.astore_n k, 1)) (hi : (k : Nat) = i) : Seg S K pc (pc + 1) (x_ast i) := by
  rintro ⟨st, L, h⟩ σ' e
  unfold x_ast at e
  split at e
  · rename_i z st0 hz
    simp only at hz
    subst hz
    split at e
    · rename_i hlt
      cases e
      refine gos_same fun P p l e R s m args below meth c Q H locs cells slots ls C h2 h3 h1 a => ?_
      rcases rf_or P z with ⟨b, hb⟩ | hb
      · refine W.eq (show _ = F0 m pc ls (.ref b :: st0.map (cV P)) by rw [← hb]; rfl) ?_
        exact lv_astore_n C.1 C.2.1 hd hi (lR_has h1) (by rw [← h1.1]; exact hlt) rfl (fun ls' h' => a ls' (lR_st1 (v := .inr (.inr z)) h1 (by rw [hb]; exact h')))
      · refine W.eq (show _ = F0 m pc ls (.null :: st0.map (cV P)) by rw [← hb]; rfl) ?_
        exact lv_astore_nN C.1 C.2.1 hd hi (lR_has h1) (by rw [← h1.1]; exact hlt) rfl (fun ls' h' => a ls' (lR_st1 (v := .inr (.inr z)) h1 (by rw [hb]; exact h')))
    · cases e
  · cases e
theorem s_iinc {i : Nat} {n : Int} (hd : decode K.2.2.1 pc = .ok (.iinc i n, 3)) : Seg S K pc (pc + 3) (x_inc i n) := by
  rintro ⟨st, L, h⟩ σ' e
  unfold x_inc at e
  split at e
  · rename_i z hz
    simp only at hz
    cases e
    refine gos_same fun P p l e R s m args below meth c Q H locs cells slots ls C h2 h3 h1 a => ?_
    have hm : (i, Value.int (Int32.ofInt z)) ∈ lvO P L := lvO_mem.mpr ⟨.inl z, hz, rfl⟩
    obtain ⟨k, hk⟩ := List.getElem?_of_mem hm
    have hlt : i < K.2.2.2.1 := by rw [← h1.1]; exact (List.getElem?_eq_some_iff.mp hz).1
    exact lv_iinc C.1 C.2.1 hd (lR_has h1) hk (v := Int32.ofInt (z + n)) (by rw [Int32.ofInt_add]) hlt rfl (fun ls' h' => a ls' (lR_st1 (v := .inl (z + n)) h1 h'))
  · cases e
theorem s_iadd (hd : decode K.2.2.1 pc = .ok (.iadd, 1)) : Seg S K pc (pc + 1) (x_ii (fun x y => x + y)) := by
  rintro ⟨st, L, h⟩ σ' e
  unfold x_ii at e
  split at e
  · rename_i y x st0 hz
    simp only at hz
    subst hz
    cases e
    refine gos_st fun P p l e R s m args below meth c Q H locs cells slots ls C h2 h3 h1 a => ?_
    exact lv_iadd C.1 C.2.1 hd (by rw [← Int32.ofInt_add]; exact a)
  · cases e
theorem s_isub (hd : decode K.2.2.1 pc = .ok (.isub, 1)) : Seg S K pc (pc + 1) (x_ii (fun x y => x - y)) := by
  rintro ⟨st, L, h⟩ σ' e
  unfold x_ii at e
  split at e
  · rename_i y x st0 hz
    simp only at hz
    subst hz
    cases e
    refine gos_st fun P p l e R s m args below meth c Q H locs cells slots ls C h2 h3 h1 a => ?_
    exact lv_isub C.1 C.2.1 hd (by rw [← Int32.ofInt_sub]; exact a)
  · cases e
theorem s_imul (hd : decode K.2.2.1 pc = .ok (.imul, 1)) : Seg S K pc (pc + 1) (x_ii (fun x y => x * y)) := by
  rintro ⟨st, L, h⟩ σ' e
  unfold x_ii at e
  split at e
  · rename_i y x st0 hz
    simp only at hz
    subst hz
    cases e
    refine gos_st fun P p l e R s m args below meth c Q H locs cells slots ls C h2 h3 h1 a => ?_
    exact lv_imul C.1 C.2.1 hd (by rw [← Int32.ofInt_mul]; exact a)
  · cases e
theorem s_ishl (hd : decode K.2.2.1 pc = .ok (.ishl, 1)) : Seg S K pc (pc + 1) (x_ii o_shl) := by
  rintro ⟨st, L, h⟩ σ' e
  unfold x_ii at e
  split at e
  · rename_i y x st0 hz
    simp only at hz
    subst hz
    cases e
    refine gos_st fun P p l e R s m args below meth c Q H locs cells slots ls C h2 h3 h1 a => ?_
    exact lv_ishl C.1 C.2.1 hd (by rw [← Int32.ofInt_toInt (Int32.ofInt x <<< (Int32.ofInt y &&& 31))]; exact a)
  · cases e
theorem s_ishr (hd : decode K.2.2.1 pc = .ok (.ishr, 1)) : Seg S K pc (pc + 1) (x_ii o_shr) := by
  rintro ⟨st, L, h⟩ σ' e
  unfold x_ii at e
  split at e
  · rename_i y x st0 hz
    simp only at hz
    subst hz
    cases e
    refine gos_st fun P p l e R s m args below meth c Q H locs cells slots ls C h2 h3 h1 a => ?_
    exact lv_ishr C.1 C.2.1 hd (by rw [← Int32.ofInt_toInt (Int32.ofInt x >>> (Int32.ofInt y &&& 31))]; exact a)
  · cases e
theorem s_iand (hd : decode K.2.2.1 pc = .ok (.iand, 1)) : Seg S K pc (pc + 1) (x_ii o_and) := by
  rintro ⟨st, L, h⟩ σ' e
  unfold x_ii at e
  split at e
  · rename_i y x st0 hz
    simp only at hz
    subst hz
    cases e
    refine gos_st fun P p l e R s m args below meth c Q H locs cells slots ls C h2 h3 h1 a => ?_
    exact lv_iand C.1 C.2.1 hd (by rw [← Int32.ofInt_toInt (Int32.ofInt x &&& Int32.ofInt y)]; exact a)
  · cases e
theorem s_ior (hd : decode K.2.2.1 pc = .ok (.ior, 1)) : Seg S K pc (pc + 1) (x_ii o_or) := by
  rintro ⟨st, L, h⟩ σ' e
  unfold x_ii at e
  split at e
  · rename_i y x st0 hz
    simp only at hz
    subst hz
    cases e
    refine gos_st fun P p l e R s m args below meth c Q H locs cells slots ls C h2 h3 h1 a => ?_
    exact lv_ior C.1 C.2.1 hd (by rw [← Int32.ofInt_toInt (Int32.ofInt x ||| Int32.ofInt y)]; exact a)
  · cases e
theorem s_iushr (hd : decode K.2.2.1 pc = .ok (.iushr, 1)) : Seg S K pc (pc + 1) (x_ii o_ushr) := by
  rintro ⟨st, L, h⟩ σ' e
  unfold x_ii at e
  split at e
  · rename_i y x st0 hz
    simp only at hz
    subst hz
    cases e
    refine gos_st fun P p l e R s m args below meth c Q H locs cells slots ls C h2 h3 h1 a => ?_
    exact lv_iushr C.1 C.2.1 hd (Int32.ofInt_toInt _).symm a
  · cases e
theorem s_ladd (hd : decode K.2.2.1 pc = .ok (.ladd, 1)) : Seg S K pc (pc + 1) (x_ll (fun x y => x + y)) := by
  rintro ⟨st, L, h⟩ σ' e
  unfold x_ll at e
  split at e
  · rename_i y x st0 hz
    simp only at hz
    subst hz
    cases e
    refine gos_st fun P p l e R s m args below meth c Q H locs cells slots ls C h2 h3 h1 a => ?_
    exact lv_ladd C.1 C.2.1 hd (by rw [← Int64.ofInt_add]; exact a)
  · cases e
theorem s_lsub (hd : decode K.2.2.1 pc = .ok (.lsub, 1)) : Seg S K pc (pc + 1) (x_ll (fun x y => x - y)) := by
  rintro ⟨st, L, h⟩ σ' e
  unfold x_ll at e
  split at e
  · rename_i y x st0 hz
    simp only at hz
    subst hz
    cases e
    refine gos_st fun P p l e R s m args below meth c Q H locs cells slots ls C h2 h3 h1 a => ?_
    exact lv_lsub C.1 C.2.1 hd (by rw [← Int64.ofInt_sub]; exact a)
  · cases e
theorem s_lmul (hd : decode K.2.2.1 pc = .ok (.lmul, 1)) : Seg S K pc (pc + 1) (x_ll (fun x y => x * y)) := by
  rintro ⟨st, L, h⟩ σ' e
  unfold x_ll at e
  split at e
  · rename_i y x st0 hz
    simp only at hz
    subst hz
    cases e
    refine gos_st fun P p l e R s m args below meth c Q H locs cells slots ls C h2 h3 h1 a => ?_
    exact lv_lmul C.1 C.2.1 hd (by rw [← Int64.ofInt_mul]; exact a)
  · cases e
theorem s_lcmp (hd : decode K.2.2.1 pc = .ok (.lcmp, 1)) : Seg S K pc (pc + 1) (x_lcmp) := by
  rintro ⟨st, L, h⟩ σ' e
  unfold x_lcmp at e
  split at e
  · rename_i y x st0 hz
    simp only at hz
    subst hz
    cases e
    refine gos_st fun P p l e R s m args below meth c Q H locs cells slots ls C h2 h3 h1 a => ?_
    exact W.lcmp C.1 C.2.1 hd (by rw [i64_cmp]; exact a)
  · cases e
theorem s_idiv (hd : decode K.2.2.1 pc = .ok (.idiv, 1)) : Seg S K pc (pc + 1) (x_id Int.tdiv) := by
  rintro ⟨st, L, h⟩ σ' e
  unfold x_id at e
  split at e
  · rename_i y x st0 hz
    simp only at hz
    subst hz
    split at e
    · cases e
    · rename_i hne
      cases e
      refine gos_st fun P p l e R s m args below meth c Q H locs cells slots ls C h2 h3 h1 a => ?_
      exact lv_idiv C.1 C.2.1 hd (fun q => hne ((i32_eq0 y).mp q)) (by rw [← i32_div]; exact a)
  · cases e
theorem s_irem (hd : decode K.2.2.1 pc = .ok (.irem, 1)) : Seg S K pc (pc + 1) (x_id Int.tmod) := by
  rintro ⟨st, L, h⟩ σ' e
  unfold x_id at e
  split at e
  · rename_i y x st0 hz
    simp only at hz
    subst hz
    split at e
    · cases e
    · rename_i hne
      cases e
      refine gos_st fun P p l e R s m args below meth c Q H locs cells slots ls C h2 h3 h1 a => ?_
      exact lv_irem C.1 C.2.1 hd (fun q => hne ((i32_eq0 y).mp q)) (by rw [← i32_mod]; exact a)
  · cases e
theorem s_ldiv (hd : decode K.2.2.1 pc = .ok (.ldiv, 1)) : Seg S K pc (pc + 1) (x_ld Int.tdiv) := by
  rintro ⟨st, L, h⟩ σ' e
  unfold x_ld at e
  split at e
  · rename_i y x st0 hz
    simp only at hz
    subst hz
    split at e
    · cases e
    · rename_i hne
      cases e
      refine gos_st fun P p l e R s m args below meth c Q H locs cells slots ls C h2 h3 h1 a => ?_
      exact lv_ldiv C.1 C.2.1 hd (fun q => hne ((i64_eq0 y).mp q)) (by rw [← i64_div]; exact a)
  · cases e
theorem s_lrem (hd : decode K.2.2.1 pc = .ok (.lrem, 1)) : Seg S K pc (pc + 1) (x_ld Int.tmod) := by
  rintro ⟨st, L, h⟩ σ' e
  unfold x_ld at e
  split at e
  · rename_i y x st0 hz
    simp only at hz
    subst hz
    split at e
    · cases e
    · rename_i hne
      cases e
      refine gos_st fun P p l e R s m args below meth c Q H locs cells slots ls C h2 h3 h1 a => ?_
      exact lv_lrem C.1 C.2.1 hd (fun q => hne ((i64_eq0 y).mp q)) (by rw [← i64_mod]; exact a)
  · cases e
theorem s_ineg (hd : decode K.2.2.1 pc = .ok (.ineg, 1)) : Seg S K pc (pc + 1) (x_i (fun x => -x)) := by
  rintro ⟨st, L, h⟩ σ' e
  unfold x_i at e
  split at e
  · rename_i x st0 hz
    simp only at hz
    subst hz
    cases e
    refine gos_st fun P p l e R s m args below meth c Q H locs cells slots ls C h2 h3 h1 a => ?_
    exact lv_ineg C.1 C.2.1 hd (by rw [← Int32.ofInt_neg]; exact a)
  · cases e
theorem s_i2b (hd : decode K.2.2.1 pc = .ok (.i2b, 1)) : Seg S K pc (pc + 1) (x_i o_i2b) := by
  rintro ⟨st, L, h⟩ σ' e
  unfold x_i at e
  split at e
  · rename_i x st0 hz
    simp only at hz
    subst hz
    cases e
    refine gos_st fun P p l e R s m args below meth c Q H locs cells slots ls C h2 h3 h1 a => ?_
    exact lv_i2b C.1 C.2.1 hd (Int32.ofInt_toInt _).symm a
  · cases e
theorem s_i2c (hd : decode K.2.2.1 pc = .ok (.i2c, 1)) : Seg S K pc (pc + 1) (x_i o_i2c) := by
  rintro ⟨st, L, h⟩ σ' e
  unfold x_i at e
  split at e
  · rename_i x st0 hz
    simp only at hz
    subst hz
    cases e
    refine gos_st fun P p l e R s m args below meth c Q H locs cells slots ls C h2 h3 h1 a => ?_
    exact lv_i2c C.1 C.2.1 hd (Int32.ofInt_toInt _).symm a
  · cases e
theorem s_i2l (hd : decode K.2.2.1 pc = .ok (.i2l, 1)) : Seg S K pc (pc + 1) (x_i2l) := by
  rintro ⟨st, L, h⟩ σ' e
  unfold x_i2l at e
  split at e
  · rename_i x st0 hz
    simp only at hz
    subst hz
    cases e
    refine gos_st fun P p l e R s m args below meth c Q H locs cells slots ls C h2 h3 h1 a => ?_
    exact lv_i2l C.1 C.2.1 hd (i32_64 x) a
  · cases e
theorem s_l2i (hd : decode K.2.2.1 pc = .ok (.l2i, 1)) : Seg S K pc (pc + 1) (x_l2i) := by
  rintro ⟨st, L, h⟩ σ' e
  unfold x_l2i at e
  split at e
  · rename_i x st0 hz
    simp only at hz
    subst hz
    cases e
    refine gos_st fun P p l e R s m args below meth c Q H locs cells slots ls C h2 h3 h1 a => ?_
    exact lv_l2i C.1 C.2.1 hd Int64.toInt32_ofInt a
  · cases e
theorem s_dup (hd : decode K.2.2.1 pc = .ok (.dup, 1)) : Seg S K pc (pc + 1) (x_dup) := by
  rintro ⟨st, L, h⟩ σ' e
  unfold x_dup at e
  split at e
  · rename_i v st0 hz
    simp only at hz
    subst hz
    split at e
    · rename_i hc
      cases e
      refine gos_st fun P p l e R s m args below meth c Q H locs cells slots ls C h2 h3 h1 a => ?_
      exact lv_dup C.1 C.2.1 hd (cat1_k hc) a
    · cases e
  · cases e
theorem s_pop (hd : decode K.2.2.1 pc = .ok (.pop, 1)) : Seg S K pc (pc + 1) (x_pop) := by
  rintro ⟨st, L, h⟩ σ' e
  unfold x_pop at e
  split at e
  · rename_i v st0 hz
    simp only at hz
    subst hz
    split at e
    · rename_i hc
      cases e
      refine gos_st fun P p l e R s m args below meth c Q H locs cells slots ls C h2 h3 h1 a => ?_
      exact lv_pop C.1 C.2.1 hd (cat1_k hc) a
    · cases e
  · cases e
theorem s_dup2 (hd : decode K.2.2.1 pc = .ok (.dup2, 1)) : Seg S K pc (pc + 1) (x_dup2) := by
  rintro ⟨st, L, h⟩ σ' e
  unfold x_dup2 at e
  split at e
  · rename_i v w st0 hz
    simp only at hz
    subst hz
    split at e
    · rename_i hc
      rw [Bool.and_eq_true] at hc
      cases e
      refine gos_st fun P p l e R s m args below meth c Q H locs cells slots ls C h2 h3 h1 a => ?_
      exact lv_dup2_11 C.1 C.2.1 hd (cat1_k hc.1) (cat1_k hc.2) a
    · cases e
  · cases e
theorem i_goto {q : Nat} {off : Int} (hd : decode K.2.2.1 pc = .ok (.goto off, 3)) (ht : (pc : Int) + off = (q : Int)) : Imp S K pc (j_to q) := by
  rintro ⟨st, L, h⟩ q' σ' e
  cases e
  refine gos_st fun P p l e R s m args below meth c Q H locs cells slots ls C h2 h3 h1 a => ?_
  exact lv_goto C.1 C.2.1 hd ht a
theorem i_if_eq {q : Nat} {off : Int} (hd : decode K.2.2.1 pc = .ok (.ifCond .eq off, 3)) (ht : (pc : Int) + off = (q : Int)) : Imp S K pc (j_if 0 q (pc + 3)) := by
  rintro ⟨st, L, h⟩ q' σ' e
  unfold j_if at e
  split at e
  · rename_i z st0 hz
    simp only at hz
    subst hz
    cases e
    refine gos_st fun P p l e R s m args below meth c Q H locs cells slots ls C h2 h3 h1 a => ?_
    refine lv_if_eq C.1 C.2.1 hd ht (fun hc => ?_) (fun hc => ?_)
    · rw [if_pos (cj1_eq.mpr hc)] at a; exact a
    · rw [if_neg (fun q => hc (cj1_eq.mp q))] at a; exact a
  · cases e
theorem i_if_ne {q : Nat} {off : Int} (hd : decode K.2.2.1 pc = .ok (.ifCond .ne off, 3)) (ht : (pc : Int) + off = (q : Int)) : Imp S K pc (j_if 1 q (pc + 3)) := by
  rintro ⟨st, L, h⟩ q' σ' e
  unfold j_if at e
  split at e
  · rename_i z st0 hz
    simp only at hz
    subst hz
    cases e
    refine gos_st fun P p l e R s m args below meth c Q H locs cells slots ls C h2 h3 h1 a => ?_
    refine lv_if_ne C.1 C.2.1 hd ht (fun hc => ?_) (fun hc => ?_)
    · rw [if_pos (cj1_ne.mpr hc)] at a; exact a
    · rw [if_neg (fun q => (cj1_ne.mp q) hc)] at a; exact a
  · cases e
theorem i_if_lt {q : Nat} {off : Int} (hd : decode K.2.2.1 pc = .ok (.ifCond .lt off, 3)) (ht : (pc : Int) + off = (q : Int)) : Imp S K pc (j_if 2 q (pc + 3)) := by
  rintro ⟨st, L, h⟩ q' σ' e
  unfold j_if at e
  split at e
  · rename_i z st0 hz
    simp only at hz
    subst hz
    cases e
    refine gos_st fun P p l e R s m args below meth c Q H locs cells slots ls C h2 h3 h1 a => ?_
    refine lv_if_lt C.1 C.2.1 hd ht (fun hc => ?_) (fun hc => ?_)
    · rw [if_pos (cj1_lt.mpr hc)] at a; exact a
    · rw [if_neg (fun q => hc (cj1_lt.mp q))] at a; exact a
  · cases e
theorem i_if_ge {q : Nat} {off : Int} (hd : decode K.2.2.1 pc = .ok (.ifCond .ge off, 3)) (ht : (pc : Int) + off = (q : Int)) : Imp S K pc (j_if 3 q (pc + 3)) := by
  rintro ⟨st, L, h⟩ q' σ' e
  unfold j_if at e
  split at e
  · rename_i z st0 hz
    simp only at hz
    subst hz
    cases e
    refine gos_st fun P p l e R s m args below meth c Q H locs cells slots ls C h2 h3 h1 a => ?_
    refine lv_if_ge C.1 C.2.1 hd ht (fun hc => ?_) (fun hc => ?_)
    · rw [if_pos (cj1_ge.mpr hc)] at a; exact a
    · rw [if_neg (fun q => hc (cj1_ge.mp q))] at a; exact a
  · cases e
theorem i_if_gt {q : Nat} {off : Int} (hd : decode K.2.2.1 pc = .ok (.ifCond .gt off, 3)) (ht : (pc : Int) + off = (q : Int)) : Imp S K pc (j_if 4 q (pc + 3)) := by
  rintro ⟨st, L, h⟩ q' σ' e
  unfold j_if at e
  split at e
  · rename_i z st0 hz
    simp only at hz
    subst hz
    cases e
    refine gos_st fun P p l e R s m args below meth c Q H locs cells slots ls C h2 h3 h1 a => ?_
    refine lv_if_gt C.1 C.2.1 hd ht (fun hc => ?_) (fun hc => ?_)
    · rw [if_pos (cj1_gt.mpr hc)] at a; exact a
    · rw [if_neg (fun q => hc (cj1_gt.mp q))] at a; exact a
  · cases e
theorem i_if_le {q : Nat} {off : Int} (hd : decode K.2.2.1 pc = .ok (.ifCond .le off, 3)) (ht : (pc : Int) + off = (q : Int)) : Imp S K pc (j_if 5 q (pc + 3)) := by
  rintro ⟨st, L, h⟩ q' σ' e
  unfold j_if at e
  split at e
  · rename_i z st0 hz
    simp only at hz
    subst hz
    cases e
    refine gos_st fun P p l e R s m args below meth c Q H locs cells slots ls C h2 h3 h1 a => ?_
    refine lv_if_le C.1 C.2.1 hd ht (fun hc => ?_) (fun hc => ?_)
    · rw [if_pos (cj1_le.mpr hc)] at a; exact a
    · rw [if_neg (fun q => hc (cj1_le.mp q))] at a; exact a
  · cases e
theorem i_icmp_eq {q : Nat} {off : Int} (hd : decode K.2.2.1 pc = .ok (.if_icmp .eq off, 3)) (ht : (pc : Int) + off = (q : Int)) : Imp S K pc (j_cmp 0 q (pc + 3)) := by
  rintro ⟨st, L, h⟩ q' σ' e
  unfold j_cmp at e
  split at e
  · rename_i y x st0 hz
    simp only at hz
    subst hz
    cases e
    refine gos_st fun P p l e R s m args below meth c Q H locs cells slots ls C h2 h3 h1 a => ?_
    refine lv_icmp_eq C.1 C.2.1 hd ht (fun hc => ?_) (fun hc => ?_)
    · rw [if_pos (cj2_eq.mpr hc)] at a; exact a
    · rw [if_neg (fun q => hc (cj2_eq.mp q))] at a; exact a
  · cases e
theorem i_icmp_ne {q : Nat} {off : Int} (hd : decode K.2.2.1 pc = .ok (.if_icmp .ne off, 3)) (ht : (pc : Int) + off = (q : Int)) : Imp S K pc (j_cmp 1 q (pc + 3)) := by
  rintro ⟨st, L, h⟩ q' σ' e
  unfold j_cmp at e
  split at e
  · rename_i y x st0 hz
    simp only at hz
    subst hz
    cases e
    refine gos_st fun P p l e R s m args below meth c Q H locs cells slots ls C h2 h3 h1 a => ?_
    refine lv_icmp_ne C.1 C.2.1 hd ht (fun hc => ?_) (fun hc => ?_)
    · rw [if_pos (cj2_ne.mpr hc)] at a; exact a
    · rw [if_neg (fun q => (cj2_ne.mp q) hc)] at a; exact a
  · cases e
theorem i_icmp_lt {q : Nat} {off : Int} (hd : decode K.2.2.1 pc = .ok (.if_icmp .lt off, 3)) (ht : (pc : Int) + off = (q : Int)) : Imp S K pc (j_cmp 2 q (pc + 3)) := by
  rintro ⟨st, L, h⟩ q' σ' e
  unfold j_cmp at e
  split at e
  · rename_i y x st0 hz
    simp only at hz
    subst hz
    cases e
    refine gos_st fun P p l e R s m args below meth c Q H locs cells slots ls C h2 h3 h1 a => ?_
    refine lv_icmp_lt C.1 C.2.1 hd ht (fun hc => ?_) (fun hc => ?_)
    · rw [if_pos (cj2_lt.mpr hc)] at a; exact a
    · rw [if_neg (fun q => hc (cj2_lt.mp q))] at a; exact a
  · cases e
theorem i_icmp_ge {q : Nat} {off : Int} (hd : decode K.2.2.1 pc = .ok (.if_icmp .ge off, 3)) (ht : (pc : Int) + off = (q : Int)) : Imp S K pc (j_cmp 3 q (pc + 3)) := by
  rintro ⟨st, L, h⟩ q' σ' e
  unfold j_cmp at e
  split at e
  · rename_i y x st0 hz
    simp only at hz
    subst hz
    cases e
    refine gos_st fun P p l e R s m args below meth c Q H locs cells slots ls C h2 h3 h1 a => ?_
    refine lv_icmp_ge C.1 C.2.1 hd ht (fun hc => ?_) (fun hc => ?_)
    · rw [if_pos (cj2_ge.mpr hc)] at a; exact a
    · rw [if_neg (fun q => hc (cj2_ge.mp q))] at a; exact a
  · cases e
theorem i_icmp_gt {q : Nat} {off : Int} (hd : decode K.2.2.1 pc = .ok (.if_icmp .gt off, 3)) (ht : (pc : Int) + off = (q : Int)) : Imp S K pc (j_cmp 4 q (pc + 3)) := by
  rintro ⟨st, L, h⟩ q' σ' e
  unfold j_cmp at e
  split at e
  · rename_i y x st0 hz
    simp only at hz
    subst hz
    cases e
    refine gos_st fun P p l e R s m args below meth c Q H locs cells slots ls C h2 h3 h1 a => ?_
    refine lv_icmp_gt C.1 C.2.1 hd ht (fun hc => ?_) (fun hc => ?_)
    · rw [if_pos (cj2_gt.mpr hc)] at a; exact a
    · rw [if_neg (fun q => hc (cj2_gt.mp q))] at a; exact a
  · cases e
theorem i_icmp_le {q : Nat} {off : Int} (hd : decode K.2.2.1 pc = .ok (.if_icmp .le off, 3)) (ht : (pc : Int) + off = (q : Int)) : Imp S K pc (j_cmp 5 q (pc + 3)) := by
  rintro ⟨st, L, h⟩ q' σ' e
  unfold j_cmp at e
  split at e
  · rename_i y x st0 hz
    simp only at hz
    subst hz
    cases e
    refine gos_st fun P p l e R s m args below meth c Q H locs cells slots ls C h2 h3 h1 a => ?_
    refine lv_icmp_le C.1 C.2.1 hd ht (fun hc => ?_) (fun hc => ?_)
    · rw [if_pos (cj2_le.mpr hc)] at a; exact a
    · rw [if_neg (fun q => hc (cj2_le.mp q))] at a; exact a
  · cases e
theorem i_nn {q : Nat} {off : Int} (hd : decode K.2.2.1 pc = .ok (.ifnonnull off, 3)) (ht : (pc : Int) + off = (q : Int)) : Imp S K pc (j_nn q (pc + 3)) := by
  rintro ⟨st, L, h⟩ q' σ' e
  unfold j_nn at e
  split at e
  · rename_i z st0 hz
    simp only at hz
    subst hz
    cases e
    refine gos_st fun P p l e R s m args below meth c Q H locs cells slots ls C h2 h3 h1 a => ?_
    exact lv_ifnonnull C.1 C.2.1 hd ht a
  · rename_i z st0 hz
    simp only at hz
    subst hz
    cases e
    refine gos_st fun P p l e R s m args below meth c Q H locs cells slots ls C h2 h3 h1 a => ?_
    exact lv_ifnonnullN C.1 C.2.1 hd a
  · cases e
theorem i_tsw {d lo hi : Int} {offs : Array Int} {len q : Nat} {qs : List Nat} (hd : decode K.2.2.1 pc = .ok (.tableswitch d lo hi offs, len)) (hq : (pc : Int) + d = (q : Int)) (hqs : offs.toList.map (fun o => (pc : Int) + o) = qs.map (fun k : Nat => (k : Int))) (hlen : hi = lo + (qs.length : Int) - 1) : Imp S K pc (j_sw lo qs q) := by
  rintro ⟨st, L, h⟩ q' σ' e
  unfold j_sw at e
  split at e
  · rename_i z st0 hz
    simp only at hz
    subst hz
    cases e
    refine gos_st fun P p l e R s m args below meth c Q H locs cells slots ls C h2 h3 h1 a => ?_
    by_cases h0 : lo ≤ n32 z
    · rw [if_pos h0] at a
      by_cases h9 : n32 z ≤ hi
      · have hk : (n32 z - lo).toNat < qs.length := by omega
        have e1 : qs.getD (n32 z - lo).toNat q = qs[(n32 z - lo).toNat] := by rw [List.getD_eq_getElem?_getD, List.getElem?_eq_getElem hk]; rfl
        rw [e1] at a
        have hl : offs.toList.length = qs.length := by have := congrArg List.length hqs; simpa using this
        have hk2 : (n32 z - lo).toNat < offs.toList.length := by omega
        have e2 := congrArg (fun l => l[(n32 z - lo).toNat]?) hqs
        simp only [List.getElem?_map, List.getElem?_eq_getElem hk, List.getElem?_eq_getElem hk2, Option.map_some, Option.some.injEq] at e2
        refine lv_tableIn C.1 C.2.1 hd (by rw [i32_toInt]; omega) (by rw [i32_toInt]; omega) (off := offs.toList[(n32 z - lo).toNat]) ?_ e2 a
        rw [i32_toInt, ← Array.getElem?_toList, List.getElem?_eq_getElem hk2]
      · have e1 : qs.getD (n32 z - lo).toNat q = q := by rw [List.getD_eq_getElem?_getD, List.getElem?_eq_none (by omega)]; rfl
        rw [e1] at a
        exact lv_tableOut C.1 C.2.1 hd (by rw [i32_toInt]; right; omega) hq a
    · rw [if_neg h0] at a
      exact lv_tableOut C.1 C.2.1 hd (by rw [i32_toInt]; left; omega) hq a
  · cases e
theorem i_lsw {d o0 o1 : Int} {len q q0 q1 : Nat} (hd : decode K.2.2.1 pc = .ok (.lookupswitch d #[(0, o0), (1, o1)], len)) (hq : (pc : Int) + d = (q : Int)) (h0 : (pc : Int) + o0 = (q0 : Int)) (h1 : (pc : Int) + o1 = (q1 : Int)) : Imp S K pc (j_sw 0 [q0, q1] q) := by
  rintro ⟨st, L, h⟩ q' σ' e
  unfold j_sw at e
  split at e
  · rename_i z st0 hz
    simp only at hz
    subst hz
    cases e
    refine gos_st fun P p l e R s m args below meth c Q H locs cells slots ls C h2 h3 h9 a => ?_
    by_cases e0 : n32 z = 0
    · rw [e0] at a
      exact lv_lookup C.1 C.2.1 hd rfl (off := o0) (by rw [i32_toInt, e0]; simp [Op.lookupswitch.offset_cons]) h0 a
    · by_cases e1 : n32 z = 1
      · rw [e1] at a
        exact lv_lookup C.1 C.2.1 hd rfl (off := o1) (by rw [i32_toInt, e1]; simp [Op.lookupswitch.offset_cons]) h1 a
      · have e2 : (if (0 : Int) ≤ n32 z then ([q0, q1] : List Nat).getD (n32 z - 0).toNat q else q) = q := by
          by_cases hp : (0 : Int) ≤ n32 z
          · rw [if_pos hp, List.getD_eq_getElem?_getD, List.getElem?_eq_none (by simp; omega)]; rfl
          · rw [if_neg hp]
        rw [e2] at a
        exact lv_lookup C.1 C.2.1 hd rfl (off := d) (by rw [i32_toInt]; simp [Op.lookupswitch.offset_cons, Op.lookupswitch.offset, e0, e1, Ne.symm e0, Ne.symm e1]) hq a
  · cases e
end Ops2
end
section
/-! THE HEAP'S INSTRUCTIONS -/
theorem cl_at : ∀ c, c < 9 → vwCl[c]? = some (clS c, clT c, clN c) := by
  intro c h
  match c, h with
  | 0, _ => rfl
  | 1, _ => rfl
  | 2, _ => rfl
  | 3, _ => rfl
  | 4, _ => rfl
  | 5, _ => rfl
  | 6, _ => rfl
  | 7, _ => rfl
  | 8, _ => rfl
  | _ + 9, h => omega
theorem cl_in : ∀ c, c < 9 → ∀ w ∈ u_ws (clS c) (clT c) (clN c), w ∈ lw_tbl ∧ goodWord w = true := by decide +kernel
theorem cl_tG {c : Nat} (h : c < 9) : ∀ w ∈ u_ws (clS c) (clT c) (clN c), w ∈ tG := fun w hw => tG_of (cl_in c h w hw).1 (cl_in c h w hw).2
def clY (c : Nat) : Nat → FieldType := match c with
  | 0 => tyX0
  | 1 => tyX1
  | 2 => tyX2
  | 3 => tyX3
  | 4 => tyX4
  | 5 => tyX5
  | 6 => tyX6
  | 7 => tyX7
  | _ => tyX8
theorem cl_ty : ∀ c, c < 9 → ∀ k, k < clN c → parseFieldDescriptor (clT c k).2.2.1 = some (clY c k) := by decide +kernel
theorem cl_nm : ∀ c, c < 9 → ∀ a, a < clN c → ∀ b, b < clN c → a ≠ b → (clT c a).2.1 ≠ (clT c b).2.1 := by decide +kernel
/-- the kind of a field's type -/
def kY (t : FieldType) : Nat := match t with
  | .int => 0
  | .long => 1
  | .boolean => 3
  | .object _ => 2
  | .array _ => 2
  | _ => 9
theorem kY_ok : ∀ c, c < 9 → ∀ k, k < clN c → kY (clY c k) = fT c k := by decide +kernel
theorem eC_o {P : Par} {c n : Nat} {r : Nat → Option Nat} {m : Int → Int} (h : c < 9) : eC P (c, n, r) m = .inr (c, (List.range n).map (fV P c m r)) := if_pos h
theorem eC_i {P : Par} {c n : Nat} {r : Nat → Option Nat} {m : Int → Int} (h : 9 ≤ c) (h2 : c < 12) : eC P (c, n, r) m = .inl (P.2.2.1 c, n, .inl (fun i => Int32.ofInt (m i))) := by
  unfold eC
  rw [if_neg (by show ¬ c < 9; omega), if_pos h2]
theorem eC_r {P : Par} {c n : Nat} {r : Nat → Option Nat} {m : Int → Int} (h : 12 ≤ c) : eC P (c, n, r) m = .inl (P.2.2.1 c, n, .inr (.inr (.inr (.inr (fun i => (r i).map (fun k => P.1 + k)))))) := by
  unfold eC
  rw [if_neg (by show ¬ c < 9; omega), if_neg (by show ¬ c < 12; omega)]
theorem fs_at {P : Par} {c n k : Nat} {r : Nat → Option Nat} {m : Int → Int} (h : k < n) : ((List.range n).map (fV P c m r))[k]? = some (fV P c m r k) := by
  rw [List.getElem?_map, List.getElem?_range h]; rfl
theorem fV_1 {P : Par} {c k : Nat} {r : Nat → Option Nat} {m : Int → Int} (h : fT c k = 1) : fV P c m r k = .long (Int64.ofInt (m k)) := if_pos h
theorem fV_2 {P : Par} {c k : Nat} {r : Nat → Option Nat} {m : Int → Int} (h : fT c k = 2) : fV P c m r k = cV P (rfv (r k)) := by
  unfold fV
  rw [if_neg (by omega), if_pos h]
theorem fV_0 {P : Par} {c k : Nat} {r : Nat → Option Nat} {m : Int → Int} (h1 : ¬ fT c k = 1) (h : ¬ fT c k = 2) : fV P c m r k = .int (Int32.ofInt (m k)) := by
  unfold fV
  rw [if_neg h1, if_neg h]
/-- two heaps' pictures are the same list -/
theorem ws_ext {P : Par} {h : Hp} {w : va_W} (hl : w.length = h.1.length) (ha : ∀ (k : Nat) (sh : Sh), h.1[k]? = some sh → w[k]? = some (P.1 + k, eC P sh (h.2 k))) : w = wsOf P h := by
  apply List.ext_getElem?
  intro k
  rw [ws_get]
  cases e : h.1[k]? with
  | none =>
    have := List.getElem?_eq_none_iff.mp e
    rw [List.getElem?_eq_none (by omega)]
    rfl
  | some sh => rw [ha k sh e]; rfl

theorem um_ne {M : Nat → Int → Int} {a j : Nat} {i z : Int} (h : ¬ a = j) : um M a i z j = M j := by
  funext q
  unfold um
  rw [if_neg (fun x => h x.1.symm)]
/-- one cell's picture changes -/
theorem ws_set {P : Par} {h h' : Hp} {a : Nat} {sh' : Sh} {x : va_E} (ha : a < h.1.length) (hl : h'.1.length = h.1.length) (hs : h'.1[a]? = some sh') (hx : eC P sh' (h'.2 a) = x) (ho : ∀ j, ¬ a = j → h'.1[j]? = h.1[j]? ∧ h'.2 j = h.2 j) :
    (wsOf P h).set a (P.1 + a, x) = wsOf P h' := by
  refine ws_ext (by rw [List.length_set, ws_len, hl]) (fun j sh hj => ?_)
  rw [List.getElem?_set]
  split
  · rename_i e
    subst e
    rw [if_pos (by rw [ws_len]; exact ha)]
    have e2 : sh = sh' := Option.some.inj (hj.symm.trans hs)
    rw [e2, hx]
  · rename_i hne
    obtain ⟨o1, o2⟩ := ho j hne
    rw [o1] at hj
    rw [ws_at hj, o2]
/-- one number of an object changes -/
theorem ws_um {P : Par} {T : List Sh} {M : Nat → Int → Int} {a c n : Nat} {r : Nat → Option Nat} {k : Nat} {z : Int} (hT : T[a]? = some (c, n, r)) (hc : c < 9) (hk : k < n) (v : Value) (hv : fV P c (um M a k z a) r k = v) (hn : ¬ fT c k = 2) :
    (wsOf P (T, M)).set a (P.1 + a, .inr (c, ((List.range n).map (fV P c (M a) r)).set k v)) = wsOf P (T, um M a k z) := by
  refine ws_set (h' := (T, um M a k z)) (List.getElem?_eq_some_iff.mp hT).1 rfl hT ?_ (fun j hj => ⟨rfl, um_ne hj⟩)
  rw [eC_o hc]
  congr 2
  apply List.ext_getElem?
  intro i
  rw [List.getElem?_set]
  split
  · rename_i e3
    subst e3
    rw [if_pos (by simpa using hk), fs_at hk, hv]
  · rename_i hne
    rw [List.getElem?_map, List.getElem?_map]
    by_cases hi : i < n
    · rw [List.getElem?_range hi]
      show some _ = some _
      congr 1
      unfold fV
      have e4 : um M a (k : Int) z a (i : Int) = M a (i : Int) := by
        unfold um
        rw [if_neg (fun q => hne (by have := q.2; omega))]
      simp only [e4]
    · rw [List.getElem?_eq_none (by simpa using hi)]; rfl
/-- one reference of an object changes -/
theorem ws_ur {P : Par} {T : List Sh} {M : Nat → Int → Int} {a c n : Nat} {r : Nat → Option Nat} {k v : Nat} (hT : T[a]? = some (c, n, r)) (hc : c < 9) (hk : k < n) (h2 : fT c k = 2) :
    (wsOf P (T, M)).set a (P.1 + a, .inr (c, ((List.range n).map (fV P c (M a) r)).set k (.ref (P.1 + v)))) = wsOf P (T.set a (c, n, uf r k (some v)), M) := by
  have hlt := (List.getElem?_eq_some_iff.mp hT).1
  refine ws_set (h' := (T.set a (c, n, uf r k (some v)), M)) (sh' := (c, n, uf r k (some v))) hlt (by simp) (by simp [hlt]) ?_ (fun j hj => ⟨by rw [List.getElem?_set_ne hj], rfl⟩)
  rw [eC_o hc]
  congr 2
  apply List.ext_getElem?
  intro i
  rw [List.getElem?_set]
  split
  · rename_i e3
    subst e3
    rw [if_pos (by simpa using hk), fs_at hk, fV_2 h2]
    unfold uf
    rw [if_pos rfl]
    rfl
  · rename_i hne
    rw [List.getElem?_map, List.getElem?_map]
    by_cases hi : i < n
    · rw [List.getElem?_range hi]
      show some _ = some _
      congr 1
      have e5 : uf r k (some v) i = r i := by
        unfold uf
        rw [if_neg (fun q => hne q.symm)]
      unfold fV
      simp only [e5]
    · rw [List.getElem?_eq_none (by simpa using hi)]; rfl
/-- one number of a row changes -/
theorem ws_ua {P : Par} {T : List Sh} {M : Nat → Int → Int} {a c n : Nat} {r : Nat → Option Nat} {i z : Int} {j : Nat} {v : Int32} (hT : T[a]? = some (c, n, r)) (h1 : 9 ≤ c) (h2 : c < 12) (hj : (j : Int) = i) (hv : Int32.ofInt z = v) :
    (wsOf P (T, M)).set a (P.1 + a, .inl (P.2.2.1 c, n, .inl (upd (fun q => Int32.ofInt (M a q)) j v))) = wsOf P (T, um M a i z) := by
  refine ws_set (h' := (T, um M a i z)) (List.getElem?_eq_some_iff.mp hT).1 rfl hT ?_ (fun j hj => ⟨rfl, um_ne hj⟩)
  rw [eC_i h1 h2]
  congr 4
  funext q
  show Int32.ofInt (um M a i z a q) = _
  unfold upd um
  by_cases e3 : q = j
  · rw [if_pos e3, if_pos ⟨rfl, by rw [e3]; exact hj⟩, hv]
  · rw [if_neg e3, if_neg (fun x => e3 (by have := x.2; omega))]
/-- one reference of a row changes -/
theorem ws_uq {P : Par} {T : List Sh} {M : Nat → Int → Int} {a c n : Nat} {r : Nat → Option Nat} {j v : Nat} (hT : T[a]? = some (c, n, r)) (h1 : 12 ≤ c) :
    (wsOf P (T, M)).set a (P.1 + a, .inl (P.2.2.1 c, n, .inr (.inr (.inr (.inr (va_up (fun i => (r i).map (fun k => P.1 + k)) j (some (P.1 + v)))))))) = wsOf P (T.set a (c, n, uf r j (some v)), M) := by
  have hlt := (List.getElem?_eq_some_iff.mp hT).1
  refine ws_set (h' := (T.set a (c, n, uf r j (some v)), M)) (sh' := (c, n, uf r j (some v))) hlt (by simp) (by simp [hlt]) ?_ (fun j hj => ⟨by rw [List.getElem?_set_ne hj], rfl⟩)
  rw [eC_r h1]
  congr 7
  funext i
  unfold va_up uf
  by_cases e : i = j
  · rw [if_pos e, if_pos e]; rfl
  · rw [if_neg e, if_neg e]
theorem sz_set {T : List Sh} {a c c' n : Nat} {r r' : Nat → Option Nat} (hT : T[a]? = some (c, n, r)) : sz (T.set a (c', n, r')) = sz T := by
  unfold sz
  rw [List.map_set]
  congr 1
  apply List.ext_getElem?
  intro i
  rw [List.getElem?_set]
  split
  · rename_i e
    subst e
    rw [List.getElem?_map, hT]
    simp only [List.length_map]
    rw [if_pos (List.getElem?_eq_some_iff.mp hT).1]
    rfl
  · rfl
theorem ws_lb {P : Par} {h : Hp} {H : Heap} (h0 : P.1 ≤ H.size) (hP : va_P P.2.1 vwCl (wsOf P h) H) : P.1 + h.1.length ≤ H.size := by
  cases hn : h.1.length with
  | zero => exact h0
  | succ n =>
    have hlt : n < h.1.length := by omega
    have e := ws_at (P := P) (h := h) (List.getElem?_eq_getElem hlt)
    have h9 : P.1 + n < H.size := (hP n _ e).lt
    omega
/-- an instruction that changes numbers or references of the heap, not how much there is -/
theorem gos_hp {S : List Int} {K : Mt} {pc q : Nat} {st st' : List AV} {L : List (Option AV)} {T T' : List Sh} {M M' : Nat → Int → Int} (hl : T'.length = T.length) (hz : sz T' = sz T)
    (k : ∀ (P : Par) (p : Program) (l : Launch) (e : Env) (R : Room) (s : State) (m : MethodId) (args : Array Value) (below : List Frame) (meth : Method) (c : Code) (Q : State → Prop) (H : Heap) (locs : List Loc) (cells slots : Nat) (ls : Array Slot),
      Cx S K P p R s m args meth c → hR P (T, M) H → va_S (aA P) s.heap H locs → lR P K.2.2.2.1 L ls → (∀ H' locs', va_P P.2.1 vwCl (wsOf P (T', M')) H' → va_S (aA P) s.heap H' locs' → W p l e R s m args below meth c H' locs' cells slots Q (F0 m q ls (st'.map (cV P)))) → W p l e R s m args below meth c H locs cells slots Q (F0 m pc ls (st.map (cV P)))) :
    Gos S K pc q (st, L, T, M) (st', L, T', M') :=
  ⟨⟨Nat.le_of_eq hl.symm, Nat.le_of_eq hz.symm⟩, fun P p l e R s m args below meth c Q t0 z0 C h0 _ _ _ a ls H locs h1 h2 h3 => k P p l e R s m args below meth c Q H locs _ _ ls C h2 h3 h1 (fun H' locs' e2 e3 X hX hSt => by
    have u1 := hSt.heapSize
    rw [hX] at u1
    have u2 := ws_lb (h := (T', M')) (Nat.le_trans (by rw [h0.1]; exact Nat.le_add_right _ _) e3.1) e2
    have u3 := h0.1
    have u4 := h0.2
    simp only at u1 u2 u4
    have := a ls H' locs' h1 ⟨by show H'.size = P.1 + T'.length; rw [hl] at u2 ⊢; omega, e2⟩ e3
    simp only [hl, hz] at this
    exact this X hX hSt)⟩

theorem ftc_lt (d : String) : ftc d < 4 := by
  unfold ftc
  by_cases h1 : d = "I"
  · rw [if_pos h1]; omega
  · rw [if_neg h1]
    by_cases h2 : d = "J"
    · rw [if_pos h2]; omega
    · rw [if_neg h2]
      by_cases h3 : d = "Z"
      · rw [if_pos h3]; omega
      · rw [if_neg h3]; omega
theorem b_fits {z : Int} (h : z = 0 ∨ z = 1) : narrow .boolean (.int (Int32.ofInt z)) = .int (Int32.ofInt z) ∧ fits .boolean (.int (Int32.ofInt z)) = true := by
  rcases h with rfl | rfl
  · exact ⟨by decide, by decide⟩
  · exact ⟨by decide, by decide⟩
section Ops3
variable {S : List Int} {K : Mt} {pc : Nat}

theorem s_get {c k i : Nat} (hd : decode K.2.2.1 pc = .ok (.getfield i, 3)) (hc : c < 9) (hk : k < clN c) (hw : Cond.fieldLink (clS K.1) i (clT c k).1 (clT c k).2.1 (clT c k).2.2.1 ∈ tG) : Seg S K pc (pc + 3) (x_get c k) := by
  rintro ⟨st, L, T, M⟩ σ' e
  unfold x_get at e
  split at e
  · rename_i a st0 hz
    simp only at hz
    subst hz
    split at e
    · rename_i c' n r hT
      split at e
      · rename_i hcn
        obtain ⟨rfl, rfl⟩ := hcn
        simp only at hT
        have key : ∀ v : AV, (∀ P : Par, cV P v = fV P c' (M a) r k) → Gos S K pc (pc + 3) (Sum.inr (Sum.inr (Sum.inl a)) :: st0, L, T, M) (v :: st0, L, T, M) := by
          intro v hv
          refine gos_st fun P p l e R s m args below meth c Q H locs cells slots ls C h2 h3 h1 x => ?_
          have hP := h2.2
          have he := ws_at (P := P) (h := (T, M)) hT
          rw [eC_o hc] at he
          exact va_get C.1 C.2.1 C.2.2.2.2.1 (cl_tG hc) C.2.2.2.1 C.2.2.2.2.2.2.2.2.1.1 hP a he (cl_at c' hc) k hk (C.2.2.2.2.1 _ hw) (fun _ h9 => h9) (fs_at hk) hd (by rw [← hv P]; exact x)
        split at e
        · rename_i f1
          cases e
          exact key _ (fun P => (fV_1 f1).symm)
        · rename_i f1
          split at e
          · rename_i f2
            cases e
            exact key _ (fun P => (fV_2 f2).symm)
          · rename_i f2
            cases e
            exact key _ (fun P => (fV_0 f1 f2).symm)
      · cases e
    · cases e
  · cases e

theorem s_puti {c k i : Nat} (hd : decode K.2.2.1 pc = .ok (.putfield i, 3)) (hc : c < 9) (hk : k < clN c) (hw : Cond.fieldLink (clS K.1) i (clT c k).1 (clT c k).2.1 (clT c k).2.2.1 ∈ tG) (hf : (clT c k).2.2.2 = false) (h1f : ¬ fT c k = 1) (h2f : ¬ fT c k = 2) : Seg S K pc (pc + 3) (x_puti c k) := by
  rintro ⟨st, L, T, M⟩ σ' e
  unfold x_puti at e
  split at e
  · rename_i z a st0 hz
    simp only at hz
    subst hz
    split at e
    · rename_i c' n r hT
      split at e
      · rename_i hcn
        simp only at hT
        obtain ⟨rfl, rfl, hb⟩ := hcn
        cases e
        refine gos_hp rfl rfl fun P p l e R s m args below meth c Q H locs cells slots ls C h2 h3 h1 x => ?_
        have he := ws_at (P := P) (h := (T, M)) hT
        rw [eC_o hc] at he
        have hY := kY_ok c' hc k hk
        have hnf : narrow (clY c' k) (.int (Int32.ofInt z)) = .int (Int32.ofInt z) ∧ fits (clY c' k) (.int (Int32.ofInt z)) = true := by
          cases hy : clY c' k with
          | int => exact ⟨rfl, rfl⟩
          | boolean => rw [hy] at hY; exact b_fits (hb hY.symm)
          | long => rw [hy] at hY; exact absurd hY.symm h1f
          | object _ => rw [hy] at hY; exact absurd hY.symm h2f
          | array _ => rw [hy] at hY; exact absurd hY.symm h2f
          | _ =>
            have h9 : fT c' k < 4 := by rw [fT_ok c' hc k hk]; exact ftc_lt _
            rw [hy] at hY
            have hY : 9 = fT c' k := hY
            omega
        refine va_put C.1 C.2.1 C.2.2.2.2.1 (cl_tG hc) (clY c') (cl_ty c' hc) (cl_nm c' hc) C.2.2.2.1 C.2.2.2.2.2.2.2.2.1.1 h2.2 (ws_D P (T, M)) h3 a he (cl_at c' hc) k hk (C.2.2.2.2.1 _ hw) (fun _ h9 => h9) hf (cl_ty c' hc k hk) hnf.1 hnf.2 (by simpa using hk) hd (fun H1 locs1 g1 g2 g3 => ?_)
        have e5 := ws_um (P := P) (M := M) (z := z) hT hc hk (.int (Int32.ofInt z)) (by rw [fV_0 h1f h2f]; unfold um; rw [if_pos ⟨rfl, rfl⟩]) h2f
        refine x H1 locs1 ?_ g3
        show va_P P.2.1 vwCl (wsOf P (T, um M a k z)) H1
        rw [← e5]
        exact g1
      · cases e
    · cases e
  · cases e

theorem s_putl {c k i : Nat} (hd : decode K.2.2.1 pc = .ok (.putfield i, 3)) (hc : c < 9) (hk : k < clN c) (hw : Cond.fieldLink (clS K.1) i (clT c k).1 (clT c k).2.1 (clT c k).2.2.1 ∈ tG) (hf : (clT c k).2.2.2 = false) (h1f : fT c k = 1) : Seg S K pc (pc + 3) (x_putl c k) := by
  rintro ⟨st, L, T, M⟩ σ' e
  unfold x_putl at e
  split at e
  · rename_i z a st0 hz
    simp only at hz
    subst hz
    split at e
    · rename_i c' n r hT
      split at e
      · rename_i hcn
        simp only at hT
        obtain ⟨rfl, rfl⟩ := hcn
        cases e
        refine gos_hp rfl rfl fun P p l e R s m args below meth c Q H locs cells slots ls C h2 h3 h1 x => ?_
        have he := ws_at (P := P) (h := (T, M)) hT
        rw [eC_o hc] at he
        have hY := kY_ok c' hc k hk
        have hnf : narrow (clY c' k) (.long (Int64.ofInt z)) = .long (Int64.ofInt z) ∧ fits (clY c' k) (.long (Int64.ofInt z)) = true := by
          cases hy : clY c' k with
          | long => exact ⟨rfl, rfl⟩
          | _ => rw [hy] at hY; exact absurd (hY.trans h1f) (by simp [kY])
        refine va_put C.1 C.2.1 C.2.2.2.2.1 (cl_tG hc) (clY c') (cl_ty c' hc) (cl_nm c' hc) C.2.2.2.1 C.2.2.2.2.2.2.2.2.1.1 h2.2 (ws_D P (T, M)) h3 a he (cl_at c' hc) k hk (C.2.2.2.2.1 _ hw) (fun _ h9 => h9) hf (cl_ty c' hc k hk) hnf.1 hnf.2 (by simpa using hk) hd (fun H1 locs1 g1 g2 g3 => ?_)
        have e5 := ws_um (P := P) (M := M) (z := z) hT hc hk (.long (Int64.ofInt z)) (by rw [fV_1 h1f]; unfold um; rw [if_pos ⟨rfl, rfl⟩]) (by omega)
        refine x H1 locs1 ?_ g3
        show va_P P.2.1 vwCl (wsOf P (T, um M a k z)) H1
        rw [← e5]
        exact g1
      · cases e
    · cases e
  · cases e

theorem s_putr {c k i : Nat} (hd : decode K.2.2.1 pc = .ok (.putfield i, 3)) (hc : c < 9) (hk : k < clN c) (hw : Cond.fieldLink (clS K.1) i (clT c k).1 (clT c k).2.1 (clT c k).2.2.1 ∈ tG) (hf : (clT c k).2.2.2 = true) (hn2 : K.2.1 = "<init>") (ho : (clT c k).1 = clS K.1) (h2f : fT c k = 2) : Seg S K pc (pc + 3) (x_putr c k) := by
  rintro ⟨st, L, T, M⟩ σ' e
  unfold x_putr at e
  split at e
  · rename_i v a st0 hz
    simp only at hz
    subst hz
    split at e
    · rename_i c' n r hT
      split at e
      · rename_i hcn
        simp only at hT
        obtain ⟨rfl, rfl⟩ := hcn
        cases e
        refine gos_hp (by simp) (sz_set hT) fun P p l e R s m args below meth c Q H locs cells slots ls C h2 h3 h1 x => ?_
        have he := ws_at (P := P) (h := (T, M)) hT
        rw [eC_o hc] at he
        have hY := kY_ok c' hc k hk
        have hnf : narrow (clY c' k) (.ref (P.1 + v)) = .ref (P.1 + v) ∧ fits (clY c' k) (.ref (P.1 + v)) = true := by
          cases hy : clY c' k with
          | object _ => exact ⟨rfl, rfl⟩
          | array _ => exact ⟨rfl, rfl⟩
          | _ => rw [hy] at hY; exact absurd (hY.trans h2f) (by simp [kY])
        refine va_putF C.1 C.2.1 C.2.2.2.2.1 (cl_tG hc) (clY c') (cl_ty c' hc) (cl_nm c' hc) C.2.2.2.1 C.2.2.2.2.2.2.2.2.1.1 h2.2 (ws_D P (T, M)) h3 a he (cl_at c' hc) k hk (C.2.2.2.2.1 _ hw) (fun _ h9 => h9) hf (C.2.2.2.2.2.1 hn2) ho (cl_ty c' hc k hk) hnf.1 hnf.2 (by simpa using hk) hd (fun H1 locs1 g1 g2 g3 => ?_)
        have e5 := ws_ur (P := P) (M := M) (v := v) hT hc hk h2f
        refine x H1 locs1 ?_ g3
        show va_P P.2.1 vwCl (wsOf P (T.set a (c', clN c', uf r k (some v)), M)) H1
        rw [← e5]
        exact g1
      · cases e
    · cases e
  · cases e

end Ops3
end
section
/-! ROWS OF NUMBERS AND OF REFERENCES, WORDS, WHAT IS MADE -/
def tyK (k : Nat) : FieldType := match k with
  | 9 => .int
  | 10 => .byte
  | 11 => .boolean
  | 12 => .object RX5
  | 13 => .object RX6
  | _ => .array .int
theorem ty_at (P : Par) : ∀ k, 9 ≤ k → k < 15 → (tyL P)[k - 9]? = some (P.2.2.1 k, tyK k) := by
  intro k h1 h2
  have h : k = 9 ∨ k = 10 ∨ k = 11 ∨ k = 12 ∨ k = 13 ∨ k = 14 := by omega
  rcases h with rfl | rfl | rfl | rfl | rfl | rfl <;> rfl
theorem i32_nat (n : Nat) : Int32.ofNat n = Int32.ofInt (n : Int) := by
  rw [← Int32.toInt_inj, i32_toInt, Int32.toInt_ofNat', ← i32_bm]
theorem c_ro {S : List Int} {P : Par} {U : State} {H : Heap} (h : Wc S P U H) {j : Nat} (hj : j < 3) : ∃ a, cV P (vO j) = .ref a ∧ va_T .int a (roL S j).length (fun i => .int (Int32.ofInt ((roL S j).getD i 0))) (aA P) U H := by
  obtain ⟨ad, h0, -, -, h3, -⟩ := h
  refine ⟨ad j, ?_, h3 j hj⟩
  show va_rf (P.2.2.2 j) = _
  rw [h0 j (by omega)]
  rfl
theorem sB_ok : ∀ i, i < 8 → ∀ j, j < 7 → (sByt.getD i []).getD j 0 = Int32.ofInt ((roL [] (11 + i)).getD j 0) := by decide +kernel
theorem sL_ok : ∀ i, i < 8 → sLen.getD i 0 = (roL [] (11 + i)).length ∧ sLen.getD i 0 ≤ 7 := by decide +kernel
theorem roL_S {S : List Int} {j : Nat} (h1 : 11 ≤ j) (h2 : j < 19) : roL S j = roL [] j := by
  have h : j = 11 ∨ j = 12 ∨ j = 13 ∨ j = 14 ∨ j = 15 ∨ j = 16 ∨ j = 17 ∨ j = 18 := by omega
  rcases h with rfl | rfl | rfl | rfl | rfl | rfl | rfl | rfl <;> rfl
theorem va_T.cg {ty : FieldType} {t N : Nat} {f g : Nat → Value} {A : Nat → Prop} {U : State} {H : Heap} (h : va_T ty t N f A U H) (e : ∀ j, j < N → f j = g j) : va_T ty t N g A U H := by
  obtain ⟨cell, h1, h2, h3, h4, h5, h6, h7⟩ := h
  exact ⟨cell, h1, h2, h3, h4, h5, fun j hj => by rw [h6 j hj, e j hj], h7⟩
theorem c_rb {S : List Int} {P : Par} {U : State} {H : Heap} (h : Wc S P U H) {j : Nat} (h1 : 11 ≤ j) (hj : j < 19) : ∃ a, cV P (vO j) = .ref a ∧ va_T .byte a (roL S j).length (fun i => .int (Int32.ofInt ((roL S j).getD i 0))) (aA P) U H := by
  obtain ⟨ad, h0, -, -, -, -, -, h6⟩ := h
  have e : j = 11 + (j - 11) := by omega
  have hi : j - 11 < 8 := by omega
  have h9 : va_T .byte (ad (11 + (j - 11))) (sLen.getD (j - 11) 0) (fun k => .int ((sByt.getD (j - 11) []).getD k 0)) (aA P) U H := (h6.1 (j - 11) hi).2.2.2
  obtain ⟨g1, g2⟩ := sL_ok (j - 11) hi
  refine ⟨ad j, ?_, ?_⟩
  · show va_rf (P.2.2.2 j) = _
    rw [h0 j (by omega)]
    rfl
  · rw [roL_S h1 hj]
    rw [g1, ← e] at h9
    refine h9.cg (fun i hi2 => ?_)
    have g3 : i < 7 := by rw [g1, ← e] at g2; omega
    have := sB_ok (j - 11) hi i g3
    rw [← e] at this
    exact congrArg Value.int this
theorem sz_app (T T' : List Sh) : sz (T ++ T') = sz T + sz T' := by
  unfold sz
  rw [List.map_append, List.sum_append]
theorem ws_push (P : Par) (T : List Sh) (M : Nat → Int → Int) (sh : Sh) : wsOf P (T, M) ++ [(P.1 + T.length, eC P sh (fun _ => 0))] = wsOf P (T ++ [sh], zm M T.length) := by
  refine ws_ext (by rw [List.length_append, ws_len]; simp) (fun k s hk => ?_)
  have hlt := (List.getElem?_eq_some_iff.mp hk).1
  simp only [List.length_append, List.length_singleton] at hlt
  by_cases hl : k < T.length
  · simp only at hk
    rw [List.getElem?_append_left hl] at hk
    rw [List.getElem?_append_left (by rw [ws_len]; exact hl), ws_at (h := (T, M)) hk]
    show some (_, eC P s (M k)) = some (_, eC P s (zm M T.length k))
    have e : zm M T.length k = M k := by
      funext i
      unfold zm
      rw [if_neg (by omega)]
    rw [e]
  · have e : k = T.length := by omega
    subst e
    simp only at hk
    rw [List.getElem?_append_right (Nat.le_refl _), Nat.sub_self] at hk
    cases hk
    rw [List.getElem?_append_right (by rw [ws_len]; exact Nat.le_refl _), ws_len, Nat.sub_self]
    show some (_, eC P sh (fun _ => 0)) = some (_, eC P sh (zm M T.length T.length))
    have e : zm M T.length T.length = fun _ => 0 := by
      funext i
      unfold zm
      rw [if_pos (Nat.le_refl _)]
    rw [e]
/-- an instruction that makes one thing -/
theorem gos_nw {S : List Int} {K : Mt} {pc q' : Nat} {st st' : List AV} {L : List (Option AV)} {T : List Sh} {M : Nat → Int → Int} (sh : Sh)
    (k : ∀ (P : Par) (p : Program) (l : Launch) (e : Env) (R : Room) (s : State) (m : MethodId) (args : Array Value) (below : List Frame) (meth : Method) (c : Code) (Q : State → Prop) (H : Heap) (locs : List Loc) (cells slots : Nat) (ls : Array Slot),
      Cx S K P p R s m args meth c → hR P (T, M) H → va_S (aA P) s.heap H locs → lR P K.2.2.2.1 L ls → cells + 1 ≤ R.cells → slots + sh.2.1 ≤ R.slots → (∀ (q : Nat) (H' : Heap), va_P P.2.1 vwCl (wsOf P (T, M) ++ [(q, eC P sh (fun _ => 0))]) H' → va_D (aA P) (wsOf P (T, M) ++ [(q, eC P sh (fun _ => 0))]) → va_S (aA P) s.heap H' locs → W p l e R s m args below meth c H' locs (cells + 1) (slots + sh.2.1) Q (F0 m q' ls (.ref q :: st'.map (cV P)))) → W p l e R s m args below meth c H locs cells slots Q (F0 m pc ls (st.map (cV P)))) :
    Gos S K pc q' (st, L, T, M) (vR T.length :: st', L, T ++ [sh], zm M T.length) := by
  refine ⟨⟨by simp, by simp only [sz_app]; omega⟩, fun P p l e R s m args below meth c Q t0 z0 C h0 hz0 hc hs a ls H locs h1 h2 h3 => ?_⟩
  have e1 : (T ++ [sh]).length - t0 = T.length - t0 + 1 := by
    have := h0.2
    simp only [List.length_append, List.length_singleton] at this ⊢
    omega
  have e0 : sz [sh] = sh.2.1 := by simp [sz]
  have e2 : sz (T ++ [sh]) - z0 = sz T - z0 + sh.2.1 := by
    simp only at hz0
    rw [sz_app, e0]
    omega
  simp only [e1, e2] at hc hs
  refine k P p l e R s m args below meth c Q H locs _ _ ls C h2 h3 h1 hc hs (fun q H' g1 g2 g3 X hX hSt => ?_)
  have u1 : H'.size ≤ s.heap.size + (T.length - t0 + 1) := by
    have := hSt.heapSize
    rw [hX] at this
    exact this
  have u3 := h0.1
  have u4 : t0 ≤ T.length := h0.2
  have hq : (wsOf P (T, M) ++ [(q, eC P sh (fun _ => 0))])[T.length]? = some (q, eC P sh (fun _ => 0)) := by
    rw [List.getElem?_append_right (by rw [ws_len]; exact Nat.le_refl _), ws_len, Nat.sub_self]; rfl
  have q1 : q < H'.size := (g1 _ _ hq).lt
  have q2 : P.1 ≤ q := g2.2 _ _ hq
  have q3 : q = P.1 + T.length := by
    rcases Nat.lt_or_ge q (P.1 + T.length) with hlt | hge
    · have hk : q - P.1 < T.length := by omega
      have e3 : (wsOf P (T, M) ++ [(q, eC P sh (fun _ => 0))])[q - P.1]? = some (P.1 + (q - P.1), eC P T[q - P.1] (M (q - P.1))) := by
        rw [List.getElem?_append_left (by rw [ws_len]; exact hk)]
        exact ws_at (h := (T, M)) (List.getElem?_eq_getElem hk)
      have := g2.1 _ _ _ _ hq e3 (by show q = P.1 + (q - P.1); omega)
      omega
    · omega
  subst q3
  rw [ws_push] at g1
  have := a ls H' locs h1 ⟨by show H'.size = P.1 + (T ++ [sh]).length; simp; omega, g1⟩ g3
  simp only [e1, e2] at this
  exact this X hX hSt
section Ops4
variable {S : List Int} {K : Mt} {pc : Nat}
theorem s_iaload (hd : decode K.2.2.1 pc = .ok (.iaload, 1)) : Seg S K pc (pc + 1) (x_iald S) := by
  rintro ⟨st, L, T, M⟩ σ' e
  unfold x_iald at e
  split at e
  · rename_i i a st0 hz
    simp only at hz
    subst hz
    split at e
    · rename_i k' n r hT
      split at e
      · rename_i hg
        obtain ⟨g0, g1, g2⟩ := hg
        simp only at hT
        cases e
        refine gos_st fun P p l e R s m args below meth c Q H locs cells slots ls C h2 h3 h1 x => ?_
        have he := ws_at (P := P) (h := (T, M)) hT
        subst g0
        rw [eC_i (by omega) (by omega)] at he
        refine va_iald C.1 C.2.1 C.2.2.2.2.2.2.2.2.1.1 h2.2 a 0 he rfl (i32_in g1 g2) hd ?_
        rw [i32_clamp, Int.toNat_of_nonneg g1]
        exact x
      · cases e
    · cases e
  · rename_i i j st0 hz
    simp only at hz
    subst hz
    split at e
    · rename_i hg
      obtain ⟨g0, g1, g2⟩ := hg
      cases e
      refine gos_st fun P p l e R s m args below meth c Q H locs cells slots ls C h2 h3 h1 x => ?_
      obtain ⟨b, hb, hT⟩ := c_ro C.2.2.2.2.2.2.2.2.1.2.2.2 g0
      refine W.eq (show _ = F0 m pc ls (.int (Int32.ofInt i) :: .ref b :: st0.map (cV P)) by rw [← hb]; rfl) ?_
      refine va_ti C.1 C.2.1 hT h3 (i32_in g1 g2) rfl hd ?_
      rw [i32_clamp]
      exact x
    · cases e
  · cases e
theorem s_baload (hd : decode K.2.2.1 pc = .ok (.baload, 1)) : Seg S K pc (pc + 1) (x_bald S) := by
  rintro ⟨st, L, T, M⟩ σ' e
  unfold x_bald at e
  split at e
  · rename_i i a st0 hz
    simp only at hz
    subst hz
    split at e
    · rename_i k' n r hT
      split at e
      · rename_i hg
        obtain ⟨g0, g1, g2⟩ := hg
        simp only at hT
        cases e
        refine gos_st fun P p l e R s m args below meth c Q H locs cells slots ls C h2 h3 h1 x => ?_
        have he := ws_at (P := P) (h := (T, M)) hT
        rcases g0 with rfl | rfl
        · rw [eC_i (by omega) (by omega)] at he
          refine va_bald C.1 C.2.1 C.2.2.2.2.2.2.2.2.1.1 h2.2 a 1 he rfl (i32_in g1 g2) hd ?_
          rw [i32_clamp, Int.toNat_of_nonneg g1]
          exact x
        · rw [eC_i (by omega) (by omega)] at he
          refine va_zald C.1 C.2.1 C.2.2.2.2.2.2.2.2.1.1 h2.2 a 2 he rfl (i32_in g1 g2) hd ?_
          rw [i32_clamp, Int.toNat_of_nonneg g1]
          exact x
      · cases e
    · cases e
  · rename_i i j st0 hz
    simp only at hz
    subst hz
    split at e
    · rename_i hg
      obtain ⟨g0, g1, g2⟩ := hg
      cases e
      refine gos_st fun P p l e R s m args below meth c Q H locs cells slots ls C h2 h3 h1 x => ?_
      obtain ⟨b, hb, hT⟩ := c_rb C.2.2.2.2.2.2.2.2.1.2.2.2 g0.1 g0.2
      refine W.eq (show _ = F0 m pc ls (.int (Int32.ofInt i) :: .ref b :: st0.map (cV P)) by rw [← hb]; rfl) ?_
      refine va_tb C.1 C.2.1 hT h3 (i32_in g1 g2) rfl hd ?_
      rw [i32_clamp]
      exact x
    · cases e
  · cases e
theorem s_iastore (hd : decode K.2.2.1 pc = .ok (.iastore, 1)) : Seg S K pc (pc + 1) x_iast := by
  rintro ⟨st, L, T, M⟩ σ' e
  unfold x_iast at e
  split at e
  · rename_i z i a st0 hz
    simp only at hz
    subst hz
    split at e
    · rename_i k' n r hT
      split at e
      · rename_i hg
        obtain ⟨g0, g1, g2⟩ := hg
        simp only at hT
        cases e
        subst g0
        refine gos_hp rfl rfl fun P p l e R s m args below meth c Q H locs cells slots ls C h2 h3 h1 x => ?_
        have he := ws_at (P := P) (h := (T, M)) hT
        rw [eC_i (by omega) (by omega)] at he
        refine va_iast C.1 C.2.1 C.2.2.2.2.2.2.2.2.1.1 h2.2 (ws_D P (T, M)) h3 a 0 he rfl (i32_in g1 g2) hd (fun H1 locs1 y1 y2 y3 => ?_)
        have e5 := ws_ua (P := P) (M := M) (i := n32 i) (z := z) (j := (Int32.ofInt i).toNatClampNeg) (v := Int32.ofInt z) hT (by omega) (by omega) (by rw [i32_clamp, Int.toNat_of_nonneg g1]) rfl
        refine x H1 locs1 ?_ y3
        show va_P P.2.1 vwCl (wsOf P (T, um M a (n32 i) (z))) H1
        rw [← e5]
        exact y1
      · cases e
    · cases e
  · cases e
theorem s_bastore (hd : decode K.2.2.1 pc = .ok (.bastore, 1)) : Seg S K pc (pc + 1) x_bast := by
  rintro ⟨st, L, T, M⟩ σ' e
  unfold x_bast at e
  split at e
  · rename_i z i a st0 hz
    simp only at hz
    subst hz
    split at e
    · rename_i k' n r hT
      split at e
      · rename_i hg
        obtain ⟨g0, g1, g2⟩ := hg
        simp only at hT
        cases e
        rcases g0 with rfl | rfl
        · refine gos_hp rfl rfl fun P p l e R s m args below meth c Q H locs cells slots ls C h2 h3 h1 x => ?_
          have he := ws_at (P := P) (h := (T, M)) hT
          rw [eC_i (by omega) (by omega)] at he
          refine va_bast C.1 C.2.1 C.2.2.2.2.2.2.2.2.1.1 h2.2 (ws_D P (T, M)) h3 a 1 he rfl (i32_in g1 g2) hd (fun H1 locs1 y1 y2 y3 => ?_)
          have e5 := ws_ua (P := P) (M := M) (i := n32 i) (z := o_i2b z) (j := (Int32.ofInt i).toNatClampNeg) (v := vp_nar .byte (Int32.ofInt z)) hT (by omega) (by omega) (by rw [i32_clamp, Int.toNat_of_nonneg g1]) (by rw [vp_nar_byte]; exact Int32.ofInt_toInt _)
          refine x H1 locs1 ?_ y3
          show va_P P.2.1 vwCl (wsOf P (T, um M a (n32 i) (o_i2b z))) H1
          rw [← e5]
          exact y1
        · refine gos_hp rfl rfl fun P p l e R s m args below meth c Q H locs cells slots ls C h2 h3 h1 x => ?_
          have he := ws_at (P := P) (h := (T, M)) hT
          rw [eC_i (by omega) (by omega)] at he
          refine va_zast C.1 C.2.1 C.2.2.2.2.2.2.2.2.1.1 h2.2 (ws_D P (T, M)) h3 a 2 he rfl (i32_in g1 g2) hd (fun H1 locs1 y1 y2 y3 => ?_)
          have e5 := ws_ua (P := P) (M := M) (i := n32 i) (z := o_nz z) (j := (Int32.ofInt i).toNatClampNeg) (v := vp_nar .boolean (Int32.ofInt z)) hT (by omega) (by omega) (by rw [i32_clamp, Int.toNat_of_nonneg g1]) (Int32.ofInt_toInt _)
          refine x H1 locs1 ?_ y3
          show va_P P.2.1 vwCl (wsOf P (T, um M a (n32 i) (o_nz z))) H1
          rw [← e5]
          exact y1
      · cases e
    · cases e
  · cases e
theorem s_aaload (hd : decode K.2.2.1 pc = .ok (.aaload, 1)) : Seg S K pc (pc + 1) x_aald := by
  rintro ⟨st, L, T, M⟩ σ' e
  unfold x_aald at e
  split at e
  · rename_i i a st0 hz
    simp only at hz
    subst hz
    split at e
    · rename_i k' n r hT
      split at e
      · rename_i hg
        obtain ⟨g0, g1, g2⟩ := hg
        simp only at hT
        cases e
        refine gos_st fun P p l e R s m args below meth c Q H locs cells slots ls C h2 h3 h1 x => ?_
        have he := ws_at (P := P) (h := (T, M)) hT
        rw [eC_r g0.1] at he
        have hlt : (n32 i).toNat < n := by omega
        have ev : va_rf ((r (n32 i).toNat).map (fun k => P.1 + k)) = cV P (rfv (r (n32 i).toNat)) := by
          cases r (n32 i).toNat <;> rfl
        refine W.aald (v := va_rf ((r (n32 i).toNat).map (fun k => P.1 + k))) (ty := tyK k') C.1 C.2.1 (h2.2 a _ he) ((C.2.2.2.2.2.2.2.2.1.1.2 (k' - 9) _ (ty_at P k' (by omega) g0.2)).1 n (fun j => va_rf ((r j).map (fun k => P.1 + k)))) ?_ (fun q => by cases q) ?_ ?_ rfl rfl hd ?_
        · have h : k' = 12 ∨ k' = 13 ∨ k' = 14 := by omega
          rcases h with rfl | rfl | rfl <;> rfl
        · show ¬ (Int32.ofInt i < 0 ∨ (arrV _ _ _).slots.size ≤ _)
          rw [arrV_size]
          exact i32_in g1 g2
        · show (arrV _ _ _).slots[_]? = _
          rw [i32_clamp, arrV_read _ _ hlt]
        · rw [ev]
          exact x
      · cases e
    · cases e
  · cases e
theorem s_aastore (hd : decode K.2.2.1 pc = .ok (.aastore, 1)) : Seg S K pc (pc + 1) x_aast := by
  rintro ⟨st, L, T, M⟩ σ' e
  unfold x_aast at e
  split at e
  · rename_i v i a st0 hz
    simp only at hz
    subst hz
    split at e
    · rename_i k' n r hT
      split at e
      · rename_i c' n' r' hV
        split at e
        · rename_i hg
          obtain ⟨g0, g1, g2, g3⟩ := hg
          simp only at hT hV
          cases e
          have hk : 12 ≤ k' ∧ k' < 15 := by omega
          have hc' : c' < 9 := by omega
          refine gos_hp (by simp) (sz_set hT) fun P p l e R s m args below meth c Q H locs cells slots ls C h2 h3 h1 x => ?_
          have he := ws_at (P := P) (h := (T, M)) hT
          rw [eC_r hk.1] at he
          have hv := ws_at (P := P) (h := (T, M)) hV
          rw [eC_o hc'] at hv
          subst g3
          have ht : (tyL P)[k' - 9]? = some (P.2.2.1 k', .object (clS c')) := by
            rcases g0 with ⟨rfl, rfl⟩ | ⟨rfl, rfl⟩ <;> rfl
          refine va_astq C.1 C.2.1 C.2.2.2.2.2.2.2.2.1.1 h2.2 (ws_D P (T, M)) h3 a (k' - 9) v c' he (r := (clS c', clT c', clN c')) ht hv (cl_at c' hc') (i32_in g1 g2) hd (fun H1 locs1 y1 y2 y3 => ?_)
          have e5 := ws_uq (P := P) (M := M) (v := v) (j := (Int32.ofInt i).toNatClampNeg) hT hk.1
          rw [i32_clamp] at e5 y1
          refine x H1 locs1 ?_ y3
          show va_P P.2.1 vwCl (wsOf P (T.set a (k', n, uf r (n32 i).toNat (some v)), M)) H1
          rw [← e5]
          exact y1
        · cases e
      · cases e
    · cases e
  · cases e
theorem s_alen (hd : decode K.2.2.1 pc = .ok (.arraylength, 1)) : Seg S K pc (pc + 1) (x_alen S) := by
  rintro ⟨st, L, T, M⟩ σ' e
  unfold x_alen at e
  split at e
  · rename_i a st0 hz
    simp only at hz
    subst hz
    split at e
    · rename_i k' n r hT
      split at e
      · rename_i hg
        simp only at hT
        cases e
        refine gos_st fun P p l e R s m args below meth c Q H locs cells slots ls C h2 h3 h1 x => ?_
        have he := ws_at (P := P) (h := (T, M)) hT
        by_cases h9 : k' < 12
        · rw [eC_i hg.1 h9] at he
          exact va_alen C.1 C.2.1 C.2.2.2.2.2.2.2.2.1.1 h2.2 a (k' - 9) he (ty_at P k' hg.1 hg.2) (i32_nat n) hd x
        · rw [eC_r (by omega)] at he
          exact va_alen C.1 C.2.1 C.2.2.2.2.2.2.2.2.1.1 h2.2 a (k' - 9) he (ty_at P k' hg.1 hg.2) (i32_nat n) hd x
      · cases e
    · cases e
  · rename_i j st0 hz
    simp only at hz
    subst hz
    split at e
    · rename_i hg
      cases e
      refine gos_st fun P p l e R s m args below meth c Q H locs cells slots ls C h2 h3 h1 x => ?_
      rcases hg with hg | hg
      · obtain ⟨b, hb, hT⟩ := c_ro C.2.2.2.2.2.2.2.2.1.2.2.2 hg
        refine W.eq (show _ = F0 m pc ls (.ref b :: st0.map (cV P)) by rw [← hb]; rfl) ?_
        exact va_tlen C.1 C.2.1 hT h3 (i32_nat _) hd x
      · obtain ⟨b, hb, hT⟩ := c_rb C.2.2.2.2.2.2.2.2.1.2.2.2 hg.1 hg.2
        refine W.eq (show _ = F0 m pc ls (.ref b :: st0.map (cV P)) by rw [← hb]; rfl) ?_
        exact va_tlen C.1 C.2.1 hT h3 (i32_nat _) hd x
    · cases e
  · cases e
theorem s_gstr {k i : Nat} (hd : decode K.2.2.1 pc = .ok (.getfield i, 3)) (hk : k < 2) (hw : Cond.fieldLink (clS K.1) i "java/lang/String" (if k = 0 then "value" else "coder") (if k = 0 then "[B" else "B") ∈ tG) : Seg S K pc (pc + 3) (x_gstr k) := by
  rintro ⟨st, L, T, M⟩ σ' e
  unfold x_gstr at e
  split at e
  · rename_i j st0 hz
    simp only at hz
    subst hz
    split at e
    · rename_i hg
      cases e
      refine gos_st fun P p l e R s m args below meth c Q H locs cells slots ls C h2 h3 h1 x => ?_
      obtain ⟨ad, h0, -, -, -, -, -, h6⟩ := C.2.2.2.2.2.2.2.2.1.2.2.2
      have hi : j - 3 < 8 := by omega
      obtain ⟨-, k1, k2, -⟩ := h6.1 (j - 3) hi
      have e3 : 3 + (j - 3) = j := by omega
      have e11 : 11 + (j - 3) = j + 8 := by omega
      simp only [e3, e11] at k1 k2
      have hb : cV P (vO j) = .ref (ad j) := by show va_rf (P.2.2.2 j) = _; rw [h0 j (by omega)]; rfl
      have hb8 : cV P (vO (j + 8)) = .ref (ad (j + 8)) := by show va_rf (P.2.2.2 (j + 8)) = _; rw [h0 (j + 8) (by omega)]; rfl
      refine W.eq (show _ = F0 m pc ls (.ref (ad j) :: st0.map (cV P)) by rw [← hb]; rfl) ?_
      have hk2 : k = 0 ∨ k = 1 := by omega
      rcases hk2 with rfl | rfl
      · refine vk_getf C.1 C.2.1 k2 h3 C.2.2.2.1 (C.2.2.2.2.1 _ hw) (fun _ h => h) hd ?_
        rw [← hb8]
        exact x
      · exact vk_getf C.1 C.2.1 k1 h3 C.2.2.2.1 (C.2.2.2.2.1 _ hw) (fun _ h => h) hd x
    · cases e
  · cases e
theorem s_gets_mt {i : Nat} (hd : decode K.2.2.1 pc = .ok (.getstatic i, 3)) (hw : Cond.fieldLink (clS K.1) i "LastAwake" "MOST_OF_TRAIT" "[I" ∈ tG) : Seg S K pc (pc + 3) (x_push (vO 1)) := by
  rintro ⟨st, L, h⟩ σ' e
  cases e
  refine gos_st fun P p l e R s m args below meth c Q H locs cells slots ls C h2 h3 h1 x => ?_
  obtain ⟨ad, h0, z1, z2, -, z4, z5, -⟩ := C.2.2.2.2.2.2.2.2.1.2.2.2
  refine va_gets C.1 C.2.1 z1 h3 C.2.2.2.1 (C.2.2.2.2.1 _ hw) (fun _ h => h) hd ?_
  have hb : cV P (vO 1) = .ref (ad 1) := by show va_rf (P.2.2.2 1) = _; rw [h0 1 (by omega)]; rfl
  rw [← hb]
  exact x
theorem s_gets_mtn {i : Nat} (hd : decode K.2.2.1 pc = .ok (.getstatic i, 3)) (hw : Cond.fieldLinkNest (clS K.1) i "LastAwake" "MOST_OF_TRAIT" "[I" "LastAwake" ∈ nW) : Seg S K pc (pc + 3) (x_push (vO 1)) := by
  rintro ⟨st, L, h⟩ σ' e
  cases e
  refine gos_st fun P p l e R s m args below meth c Q H locs cells slots ls C h2 h3 h1 x => ?_
  obtain ⟨ad, h0, z1, z2, -, z4, z5, -⟩ := C.2.2.2.2.2.2.2.2.1.2.2.2
  refine va_getsN C.1 C.2.1 z1 h3 C.2.2.2.1 ((C.2.2.2.2.2.2.2.2.1.2.1 _ hw).use rfl) (fun _ h => h) hd ?_
  have hb : cV P (vO 1) = .ref (ad 1) := by show va_rf (P.2.2.2 1) = _; rw [h0 1 (by omega)]; rfl
  rw [← hb]
  exact x
theorem s_gets_no {i : Nat} (hd : decode K.2.2.1 pc = .ok (.getstatic i, 3)) (hw : Cond.fieldLink (clS K.1) i "LastAwake$Script" "NUMBERS_OF" "[I" ∈ tG) : Seg S K pc (pc + 3) (x_push (vO 2)) := by
  rintro ⟨st, L, h⟩ σ' e
  cases e
  refine gos_st fun P p l e R s m args below meth c Q H locs cells slots ls C h2 h3 h1 x => ?_
  obtain ⟨ad, h0, z1, z2, -, z4, z5, -⟩ := C.2.2.2.2.2.2.2.2.1.2.2.2
  refine va_gets C.1 C.2.1 z2 h3 C.2.2.2.1 (C.2.2.2.2.1 _ hw) (fun _ h => h) hd ?_
  have hb : cV P (vO 2) = .ref (ad 2) := by show va_rf (P.2.2.2 2) = _; rw [h0 2 (by omega)]; rfl
  rw [← hb]
  exact x
theorem s_gets_cs {i : Nat} (hd : decode K.2.2.1 pc = .ok (.getstatic i, 3)) (hw : Cond.fieldLink (clS K.1) i "java/lang/String" "COMPACT_STRINGS" "Z" ∈ tG) : Seg S K pc (pc + 3) (x_push (vI 1)) := by
  rintro ⟨st, L, h⟩ σ' e
  cases e
  refine gos_st fun P p l e R s m args below meth c Q H locs cells slots ls C h2 h3 h1 x => ?_
  obtain ⟨ad, h0, z1, z2, -, z4, z5, -⟩ := C.2.2.2.2.2.2.2.2.1.2.2.2
  refine va_gets C.1 C.2.1 z4 h3 C.2.2.2.1 (C.2.2.2.2.1 _ hw) (fun _ h => h) hd ?_
  exact x
theorem s_gets_sf {i : Nat} (hd : decode K.2.2.1 pc = .ok (.getstatic i, 3)) (hw : Cond.fieldLink (clS K.1) i "jdk/internal/util/Preconditions" "SIOOBE_FORMATTER" "Ljava/util/function/BiFunction;" ∈ tG) : Seg S K pc (pc + 3) (x_push (vO 19)) := by
  rintro ⟨st, L, h⟩ σ' e
  cases e
  refine gos_st fun P p l e R s m args below meth c Q H locs cells slots ls C h2 h3 h1 x => ?_
  obtain ⟨ad, h0, z1, z2, -, z4, z5, -⟩ := C.2.2.2.2.2.2.2.2.1.2.2.2
  refine va_gets C.1 C.2.1 z5 h3 C.2.2.2.1 (C.2.2.2.2.1 _ hw) (fun _ h => h) hd ?_
  exact x
theorem s_ldcS {i idx : Nat} {tx : String} (hd : decode K.2.2.1 pc = .ok (.ldc idx, 2)) (hK : clS K.1 = RX4) (hi : sIdx[i]? = some (idx, tx)) : Seg S K pc (pc + 2) (x_push (vO (3 + i))) := by
  rintro ⟨st, L, h⟩ σ' e
  cases e
  refine gos_st fun P p l e R s m args below meth c Q H locs cells slots ls C h2 h3 h1 x => ?_
  obtain ⟨a, g1, g2⟩ := C.2.2.2.2.2.2.2.2.1.2.2.1 i _ hi
  refine va_ldcS C.1 C.2.1 (hK ▸ C.2.2.2.1) g2 hd ?_
  have hb : cV P (vO (3 + i)) = .ref a := by show va_rf (P.2.2.2 (3 + i)) = _; rw [g1]; rfl
  rw [← hb]
  exact x
theorem df_ok (P : Par) : ∀ c, c < 9 → ∀ k, k < clN c → defaultValue (clY c k) = vp_V ((List.range (clN c)).map (fV P c (fun _ => 0) nor)) k := by
  intro c hc k hk
  have hY := kY_ok c hc k hk
  unfold vp_V
  rw [List.getD_eq_getElem?_getD, fs_at hk]
  show _ = fV P c (fun _ => 0) nor k
  have h9 : fT c k < 4 := by rw [fT_ok c hc k hk]; exact ftc_lt _
  cases hy : clY c k with
  | int => rw [hy] at hY; rw [fV_0 (by rw [← hY]; decide) (by rw [← hY]; decide)]; rfl
  | boolean => rw [hy] at hY; rw [fV_0 (by rw [← hY]; decide) (by rw [← hY]; decide)]; rfl
  | long => rw [hy] at hY; rw [fV_1 hY.symm]; rfl
  | object _ => rw [hy] at hY; rw [fV_2 hY.symm]; rfl
  | array _ => rw [hy] at hY; rw [fV_2 hY.symm]; rfl
  | _ => rw [hy] at hY; have hY : 9 = fT c k := hY; omega
theorem s_new {c i : Nat} (hd : decode K.2.2.1 pc = .ok (.new i, 3)) (hc : c < 9) (hw : Cond.classLink (clS K.1) i (clS c) ∈ tG) (hi : Cond.instantiable (clS c) (clN c) ∈ tG) (hn : Cond.initialized (clS c) ∈ tG) : Seg S K pc (pc + 3) (x_new c) := by
  rintro ⟨st, L, T, M⟩ σ' e
  cases e
  refine gos_nw (c, clN c, nor) (fun P p l e R s m args below meth c9 Q H locs cells slots ls C h2 h3 h1 hcl hsl x => ?_)
  rw [eC_o hc] at x
  exact va_new C.1 C.2.1 C.2.2.2.2.1 (cl_tG hc) (clY c) (cl_ty c hc) C.2.2.2.1 (C.2.2.2.2.1 _ hw) (C.2.2.2.2.1 _ hi) (C.2.2.2.2.1 _ hn) C.2.2.2.2.2.2.2.2.1.1 h2.2 (ws_D P (T, M)) h3 (fun q hq => Nat.le_trans C.2.2.2.2.2.2.2.2.2.1 hq) (cl_at c hc) (df_ok P c hc) hcl hsl hd x
theorem i32_nn {z : Int} (h : 0 ≤ n32 z) : ¬ Int32.ofInt z < 0 := by
  rw [i32_0, i32_lt, n32_0]
  omega
theorem s_newa_i (hd : decode K.2.2.1 pc = .ok (.newarray .int, 2)) (hw : Cond.arrayClass .int ∈ tG) : Seg S K pc (pc + 2) (x_newa 9) := by
  rintro ⟨st, L, T, M⟩ σ' e
  unfold x_newa at e
  split at e
  · rename_i z st0 hz
    simp only at hz
    subst hz
    split at e
    · rename_i hg
      obtain ⟨-, g1, g2⟩ := hg
      cases e
      refine gos_nw (9, (n32 z).toNat, nor) (fun P p l e R s m args below meth c Q H locs cells slots ls C h2 h3 h1 hcl hsl x => ?_)
      rw [eC_i (by omega) (by omega)] at x
      refine va_newa C.1 C.2.1 (atype := .int) (ty := .int) (C.2.2.2.2.1 _ hw) rfl C.2.2.2.2.2.2.2.2.1.1 h2.2 (ws_D P (T, M)) h3 (fun q hq => Nat.le_trans C.2.2.2.2.2.2.2.2.2.1 hq) (a0 := ((n32 z).toNat, .inl (fun _ => 0))) (fun _ => rfl) (i32_nn g1) (i32_clamp z) (by show (n32 z).toNat * 4 ≤ 536870912; omega) hcl hsl hd (fun q cA H1 y0 y1 y2 y3 => ?_)
      have c1 : s.vm.findClass ("[" ++ (FieldType.int).toString) = some cA := (y0.2 6 _ rfl).2
      have c2 : s.vm.findClass ("[" ++ (FieldType.int).toString) = some (P.2.2.1 9) := (C.2.2.2.2.2.2.2.2.1.1.2 0 _ rfl).2
      have c3 : cA = P.2.2.1 9 := Option.some.inj (c1.symm.trans c2)
      subst c3
      exact x q H1 y1 y2 y3
    · cases e
  · cases e
theorem s_newa_b (hd : decode K.2.2.1 pc = .ok (.newarray .byte, 2)) (hw : Cond.arrayClass .byte ∈ tG) : Seg S K pc (pc + 2) (x_newa 10) := by
  rintro ⟨st, L, T, M⟩ σ' e
  unfold x_newa at e
  split at e
  · rename_i z st0 hz
    simp only at hz
    subst hz
    split at e
    · rename_i hg
      obtain ⟨-, g1, g2⟩ := hg
      cases e
      refine gos_nw (10, (n32 z).toNat, nor) (fun P p l e R s m args below meth c Q H locs cells slots ls C h2 h3 h1 hcl hsl x => ?_)
      rw [eC_i (by omega) (by omega)] at x
      refine va_newa C.1 C.2.1 (atype := .byte) (ty := .byte) (C.2.2.2.2.1 _ hw) rfl C.2.2.2.2.2.2.2.2.1.1 h2.2 (ws_D P (T, M)) h3 (fun q hq => Nat.le_trans C.2.2.2.2.2.2.2.2.2.1 hq) (a0 := ((n32 z).toNat, .inl (fun _ => 0))) (fun _ => rfl) (i32_nn g1) (i32_clamp z) (by show (n32 z).toNat * 1 ≤ 536870912; omega) hcl hsl hd (fun q cA H1 y0 y1 y2 y3 => ?_)
      have c1 : s.vm.findClass ("[" ++ (FieldType.byte).toString) = some cA := (y0.2 6 _ rfl).2
      have c2 : s.vm.findClass ("[" ++ (FieldType.byte).toString) = some (P.2.2.1 10) := (C.2.2.2.2.2.2.2.2.1.1.2 1 _ rfl).2
      have c3 : cA = P.2.2.1 10 := Option.some.inj (c1.symm.trans c2)
      subst c3
      exact x q H1 y1 y2 y3
    · cases e
  · cases e
theorem s_newa_z (hd : decode K.2.2.1 pc = .ok (.newarray .boolean, 2)) (hw : Cond.arrayClass .boolean ∈ tG) : Seg S K pc (pc + 2) (x_newa 11) := by
  rintro ⟨st, L, T, M⟩ σ' e
  unfold x_newa at e
  split at e
  · rename_i z st0 hz
    simp only at hz
    subst hz
    split at e
    · rename_i hg
      obtain ⟨-, g1, g2⟩ := hg
      cases e
      refine gos_nw (11, (n32 z).toNat, nor) (fun P p l e R s m args below meth c Q H locs cells slots ls C h2 h3 h1 hcl hsl x => ?_)
      rw [eC_i (by omega) (by omega)] at x
      refine va_newa C.1 C.2.1 (atype := .boolean) (ty := .boolean) (C.2.2.2.2.1 _ hw) rfl C.2.2.2.2.2.2.2.2.1.1 h2.2 (ws_D P (T, M)) h3 (fun q hq => Nat.le_trans C.2.2.2.2.2.2.2.2.2.1 hq) (a0 := ((n32 z).toNat, .inl (fun _ => 0))) (fun _ => rfl) (i32_nn g1) (i32_clamp z) (by show (n32 z).toNat * 1 ≤ 536870912; omega) hcl hsl hd (fun q cA H1 y0 y1 y2 y3 => ?_)
      have c1 : s.vm.findClass ("[" ++ (FieldType.boolean).toString) = some cA := (y0.2 6 _ rfl).2
      have c2 : s.vm.findClass ("[" ++ (FieldType.boolean).toString) = some (P.2.2.1 11) := (C.2.2.2.2.2.2.2.2.1.1.2 2 _ rfl).2
      have c3 : cA = P.2.2.1 11 := Option.some.inj (c1.symm.trans c2)
      subst c3
      exact x q H1 y1 y2 y3
    · cases e
  · cases e
theorem s_anew_sl {i : Nat} (hd : decode K.2.2.1 pc = .ok (.anewarray i, 3)) (hw : Cond.classLink (clS K.1) i RX5 ∈ tG) (hw2 : Cond.arrayOver (.object RX5) ∈ nW) : Seg S K pc (pc + 3) (x_newa 12) := by
  rintro ⟨st, L, T, M⟩ σ' e
  unfold x_newa at e
  split at e
  · rename_i z st0 hz
    simp only at hz
    subst hz
    split at e
    · rename_i hg
      obtain ⟨-, g1, g2⟩ := hg
      cases e
      refine gos_nw (12, (n32 z).toNat, nor) (fun P p l e R s m args below meth c Q H locs cells slots ls C h2 h3 h1 hcl hsl x => ?_)
      rw [eC_r (by omega)] at x
      refine va_newq C.1 C.2.1 C.2.2.2.1 (C.2.2.2.2.1 _ hw) (C.2.2.2.2.2.2.2.2.1.2.1 _ hw2) C.2.2.2.2.2.2.2.2.1.1 h2.2 (ws_D P (T, M)) h3 (fun q hq => Nat.le_trans C.2.2.2.2.2.2.2.2.2.1 hq) (i32_nn g1) (i32_clamp z) (by omega) hcl hsl hd (fun q cA H1 y0 y1 y2 y3 => ?_)
      have c1 : s.vm.findClass ("[" ++ (FieldType.object RX5).toString) = some cA := by
        obtain ⟨_, _, _, _, _, h⟩ := (y0.2 6 _ rfl).2
        exact h
      have c2 : s.vm.findClass ("[" ++ (FieldType.object RX5).toString) = some (P.2.2.1 12) := by
        obtain ⟨_, _, _, _, _, h⟩ := (C.2.2.2.2.2.2.2.2.1.1.2 3 _ rfl).2
        exact h
      have c3 : cA = P.2.2.1 12 := Option.some.inj (c1.symm.trans c2)
      subst c3
      exact x q H1 y1 y2 y3
    · cases e
  · cases e
theorem s_anew_st {i : Nat} (hd : decode K.2.2.1 pc = .ok (.anewarray i, 3)) (hw : Cond.classLink (clS K.1) i RX6 ∈ tG) (hw2 : Cond.arrayOver (.object RX6) ∈ nW) : Seg S K pc (pc + 3) (x_newa 13) := by
  rintro ⟨st, L, T, M⟩ σ' e
  unfold x_newa at e
  split at e
  · rename_i z st0 hz
    simp only at hz
    subst hz
    split at e
    · rename_i hg
      obtain ⟨-, g1, g2⟩ := hg
      cases e
      refine gos_nw (13, (n32 z).toNat, nor) (fun P p l e R s m args below meth c Q H locs cells slots ls C h2 h3 h1 hcl hsl x => ?_)
      rw [eC_r (by omega)] at x
      refine va_newq C.1 C.2.1 C.2.2.2.1 (C.2.2.2.2.1 _ hw) (C.2.2.2.2.2.2.2.2.1.2.1 _ hw2) C.2.2.2.2.2.2.2.2.1.1 h2.2 (ws_D P (T, M)) h3 (fun q hq => Nat.le_trans C.2.2.2.2.2.2.2.2.2.1 hq) (i32_nn g1) (i32_clamp z) (by omega) hcl hsl hd (fun q cA H1 y0 y1 y2 y3 => ?_)
      have c1 : s.vm.findClass ("[" ++ (FieldType.object RX6).toString) = some cA := by
        obtain ⟨_, _, _, _, _, h⟩ := (y0.2 6 _ rfl).2
        exact h
      have c2 : s.vm.findClass ("[" ++ (FieldType.object RX6).toString) = some (P.2.2.1 13) := by
        obtain ⟨_, _, _, _, _, h⟩ := (C.2.2.2.2.2.2.2.2.1.1.2 4 _ rfl).2
        exact h
      have c3 : cA = P.2.2.1 13 := Option.some.inj (c1.symm.trans c2)
      subst c3
      exact x q H1 y1 y2 y3
    · cases e
  · cases e
end Ops4
end
section
/-! THE METHODS, AS BLOCKS: locals, what is returned, blocks (place, instructions, how it ends) -/
/-- 0: LastAwake$Beds.<init>()V -/
def mb0 : Nat × Nat × List Bk := (2, 0, [(0, [(25, 0, 0), (202, 0, 0), (25, 0, 0), (2, 4, 0), (188, 12, 0), (181, 0, 0), (25, 0, 0), (2, 8, 0), (2, 9, 0), (197, 0, 0), (181, 4, 0), (2, 0, 0), (54, 1, 0)], (0, 26, 0, 0, [])),
  (26, [(21, 1, 0), (2, 4, 0)], (3, 50, 31, 3, [])),
  (31, [(25, 0, 0), (180, 0, 0), (21, 1, 0), (187, 5, 0), (89, 0, 0)], (7, 49, 43, 1, [2, 0])),
  (43, [(83, 0, 0), (132, 1, 1)], (1, 26, 0, 0, [])),
  (50, [], (6, 0, 0, 0, []))])
/-- 1: LastAwake$Beds.startAnew()V -/
def mb1 : Nat × Nat × List Bk := (1, 0, [(0, [(25, 0, 0), (2, 0, 0), (181, 1, 0), (25, 0, 0), (2, 0, 0), (181, 2, 0), (25, 0, 0), (2, 0, 0), (181, 3, 0)], (6, 0, 0, 0, []))])
/-- 2: LastAwake$Beds.copyFrom(LLastAwake$Beds;)V -/
def mb2 : Nat × Nat × List Bk := (3, 0, [(0, [(25, 0, 0), (25, 1, 0), (180, 1, 0), (181, 1, 0), (25, 0, 0), (25, 1, 0), (180, 2, 0), (181, 2, 0), (25, 0, 0), (25, 1, 0), (180, 3, 0), (181, 3, 0), (2, 0, 0), (54, 2, 0)], (0, 26, 0, 0, [])),
  (26, [(21, 2, 0), (2, 4, 0)], (3, 62, 31, 3, [])),
  (31, [(25, 1, 0), (180, 0, 0), (21, 2, 0), (50, 0, 0), (180, 500, 0), (2, 0, 0), (25, 0, 0), (180, 0, 0), (21, 2, 0), (50, 0, 0), (180, 500, 0), (2, 0, 0), (2, 8, 0), (201, 0, 0), (132, 2, 1)], (1, 26, 0, 0, [])),
  (62, [(2, 0, 0), (54, 2, 0)], (0, 64, 0, 0, [])),
  (64, [(21, 2, 0), (2, 8, 0)], (3, 95, 70, 3, [])),
  (70, [(25, 1, 0), (180, 4, 0), (21, 2, 0), (50, 0, 0), (2, 0, 0), (25, 0, 0), (180, 4, 0), (21, 2, 0), (50, 0, 0), (2, 0, 0), (2, 9, 0), (201, 0, 0), (132, 2, 1)], (1, 64, 0, 0, [])),
  (95, [], (6, 0, 0, 0, []))])
/-- 3: LastAwake$Beds.has(I)Z -/
def mb3 : Nat × Nat × List Bk := (2, 3, [(0, [(21, 1, 0), (2, 0, 0), (25, 0, 0), (180, 1, 0), (2, 1, 0), (100, 0, 0)], (7, 103, 11, 3, [0, 0])),
  (11, [], (6, 0, 0, 0, []))])
/-- 4: LastAwake$Beds.welcome(IIIII)I -/
def mb4 : Nat × Nat × List Bk := (7, 1, [(0, [(25, 0, 0), (180, 0, 0), (25, 0, 0), (180, 1, 0), (50, 0, 0), (180, 500, 0), (58, 6, 0), (25, 6, 0), (2, 0, 0), (21, 1, 0), (79, 0, 0), (25, 6, 0), (2, 1, 0), (21, 2, 0), (79, 0, 0), (25, 6, 0), (2, 2, 0), (21, 3, 0), (79, 0, 0), (25, 6, 0), (2, 3, 0), (21, 4, 0), (79, 0, 0), (25, 6, 0), (2, 4, 0), (21, 5, 0), (79, 0, 0), (25, 6, 0), (2, 5, 0), (2, -1, 0), (79, 0, 0), (25, 6, 0), (2, 6, 0), (2, 0, 0), (79, 0, 0), (25, 6, 0), (2, 7, 0), (2, 0, 0), (79, 0, 0), (25, 0, 0), (89, 0, 0), (180, 1, 0), (2, 1, 0), (96, 0, 0), (181, 1, 0), (25, 0, 0), (180, 1, 0), (2, 1, 0), (100, 0, 0)], (6, 0, 0, 0, []))])
/-- 5: LastAwake$Beds.leastCount()I -/
def mb5 : Nat × Nat × List Bk := (3, 1, [(0, [(2, 1000000000, 0), (54, 1, 0), (2, 0, 0), (54, 2, 0)], (0, 5, 0, 0, [])),
  (5, [(21, 2, 0), (25, 0, 0), (180, 1, 0)], (3, 36, 13, 3, [])),
  (13, [(21, 1, 0), (25, 0, 0), (180, 0, 0), (21, 2, 0), (50, 0, 0), (180, 500, 0), (2, 6, 0), (46, 0, 0), (210, 1, 0), (54, 1, 0), (132, 2, 1)], (1, 5, 0, 0, [])),
  (36, [(21, 1, 0)], (6, 0, 0, 0, []))])
/-- 6: LastAwake$Beds.sum(I)I -/
def mb6 : Nat × Nat × List Bk := (4, 1, [(0, [(2, 0, 0), (54, 2, 0), (2, 0, 0), (54, 3, 0)], (0, 4, 0, 0, [])),
  (4, [(21, 3, 0), (25, 0, 0), (180, 1, 0)], (3, 32, 12, 3, [])),
  (12, [(21, 2, 0), (25, 0, 0), (180, 0, 0), (21, 3, 0), (50, 0, 0), (180, 500, 0), (21, 1, 0), (46, 0, 0), (96, 0, 0), (54, 2, 0), (132, 3, 1)], (1, 4, 0, 0, [])),
  (32, [(21, 2, 0)], (6, 0, 0, 0, []))])
/-- 7: LastAwake$Beds.feltBy(I)I -/
def mb7 : Nat × Nat × List Bk := (2, 1, [(0, [(2, 3, 0), (25, 0, 0), (180, 0, 0), (21, 1, 0), (50, 0, 0), (180, 500, 0), (2, 6, 0), (46, 0, 0), (104, 0, 0), (25, 0, 0), (2, 6, 0)], (7, 6, 20, 2, [1, 0])),
  (20, [(100, 0, 0)], (6, 0, 0, 0, []))])
/-- 8: LastAwake$Beds.foresee(LLastAwake$Night;)V -/
def mb8 : Nat × Nat × List Bk := (7, 0, [(0, [(25, 1, 0), (2, 300, 0), (2, -1, 0), (2, 0, 0)], (7, 29, 9, 4, [1, 2])),
  (9, [(25, 0, 0)], (7, 5, 13, 1, [1, 0])),
  (13, [(54, 2, 0), (2, 0, 0), (54, 3, 0)], (0, 16, 0, 0, [])),
  (16, [(21, 3, 0), (25, 0, 0), (180, 1, 0)], (3, 121, 24, 3, [])),
  (24, [(25, 0, 0), (180, 0, 0), (21, 3, 0), (50, 0, 0), (58, 4, 0), (25, 4, 0), (180, 500, 0), (2, 5, 0), (46, 0, 0), (54, 5, 0), (25, 4, 0)], (7, 51, 46, 1, [1, 5])),
  (46, [], (2, 82, 49, 0, [])),
  (49, [(21, 5, 0), (25, 1, 0), (180, 200, 0)], (3, 74, 58, 2, [])),
  (58, [(21, 5, 0), (25, 1, 0), (180, 200, 0)], (3, 82, 67, 1, [])),
  (67, [(25, 1, 0), (180, 202, 0)], (2, 82, 74, 1, [])),
  (74, [(25, 1, 0), (21, 5, 0), (21, 3, 0), (2, 1, 0)], (7, 29, 82, 4, [1, 2])),
  (82, [(25, 4, 0), (180, 500, 0), (2, 1, 0), (46, 0, 0), (25, 4, 0), (21, 2, 0)], (7, 50, 95, 2, [1, 5])),
  (95, [(96, 0, 0), (54, 6, 0), (21, 6, 0), (25, 1, 0), (180, 200, 0)], (3, 115, 107, 3, [])),
  (107, [(25, 1, 0), (21, 6, 0), (21, 3, 0), (2, 0, 0)], (7, 29, 115, 4, [1, 2])),
  (115, [(132, 3, 1)], (1, 16, 0, 0, [])),
  (121, [], (6, 0, 0, 0, []))])
/-- 9: LastAwake$Beds.rememberNight()V -/
def mb9 : Nat × Nat × List Bk := (3, 0, [(0, [(25, 0, 0), (180, 4, 0), (25, 0, 0), (180, 2, 0), (2, 8, 0), (112, 0, 0), (50, 0, 0), (58, 1, 0), (25, 1, 0), (2, 0, 0), (25, 0, 0), (180, 1, 0), (79, 0, 0), (2, 0, 0), (54, 2, 0)], (0, 22, 0, 0, [])),
  (22, [(21, 2, 0), (25, 0, 0), (180, 1, 0)], (3, 74, 30, 3, [])),
  (30, [(25, 1, 0), (2, 1, 0), (2, 2, 0), (21, 2, 0), (104, 0, 0), (96, 0, 0), (25, 0, 0), (180, 0, 0), (21, 2, 0), (50, 0, 0), (180, 500, 0), (2, 6, 0), (46, 0, 0), (79, 0, 0), (25, 1, 0), (2, 2, 0), (2, 2, 0), (21, 2, 0), (104, 0, 0), (96, 0, 0), (25, 0, 0), (180, 0, 0), (21, 2, 0), (50, 0, 0), (180, 500, 0), (2, 7, 0), (46, 0, 0), (79, 0, 0), (132, 2, 1)], (1, 22, 0, 0, [])),
  (74, [(25, 0, 0), (89, 0, 0), (180, 2, 0), (2, 1, 0), (96, 0, 0), (181, 2, 0), (25, 0, 0), (25, 0, 0), (180, 3, 0), (2, 1, 0), (96, 0, 0), (2, 8, 0), (210, 1, 0), (181, 3, 0)], (6, 0, 0, 0, []))])
/-- 10: LastAwake$Beds.forgetNight()V -/
def mb10 : Nat × Nat × List Bk := (3, 0, [(0, [(25, 0, 0), (89, 0, 0), (180, 2, 0), (2, 1, 0), (100, 0, 0), (181, 2, 0), (25, 0, 0), (89, 0, 0), (180, 3, 0), (2, 1, 0), (100, 0, 0), (181, 3, 0), (25, 0, 0), (180, 4, 0), (25, 0, 0), (180, 2, 0), (2, 8, 0), (112, 0, 0), (50, 0, 0), (58, 1, 0), (2, 0, 0), (54, 2, 0)], (0, 35, 0, 0, [])),
  (35, [(21, 2, 0), (25, 1, 0), (2, 0, 0), (46, 0, 0)], (3, 86, 42, 3, [])),
  (42, [(25, 0, 0), (180, 0, 0), (21, 2, 0), (50, 0, 0), (180, 500, 0), (2, 6, 0), (25, 1, 0), (2, 1, 0), (2, 2, 0), (21, 2, 0), (104, 0, 0), (96, 0, 0), (46, 0, 0), (79, 0, 0), (25, 0, 0), (180, 0, 0), (21, 2, 0), (50, 0, 0), (180, 500, 0), (2, 7, 0), (25, 1, 0), (2, 2, 0), (2, 2, 0), (21, 2, 0), (104, 0, 0), (96, 0, 0), (46, 0, 0), (79, 0, 0), (132, 2, 1)], (1, 35, 0, 0, [])),
  (86, [], (6, 0, 0, 0, []))])
/-- 11: LastAwake$Beds.drawUps(J)J -/
def mb11 : Nat × Nat × List Bk := (7, 2, [(0, [(22, 1, 0), (55, 3, 0), (2, 0, 0), (54, 5, 0)], (0, 5, 0, 0, [])),
  (5, [(21, 5, 0), (25, 0, 0), (180, 1, 0)], (3, 71, 14, 3, [])),
  (14, [(22, 3, 0), (9, 1103515245, 0), (105, 0, 0), (9, 12345, 0), (97, 0, 0), (9, 2147483648, 0), (113, 0, 0), (55, 3, 0), (22, 3, 0), (9, 65536, 0), (109, 0, 0), (9, 180, 0), (113, 0, 0), (136, 0, 0), (54, 6, 0), (25, 0, 0), (180, 0, 0), (21, 5, 0), (50, 0, 0), (180, 500, 0), (2, 5, 0), (21, 6, 0), (2, 120, 0)], (3, 62, 58, 5, [])),
  (58, [(2, -1, 0)], (1, 64, 0, 0, [])),
  (62, [(21, 6, 0)], (0, 64, 0, 0, [])),
  (64, [(79, 0, 0), (132, 5, 1)], (1, 5, 0, 0, [])),
  (71, [(22, 3, 0)], (6, 0, 0, 0, []))])
/-- 12: LastAwake$Beds.mixInto(J)J -/
def mb12 : Nat × Nat × List Bk := (7, 2, [(0, [(22, 1, 0), (55, 3, 0), (2, 0, 0), (54, 5, 0)], (0, 5, 0, 0, [])),
  (5, [(21, 5, 0), (25, 0, 0), (180, 1, 0)], (3, 57, 14, 3, [])),
  (14, [(2, 0, 0), (54, 6, 0)], (0, 17, 0, 0, [])),
  (17, [(21, 6, 0), (2, 8, 0)], (3, 51, 24, 3, [])),
  (24, [(9, 31, 0), (22, 3, 0), (105, 0, 0), (25, 0, 0), (180, 0, 0), (21, 5, 0), (50, 0, 0), (180, 500, 0), (21, 6, 0), (46, 0, 0), (133, 0, 0), (97, 0, 0), (55, 3, 0), (132, 6, 1)], (1, 17, 0, 0, [])),
  (51, [(132, 5, 1)], (1, 5, 0, 0, [])),
  (57, [(22, 3, 0)], (6, 0, 0, 0, []))])
/-- 13: LastAwake$Floor.<init>()V -/
def mb13 : Nat × Nat × List Bk := (1, 0, [(0, [(25, 0, 0), (202, 0, 0), (25, 0, 0), (2, 49, 0), (188, 9, 0), (181, 106, 0), (25, 0, 0), (2, 49, 0), (188, 9, 0), (181, 107, 0)], (6, 0, 0, 0, []))])
/-- 14: LastAwake$Floor.layOut(II)V -/
def mb14 : Nat × Nat × List Bk := (3, 0, [(0, [(25, 0, 0), (21, 1, 0), (181, 100, 0), (25, 0, 0), (21, 2, 0), (181, 101, 0), (25, 0, 0), (2, 0, 0), (181, 102, 0), (25, 0, 0), (25, 0, 0), (180, 100, 0), (25, 0, 0), (180, 101, 0), (104, 0, 0), (2, 1, 0), (100, 0, 0), (181, 103, 0), (25, 0, 0), (2, 0, 0), (181, 104, 0), (25, 0, 0), (2, 0, 0), (181, 105, 0), (25, 0, 0), (180, 106, 0), (2, 0, 0)], (7, 203, 48, 2, [0, 0])),
  (48, [(25, 0, 0), (2, -1, 0), (181, 108, 0)], (6, 0, 0, 0, []))])
/-- 15: LastAwake$Floor.copyFrom(LLastAwake$Floor;)V -/
def mb15 : Nat × Nat × List Bk := (2, 0, [(0, [(25, 0, 0), (25, 1, 0), (180, 100, 0), (181, 100, 0), (25, 0, 0), (25, 1, 0), (180, 101, 0), (181, 101, 0), (25, 0, 0), (25, 1, 0), (180, 102, 0), (181, 102, 0), (25, 0, 0), (25, 1, 0), (180, 103, 0), (181, 103, 0), (25, 0, 0), (25, 1, 0), (180, 104, 0), (181, 104, 0), (25, 0, 0), (25, 1, 0), (180, 105, 0), (181, 105, 0), (25, 1, 0), (180, 106, 0), (2, 0, 0), (25, 0, 0), (180, 106, 0), (2, 0, 0), (2, 49, 0), (201, 0, 0), (25, 0, 0), (25, 1, 0), (180, 108, 0), (181, 108, 0)], (6, 0, 0, 0, []))])
/-- 16: LastAwake$Floor.has(I)Z -/
def mb16 : Nat × Nat × List Bk := (2, 3, [(0, [(21, 1, 0), (2, 0, 0), (25, 0, 0), (180, 100, 0), (25, 0, 0), (180, 101, 0), (104, 0, 0), (2, 1, 0), (100, 0, 0)], (7, 103, 16, 3, [0, 0])),
  (16, [], (6, 0, 0, 0, []))])
/-- 17: LastAwake$Floor.putSwitch(I)V -/
def mb17 : Nat × Nat × List Bk := (2, 0, [(0, [(25, 0, 0), (21, 1, 0), (181, 102, 0), (25, 0, 0), (2, -1, 0), (181, 108, 0)], (6, 0, 0, 0, []))])
/-- 18: LastAwake$Floor.putBed(I)V -/
def mb18 : Nat × Nat × List Bk := (2, 0, [(0, [(25, 0, 0), (21, 1, 0), (181, 103, 0), (25, 0, 0), (2, -1, 0), (181, 108, 0)], (6, 0, 0, 0, []))])
/-- 19: LastAwake$Floor.putThings(II)V -/
def mb19 : Nat × Nat × List Bk := (3, 0, [(0, [(25, 0, 0), (180, 106, 0), (21, 1, 0), (21, 2, 0), (79, 0, 0), (25, 0, 0), (2, -1, 0), (181, 108, 0)], (6, 0, 0, 0, []))])
/-- 20: LastAwake$Floor.shineOn(I)V -/
def mb20 : Nat × Nat × List Bk := (2, 0, [(0, [(25, 0, 0), (21, 1, 0), (181, 104, 0), (25, 0, 0), (2, -1, 0), (181, 108, 0)], (6, 0, 0, 0, []))])
/-- 21: LastAwake$Floor.measureWalk()V -/
def mb21 : Nat × Nat × List Bk := (1, 0, [(0, [(25, 0, 0), (180, 108, 0), (2, -1, 0)], (3, 31, 8, 1, [])),
  (8, [(25, 0, 0), (25, 0, 0), (180, 102, 0)], (7, 24, 16, 2, [1, 1])),
  (16, [(25, 0, 0), (2, 2, 0), (25, 0, 0), (180, 107, 0), (25, 0, 0), (180, 103, 0), (46, 0, 0), (104, 0, 0), (181, 108, 0)], (0, 31, 0, 0, [])),
  (31, [], (6, 0, 0, 0, []))])
/-- 22: LastAwake$Floor.wayBetween(II)I -/
def mb22 : Nat × Nat × List Bk := (3, 1, [(0, [(25, 0, 0), (21, 2, 0)], (7, 24, 5, 2, [1, 1])),
  (5, [(25, 0, 0), (180, 107, 0), (21, 1, 0), (46, 0, 0)], (6, 0, 0, 0, []))])
/-- 23: LastAwake$Floor.nearestBed()I -/
def mb23 : Nat × Nat × List Bk := (3, 1, [(0, [(25, 0, 0), (25, 0, 0), (180, 102, 0)], (7, 24, 8, 2, [1, 1])),
  (8, [(2, -1, 0), (54, 1, 0), (2, 0, 0), (54, 2, 0)], (0, 12, 0, 0, [])),
  (12, [(21, 2, 0), (25, 0, 0), (180, 100, 0), (25, 0, 0), (180, 101, 0), (104, 0, 0)], (3, 70, 25, 3, [])),
  (25, [(21, 2, 0), (25, 0, 0), (180, 102, 0)], (3, 64, 33, 0, [])),
  (33, [(25, 0, 0), (180, 106, 0), (21, 2, 0), (46, 0, 0)], (2, 64, 42, 1, [])),
  (42, [(21, 1, 0), (2, -1, 0)], (3, 62, 47, 0, [])),
  (47, [(25, 0, 0), (180, 107, 0), (21, 2, 0), (46, 0, 0), (25, 0, 0), (180, 107, 0), (21, 1, 0), (46, 0, 0)], (3, 64, 62, 3, [])),
  (62, [(21, 2, 0), (54, 1, 0)], (0, 64, 0, 0, [])),
  (64, [(132, 2, 1)], (1, 12, 0, 0, [])),
  (70, [(21, 1, 0)], (6, 0, 0, 0, []))])
/-- 24: LastAwake$Floor.measureWaysTo(I)V -/
def mb24 : Nat × Nat × List Bk := (7, 0, [(0, [(25, 0, 0), (180, 100, 0), (25, 0, 0), (180, 101, 0), (104, 0, 0), (54, 2, 0), (25, 0, 0), (180, 107, 0), (2, 1000000000, 0)], (7, 203, 19, 2, [0, 0])),
  (19, [(25, 0, 0), (180, 107, 0), (21, 1, 0), (2, 0, 0), (79, 0, 0), (2, 1, 0), (54, 3, 0), (2, 0, 0), (54, 4, 0)], (0, 31, 0, 0, [])),
  (31, [(21, 4, 0), (21, 2, 0)], (3, 96, 37, 3, [])),
  (37, [(21, 3, 0)], (2, 96, 41, 0, [])),
  (41, [(2, 0, 0), (54, 3, 0), (2, 0, 0), (54, 5, 0)], (0, 46, 0, 0, [])),
  (46, [(21, 5, 0), (25, 0, 0), (180, 101, 0)], (3, 90, 55, 3, [])),
  (55, [(2, 0, 0), (54, 6, 0)], (0, 58, 0, 0, [])),
  (58, [(21, 6, 0), (25, 0, 0), (180, 100, 0)], (3, 84, 67, 3, [])),
  (67, [(21, 3, 0), (25, 0, 0), (21, 6, 0), (21, 5, 0)], (7, 25, 76, 3, [1, 1])),
  (76, [(128, 0, 0), (54, 3, 0), (132, 6, 1)], (1, 58, 0, 0, [])),
  (84, [(132, 5, 1)], (1, 46, 0, 0, [])),
  (90, [(132, 4, 1)], (1, 31, 0, 0, [])),
  (96, [], (6, 0, 0, 0, []))])
/-- 25: LastAwake$Floor.shorten(II)Z -/
def mb25 : Nat × Nat × List Bk := (6, 3, [(0, [(21, 1, 0), (25, 0, 0), (180, 100, 0), (21, 2, 0), (104, 0, 0), (96, 0, 0), (54, 3, 0), (25, 0, 0), (180, 107, 0), (21, 3, 0), (46, 0, 0), (54, 4, 0), (21, 1, 0)], (2, 36, 21, 5, [])),
  (21, [(21, 4, 0), (25, 0, 0), (21, 1, 0), (2, 1, 0), (100, 0, 0), (21, 2, 0)], (7, 26, 31, 3, [1, 1])),
  (31, [(210, 1, 0), (54, 4, 0)], (0, 36, 0, 0, [])),
  (36, [(21, 1, 0), (25, 0, 0), (180, 100, 0), (2, 1, 0), (100, 0, 0)], (3, 61, 46, 3, [])),
  (46, [(21, 4, 0), (25, 0, 0), (21, 1, 0), (2, 1, 0), (96, 0, 0), (21, 2, 0)], (7, 26, 56, 3, [1, 1])),
  (56, [(210, 1, 0), (54, 4, 0)], (0, 61, 0, 0, [])),
  (61, [(21, 2, 0)], (2, 80, 65, 5, [])),
  (65, [(21, 4, 0), (25, 0, 0), (21, 1, 0), (21, 2, 0), (2, 1, 0), (100, 0, 0)], (7, 26, 75, 3, [1, 1])),
  (75, [(210, 1, 0), (54, 4, 0)], (0, 80, 0, 0, [])),
  (80, [(21, 2, 0), (25, 0, 0), (180, 101, 0), (2, 1, 0), (100, 0, 0)], (3, 105, 90, 3, [])),
  (90, [(21, 4, 0), (25, 0, 0), (21, 1, 0), (21, 2, 0), (2, 1, 0), (96, 0, 0)], (7, 26, 100, 3, [1, 1])),
  (100, [(210, 1, 0), (54, 4, 0)], (0, 105, 0, 0, [])),
  (105, [(21, 4, 0), (25, 0, 0), (180, 107, 0), (21, 3, 0), (46, 0, 0)], (3, 120, 116, 3, [])),
  (116, [(2, 1, 0)], (1, 121, 0, 0, [])),
  (120, [(2, 0, 0)], (0, 121, 0, 0, [])),
  (121, [(54, 5, 0), (25, 0, 0), (180, 107, 0), (21, 3, 0), (21, 4, 0), (79, 0, 0), (21, 5, 0)], (6, 0, 0, 0, []))])
/-- 26: LastAwake$Floor.wayOver(II)I -/
def mb26 : Nat × Nat × List Bk := (5, 1, [(0, [(21, 1, 0), (25, 0, 0), (180, 100, 0), (21, 2, 0), (104, 0, 0), (96, 0, 0), (54, 3, 0), (25, 0, 0), (180, 104, 0), (21, 1, 0), (122, 0, 0), (2, 1, 0), (126, 0, 0), (2, 1, 0)], (3, 25, 21, 1, [])),
  (21, [(2, 1, 0)], (1, 26, 0, 0, [])),
  (25, [(2, 0, 0)], (0, 26, 0, 0, [])),
  (26, [(54, 4, 0), (2, 2, 0), (21, 4, 0)], (2, 38, 34, 0, [])),
  (34, [(2, 0, 0)], (1, 44, 0, 0, [])),
  (38, [(25, 0, 0), (180, 106, 0), (21, 3, 0), (46, 0, 0)], (0, 44, 0, 0, [])),
  (44, [(96, 0, 0), (25, 0, 0), (180, 107, 0), (21, 3, 0), (46, 0, 0), (96, 0, 0)], (6, 0, 0, 0, []))])
/-- 27: LastAwake$Floor.mixInto(J)J -/
def mb27 : Nat × Nat × List Bk := (6, 2, [(0, [(22, 1, 0), (55, 3, 0), (2, 0, 0), (54, 5, 0)], (0, 5, 0, 0, [])),
  (5, [(21, 5, 0), (25, 0, 0), (180, 100, 0), (25, 0, 0), (180, 101, 0), (104, 0, 0)], (3, 40, 19, 3, [])),
  (19, [(9, 31, 0), (22, 3, 0), (105, 0, 0), (25, 0, 0), (180, 106, 0), (21, 5, 0), (46, 0, 0), (133, 0, 0), (97, 0, 0), (55, 3, 0), (132, 5, 1)], (1, 5, 0, 0, [])),
  (40, [(22, 3, 0)], (6, 0, 0, 0, []))])
/-- 28: LastAwake$Night.<init>()V -/
def mb28 : Nat × Nat × List Bk := (1, 0, [(0, [(25, 0, 0), (202, 0, 0)], (6, 0, 0, 0, []))])
/-- 29: LastAwake$Night.endAt(IIZ)V -/
def mb29 : Nat × Nat × List Bk := (4, 0, [(0, [(25, 0, 0), (21, 1, 0), (181, 200, 0), (25, 0, 0), (21, 2, 0), (181, 201, 0), (25, 0, 0), (21, 3, 0), (181, 202, 0)], (6, 0, 0, 0, []))])
/-- 30: LastAwake$Notes.<init>()V -/
def mb30 : Nat × Nat × List Bk := (1, 0, [(0, [(25, 0, 0), (202, 0, 0), (25, 0, 0), (2, 8, 0), (188, 9, 0), (181, 301, 0), (25, 0, 0), (2, 8, 0), (188, 9, 0), (181, 302, 0)], (6, 0, 0, 0, []))])
/-- 31: LastAwake$Notes.copyFrom(LLastAwake$Notes;)V -/
def mb31 : Nat × Nat × List Bk := (2, 0, [(0, [(25, 0, 0), (25, 1, 0), (180, 300, 0), (181, 300, 0), (25, 1, 0), (180, 301, 0), (2, 0, 0), (25, 0, 0), (180, 301, 0), (2, 0, 0), (2, 8, 0), (201, 0, 0), (25, 1, 0), (180, 302, 0), (2, 0, 0), (25, 0, 0), (180, 302, 0), (2, 0, 0), (2, 8, 0), (201, 0, 0)], (6, 0, 0, 0, []))])
/-- 32: LastAwake$Notes.write(II)I -/
def mb32 : Nat × Nat × List Bk := (3, 1, [(0, [(25, 0, 0), (180, 301, 0), (25, 0, 0), (180, 300, 0), (21, 1, 0), (79, 0, 0), (25, 0, 0), (180, 302, 0), (25, 0, 0), (180, 300, 0), (21, 2, 0), (79, 0, 0), (25, 0, 0), (89, 0, 0), (180, 300, 0), (2, 1, 0), (96, 0, 0), (181, 300, 0), (25, 0, 0), (180, 300, 0), (2, 1, 0), (100, 0, 0)], (6, 0, 0, 0, []))])
/-- 33: LastAwake$Notes.suspects(II)I -/
def mb33 : Nat × Nat × List Bk := (5, 1, [(0, [(2, 0, 0), (54, 3, 0), (2, 0, 0), (54, 4, 0)], (0, 5, 0, 0, [])),
  (5, [(21, 4, 0), (21, 2, 0)], (3, 34, 11, 3, [])),
  (11, [(25, 0, 0), (21, 4, 0)], (7, 34, 17, 2, [1, 3])),
  (17, [(21, 1, 0)], (3, 28, 21, 1, [])),
  (21, [(21, 3, 0), (2, 1, 0), (21, 4, 0), (120, 0, 0), (128, 0, 0), (54, 3, 0)], (0, 28, 0, 0, [])),
  (28, [(132, 4, 1)], (1, 5, 0, 0, [])),
  (34, [(21, 3, 0)], (6, 0, 0, 0, []))])
/-- 34: LastAwake$Notes.liarsIf(I)I -/
def mb34 : Nat × Nat × List Bk := (6, 1, [(0, [(2, 0, 0), (54, 2, 0), (2, 0, 0), (54, 3, 0), (2, 0, 0), (54, 4, 0)], (0, 7, 0, 0, [])),
  (7, [(21, 4, 0), (25, 0, 0), (180, 300, 0)], (3, 61, 16, 3, [])),
  (16, [(2, 1, 0), (25, 0, 0), (180, 301, 0), (21, 4, 0), (46, 0, 0), (120, 0, 0), (54, 5, 0), (25, 0, 0), (180, 302, 0), (21, 4, 0), (46, 0, 0), (21, 1, 0), (122, 0, 0), (2, 1, 0), (126, 0, 0), (2, 1, 0)], (3, 50, 42, 1, [])),
  (42, [(21, 2, 0), (21, 5, 0), (128, 0, 0), (54, 2, 0)], (1, 55, 0, 0, [])),
  (50, [(21, 3, 0), (21, 5, 0), (128, 0, 0), (54, 3, 0)], (0, 55, 0, 0, [])),
  (55, [(132, 4, 1)], (1, 7, 0, 0, [])),
  (61, [(21, 2, 0), (21, 3, 0), (126, 0, 0)], (2, 71, 67, 0, [])),
  (67, [(2, -1, 0)], (1, 75, 0, 0, [])),
  (71, [(21, 3, 0)], (7, 196, 75, 1, [0, 0])),
  (75, [], (6, 0, 0, 0, []))])
/-- 35: LastAwake$Notes.mixInto(J)J -/
def mb35 : Nat × Nat × List Bk := (6, 2, [(0, [(22, 1, 0), (55, 3, 0), (2, 0, 0), (54, 5, 0)], (0, 5, 0, 0, [])),
  (5, [(21, 5, 0), (25, 0, 0), (180, 300, 0)], (3, 50, 14, 3, [])),
  (14, [(9, 31, 0), (22, 3, 0), (105, 0, 0), (25, 0, 0), (180, 301, 0), (21, 5, 0), (46, 0, 0), (133, 0, 0), (97, 0, 0), (55, 3, 0), (9, 31, 0), (22, 3, 0), (105, 0, 0), (25, 0, 0), (180, 302, 0), (21, 5, 0), (46, 0, 0), (133, 0, 0), (97, 0, 0), (55, 3, 0), (132, 5, 1)], (1, 5, 0, 0, [])),
  (50, [(22, 3, 0)], (6, 0, 0, 0, []))])
/-- 36: LastAwake$Script.<init>()V -/
def mb36 : Nat × Nat × List Bk := (1, 0, [(0, [(25, 0, 0), (202, 0, 0), (25, 0, 0), (2, 150, 0), (188, 10, 0), (181, 401, 0), (25, 0, 0), (2, 5, 0), (188, 9, 0), (181, 402, 0)], (6, 0, 0, 0, []))])
/-- 37: LastAwake$Script.append(I)V -/
def mb37 : Nat × Nat × List Bk := (2, 0, [(0, [(25, 0, 0), (180, 401, 0), (25, 0, 0), (180, 400, 0), (21, 1, 0), (145, 0, 0), (84, 0, 0), (25, 0, 0), (89, 0, 0), (180, 400, 0), (2, 1, 0), (96, 0, 0), (181, 400, 0)], (6, 0, 0, 0, []))])
/-- 38: LastAwake$Script.tellRoom(LLastAwake$State;)I -/
def mb38 : Nat × Nat × List Bk := (3, 1, [(0, [(25, 0, 0), (2, 0, 0), (181, 405, 0), (25, 0, 0)], (7, 44, 9, 1, [1, 4])),
  (9, [(2, 0, 0), (54, 2, 0)], (0, 11, 0, 0, [])),
  (11, [(21, 2, 0), (2, 150, 0)], (3, 62, 18, 3, [])),
  (18, [(25, 0, 0), (180, 403, 0)], (2, 31, 25, 1, [])),
  (25, [(21, 2, 0)], (2, 31, 29, 5, [])),
  (29, [(21, 2, 0)], (6, 0, 0, 0, [])),
  (31, [(25, 0, 0), (25, 1, 0), (21, 2, 0)], (2, 41, 37, 1, [])),
  (37, [(2, 1, 0)], (1, 42, 0, 0, [])),
  (41, [(2, 0, 0)], (0, 42, 0, 0, [])),
  (42, [], (7, 39, 45, 3, [1, 4])),
  (45, [], (2, 56, 48, 1, [])),
  (48, [(2, -10, 0), (25, 0, 0), (180, 404, 0), (100, 0, 0)], (6, 0, 0, 0, [])),
  (56, [(132, 2, 1)], (1, 11, 0, 0, [])),
  (62, [(2, -10, 0), (25, 0, 0), (180, 400, 0), (100, 0, 0)], (6, 0, 0, 0, []))])
/-- 39: LastAwake$Script.itemStands(LLastAwake$State;Z)Z -/
def mb39 : Nat × Nat × List Bk := (6, 3, [(0, [(25, 0, 0), (180, 403, 0), (2, 1, 0)], (3, 15, 8, 1, [])),
  (8, [(25, 0, 0)], (7, 40, 12, 1, [1, 4])),
  (12, [], (1, 16, 0, 0, [])),
  (15, [(2, -1, 0)], (0, 16, 0, 0, [])),
  (16, [(54, 3, 0), (21, 3, 0), (2, -1, 0)], (3, 35, 22, 0, [])),
  (22, [(21, 3, 0)], (2, 30, 26, 1, [])),
  (26, [(2, 1, 0)], (1, 31, 0, 0, [])),
  (30, [(2, 0, 0)], (0, 31, 0, 0, [])),
  (31, [(21, 2, 0)], (3, 37, 35, 0, [])),
  (35, [(2, 0, 0)], (6, 0, 0, 0, [])),
  (37, [(21, 3, 0), (2, 6, 0)], (3, 56, 43, 1, [])),
  (43, [(25, 1, 0), (180, 601, 0), (180, 1, 0), (2, 4, 0)], (3, 56, 54, 2, [])),
  (54, [(2, 0, 0)], (6, 0, 0, 0, [])),
  (56, [(25, 0, 0)], (7, 44, 60, 1, [1, 4])),
  (60, [(2, 0, 0), (54, 4, 0)], (0, 63, 0, 0, [])),
  (63, [(21, 4, 0), (178, 2, 0), (21, 3, 0), (46, 0, 0)], (3, 134, 73, 3, [])),
  (73, [(21, 3, 0)], (2, 81, 77, 1, [])),
  (77, [(2, 1, 0)], (1, 82, 0, 0, [])),
  (81, [(2, 0, 0)], (0, 82, 0, 0, [])),
  (82, [(54, 5, 0), (25, 0, 0), (180, 403, 0), (2, 2, 0)], (3, 111, 92, 1, [])),
  (92, [(25, 0, 0), (180, 406, 0), (21, 5, 0), (25, 1, 0), (21, 3, 0), (21, 4, 0)], (7, 42, 105, 3, [0, 0])),
  (105, [], (7, 103, 108, 3, [0, 0])),
  (108, [], (2, 113, 111, 1, [])),
  (111, [(2, 0, 0)], (6, 0, 0, 0, [])),
  (113, [(25, 0, 0), (180, 402, 0), (21, 4, 0), (25, 0, 0), (180, 406, 0), (79, 0, 0), (25, 0, 0)], (7, 44, 128, 1, [1, 4])),
  (128, [(132, 4, 1)], (1, 63, 0, 0, [])),
  (134, [(25, 0, 0), (180, 403, 0), (2, 3, 0)], (3, 144, 142, 0, [])),
  (142, [(2, 0, 0)], (6, 0, 0, 0, [])),
  (144, [(25, 0, 0), (25, 1, 0), (21, 3, 0)], (7, 43, 150, 3, [1, 4])),
  (150, [(25, 0, 0)], (7, 44, 154, 1, [1, 4])),
  (154, [(2, 1, 0)], (6, 0, 0, 0, []))])
/-- 40: LastAwake$Script.itemOfWord()I -/
def mb40 : Nat × Nat × List Bk := (1, 1, [(0, [(25, 0, 0), (178, 3, 0)], (7, 41, 6, 2, [1, 4])),
  (6, [], (2, 11, 9, 0, [])),
  (9, [(2, 0, 0)], (6, 0, 0, 0, [])),
  (11, [(25, 0, 0), (178, 4, 0)], (7, 41, 17, 2, [1, 4])),
  (17, [], (2, 22, 20, 0, [])),
  (20, [(2, 1, 0)], (6, 0, 0, 0, [])),
  (22, [(25, 0, 0), (178, 5, 0)], (7, 41, 28, 2, [1, 4])),
  (28, [], (2, 33, 31, 0, [])),
  (31, [(2, 2, 0)], (6, 0, 0, 0, [])),
  (33, [(25, 0, 0), (178, 6, 0)], (7, 41, 39, 2, [1, 4])),
  (39, [], (2, 44, 42, 0, [])),
  (42, [(2, 3, 0)], (6, 0, 0, 0, [])),
  (44, [(25, 0, 0), (178, 7, 0)], (7, 41, 50, 2, [1, 4])),
  (50, [], (2, 55, 53, 0, [])),
  (53, [(2, 4, 0)], (6, 0, 0, 0, [])),
  (55, [(25, 0, 0), (178, 8, 0)], (7, 41, 61, 2, [1, 4])),
  (61, [], (2, 66, 64, 0, [])),
  (64, [(2, 5, 0)], (6, 0, 0, 0, [])),
  (66, [(25, 0, 0), (178, 9, 0)], (7, 41, 72, 2, [1, 4])),
  (72, [], (2, 78, 75, 0, [])),
  (75, [(2, 6, 0)], (6, 0, 0, 0, [])),
  (78, [(25, 0, 0), (178, 10, 0)], (7, 41, 84, 2, [1, 4])),
  (84, [], (2, 90, 87, 0, [])),
  (87, [(2, 7, 0)], (6, 0, 0, 0, [])),
  (90, [(2, -1, 0)], (6, 0, 0, 0, []))])
/-- 41: LastAwake$Script.wordIs(Ljava/lang/String;)Z -/
def mb41 : Nat × Nat × List Bk := (3, 3, [(0, [(25, 0, 0), (180, 405, 0), (25, 0, 0), (180, 404, 0), (100, 0, 0), (25, 1, 0)], (7, 197, 13, 1, [1, 13])),
  (13, [], (3, 18, 16, 0, [])),
  (16, [(2, 0, 0)], (6, 0, 0, 0, [])),
  (18, [(2, 0, 0), (54, 2, 0)], (0, 20, 0, 0, [])),
  (20, [(21, 2, 0), (25, 1, 0)], (7, 197, 25, 1, [1, 13])),
  (25, [], (3, 55, 28, 3, [])),
  (28, [(25, 0, 0), (180, 401, 0), (25, 0, 0), (180, 404, 0), (21, 2, 0), (96, 0, 0), (51, 0, 0), (25, 1, 0), (21, 2, 0)], (7, 198, 44, 2, [1, 13])),
  (44, [], (3, 49, 47, 0, [])),
  (47, [(2, 0, 0)], (6, 0, 0, 0, [])),
  (49, [(132, 2, 1)], (1, 20, 0, 0, [])),
  (55, [(2, 1, 0)], (6, 0, 0, 0, []))])
/-- 42: LastAwake$Script.mostOfNumber(LLastAwake$State;II)I -/
def mb42 : Nat × Nat × List Bk := (4, 1, [(0, [(25, 0, 0), (180, 600, 0), (180, 100, 0), (25, 0, 0), (180, 600, 0), (180, 101, 0), (104, 0, 0), (2, 1, 0), (100, 0, 0), (54, 3, 0), (21, 1, 0)], (5, 116, 0, 0, [64, 116, 116, 67, 78, 116, 88, 94])),
  (64, [(2, 7, 0)], (6, 0, 0, 0, [])),
  (67, [(21, 2, 0)], (2, 75, 71, 1, [])),
  (71, [(21, 3, 0)], (1, 77, 0, 0, [])),
  (75, [(2, 9, 0)], (0, 77, 0, 0, [])),
  (77, [], (6, 0, 0, 0, [])),
  (78, [(25, 0, 0), (180, 600, 0), (180, 100, 0), (2, 1, 0), (100, 0, 0)], (6, 0, 0, 0, [])),
  (88, [(178, 1, 0), (21, 2, 0), (46, 0, 0)], (6, 0, 0, 0, [])),
  (94, [(21, 2, 0)], (2, 110, 98, 1, [])),
  (98, [(25, 0, 0), (180, 601, 0), (180, 1, 0), (2, 1, 0), (100, 0, 0)], (1, 115, 0, 0, [])),
  (110, [(178, 1, 0), (2, 5, 0), (46, 0, 0)], (0, 115, 0, 0, [])),
  (115, [], (6, 0, 0, 0, [])),
  (116, [(21, 3, 0)], (6, 0, 0, 0, []))])
/-- 43: LastAwake$Script.apply(LLastAwake$State;I)V -/
def mb43 : Nat × Nat × List Bk := (3, 0, [(0, [(21, 2, 0)], (5, 195, 0, 0, [44, 63, 79, 95, 117, 143, 154])),
  (44, [(25, 1, 0), (25, 0, 0), (180, 402, 0), (2, 0, 0), (46, 0, 0), (25, 0, 0), (180, 402, 0), (2, 1, 0), (46, 0, 0)], (7, 54, 60, 3, [1, 6])),
  (60, [], (1, 220, 0, 0, [])),
  (63, [(25, 1, 0), (180, 600, 0), (25, 0, 0), (180, 402, 0), (2, 0, 0), (46, 0, 0)], (7, 17, 76, 2, [1, 1])),
  (76, [], (1, 220, 0, 0, [])),
  (79, [(25, 1, 0), (180, 600, 0), (25, 0, 0), (180, 402, 0), (2, 0, 0), (46, 0, 0)], (7, 18, 92, 2, [1, 1])),
  (92, [], (1, 220, 0, 0, [])),
  (95, [(25, 1, 0), (180, 600, 0), (25, 0, 0), (180, 402, 0), (2, 0, 0), (46, 0, 0), (25, 0, 0), (180, 402, 0), (2, 1, 0), (46, 0, 0)], (7, 19, 114, 3, [1, 1])),
  (114, [], (1, 220, 0, 0, [])),
  (117, [(25, 1, 0), (180, 600, 0), (25, 1, 0), (180, 600, 0), (180, 104, 0), (2, 1, 0), (25, 0, 0), (180, 402, 0), (2, 0, 0), (46, 0, 0), (120, 0, 0), (128, 0, 0)], (7, 20, 140, 2, [1, 1])),
  (140, [], (1, 220, 0, 0, [])),
  (143, [(25, 1, 0), (180, 600, 0), (2, 1, 0), (181, 105, 0)], (1, 220, 0, 0, [])),
  (154, [(25, 1, 0), (180, 601, 0), (25, 0, 0), (180, 402, 0), (2, 0, 0), (46, 0, 0), (25, 0, 0), (180, 402, 0), (2, 1, 0), (46, 0, 0), (25, 0, 0), (180, 402, 0), (2, 2, 0), (46, 0, 0), (25, 0, 0), (180, 402, 0), (2, 3, 0), (46, 0, 0), (25, 0, 0), (180, 402, 0), (2, 4, 0), (46, 0, 0)], (7, 4, 191, 6, [1, 0])),
  (191, [(87, 0, 0)], (1, 220, 0, 0, [])),
  (195, [(25, 1, 0), (180, 601, 0), (180, 0, 0), (25, 0, 0), (180, 402, 0), (2, 0, 0), (46, 0, 0), (50, 0, 0), (180, 500, 0), (2, 5, 0), (25, 0, 0), (180, 402, 0), (2, 1, 0), (46, 0, 0), (79, 0, 0)], (0, 220, 0, 0, [])),
  (220, [], (6, 0, 0, 0, []))])
/-- 44: LastAwake$Script.nextToken()V -/
def mb44 : Nat × Nat × List Bk := (1, 0, [(0, [(25, 0, 0), (25, 0, 0), (180, 405, 0), (181, 404, 0)], (0, 8, 0, 0, [])),
  (8, [(25, 0, 0), (180, 404, 0), (25, 0, 0), (180, 400, 0)], (3, 46, 19, 3, [])),
  (19, [(25, 0, 0), (180, 401, 0), (25, 0, 0), (180, 404, 0), (51, 0, 0), (2, 32, 0)], (3, 46, 33, 1, [])),
  (33, [(25, 0, 0), (89, 0, 0), (180, 404, 0), (2, 1, 0), (96, 0, 0), (181, 404, 0)], (1, 8, 0, 0, [])),
  (46, [(25, 0, 0), (25, 0, 0), (180, 404, 0), (181, 405, 0), (25, 0, 0), (180, 404, 0), (25, 0, 0), (180, 400, 0)], (3, 73, 65, 2, [])),
  (65, [(25, 0, 0), (2, 0, 0), (181, 403, 0)], (1, 150, 0, 0, [])),
  (73, [(25, 0, 0), (180, 401, 0), (25, 0, 0), (180, 404, 0), (51, 0, 0)], (7, 47, 85, 1, [0, 0])),
  (85, [], (2, 95, 88, 0, [])),
  (88, [(25, 0, 0)], (7, 45, 92, 1, [1, 4])),
  (92, [], (1, 150, 0, 0, [])),
  (95, [(25, 0, 0), (180, 401, 0), (25, 0, 0), (180, 404, 0), (51, 0, 0)], (7, 48, 107, 1, [0, 0])),
  (107, [], (2, 117, 110, 0, [])),
  (110, [(25, 0, 0)], (7, 46, 114, 1, [1, 4])),
  (114, [], (1, 150, 0, 0, [])),
  (117, [(25, 0, 0), (25, 0, 0), (180, 401, 0), (25, 0, 0), (180, 404, 0), (51, 0, 0), (2, 59, 0)], (3, 136, 132, 1, [])),
  (132, [(2, 3, 0)], (1, 137, 0, 0, [])),
  (136, [(2, 4, 0)], (0, 137, 0, 0, [])),
  (137, [(181, 403, 0), (25, 0, 0), (25, 0, 0), (180, 404, 0), (2, 1, 0), (96, 0, 0), (181, 405, 0)], (0, 150, 0, 0, [])),
  (150, [], (6, 0, 0, 0, []))])
/-- 45: LastAwake$Script.takeWord()V -/
def mb45 : Nat × Nat × List Bk := (1, 0, [(0, [(25, 0, 0), (2, 1, 0), (181, 403, 0)], (0, 5, 0, 0, [])),
  (5, [(25, 0, 0), (180, 405, 0), (25, 0, 0), (180, 400, 0)], (3, 44, 16, 3, [])),
  (16, [(25, 0, 0), (180, 401, 0), (25, 0, 0), (180, 405, 0), (51, 0, 0)], (7, 47, 28, 1, [0, 0])),
  (28, [], (2, 44, 31, 0, [])),
  (31, [(25, 0, 0), (89, 0, 0), (180, 405, 0), (2, 1, 0), (96, 0, 0), (181, 405, 0)], (1, 5, 0, 0, [])),
  (44, [], (6, 0, 0, 0, []))])
/-- 46: LastAwake$Script.takeNumber()V -/
def mb46 : Nat × Nat × List Bk := (1, 0, [(0, [(25, 0, 0), (2, 0, 0), (181, 406, 0)], (0, 5, 0, 0, [])),
  (5, [(25, 0, 0), (180, 405, 0), (25, 0, 0), (180, 400, 0)], (3, 81, 16, 3, [])),
  (16, [(25, 0, 0), (180, 401, 0), (25, 0, 0), (180, 405, 0), (51, 0, 0)], (7, 48, 28, 1, [0, 0])),
  (28, [], (2, 81, 31, 0, [])),
  (31, [(25, 0, 0), (180, 405, 0), (25, 0, 0), (180, 404, 0), (100, 0, 0), (2, 3, 0)], (3, 68, 44, 3, [])),
  (44, [(25, 0, 0), (2, 10, 0), (25, 0, 0), (180, 406, 0), (104, 0, 0), (25, 0, 0), (180, 401, 0), (25, 0, 0), (180, 405, 0), (51, 0, 0), (96, 0, 0), (2, 48, 0), (100, 0, 0), (181, 406, 0)], (0, 68, 0, 0, [])),
  (68, [(25, 0, 0), (89, 0, 0), (180, 405, 0), (2, 1, 0), (96, 0, 0), (181, 405, 0)], (1, 5, 0, 0, [])),
  (81, [(25, 0, 0), (25, 0, 0), (180, 405, 0), (25, 0, 0), (180, 404, 0), (100, 0, 0), (2, 3, 0)], (3, 99, 95, 4, [])),
  (95, [(2, 2, 0)], (1, 100, 0, 0, [])),
  (99, [(2, 4, 0)], (0, 100, 0, 0, [])),
  (100, [(181, 403, 0)], (6, 0, 0, 0, []))])
/-- 47: LastAwake$Script.isLetter(I)Z -/
def mb47 : Nat × Nat × List Bk := (1, 3, [(0, [(21, 0, 0), (2, 97, 0)], (3, 16, 6, 2, [])),
  (6, [(21, 0, 0), (2, 122, 0)], (3, 16, 12, 4, [])),
  (12, [(2, 1, 0)], (1, 17, 0, 0, [])),
  (16, [(2, 0, 0)], (0, 17, 0, 0, [])),
  (17, [], (6, 0, 0, 0, []))])
/-- 48: LastAwake$Script.isFigure(I)Z -/
def mb48 : Nat × Nat × List Bk := (1, 3, [(0, [(21, 0, 0), (2, 48, 0)], (3, 16, 6, 2, [])),
  (6, [(21, 0, 0), (2, 57, 0)], (3, 16, 12, 4, [])),
  (12, [(2, 1, 0)], (1, 17, 0, 0, [])),
  (16, [(2, 0, 0)], (0, 17, 0, 0, [])),
  (17, [], (6, 0, 0, 0, []))])
/-- 49: LastAwake$Sleeper.<init>()V -/
def mb49 : Nat × Nat × List Bk := (1, 0, [(0, [(25, 0, 0), (202, 0, 0), (25, 0, 0), (2, 8, 0), (188, 9, 0), (181, 500, 0)], (6, 0, 0, 0, []))])
/-- 50: LastAwake$Sleeper.waits(I)I -/
def mb50 : Nat × Nat × List Bk := (6, 1, [(0, [(25, 0, 0), (180, 500, 0), (2, 4, 0), (46, 0, 0), (54, 2, 0), (21, 2, 0), (2, 5, 0), (25, 0, 0), (180, 500, 0), (2, 6, 0), (46, 0, 0), (21, 1, 0), (100, 0, 0), (104, 0, 0), (96, 0, 0), (54, 3, 0), (2, 2, 0), (21, 3, 0), (104, 0, 0), (54, 4, 0), (21, 2, 0), (2, 2, 0), (108, 0, 0), (54, 5, 0), (25, 0, 0), (180, 500, 0), (2, 0, 0), (46, 0, 0)], (5, 98, 0, 1, [72, 74, 77, 80, 86])),
  (72, [(21, 3, 0)], (6, 0, 0, 0, [])),
  (74, [(21, 4, 0)], (6, 0, 0, 0, [])),
  (77, [(21, 5, 0)], (6, 0, 0, 0, [])),
  (80, [(21, 4, 0), (2, 20, 0), (96, 0, 0)], (6, 0, 0, 0, [])),
  (86, [(21, 5, 0), (25, 0, 0), (180, 500, 0), (2, 1, 0), (46, 0, 0), (2, 4, 0), (108, 0, 0), (96, 0, 0)], (6, 0, 0, 0, [])),
  (98, [(21, 2, 0)], (6, 0, 0, 0, []))])
/-- 51: LastAwake$Sleeper.isUpAnyhow()Z -/
def mb51 : Nat × Nat × List Bk := (1, 3, [(0, [(25, 0, 0), (180, 500, 0), (2, 5, 0), (46, 0, 0), (2, -1, 0)], (3, 29, 10, 0, [])),
  (10, [(25, 0, 0), (180, 500, 0), (2, 1, 0), (46, 0, 0), (25, 0, 0), (180, 500, 0), (2, 5, 0), (46, 0, 0)], (3, 29, 25, 4, [])),
  (25, [(2, 1, 0)], (1, 30, 0, 0, [])),
  (29, [(2, 0, 0)], (0, 30, 0, 0, [])),
  (30, [], (6, 0, 0, 0, []))])
/-- 52: LastAwake$Sleeper.lightCost(I)I -/
def mb52 : Nat × Nat × List Bk := (3, 1, [(0, [(21, 1, 0), (25, 0, 0), (180, 500, 0), (2, 1, 0), (46, 0, 0), (100, 0, 0), (54, 2, 0), (21, 2, 0)], (2, 24, 13, 5, [])),
  (13, [(25, 0, 0), (180, 500, 0), (2, 2, 0), (46, 0, 0), (21, 2, 0), (104, 0, 0)], (1, 28, 0, 0, [])),
  (24, [(2, 3, 0), (21, 2, 0), (116, 0, 0), (104, 0, 0)], (0, 28, 0, 0, [])),
  (28, [], (6, 0, 0, 0, []))])
/-- 53: LastAwake$State.<init>()V -/
def mb53 : Nat × Nat × List Bk := (1, 0, [(0, [(25, 0, 0), (202, 0, 0), (25, 0, 0), (187, 1, 0), (89, 0, 0)], (7, 13, 12, 1, [2, 0])),
  (12, [(181, 600, 0), (25, 0, 0), (187, 0, 0), (89, 0, 0)], (7, 0, 23, 1, [2, 0])),
  (23, [(181, 601, 0), (25, 0, 0), (187, 3, 0), (89, 0, 0)], (7, 30, 34, 1, [2, 0])),
  (34, [(181, 602, 0), (25, 0, 0), (187, 2, 0), (89, 0, 0)], (7, 28, 45, 1, [2, 0])),
  (45, [(181, 603, 0), (25, 0, 0), (2, 6, 0), (2, 4, 0)], (7, 54, 55, 3, [1, 6])),
  (55, [], (6, 0, 0, 0, []))])
/-- 54: LastAwake$State.startAnew(II)V -/
def mb54 : Nat × Nat × List Bk := (3, 0, [(0, [(25, 0, 0), (180, 600, 0), (21, 1, 0), (21, 2, 0)], (7, 14, 9, 3, [1, 1])),
  (9, [(25, 0, 0), (180, 601, 0)], (7, 1, 16, 1, [1, 0])),
  (16, [(25, 0, 0), (180, 602, 0), (2, 0, 0), (181, 300, 0)], (6, 0, 0, 0, []))])
/-- 55: LastAwake$State.copyFrom(LLastAwake$State;)V -/
def mb55 : Nat × Nat × List Bk := (2, 0, [(0, [(25, 0, 0), (180, 600, 0), (25, 1, 0), (180, 600, 0)], (7, 15, 11, 2, [1, 1])),
  (11, [(25, 0, 0), (180, 601, 0), (25, 1, 0), (180, 601, 0)], (7, 2, 22, 2, [1, 0])),
  (22, [(25, 0, 0), (180, 602, 0), (25, 1, 0), (180, 602, 0)], (7, 31, 33, 2, [1, 3])),
  (33, [], (6, 0, 0, 0, []))])
/-- 56: LastAwake$State.foresee()V -/
def mb56 : Nat × Nat × List Bk := (1, 0, [(0, [(25, 0, 0), (180, 600, 0)], (7, 21, 7, 1, [1, 1])),
  (7, [(25, 0, 0), (180, 601, 0), (25, 0, 0), (180, 603, 0)], (7, 8, 18, 2, [1, 0])),
  (18, [], (6, 0, 0, 0, []))])
/-- 57: LastAwake$State.spendNight()I -/
def mb57 : Nat × Nat × List Bk := (2, 1, [(0, [(25, 0, 0)], (7, 56, 4, 1, [1, 6])),
  (4, [(25, 0, 0), (180, 601, 0)], (7, 9, 11, 1, [1, 0])),
  (11, [(2, 0, 0), (54, 1, 0)], (0, 13, 0, 0, [])),
  (13, [(21, 1, 0), (25, 0, 0), (180, 601, 0), (180, 1, 0)], (3, 53, 24, 3, [])),
  (24, [(25, 0, 0), (180, 601, 0), (180, 0, 0), (21, 1, 0), (50, 0, 0), (180, 500, 0), (2, 7, 0), (92, 0, 0), (46, 0, 0), (25, 0, 0), (21, 1, 0)], (7, 58, 45, 2, [1, 6])),
  (45, [(96, 0, 0), (79, 0, 0), (132, 1, 1)], (1, 13, 0, 0, [])),
  (53, [(25, 0, 0), (180, 603, 0), (180, 201, 0), (2, -1, 0)], (3, 89, 64, 0, [])),
  (64, [(25, 0, 0), (180, 601, 0), (180, 0, 0), (25, 0, 0), (180, 603, 0), (180, 201, 0), (50, 0, 0), (180, 500, 0), (2, 6, 0), (92, 0, 0), (46, 0, 0), (2, 1, 0), (96, 0, 0), (79, 0, 0)], (0, 89, 0, 0, [])),
  (89, [(25, 0, 0), (180, 603, 0), (180, 201, 0)], (6, 0, 0, 0, []))])
/-- 58: LastAwake$State.costTonight(I)I -/
def mb58 : Nat × Nat × List Bk := (4, 1, [(0, [(25, 0, 0), (180, 601, 0), (180, 0, 0), (21, 1, 0), (50, 0, 0), (25, 0, 0), (180, 603, 0), (180, 200, 0)], (7, 52, 19, 2, [1, 5])),
  (19, [(54, 2, 0), (25, 0, 0), (180, 603, 0), (180, 201, 0), (21, 1, 0)], (3, 45, 31, 1, [])),
  (31, [(25, 0, 0), (180, 600, 0), (180, 105, 0)], (2, 45, 41, 1, [])),
  (41, [(2, 1, 0)], (1, 46, 0, 0, [])),
  (45, [(2, 0, 0)], (0, 46, 0, 0, [])),
  (46, [(54, 3, 0), (21, 3, 0)], (2, 60, 51, 0, [])),
  (51, [(21, 2, 0), (25, 0, 0)], (7, 59, 56, 1, [1, 6])),
  (56, [(96, 0, 0)], (1, 61, 0, 0, [])),
  (60, [(21, 2, 0)], (0, 61, 0, 0, [])),
  (61, [], (6, 0, 0, 0, []))])
/-- 59: LastAwake$State.errandTonight()I -/
def mb59 : Nat × Nat × List Bk := (1, 1, [(0, [(25, 0, 0), (180, 603, 0), (180, 201, 0), (2, -1, 0)], (3, 15, 11, 1, [])),
  (11, [(2, 0, 0)], (1, 33, 0, 0, [])),
  (15, [(25, 0, 0), (25, 0, 0), (180, 603, 0), (180, 201, 0), (25, 0, 0), (180, 603, 0), (180, 202, 0)], (7, 60, 33, 3, [1, 6])),
  (33, [], (6, 0, 0, 0, []))])
/-- 60: LastAwake$State.errandOf(IZ)I -/
def mb60 : Nat × Nat × List Bk := (4, 1, [(0, [(21, 2, 0)], (2, 8, 4, 0, [])),
  (4, [(2, 0, 0)], (1, 22, 0, 0, [])),
  (8, [(25, 0, 0), (180, 601, 0), (180, 0, 0), (21, 1, 0), (50, 0, 0), (180, 500, 0), (2, 3, 0), (46, 0, 0)], (0, 22, 0, 0, [])),
  (22, [(54, 3, 0), (21, 3, 0), (25, 0, 0), (180, 600, 0), (180, 108, 0), (96, 0, 0)], (6, 0, 0, 0, []))])
/-- 61: LastAwake$State.burden(III)I -/
def mb61 : Nat × Nat × List Bk := (5, 1, [(0, [(25, 0, 0), (180, 600, 0), (180, 105, 0)], (2, 19, 10, 1, [])),
  (10, [(25, 0, 0), (21, 1, 0), (2, 0, 0)], (7, 60, 16, 3, [1, 6])),
  (16, [], (1, 20, 0, 0, [])),
  (19, [(2, 0, 0)], (0, 20, 0, 0, [])),
  (20, [(54, 4, 0), (21, 2, 0), (25, 0, 0), (180, 601, 0), (180, 0, 0), (21, 1, 0), (50, 0, 0), (2, 60, 0)], (7, 52, 37, 2, [1, 5])),
  (37, [(104, 0, 0), (21, 3, 0), (21, 4, 0), (104, 0, 0), (96, 0, 0)], (6, 0, 0, 0, []))])
/-- 62: LastAwake$State.leastOfTurns(I)I -/
def mb62 : Nat × Nat × List Bk := (4, 1, [(0, [(2, 0, 0), (54, 2, 0), (2, 0, 0), (54, 3, 0)], (0, 4, 0, 0, [])),
  (4, [(21, 3, 0), (25, 0, 0), (180, 601, 0), (180, 1, 0)], (3, 33, 15, 3, [])),
  (15, [(21, 2, 0), (25, 0, 0), (21, 3, 0), (21, 1, 0), (2, 0, 0)], (7, 61, 23, 4, [1, 6])),
  (23, [(210, 0, 0), (54, 2, 0), (132, 3, 1)], (1, 4, 0, 0, [])),
  (33, [(2, 0, 0), (54, 3, 0)], (0, 35, 0, 0, [])),
  (35, [(21, 3, 0), (2, 24, 0)], (3, 64, 41, 3, [])),
  (41, [(25, 0, 0), (21, 2, 0), (21, 1, 0)], (7, 63, 47, 3, [1, 6])),
  (47, [(21, 1, 0)], (3, 64, 51, 3, [])),
  (51, [(25, 0, 0), (21, 2, 0), (21, 1, 0)], (7, 65, 57, 3, [1, 6])),
  (57, [(54, 2, 0), (132, 3, 1)], (1, 35, 0, 0, [])),
  (64, [(21, 2, 0)], (6, 0, 0, 0, []))])
/-- 63: LastAwake$State.turnsWithin(II)I -/
def mb63 : Nat × Nat × List Bk := (5, 1, [(0, [(2, 0, 0), (54, 3, 0), (2, 0, 0), (54, 4, 0)], (0, 5, 0, 0, [])),
  (5, [(21, 4, 0), (25, 0, 0), (180, 601, 0), (180, 1, 0)], (3, 34, 17, 3, [])),
  (17, [(21, 3, 0), (25, 0, 0), (21, 4, 0), (21, 1, 0), (21, 2, 0)], (7, 64, 26, 4, [1, 6])),
  (26, [(96, 0, 0), (54, 3, 0), (132, 4, 1)], (1, 5, 0, 0, [])),
  (34, [(21, 3, 0)], (6, 0, 0, 0, []))])
/-- 64: LastAwake$State.ownTurnsWithin(III)I -/
def mb64 : Nat × Nat × List Bk := (5, 1, [(0, [(2, 0, 0), (54, 4, 0)], (0, 3, 0, 0, [])),
  (3, [(21, 4, 0), (21, 3, 0)], (3, 29, 9, 3, [])),
  (9, [(25, 0, 0), (21, 1, 0), (21, 3, 0), (21, 4, 0), (2, 1, 0), (96, 0, 0)], (7, 61, 19, 4, [1, 6])),
  (19, [(21, 2, 0)], (3, 29, 23, 4, [])),
  (23, [(132, 4, 1)], (1, 3, 0, 0, [])),
  (29, [(21, 4, 0)], (6, 0, 0, 0, []))])
/-- 65: LastAwake$State.nextBurden(II)I -/
def mb65 : Nat × Nat × List Bk := (6, 1, [(0, [(2, 1000000000, 0), (54, 3, 0), (2, 0, 0), (54, 4, 0)], (0, 6, 0, 0, [])),
  (6, [(21, 4, 0), (25, 0, 0), (180, 601, 0), (180, 1, 0)], (3, 56, 18, 3, [])),
  (18, [(25, 0, 0), (21, 4, 0), (21, 1, 0), (21, 2, 0)], (7, 64, 26, 4, [1, 6])),
  (26, [(54, 5, 0), (21, 5, 0), (21, 2, 0)], (3, 50, 34, 3, [])),
  (34, [(21, 3, 0), (25, 0, 0), (21, 4, 0), (21, 2, 0), (21, 5, 0), (2, 1, 0), (96, 0, 0)], (7, 61, 46, 4, [1, 6])),
  (46, [(210, 1, 0), (54, 3, 0)], (0, 50, 0, 0, [])),
  (50, [(132, 4, 1)], (1, 6, 0, 0, [])),
  (56, [(21, 3, 0)], (6, 0, 0, 0, []))])
/-- 66: LastAwake$State.whoseTurn(III)I -/
def mb66 : Nat × Nat × List Bk := (6, 1, [(0, [(2, 0, 0), (54, 4, 0), (2, 0, 0), (54, 5, 0)], (0, 6, 0, 0, [])),
  (6, [(21, 5, 0), (25, 0, 0), (180, 601, 0), (180, 1, 0)], (3, 46, 18, 3, [])),
  (18, [(21, 4, 0), (25, 0, 0), (21, 5, 0), (21, 2, 0), (21, 1, 0)], (7, 64, 28, 4, [1, 6])),
  (28, [(96, 0, 0), (54, 4, 0), (21, 3, 0), (21, 4, 0)], (3, 40, 37, 3, [])),
  (37, [(21, 5, 0)], (6, 0, 0, 0, [])),
  (40, [(132, 5, 1)], (1, 6, 0, 0, [])),
  (46, [(2, -1, 0)], (6, 0, 0, 0, []))])
/-- 67: LastAwake.<init>()V -/
def mb67 : Nat × Nat × List Bk := (1, 0, [(0, [(25, 0, 0), (202, 0, 0), (25, 0, 0), (187, 6, 0), (89, 0, 0)], (7, 53, 12, 1, [2, 0])),
  (12, [(181, 700, 0), (25, 0, 0), (187, 6, 0), (89, 0, 0)], (7, 53, 23, 1, [2, 0])),
  (23, [(181, 701, 0), (25, 0, 0), (2, 2, 0), (188, 13, 0), (181, 702, 0), (25, 0, 0), (187, 4, 0), (89, 0, 0)], (7, 36, 42, 1, [2, 0])),
  (42, [(181, 703, 0), (25, 0, 0), (2, 3, 0), (188, 9, 0), (181, 704, 0), (25, 0, 0), (2, 7, 0), (2, 7, 0), (197, 0, 0), (181, 705, 0), (25, 0, 0), (2, 7, 0), (2, 7, 0), (197, 0, 0), (181, 706, 0), (25, 0, 0), (9, 0, 0), (181, 707, 0), (25, 0, 0), (9, 1, 0), (181, 708, 0)], (6, 0, 0, 0, []))])
/-- 68: LastAwake.room(II)I -/
def mb68 : Nat × Nat × List Bk := (3, 1, [(0, [(21, 1, 0), (2, 1, 0), (2, 7, 0)], (7, 103, 7, 3, [0, 0])),
  (7, [], (2, 20, 10, 0, [])),
  (10, [(21, 2, 0), (2, 1, 0), (2, 7, 0)], (7, 103, 17, 3, [0, 0])),
  (17, [], (2, 27, 20, 1, [])),
  (20, [(25, 0, 0), (2, -2, 0)], (7, 105, 26, 2, [1, 7])),
  (26, [], (6, 0, 0, 0, [])),
  (27, [(25, 0, 0), (180, 700, 0), (21, 1, 0), (21, 2, 0)], (7, 54, 36, 3, [1, 6])),
  (36, [(2, 1, 0)], (6, 0, 0, 0, []))])
/-- 69: LastAwake.place(II)I -/
def mb69 : Nat × Nat × List Bk := (5, 1, [(0, [(25, 0, 0), (180, 700, 0), (180, 600, 0), (58, 3, 0), (21, 1, 0), (2, 0, 0), (2, 1, 0)], (7, 103, 14, 3, [0, 0])),
  (14, [], (2, 25, 17, 0, [])),
  (17, [(25, 3, 0), (21, 2, 0)], (7, 16, 22, 2, [1, 1])),
  (22, [], (2, 32, 25, 1, [])),
  (25, [(25, 0, 0), (2, -2, 0)], (7, 105, 31, 2, [1, 7])),
  (31, [], (6, 0, 0, 0, [])),
  (32, [(21, 1, 0)], (2, 43, 36, 1, [])),
  (36, [(25, 3, 0), (180, 102, 0)], (1, 47, 0, 0, [])),
  (43, [(25, 3, 0), (180, 103, 0)], (0, 47, 0, 0, [])),
  (47, [(54, 4, 0), (21, 1, 0)], (2, 61, 53, 1, [])),
  (53, [(25, 3, 0), (21, 2, 0)], (7, 17, 58, 2, [1, 1])),
  (58, [], (1, 66, 0, 0, [])),
  (61, [(25, 3, 0), (21, 2, 0)], (7, 18, 66, 2, [1, 1])),
  (66, [(21, 4, 0)], (6, 0, 0, 0, []))])
/-- 70: LastAwake.things(II)I -/
def mb70 : Nat × Nat × List Bk := (5, 1, [(0, [(25, 0, 0), (180, 700, 0), (180, 600, 0), (58, 3, 0), (25, 3, 0), (21, 1, 0)], (7, 16, 13, 2, [1, 1])),
  (13, [], (2, 26, 16, 0, [])),
  (16, [(21, 2, 0), (2, 0, 0), (2, 9, 0)], (7, 103, 23, 3, [0, 0])),
  (23, [], (2, 33, 26, 1, [])),
  (26, [(25, 0, 0), (2, -2, 0)], (7, 105, 32, 2, [1, 7])),
  (32, [], (6, 0, 0, 0, [])),
  (33, [(25, 3, 0), (180, 106, 0), (21, 1, 0), (46, 0, 0), (54, 4, 0), (25, 3, 0), (21, 1, 0), (21, 2, 0)], (7, 19, 47, 3, [1, 1])),
  (47, [(21, 4, 0)], (6, 0, 0, 0, []))])
/-- 71: LastAwake.moon(I)I -/
def mb71 : Nat × Nat × List Bk := (3, 1, [(0, [(21, 1, 0), (2, 0, 0), (2, 127, 0)], (7, 103, 7, 3, [0, 0])),
  (7, [], (2, 17, 10, 1, [])),
  (10, [(25, 0, 0), (2, -2, 0)], (7, 105, 16, 2, [1, 7])),
  (16, [], (6, 0, 0, 0, [])),
  (17, [(25, 0, 0), (180, 700, 0), (180, 600, 0), (180, 104, 0), (54, 2, 0), (25, 0, 0), (180, 700, 0), (180, 600, 0), (21, 1, 0)], (7, 20, 39, 2, [1, 1])),
  (39, [(21, 2, 0)], (6, 0, 0, 0, []))])
/-- 72: LastAwake.cord(I)I -/
def mb72 : Nat × Nat × List Bk := (3, 1, [(0, [(21, 1, 0), (2, 0, 0), (2, 1, 0)], (7, 103, 6, 3, [0, 0])),
  (6, [], (2, 16, 9, 1, [])),
  (9, [(25, 0, 0), (2, -2, 0)], (7, 105, 15, 2, [1, 7])),
  (15, [], (6, 0, 0, 0, [])),
  (16, [(25, 0, 0), (180, 700, 0), (180, 600, 0), (180, 105, 0), (54, 2, 0), (25, 0, 0), (180, 700, 0), (180, 600, 0), (21, 1, 0), (181, 105, 0), (21, 2, 0)], (6, 0, 0, 0, []))])
/-- 73: LastAwake.sleeper(IIIII)I -/
def mb73 : Nat × Nat × List Bk := (6, 1, [(0, [(2, 0, 0), (21, 1, 0)], (7, 104, 5, 2, [0, 0])),
  (5, [], (2, 42, 8, 0, [])),
  (8, [(2, 1, 0), (21, 2, 0)], (7, 104, 13, 2, [0, 0])),
  (13, [], (2, 42, 16, 0, [])),
  (16, [(2, 2, 0), (21, 3, 0)], (7, 104, 21, 2, [0, 0])),
  (21, [], (2, 42, 24, 0, [])),
  (24, [(2, 3, 0), (21, 4, 0)], (7, 104, 30, 2, [0, 0])),
  (30, [], (2, 42, 33, 0, [])),
  (33, [(2, 4, 0), (21, 5, 0)], (7, 104, 39, 2, [0, 0])),
  (39, [], (2, 49, 42, 1, [])),
  (42, [(25, 0, 0), (2, -2, 0)], (7, 105, 48, 2, [1, 7])),
  (48, [], (6, 0, 0, 0, [])),
  (49, [(25, 0, 0), (180, 700, 0), (180, 601, 0), (180, 1, 0), (2, 4, 0)], (3, 68, 63, 2, [])),
  (63, [(25, 0, 0)], (7, 107, 67, 1, [1, 7])),
  (67, [], (6, 0, 0, 0, [])),
  (68, [(25, 0, 0), (180, 700, 0), (180, 601, 0), (21, 1, 0), (21, 2, 0), (21, 3, 0), (21, 4, 0), (21, 5, 0)], (7, 4, 85, 6, [1, 0])),
  (85, [], (6, 0, 0, 0, []))])
/-- 74: LastAwake.become(III)I -/
def mb74 : Nat × Nat × List Bk := (6, 1, [(0, [(25, 0, 0), (180, 700, 0), (180, 601, 0), (21, 1, 0)], (7, 3, 11, 2, [1, 0])),
  (11, [], (2, 31, 14, 0, [])),
  (14, [(21, 2, 0), (2, 0, 0), (2, 5, 0)], (7, 103, 20, 3, [0, 0])),
  (20, [], (2, 31, 23, 0, [])),
  (23, [(21, 2, 0), (21, 3, 0)], (7, 104, 28, 2, [0, 0])),
  (28, [], (2, 38, 31, 1, [])),
  (31, [(25, 0, 0), (2, -10, 0)], (7, 105, 37, 2, [1, 7])),
  (37, [], (6, 0, 0, 0, [])),
  (38, [(25, 0, 0), (180, 700, 0), (180, 601, 0), (180, 0, 0), (21, 1, 0), (50, 0, 0), (180, 500, 0), (58, 4, 0), (25, 4, 0), (21, 2, 0), (46, 0, 0), (54, 5, 0), (25, 4, 0), (21, 2, 0), (21, 3, 0), (79, 0, 0), (21, 5, 0)], (6, 0, 0, 0, []))])
/-- 75: LastAwake.type(I)I -/
def mb75 : Nat × Nat × List Bk := (2, 1, [(0, [(21, 1, 0), (2, 0, 0), (2, 127, 0)], (7, 103, 7, 3, [0, 0])),
  (7, [], (2, 17, 10, 1, [])),
  (10, [(25, 0, 0), (2, -2, 0)], (7, 105, 16, 2, [1, 7])),
  (16, [], (6, 0, 0, 0, [])),
  (17, [(25, 0, 0), (180, 703, 0), (180, 400, 0), (2, 150, 0)], (3, 35, 30, 2, [])),
  (30, [(25, 0, 0)], (7, 107, 34, 1, [1, 7])),
  (34, [], (6, 0, 0, 0, [])),
  (35, [(25, 0, 0), (180, 703, 0), (21, 1, 0)], (7, 37, 43, 2, [1, 4])),
  (43, [(25, 0, 0), (180, 703, 0), (180, 400, 0)], (6, 0, 0, 0, []))])
/-- 76: LastAwake.clear()I -/
def mb76 : Nat × Nat × List Bk := (2, 1, [(0, [(25, 0, 0), (180, 703, 0), (180, 400, 0), (54, 1, 0), (25, 0, 0), (180, 703, 0), (2, 0, 0), (181, 400, 0), (21, 1, 0)], (6, 0, 0, 0, []))])
/-- 77: LastAwake.read()I -/
def mb77 : Nat × Nat × List Bk := (2, 1, [(0, [(25, 0, 0), (180, 703, 0), (25, 0, 0), (180, 701, 0)], (7, 38, 11, 2, [1, 4])),
  (11, [(54, 1, 0), (21, 1, 0)], (2, 27, 16, 2, [])),
  (16, [(25, 0, 0), (180, 700, 0), (25, 0, 0), (180, 701, 0)], (7, 55, 27, 2, [1, 6])),
  (27, [(21, 1, 0)], (6, 0, 0, 0, []))])
/-- 78: LastAwake.pass(I)I -/
def mb78 : Nat × Nat × List Bk := (4, 1, [(0, [(21, 1, 0), (2, 1, 0), (2, 30, 0)], (7, 103, 7, 3, [0, 0])),
  (7, [], (2, 17, 10, 1, [])),
  (10, [(25, 0, 0), (2, -2, 0)], (7, 105, 16, 2, [1, 7])),
  (16, [], (6, 0, 0, 0, [])),
  (17, [(2, 0, 0), (54, 2, 0), (2, 0, 0), (54, 3, 0)], (0, 21, 0, 0, [])),
  (21, [(21, 3, 0), (21, 1, 0)], (3, 46, 26, 3, [])),
  (26, [(25, 0, 0), (180, 700, 0)], (7, 57, 33, 1, [1, 6])),
  (33, [(2, -1, 0)], (3, 40, 37, 0, [])),
  (37, [(132, 2, 1)], (0, 40, 0, 0, [])),
  (40, [(132, 3, 1)], (1, 21, 0, 0, [])),
  (46, [(21, 2, 0)], (6, 0, 0, 0, []))])
/-- 79: LastAwake.undo()I -/
def mb79 : Nat × Nat × List Bk := (1, 1, [(0, [(25, 0, 0), (180, 700, 0), (180, 601, 0), (180, 3, 0)], (2, 18, 13, 1, [])),
  (13, [(25, 0, 0)], (7, 106, 17, 1, [1, 7])),
  (17, [], (6, 0, 0, 0, [])),
  (18, [(25, 0, 0), (180, 700, 0), (180, 601, 0)], (7, 10, 28, 1, [1, 0])),
  (28, [(2, 1, 0)], (6, 0, 0, 0, []))])
/-- 80: LastAwake.about(II)I -/
def mb80 : Nat × Nat × List Bk := (4, 1, [(0, [(25, 0, 0), (180, 700, 0), (180, 601, 0), (58, 3, 0), (25, 3, 0), (21, 1, 0)], (7, 3, 13, 2, [1, 0])),
  (13, [], (2, 25, 16, 0, [])),
  (16, [(21, 2, 0), (2, 0, 0), (2, 3, 0)], (7, 103, 22, 3, [0, 0])),
  (22, [], (2, 32, 25, 1, [])),
  (25, [(25, 0, 0), (2, -100000, 0)], (7, 105, 31, 2, [1, 7])),
  (31, [], (6, 0, 0, 0, [])),
  (32, [(21, 2, 0)], (5, 100, 0, 0, [60, 73, 86])),
  (60, [(25, 3, 0), (180, 0, 0), (21, 1, 0), (50, 0, 0), (180, 500, 0), (2, 6, 0), (46, 0, 0)], (6, 0, 0, 0, [])),
  (73, [(25, 3, 0), (180, 0, 0), (21, 1, 0), (50, 0, 0), (180, 500, 0), (2, 7, 0), (46, 0, 0)], (6, 0, 0, 0, [])),
  (86, [(25, 3, 0), (180, 0, 0), (21, 1, 0), (50, 0, 0), (25, 3, 0)], (7, 5, 96, 1, [1, 0])),
  (96, [], (7, 50, 99, 2, [1, 5])),
  (99, [], (6, 0, 0, 0, [])),
  (100, [(25, 3, 0), (21, 1, 0)], (7, 7, 105, 2, [1, 0])),
  (105, [], (6, 0, 0, 0, []))])
/-- 81: LastAwake.way(II)I -/
def mb81 : Nat × Nat × List Bk := (3, 1, [(0, [(25, 0, 0), (180, 700, 0), (180, 600, 0), (21, 1, 0)], (7, 16, 11, 2, [1, 1])),
  (11, [], (2, 28, 14, 0, [])),
  (14, [(25, 0, 0), (180, 700, 0), (180, 600, 0), (21, 2, 0)], (7, 16, 25, 2, [1, 1])),
  (25, [], (2, 35, 28, 1, [])),
  (28, [(25, 0, 0), (2, -2, 0)], (7, 105, 34, 2, [1, 7])),
  (34, [], (6, 0, 0, 0, [])),
  (35, [(25, 0, 0), (180, 700, 0), (180, 600, 0), (21, 1, 0), (21, 2, 0)], (7, 22, 47, 3, [1, 1])),
  (47, [], (6, 0, 0, 0, []))])
/-- 82: LastAwake.bed()I -/
def mb82 : Nat × Nat × List Bk := (1, 1, [(0, [(25, 0, 0), (180, 700, 0), (180, 600, 0)], (7, 23, 10, 1, [1, 1])),
  (10, [], (6, 0, 0, 0, []))])
/-- 83: LastAwake.tonight(I)I -/
def mb83 : Nat × Nat × List Bk := (3, 1, [(0, [(21, 1, 0), (2, 0, 0), (2, 2, 0)], (7, 103, 6, 3, [0, 0])),
  (6, [], (2, 16, 9, 1, [])),
  (9, [(25, 0, 0), (2, -2, 0)], (7, 105, 15, 2, [1, 7])),
  (15, [], (6, 0, 0, 0, [])),
  (16, [(25, 0, 0), (180, 700, 0)], (7, 56, 23, 1, [1, 6])),
  (23, [(25, 0, 0), (180, 700, 0), (180, 603, 0), (58, 2, 0), (21, 1, 0)], (8, 70, 0, 0, [60, 65])),
  (60, [(25, 2, 0), (180, 200, 0)], (6, 0, 0, 0, [])),
  (65, [(25, 2, 0), (180, 201, 0)], (6, 0, 0, 0, [])),
  (70, [(25, 2, 0), (180, 202, 0)], (2, 81, 77, 0, [])),
  (77, [(2, 1, 0)], (1, 82, 0, 0, [])),
  (81, [(2, 0, 0)], (0, 82, 0, 0, [])),
  (82, [], (6, 0, 0, 0, []))])
/-- 84: LastAwake.cost(I)I -/
def mb84 : Nat × Nat × List Bk := (2, 1, [(0, [(25, 0, 0), (180, 700, 0), (180, 601, 0), (21, 1, 0)], (7, 3, 11, 2, [1, 0])),
  (11, [], (2, 21, 14, 1, [])),
  (14, [(25, 0, 0), (2, -2, 0)], (7, 105, 20, 2, [1, 7])),
  (20, [], (6, 0, 0, 0, [])),
  (21, [(25, 0, 0), (180, 700, 0)], (7, 56, 28, 1, [1, 6])),
  (28, [(25, 0, 0), (180, 700, 0), (21, 1, 0)], (7, 58, 36, 2, [1, 6])),
  (36, [], (6, 0, 0, 0, []))])
/-- 85: LastAwake.foretold(III)I -/
def mb85 : Nat × Nat × List Bk := (5, 1, [(0, [(21, 1, 0), (2, 0, 0), (2, 60, 0)], (7, 103, 7, 3, [0, 0])),
  (7, [], (2, 38, 10, 0, [])),
  (10, [(21, 2, 0), (2, -1, 0)], (3, 29, 15, 0, [])),
  (15, [(25, 0, 0), (180, 700, 0), (180, 601, 0), (21, 2, 0)], (7, 3, 26, 2, [1, 0])),
  (26, [], (2, 38, 29, 0, [])),
  (29, [(21, 3, 0), (2, 0, 0), (2, 1, 0)], (7, 103, 35, 3, [0, 0])),
  (35, [], (2, 45, 38, 1, [])),
  (38, [(25, 0, 0), (2, -2, 0)], (7, 105, 44, 2, [1, 7])),
  (44, [], (6, 0, 0, 0, [])),
  (45, [(25, 0, 0), (180, 701, 0), (25, 0, 0), (180, 700, 0)], (7, 55, 56, 2, [1, 6])),
  (56, [(2, 0, 0), (54, 4, 0)], (0, 59, 0, 0, [])),
  (59, [(21, 4, 0), (21, 1, 0)], (3, 79, 65, 3, [])),
  (65, [(25, 0, 0), (180, 701, 0)], (7, 57, 72, 1, [1, 6])),
  (72, [(87, 0, 0), (132, 4, 1)], (1, 59, 0, 0, [])),
  (79, [(21, 3, 0)], (2, 88, 83, 1, [])),
  (83, [(2, 6, 0)], (1, 90, 0, 0, [])),
  (88, [(2, 7, 0)], (0, 90, 0, 0, [])),
  (90, [(54, 4, 0), (21, 2, 0), (2, -1, 0)], (3, 110, 97, 1, [])),
  (97, [(25, 0, 0), (180, 701, 0), (180, 601, 0), (21, 4, 0)], (7, 6, 109, 2, [1, 0])),
  (109, [], (6, 0, 0, 0, [])),
  (110, [(25, 0, 0), (180, 701, 0), (180, 601, 0), (180, 0, 0), (21, 2, 0), (50, 0, 0), (180, 500, 0), (21, 4, 0), (46, 0, 0)], (6, 0, 0, 0, []))])
/-- 86: LastAwake.worth(I)I -/
def mb86 : Nat × Nat × List Bk := (4, 1, [(0, [(21, 1, 0), (2, 0, 0), (2, 9999, 0)], (7, 103, 8, 3, [0, 0])),
  (8, [], (2, 18, 11, 1, [])),
  (11, [(25, 0, 0), (2, -2, 0)], (7, 105, 17, 2, [1, 7])),
  (17, [], (6, 0, 0, 0, [])),
  (18, [(25, 0, 0), (180, 701, 0), (25, 0, 0), (180, 700, 0)], (7, 55, 29, 2, [1, 6])),
  (29, [(2, 0, 0), (54, 2, 0), (2, 0, 0), (54, 3, 0)], (0, 33, 0, 0, [])),
  (33, [(21, 3, 0), (2, 60, 0)], (3, 70, 39, 4, [])),
  (39, [(21, 2, 0), (21, 1, 0)], (3, 46, 44, 2, [])),
  (44, [(21, 3, 0)], (6, 0, 0, 0, [])),
  (46, [(25, 0, 0), (180, 701, 0)], (7, 57, 53, 1, [1, 6])),
  (53, [(87, 0, 0), (21, 2, 0), (25, 0, 0), (180, 701, 0)], (7, 59, 62, 1, [1, 6])),
  (62, [(96, 0, 0), (54, 2, 0), (132, 3, 1)], (1, 33, 0, 0, [])),
  (70, [(2, -1, 0)], (6, 0, 0, 0, []))])
/-- 87: LastAwake.reading(I)I -/
def mb87 : Nat × Nat × List Bk := (6, 1, [(0, [(25, 0, 0), (180, 700, 0), (180, 601, 0), (21, 1, 0)], (7, 3, 11, 2, [1, 0])),
  (11, [], (2, 21, 14, 1, [])),
  (14, [(25, 0, 0), (2, -2, 0)], (7, 105, 20, 2, [1, 7])),
  (20, [], (6, 0, 0, 0, [])),
  (21, [(25, 0, 0), (180, 701, 0), (25, 0, 0), (180, 700, 0)], (7, 55, 32, 2, [1, 6])),
  (32, [(2, 0, 0), (54, 2, 0), (25, 0, 0), (21, 1, 0), (2, 0, 0)], (7, 109, 40, 3, [1, 7])),
  (40, [(54, 3, 0), (2, 1, 0), (54, 4, 0)], (0, 44, 0, 0, [])),
  (44, [(21, 4, 0), (2, 120, 0)], (3, 78, 51, 4, [])),
  (51, [(25, 0, 0), (21, 1, 0), (21, 4, 0)], (7, 109, 58, 3, [1, 7])),
  (58, [(54, 5, 0), (21, 5, 0), (21, 3, 0)], (3, 72, 66, 5, [])),
  (66, [(21, 5, 0), (54, 3, 0), (21, 4, 0), (54, 2, 0)], (0, 72, 0, 0, [])),
  (72, [(132, 4, 1)], (1, 44, 0, 0, [])),
  (78, [(21, 2, 0)], (6, 0, 0, 0, []))])
/-- 88: LastAwake.waiting(III)I -/
def mb88 : Nat × Nat × List Bk := (8, 1, [(0, [(25, 0, 0), (180, 700, 0), (180, 601, 0), (21, 1, 0)], (7, 3, 11, 2, [1, 0])),
  (11, [], (2, 42, 14, 0, [])),
  (14, [(25, 0, 0), (180, 700, 0), (180, 601, 0), (21, 2, 0)], (7, 3, 25, 2, [1, 0])),
  (25, [], (2, 42, 28, 0, [])),
  (28, [(21, 1, 0), (21, 2, 0)], (3, 42, 33, 0, [])),
  (33, [(21, 3, 0), (2, 0, 0), (2, 1, 0)], (7, 103, 39, 3, [0, 0])),
  (39, [], (2, 49, 42, 1, [])),
  (42, [(25, 0, 0), (2, -10, 0)], (7, 105, 48, 2, [1, 7])),
  (48, [], (6, 0, 0, 0, [])),
  (49, [(25, 0, 0), (21, 1, 0), (21, 2, 0)], (7, 110, 55, 3, [1, 7])),
  (55, [(2, 0, 0), (54, 4, 0), (2, -1, 0), (54, 5, 0), (2, 0, 0), (54, 6, 0)], (0, 64, 0, 0, [])),
  (64, [(21, 6, 0), (2, 7, 0)], (3, 127, 71, 3, [])),
  (71, [(2, 0, 0), (54, 7, 0)], (0, 74, 0, 0, [])),
  (74, [(21, 7, 0), (2, 7, 0)], (3, 121, 81, 3, [])),
  (81, [(25, 0, 0), (21, 6, 0), (21, 7, 0)], (7, 111, 89, 3, [1, 7])),
  (89, [], (2, 115, 92, 0, [])),
  (92, [(21, 4, 0)], (2, 108, 97, 1, [])),
  (97, [(2, 10, 0), (21, 6, 0), (104, 0, 0), (21, 7, 0), (96, 0, 0)], (1, 110, 0, 0, [])),
  (108, [(21, 5, 0)], (0, 110, 0, 0, [])),
  (110, [(54, 5, 0), (132, 4, 1)], (0, 115, 0, 0, [])),
  (115, [(132, 7, 1)], (1, 74, 0, 0, [])),
  (121, [(132, 6, 1)], (1, 64, 0, 0, [])),
  (127, [(21, 3, 0)], (2, 136, 131, 1, [])),
  (131, [(21, 4, 0)], (1, 138, 0, 0, [])),
  (136, [(21, 5, 0)], (0, 138, 0, 0, [])),
  (138, [], (6, 0, 0, 0, []))])
/-- 89: LastAwake.turns(II)I -/
def mb89 : Nat × Nat × List Bk := (4, 1, [(0, [(21, 1, 0), (2, 0, 0), (2, 6, 0)], (7, 103, 7, 3, [0, 0])),
  (7, [], (2, 15, 10, 0, [])),
  (10, [(21, 2, 0), (2, -1, 0)], (3, 22, 15, 3, [])),
  (15, [(25, 0, 0), (2, -10, 0)], (7, 105, 21, 2, [1, 7])),
  (21, [], (6, 0, 0, 0, [])),
  (22, [(25, 0, 0), (180, 700, 0), (180, 601, 0), (180, 1, 0)], (2, 37, 35, 1, [])),
  (35, [(2, -1, 0)], (6, 0, 0, 0, [])),
  (37, [(21, 2, 0), (21, 1, 0)], (3, 45, 42, 2, [])),
  (42, [(2, -5, 0)], (6, 0, 0, 0, [])),
  (45, [(25, 0, 0), (180, 700, 0), (180, 600, 0)], (7, 21, 55, 1, [1, 1])),
  (55, [(25, 0, 0), (180, 700, 0), (21, 1, 0)], (7, 62, 63, 2, [1, 6])),
  (63, [(54, 3, 0), (21, 2, 0), (2, -1, 0)], (3, 73, 69, 1, [])),
  (69, [(21, 3, 0)], (1, 83, 0, 0, [])),
  (73, [(25, 0, 0), (180, 700, 0), (21, 1, 0), (21, 3, 0), (21, 2, 0)], (7, 66, 83, 4, [1, 6])),
  (83, [], (6, 0, 0, 0, []))])
/-- 90: LastAwake.shoe(III)I -/
def mb90 : Nat × Nat × List Bk := (11, 1, [(0, [(21, 1, 0), (2, 0, 0), (2, 10, 0)], (7, 103, 7, 3, [0, 0])),
  (7, [], (2, 29, 10, 0, [])),
  (10, [(21, 2, 0), (2, 0, 0), (2, 9, 0)], (7, 103, 17, 3, [0, 0])),
  (17, [], (2, 29, 20, 0, [])),
  (20, [(21, 3, 0), (2, 0, 0), (2, 1, 0)], (7, 103, 26, 3, [0, 0])),
  (26, [], (2, 36, 29, 1, [])),
  (29, [(25, 0, 0), (2, -2, 0)], (7, 105, 35, 2, [1, 7])),
  (35, [], (6, 0, 0, 0, [])),
  (36, [(9, 1, 0), (55, 4, 0), (9, 1, 0), (55, 6, 0), (9, 0, 0), (55, 8, 0), (2, 0, 0), (54, 10, 0)], (0, 48, 0, 0, [])),
  (48, [(21, 10, 0), (21, 2, 0)], (3, 89, 54, 3, [])),
  (54, [(9, 10, 0), (22, 8, 0), (22, 6, 0), (97, 0, 0), (105, 0, 0), (55, 8, 0), (22, 6, 0), (2, 10, 0), (21, 1, 0), (100, 0, 0), (133, 0, 0), (105, 0, 0), (55, 6, 0), (22, 4, 0), (9, 10, 0), (105, 0, 0), (55, 4, 0), (132, 10, 1)], (1, 48, 0, 0, [])),
  (89, [(25, 0, 0), (21, 3, 0)], (2, 102, 94, 1, [])),
  (94, [(22, 4, 0), (22, 6, 0), (101, 0, 0)], (1, 104, 0, 0, [])),
  (102, [(22, 8, 0)], (0, 104, 0, 0, [])),
  (104, [(22, 4, 0)], (7, 113, 109, 3, [1, 7])),
  (109, [(2, 1, 0)], (6, 0, 0, 0, []))])
/-- 91: LastAwake.clap(III)I -/
def mb91 : Nat × Nat × List Bk := (9, 1, [(0, [(21, 1, 0), (2, 0, 0), (2, 10, 0)], (7, 103, 7, 3, [0, 0])),
  (7, [], (2, 30, 10, 0, [])),
  (10, [(21, 2, 0), (2, 0, 0), (2, 10, 0)], (7, 103, 17, 3, [0, 0])),
  (17, [], (2, 30, 20, 0, [])),
  (20, [(21, 3, 0), (2, 0, 0), (2, 8, 0)], (7, 103, 27, 3, [0, 0])),
  (27, [], (2, 37, 30, 1, [])),
  (30, [(25, 0, 0), (2, -2, 0)], (7, 105, 36, 2, [1, 7])),
  (36, [], (6, 0, 0, 0, [])),
  (37, [(9, 1, 0), (55, 4, 0), (9, 1, 0), (55, 6, 0), (2, 0, 0), (54, 8, 0)], (0, 46, 0, 0, [])),
  (46, [(21, 8, 0), (21, 3, 0)], (3, 94, 52, 3, [])),
  (52, [(22, 6, 0), (22, 4, 0), (21, 1, 0)], (7, 112, 60, 3, [0, 0])),
  (60, [(55, 6, 0), (22, 4, 0), (9, 10, 0), (105, 0, 0), (55, 4, 0), (22, 6, 0), (22, 4, 0), (21, 2, 0)], (7, 112, 78, 3, [0, 0])),
  (78, [(55, 6, 0), (22, 4, 0), (9, 10, 0), (105, 0, 0), (55, 4, 0), (132, 8, 1)], (1, 46, 0, 0, [])),
  (94, [(25, 0, 0), (22, 6, 0), (22, 4, 0)], (7, 113, 102, 3, [1, 7])),
  (102, [(2, 1, 0)], (6, 0, 0, 0, []))])
/-- 92: LastAwake.asleep(IIIII)I -/
def mb92 : Nat × Nat × List Bk := (12, 1, [(0, [(21, 1, 0), (2, 0, 0), (2, 10, 0)], (7, 103, 7, 3, [0, 0])),
  (7, [], (2, 56, 10, 0, [])),
  (10, [(21, 2, 0), (2, 0, 0), (2, 10, 0)], (7, 103, 17, 3, [0, 0])),
  (17, [], (2, 56, 20, 0, [])),
  (20, [(21, 3, 0), (2, 0, 0), (2, 10, 0)], (7, 103, 27, 3, [0, 0])),
  (27, [], (2, 56, 30, 0, [])),
  (30, [(21, 5, 0), (2, 0, 0), (2, 6, 0)], (7, 103, 38, 3, [0, 0])),
  (38, [], (2, 56, 41, 0, [])),
  (41, [(21, 4, 0), (2, 0, 0), (2, 1, 0), (21, 5, 0), (120, 0, 0), (2, 1, 0), (100, 0, 0)], (7, 103, 53, 3, [0, 0])),
  (53, [], (2, 63, 56, 1, [])),
  (56, [(25, 0, 0), (2, -2, 0)], (7, 105, 62, 2, [1, 7])),
  (62, [], (6, 0, 0, 0, [])),
  (63, [(21, 1, 0), (133, 0, 0), (55, 6, 0), (2, 10, 0), (21, 1, 0), (100, 0, 0), (133, 0, 0), (55, 8, 0), (2, 0, 0), (54, 10, 0)], (0, 77, 0, 0, [])),
  (77, [(21, 10, 0), (21, 5, 0)], (3, 148, 84, 3, [])),
  (84, [(21, 4, 0), (21, 10, 0), (122, 0, 0), (2, 1, 0), (126, 0, 0), (2, 1, 0)], (3, 99, 95, 1, [])),
  (95, [(2, 1, 0)], (1, 100, 0, 0, [])),
  (99, [(2, 0, 0)], (0, 100, 0, 0, [])),
  (100, [(54, 11, 0), (22, 6, 0), (21, 11, 0)], (2, 114, 109, 0, [])),
  (109, [(21, 2, 0), (133, 0, 0)], (1, 119, 0, 0, [])),
  (114, [(2, 10, 0), (21, 2, 0), (100, 0, 0), (133, 0, 0)], (0, 119, 0, 0, [])),
  (119, [(105, 0, 0), (55, 6, 0), (22, 8, 0), (21, 11, 0)], (2, 134, 129, 0, [])),
  (129, [(21, 3, 0), (133, 0, 0)], (1, 139, 0, 0, [])),
  (134, [(2, 10, 0), (21, 3, 0), (100, 0, 0), (133, 0, 0)], (0, 139, 0, 0, [])),
  (139, [(105, 0, 0), (55, 8, 0), (132, 10, 1)], (1, 77, 0, 0, [])),
  (148, [(22, 6, 0), (22, 8, 0), (97, 0, 0), (9, 0, 0), (148, 0, 0)], (2, 163, 158, 1, [])),
  (158, [(25, 0, 0)], (7, 106, 162, 1, [1, 7])),
  (162, [], (6, 0, 0, 0, [])),
  (163, [(25, 0, 0), (22, 6, 0), (22, 6, 0), (22, 8, 0), (97, 0, 0)], (7, 113, 174, 3, [1, 7])),
  (174, [(2, 1, 0)], (6, 0, 0, 0, []))])
/-- 93: LastAwake.note(II)I -/
def mb93 : Nat × Nat × List Bk := (3, 1, [(0, [(25, 0, 0), (180, 700, 0), (180, 601, 0), (21, 1, 0)], (7, 3, 11, 2, [1, 0])),
  (11, [], (2, 36, 14, 0, [])),
  (14, [(21, 2, 0), (2, 0, 0), (2, 1, 0), (25, 0, 0), (180, 700, 0), (180, 601, 0), (180, 1, 0), (120, 0, 0), (2, 1, 0), (100, 0, 0)], (7, 103, 33, 3, [0, 0])),
  (33, [], (2, 43, 36, 1, [])),
  (36, [(25, 0, 0), (2, -2, 0)], (7, 105, 42, 2, [1, 7])),
  (42, [], (6, 0, 0, 0, [])),
  (43, [(25, 0, 0), (180, 700, 0), (180, 602, 0), (180, 300, 0), (2, 8, 0)], (3, 63, 58, 2, [])),
  (58, [(25, 0, 0)], (7, 107, 62, 1, [1, 7])),
  (62, [], (6, 0, 0, 0, [])),
  (63, [(25, 0, 0), (180, 700, 0), (180, 602, 0), (21, 1, 0), (21, 2, 0)], (7, 32, 75, 3, [1, 3])),
  (75, [], (6, 0, 0, 0, []))])
/-- 94: LastAwake.burn()I -/
def mb94 : Nat × Nat × List Bk := (2, 1, [(0, [(25, 0, 0), (180, 700, 0), (180, 602, 0), (180, 300, 0), (54, 1, 0), (25, 0, 0), (180, 700, 0), (180, 602, 0), (2, 0, 0), (181, 300, 0), (21, 1, 0)], (6, 0, 0, 0, []))])
/-- 95: LastAwake.who(I)I -/
def mb95 : Nat × Nat × List Bk := (2, 1, [(0, [(21, 1, 0), (2, 0, 0), (2, 4, 0)], (7, 103, 6, 3, [0, 0])),
  (6, [], (2, 16, 9, 1, [])),
  (9, [(25, 0, 0), (2, -2, 0)], (7, 105, 15, 2, [1, 7])),
  (15, [], (6, 0, 0, 0, [])),
  (16, [(25, 0, 0), (180, 700, 0), (180, 602, 0), (21, 1, 0), (25, 0, 0), (180, 700, 0), (180, 601, 0), (180, 1, 0)], (7, 33, 37, 3, [1, 3])),
  (37, [], (6, 0, 0, 0, []))])
/-- 96: LastAwake.drawn(III)I -/
def mb96 : Nat × Nat × List Bk := (8, 1, [(0, [(21, 1, 0), (2, 0, 0), (2, 999999, 0)], (7, 103, 7, 3, [0, 0])),
  (7, [], (2, 34, 10, 0, [])),
  (10, [(21, 2, 0), (2, 0, 0), (2, 60, 0)], (7, 103, 17, 3, [0, 0])),
  (17, [], (2, 34, 20, 0, [])),
  (20, [(25, 0, 0), (180, 700, 0), (180, 601, 0), (21, 3, 0)], (7, 3, 31, 2, [1, 0])),
  (31, [], (2, 41, 34, 1, [])),
  (34, [(25, 0, 0), (2, -2, 0)], (7, 105, 40, 2, [1, 7])),
  (40, [], (6, 0, 0, 0, [])),
  (41, [(25, 0, 0), (180, 701, 0), (25, 0, 0), (180, 700, 0)], (7, 55, 52, 2, [1, 6])),
  (52, [(25, 0, 0), (180, 701, 0), (180, 601, 0), (180, 0, 0), (21, 3, 0), (50, 0, 0), (180, 500, 0), (2, 6, 0), (46, 0, 0), (54, 4, 0), (21, 1, 0), (133, 0, 0), (55, 5, 0), (2, 0, 0), (54, 7, 0)], (0, 79, 0, 0, [])),
  (79, [(21, 7, 0), (21, 2, 0)], (3, 113, 85, 3, [])),
  (85, [(25, 0, 0), (180, 701, 0), (180, 601, 0), (22, 5, 0)], (7, 11, 97, 2, [1, 0])),
  (97, [(55, 5, 0), (25, 0, 0), (180, 701, 0)], (7, 57, 106, 1, [1, 6])),
  (106, [(87, 0, 0), (132, 7, 1)], (1, 79, 0, 0, [])),
  (113, [(25, 0, 0), (180, 701, 0), (180, 601, 0), (180, 0, 0), (21, 3, 0), (50, 0, 0), (180, 500, 0), (2, 6, 0), (46, 0, 0), (21, 4, 0), (100, 0, 0)], (6, 0, 0, 0, []))])
/-- 97: LastAwake.part(I)J -/
def mb97 : Nat × Nat × List Bk := (2, 2, [(0, [(21, 1, 0), (2, 0, 0), (2, 1, 0)], (7, 103, 6, 3, [0, 0])),
  (6, [], (2, 17, 9, 1, [])),
  (9, [(25, 0, 0), (2, -2, 0)], (7, 105, 15, 2, [1, 7])),
  (15, [(133, 0, 0)], (6, 0, 0, 0, [])),
  (17, [(21, 1, 0)], (2, 28, 21, 1, [])),
  (21, [(25, 0, 0), (180, 707, 0)], (1, 32, 0, 0, [])),
  (28, [(25, 0, 0), (180, 708, 0)], (0, 32, 0, 0, [])),
  (32, [], (6, 0, 0, 0, []))])
/-- 98: LastAwake.image(I)I -/
def mb98 : Nat × Nat × List Bk := (2, 1, [(0, [(21, 1, 0), (2, 0, 0), (2, 1, 0)], (7, 103, 6, 3, [0, 0])),
  (6, [], (2, 16, 9, 1, [])),
  (9, [(25, 0, 0), (2, -2, 0)], (7, 105, 15, 2, [1, 7])),
  (15, [], (6, 0, 0, 0, [])),
  (16, [(25, 0, 0), (180, 702, 0), (21, 1, 0), (50, 0, 0)], (4, 38, 25, 0, [])),
  (25, [(25, 0, 0), (180, 702, 0), (21, 1, 0), (187, 6, 0), (89, 0, 0)], (7, 53, 37, 1, [2, 0])),
  (37, [(83, 0, 0)], (0, 38, 0, 0, [])),
  (38, [(25, 0, 0), (180, 702, 0), (21, 1, 0), (50, 0, 0), (25, 0, 0), (180, 700, 0)], (7, 55, 51, 2, [1, 6])),
  (51, [(2, 1, 0)], (6, 0, 0, 0, []))])
/-- 99: LastAwake.from(I)I -/
def mb99 : Nat × Nat × List Bk := (2, 1, [(0, [(21, 1, 0), (2, 0, 0), (2, 1, 0)], (7, 103, 6, 3, [0, 0])),
  (6, [], (2, 16, 9, 1, [])),
  (9, [(25, 0, 0), (2, -2, 0)], (7, 105, 15, 2, [1, 7])),
  (15, [], (6, 0, 0, 0, [])),
  (16, [(25, 0, 0), (180, 702, 0), (21, 1, 0), (50, 0, 0)], (4, 30, 25, 0, [])),
  (25, [(25, 0, 0)], (7, 106, 29, 1, [1, 7])),
  (29, [], (6, 0, 0, 0, [])),
  (30, [(25, 0, 0), (180, 700, 0), (25, 0, 0), (180, 702, 0), (21, 1, 0), (50, 0, 0)], (7, 55, 43, 2, [1, 6])),
  (43, [(2, 1, 0)], (6, 0, 0, 0, []))])
/-- 100: LastAwake.status(I)I -/
def mb100 : Nat × Nat × List Bk := (2, 1, [(0, [(21, 1, 0), (2, 0, 0), (2, 2, 0)], (7, 103, 6, 3, [0, 0])),
  (6, [], (2, 15, 9, 1, [])),
  (9, [(25, 0, 0), (2, -1, 0)], (7, 105, 14, 2, [1, 7])),
  (14, [], (6, 0, 0, 0, [])),
  (15, [(25, 0, 0), (180, 704, 0), (21, 1, 0), (46, 0, 0)], (6, 0, 0, 0, []))])
/-- 101: LastAwake.count(I)I -/
def mb101 : Nat × Nat × List Bk := (2, 1, [(0, [(21, 1, 0), (2, 0, 0), (2, 10, 0)], (7, 103, 7, 3, [0, 0])),
  (7, [], (2, 17, 10, 1, [])),
  (10, [(25, 0, 0), (2, -2, 0)], (7, 105, 16, 2, [1, 7])),
  (16, [], (6, 0, 0, 0, [])),
  (17, [(25, 0, 0), (21, 1, 0)], (7, 108, 22, 2, [1, 7])),
  (22, [], (6, 0, 0, 0, []))])
/-- 102: LastAwake.digest()J -/
def mb102 : Nat × Nat × List Bk := (4, 2, [(0, [(9, 857, 0), (55, 1, 0), (2, 0, 0), (54, 3, 0)], (0, 6, 0, 0, [])),
  (6, [(21, 3, 0), (2, 10, 0)], (3, 31, 12, 4, [])),
  (12, [(9, 31, 0), (22, 1, 0), (105, 0, 0), (25, 0, 0), (21, 3, 0)], (7, 108, 22, 2, [1, 7])),
  (22, [(133, 0, 0), (97, 0, 0), (55, 1, 0), (132, 3, 1)], (1, 6, 0, 0, [])),
  (31, [(25, 0, 0), (180, 700, 0), (180, 600, 0), (22, 1, 0)], (7, 27, 42, 2, [1, 1])),
  (42, [(55, 1, 0), (25, 0, 0), (180, 700, 0), (180, 601, 0), (22, 1, 0)], (7, 12, 54, 2, [1, 0])),
  (54, [(55, 1, 0), (25, 0, 0), (180, 700, 0), (180, 602, 0), (22, 1, 0)], (7, 35, 66, 2, [1, 3])),
  (66, [(55, 1, 0), (9, 31, 0), (22, 1, 0), (105, 0, 0), (25, 0, 0), (180, 707, 0), (97, 0, 0), (55, 1, 0), (9, 31, 0), (22, 1, 0), (105, 0, 0), (25, 0, 0), (180, 708, 0), (97, 0, 0)], (6, 0, 0, 0, []))])
/-- 103: LastAwake.within(III)Z -/
def mb103 : Nat × Nat × List Bk := (3, 3, [(0, [(21, 0, 0), (21, 1, 0)], (3, 14, 5, 2, [])),
  (5, [(21, 0, 0), (21, 2, 0)], (3, 14, 10, 4, [])),
  (10, [(2, 1, 0)], (1, 15, 0, 0, [])),
  (14, [(2, 0, 0)], (0, 15, 0, 0, [])),
  (15, [], (6, 0, 0, 0, []))])
/-- 104: LastAwake.fitsTrait(II)Z -/
def mb104 : Nat × Nat × List Bk := (2, 3, [(0, [(21, 1, 0), (21, 0, 0), (2, 5, 0)], (3, 10, 6, 1, [])),
  (6, [(2, -1, 0)], (1, 11, 0, 0, [])),
  (10, [(2, 0, 0)], (0, 11, 0, 0, [])),
  (11, [(178, 1, 0), (21, 0, 0), (46, 0, 0)], (7, 103, 19, 3, [0, 0])),
  (19, [], (6, 0, 0, 0, []))])
/-- 105: LastAwake.bad(I)I -/
def mb105 : Nat × Nat × List Bk := (2, 1, [(0, [(25, 0, 0), (180, 704, 0), (2, 0, 0), (92, 0, 0), (46, 0, 0), (2, 1, 0), (96, 0, 0), (79, 0, 0), (21, 1, 0)], (6, 0, 0, 0, []))])
/-- 106: LastAwake.no()I -/
def mb106 : Nat × Nat × List Bk := (1, 1, [(0, [(25, 0, 0), (180, 704, 0), (2, 1, 0), (92, 0, 0), (46, 0, 0), (2, 1, 0), (96, 0, 0), (79, 0, 0), (2, -3, 0)], (6, 0, 0, 0, []))])
/-- 107: LastAwake.full()I -/
def mb107 : Nat × Nat × List Bk := (1, 1, [(0, [(25, 0, 0), (180, 704, 0), (2, 2, 0), (92, 0, 0), (46, 0, 0), (2, 1, 0), (96, 0, 0), (79, 0, 0), (2, -4, 0)], (6, 0, 0, 0, []))])
/-- 108: LastAwake.howMany(I)I -/
def mb108 : Nat × Nat × List Bk := (2, 1, [(0, [(21, 1, 0)], (5, 166, 0, 0, [56, 67, 78, 89, 100, 111, 122, 133, 144, 155])),
  (56, [(25, 0, 0), (180, 700, 0), (180, 600, 0), (180, 100, 0)], (6, 0, 0, 0, [])),
  (67, [(25, 0, 0), (180, 700, 0), (180, 600, 0), (180, 101, 0)], (6, 0, 0, 0, [])),
  (78, [(25, 0, 0), (180, 700, 0), (180, 600, 0), (180, 102, 0)], (6, 0, 0, 0, [])),
  (89, [(25, 0, 0), (180, 700, 0), (180, 600, 0), (180, 103, 0)], (6, 0, 0, 0, [])),
  (100, [(25, 0, 0), (180, 700, 0), (180, 600, 0), (180, 104, 0)], (6, 0, 0, 0, [])),
  (111, [(25, 0, 0), (180, 700, 0), (180, 600, 0), (180, 105, 0)], (6, 0, 0, 0, [])),
  (122, [(25, 0, 0), (180, 700, 0), (180, 601, 0), (180, 1, 0)], (6, 0, 0, 0, [])),
  (133, [(25, 0, 0), (180, 700, 0), (180, 602, 0), (180, 300, 0)], (6, 0, 0, 0, [])),
  (144, [(25, 0, 0), (180, 700, 0), (180, 601, 0), (180, 2, 0)], (6, 0, 0, 0, [])),
  (155, [(25, 0, 0), (180, 700, 0), (180, 601, 0), (180, 3, 0)], (6, 0, 0, 0, [])),
  (166, [(25, 0, 0), (180, 703, 0), (180, 400, 0)], (6, 0, 0, 0, []))])
/-- 109: LastAwake.joyOfReading(II)I -/
def mb109 : Nat × Nat × List Bk := (3, 1, [(0, [(25, 0, 0), (180, 701, 0), (180, 601, 0), (180, 0, 0), (21, 1, 0), (50, 0, 0), (180, 500, 0), (2, 1, 0), (21, 2, 0), (79, 0, 0), (25, 0, 0), (180, 701, 0)], (7, 56, 25, 1, [1, 6])),
  (25, [(2, 2, 0), (21, 2, 0), (25, 0, 0), (180, 701, 0), (180, 603, 0), (180, 200, 0), (210, 1, 0), (104, 0, 0), (25, 0, 0), (180, 701, 0), (21, 1, 0)], (7, 58, 49, 2, [1, 6])),
  (49, [(100, 0, 0)], (6, 0, 0, 0, []))])
/-- 110: LastAwake.fillCosts(II)V -/
def mb110 : Nat × Nat × List Bk := (5, 0, [(0, [(25, 0, 0), (180, 701, 0), (25, 0, 0), (180, 700, 0)], (7, 55, 11, 2, [1, 6])),
  (11, [(2, 0, 0), (54, 3, 0)], (0, 13, 0, 0, [])),
  (13, [(21, 3, 0), (2, 7, 0)], (3, 125, 19, 3, [])),
  (19, [(25, 0, 0), (180, 701, 0), (180, 601, 0), (180, 0, 0), (21, 1, 0), (50, 0, 0), (180, 500, 0), (2, 4, 0), (2, 10, 0), (21, 3, 0), (104, 0, 0), (79, 0, 0), (2, 0, 0), (54, 4, 0)], (0, 43, 0, 0, [])),
  (43, [(21, 4, 0), (2, 7, 0)], (3, 119, 50, 3, [])),
  (50, [(25, 0, 0), (180, 701, 0), (180, 601, 0), (180, 0, 0), (21, 2, 0), (50, 0, 0), (180, 500, 0), (2, 4, 0), (2, 10, 0), (21, 4, 0), (104, 0, 0), (79, 0, 0), (25, 0, 0), (180, 701, 0)], (7, 56, 79, 1, [1, 6])),
  (79, [(25, 0, 0), (180, 705, 0), (21, 3, 0), (50, 0, 0), (21, 4, 0), (25, 0, 0), (180, 701, 0), (21, 1, 0)], (7, 58, 95, 2, [1, 6])),
  (95, [(79, 0, 0), (25, 0, 0), (180, 706, 0), (21, 3, 0), (50, 0, 0), (21, 4, 0), (25, 0, 0), (180, 701, 0), (21, 2, 0)], (7, 58, 112, 2, [1, 6])),
  (112, [(79, 0, 0), (132, 4, 1)], (1, 43, 0, 0, [])),
  (119, [(132, 3, 1)], (1, 13, 0, 0, [])),
  (125, [], (6, 0, 0, 0, []))])
/-- 111: LastAwake.pairRests(II)Z -/
def mb111 : Nat × Nat × List Bk := (4, 3, [(0, [(2, 0, 0), (54, 3, 0)], (0, 2, 0, 0, [])),
  (2, [(21, 3, 0), (2, 7, 0)], (3, 54, 8, 3, [])),
  (8, [(25, 0, 0), (180, 705, 0), (21, 3, 0), (50, 0, 0), (21, 2, 0), (46, 0, 0), (25, 0, 0), (180, 705, 0), (21, 1, 0), (50, 0, 0), (21, 2, 0), (46, 0, 0)], (3, 46, 27, 2, [])),
  (27, [(25, 0, 0), (180, 706, 0), (21, 1, 0), (50, 0, 0), (21, 3, 0), (46, 0, 0), (25, 0, 0), (180, 706, 0), (21, 1, 0), (50, 0, 0), (21, 2, 0), (46, 0, 0)], (3, 48, 46, 3, [])),
  (46, [(2, 0, 0)], (6, 0, 0, 0, [])),
  (48, [(132, 3, 1)], (1, 2, 0, 0, [])),
  (54, [(2, 1, 0)], (6, 0, 0, 0, []))])
/-- 112: LastAwake.turnedAbout(JJI)J -/
def mb112 : Nat × Nat × List Bk := (5, 2, [(0, [(22, 0, 0), (2, 10, 0), (21, 4, 0), (100, 0, 0), (133, 0, 0), (105, 0, 0), (22, 2, 0), (22, 0, 0), (101, 0, 0), (21, 4, 0), (133, 0, 0), (105, 0, 0), (97, 0, 0)], (6, 0, 0, 0, []))])
/-- 113: LastAwake.setFraction(JJ)V -/
def mb113 : Nat × Nat × List Bk := (7, 0, [(0, [(22, 1, 0), (22, 3, 0)], (7, 114, 5, 2, [0, 0])),
  (5, [(55, 5, 0), (22, 5, 0), (9, 0, 0), (148, 0, 0)], (2, 30, 14, 5, [])),
  (14, [(25, 0, 0), (22, 1, 0), (22, 5, 0), (109, 0, 0), (181, 707, 0), (25, 0, 0), (22, 3, 0), (22, 5, 0), (109, 0, 0), (181, 708, 0)], (0, 30, 0, 0, [])),
  (30, [], (6, 0, 0, 0, []))])
/-- 114: LastAwake.commonDivisor(JJ)J -/
def mb114 : Nat × Nat × List Bk := (11, 2, [(0, [(22, 0, 0), (55, 4, 0), (22, 2, 0), (55, 6, 0), (2, 0, 0), (54, 8, 0)], (0, 9, 0, 0, [])),
  (9, [(21, 8, 0), (2, 130, 0)], (3, 45, 17, 3, [])),
  (17, [(22, 6, 0), (9, 0, 0), (148, 0, 0)], (2, 45, 24, 0, [])),
  (24, [(22, 4, 0), (22, 6, 0), (113, 0, 0), (55, 9, 0), (22, 6, 0), (55, 4, 0), (22, 9, 0), (55, 6, 0), (132, 8, 1)], (1, 9, 0, 0, [])),
  (45, [(22, 4, 0)], (6, 0, 0, 0, []))])
/-- 115: LastAwakeModel.<init>()V -/
def mb115 : Nat × Nat × List Bk := (1, 0, [(0, [(25, 0, 0), (202, 0, 0), (25, 0, 0), (2, 748, 0), (188, 9, 0), (181, 800, 0), (25, 0, 0), (2, 2, 0), (188, 11, 0), (181, 801, 0), (25, 0, 0), (2, 150, 0), (188, 9, 0), (181, 802, 0), (25, 0, 0), (2, 3, 0), (188, 9, 0), (181, 804, 0), (25, 0, 0), (9, 1, 0), (181, 806, 0), (25, 0, 0), (2, 49, 0), (188, 9, 0), (181, 813, 0), (25, 0, 0), (2, 4, 0), (188, 9, 0), (181, 814, 0), (25, 0, 0), (2, 4, 0), (188, 9, 0), (181, 815, 0), (25, 0, 0), (2, 4, 0), (188, 9, 0), (181, 816, 0), (25, 0, 0), (2, 61, 0), (188, 9, 0), (181, 822, 0), (25, 0, 0), (2, 49, 0), (188, 9, 0), (181, 823, 0), (25, 0, 0), (2, 49, 0), (188, 9, 0), (181, 824, 0), (25, 0, 0), (2, 0, 0), (2, 6, 0), (2, 4, 0)], (7, 123, 102, 4, [1, 8])),
  (102, [], (6, 0, 0, 0, []))])
/-- 116: LastAwakeModel.in(JJJ)Z -/
def mb116 : Nat × Nat × List Bk := (6, 3, [(0, [(22, 0, 0), (22, 2, 0), (148, 0, 0)], (2, 17, 6, 2, [])),
  (6, [(22, 0, 0), (22, 4, 0), (148, 0, 0)], (2, 17, 13, 4, [])),
  (13, [(2, 1, 0)], (1, 18, 0, 0, [])),
  (17, [(2, 0, 0)], (0, 18, 0, 0, [])),
  (18, [], (6, 0, 0, 0, []))])
/-- 117: LastAwakeModel.has(II)Z -/
def mb117 : Nat × Nat × List Bk := (2, 3, [(0, [(21, 0, 0), (21, 1, 0), (122, 0, 0), (2, 1, 0), (126, 0, 0), (2, 1, 0)], (3, 13, 9, 1, [])),
  (9, [(2, 1, 0)], (1, 14, 0, 0, [])),
  (13, [(2, 0, 0)], (0, 14, 0, 0, [])),
  (14, [], (6, 0, 0, 0, []))])
/-- 118: LastAwakeModel.more(II)I -/
def mb118 : Nat × Nat × List Bk := (2, 1, [(0, [(21, 0, 0), (21, 1, 0)], (3, 9, 5, 5, [])),
  (5, [(21, 0, 0)], (1, 10, 0, 0, [])),
  (9, [(21, 1, 0)], (0, 10, 0, 0, [])),
  (10, [], (6, 0, 0, 0, []))])
/-- 119: LastAwakeModel.met(I)I -/
def mb119 : Nat × Nat × List Bk := (2, 1, [(0, [(21, 1, 0), (2, -2, 0)], (3, 18, 6, 0, [])),
  (6, [(21, 1, 0), (2, -3, 0)], (3, 18, 12, 0, [])),
  (12, [(21, 1, 0), (2, -4, 0)], (3, 31, 18, 1, [])),
  (18, [(25, 0, 0), (180, 804, 0), (2, -2, 0), (21, 1, 0), (100, 0, 0), (92, 0, 0), (46, 0, 0), (2, 1, 0), (96, 0, 0), (79, 0, 0)], (0, 31, 0, 0, [])),
  (31, [(21, 1, 0)], (6, 0, 0, 0, []))])
/-- 120: LastAwakeModel.bad()I -/
def mb120 : Nat × Nat × List Bk := (1, 1, [(0, [(25, 0, 0), (2, -2, 0)], (7, 119, 6, 2, [1, 8])),
  (6, [], (6, 0, 0, 0, []))])
/-- 121: LastAwakeModel.badAs(I)I -/
def mb121 : Nat × Nat × List Bk := (2, 1, [(0, [(25, 0, 0), (180, 804, 0), (2, 0, 0), (92, 0, 0), (46, 0, 0), (2, 1, 0), (96, 0, 0), (79, 0, 0), (21, 1, 0)], (6, 0, 0, 0, []))])
/-- 122: LastAwakeModel.copy(II)V -/
def mb122 : Nat × Nat × List Bk := (4, 0, [(0, [(2, 0, 0), (54, 3, 0)], (0, 2, 0, 0, [])),
  (2, [(21, 3, 0), (2, 187, 0)], (3, 31, 9, 3, [])),
  (9, [(25, 0, 0), (180, 800, 0), (21, 2, 0), (21, 3, 0), (96, 0, 0), (25, 0, 0), (180, 800, 0), (21, 1, 0), (21, 3, 0), (96, 0, 0), (46, 0, 0), (79, 0, 0), (132, 3, 1)], (1, 2, 0, 0, [])),
  (31, [], (6, 0, 0, 0, []))])
/-- 123: LastAwakeModel.begins(III)V -/
def mb123 : Nat × Nat × List Bk := (5, 0, [(0, [(2, 0, 0), (54, 4, 0)], (0, 3, 0, 0, [])),
  (3, [(21, 4, 0), (2, 187, 0)], (3, 27, 11, 3, [])),
  (11, [(25, 0, 0), (180, 800, 0), (21, 1, 0), (21, 4, 0), (96, 0, 0), (2, 0, 0), (79, 0, 0), (132, 4, 1)], (1, 3, 0, 0, [])),
  (27, [(25, 0, 0), (180, 800, 0), (21, 1, 0), (2, 0, 0), (96, 0, 0), (21, 2, 0), (79, 0, 0), (25, 0, 0), (180, 800, 0), (21, 1, 0), (2, 1, 0), (96, 0, 0), (21, 3, 0), (79, 0, 0), (25, 0, 0), (180, 800, 0), (21, 1, 0), (2, 3, 0), (96, 0, 0), (21, 2, 0), (21, 3, 0), (104, 0, 0), (2, 1, 0), (100, 0, 0), (79, 0, 0)], (6, 0, 0, 0, []))])
/-- 124: LastAwakeModel.isCell(II)Z -/
def mb124 : Nat × Nat × List Bk := (3, 3, [(0, [(21, 2, 0), (133, 0, 0), (9, 0, 0), (25, 0, 0), (180, 800, 0), (21, 1, 0), (2, 0, 0), (96, 0, 0), (46, 0, 0), (25, 0, 0), (180, 800, 0), (21, 1, 0), (2, 1, 0), (96, 0, 0), (46, 0, 0), (104, 0, 0), (2, 1, 0), (100, 0, 0), (133, 0, 0)], (7, 116, 26, 3, [0, 0])),
  (26, [], (6, 0, 0, 0, []))])
/-- 125: LastAwakeModel.isOne(I)Z -/
def mb125 : Nat × Nat × List Bk := (2, 3, [(0, [(21, 1, 0), (133, 0, 0), (9, 0, 0), (25, 0, 0), (180, 800, 0), (2, 6, 0), (46, 0, 0), (2, 1, 0), (100, 0, 0), (133, 0, 0)], (7, 116, 16, 3, [0, 0])),
  (16, [], (6, 0, 0, 0, []))])
/-- 126: LastAwakeModel.most(I)I -/
def mb126 : Nat × Nat × List Bk := (1, 1, [(0, [(21, 0, 0)], (2, 8, 4, 1, [])),
  (4, [(2, 5, 0)], (1, 45, 0, 0, [])),
  (8, [(21, 0, 0), (2, 1, 0)], (3, 18, 13, 0, [])),
  (13, [(21, 0, 0), (2, 5, 0)], (3, 23, 18, 1, [])),
  (18, [(2, 120, 0)], (1, 45, 0, 0, [])),
  (23, [(21, 0, 0), (2, 2, 0)], (3, 33, 28, 1, [])),
  (28, [(2, 9, 0)], (1, 45, 0, 0, [])),
  (33, [(21, 0, 0), (2, 3, 0)], (3, 43, 38, 1, [])),
  (38, [(2, 20, 0)], (1, 45, 0, 0, [])),
  (43, [(2, 60, 0)], (0, 45, 0, 0, [])),
  (45, [], (6, 0, 0, 0, []))])
/-- 127: LastAwakeModel.comes(IIIIII)V -/
def mb127 : Nat × Nat × List Bk := (8, 0, [(0, [(25, 0, 0), (180, 800, 0), (21, 1, 0), (2, 6, 0), (96, 0, 0), (46, 0, 0), (54, 7, 0), (25, 0, 0), (180, 800, 0), (21, 1, 0), (2, 59, 0), (96, 0, 0), (21, 7, 0), (96, 0, 0), (21, 2, 0), (79, 0, 0), (25, 0, 0), (180, 800, 0), (21, 1, 0), (2, 63, 0), (96, 0, 0), (21, 7, 0), (96, 0, 0), (21, 3, 0), (79, 0, 0), (25, 0, 0), (180, 800, 0), (21, 1, 0), (2, 67, 0), (96, 0, 0), (21, 7, 0), (96, 0, 0), (21, 4, 0), (79, 0, 0), (25, 0, 0), (180, 800, 0), (21, 1, 0), (2, 71, 0), (96, 0, 0), (21, 7, 0), (96, 0, 0), (21, 5, 0), (79, 0, 0), (25, 0, 0), (180, 800, 0), (21, 1, 0), (2, 75, 0), (96, 0, 0), (21, 7, 0), (96, 0, 0), (21, 6, 0), (79, 0, 0), (25, 0, 0), (180, 800, 0), (21, 1, 0), (2, 79, 0), (96, 0, 0), (21, 7, 0), (96, 0, 0), (2, -1, 0), (79, 0, 0), (25, 0, 0), (180, 800, 0), (21, 1, 0), (2, 83, 0), (96, 0, 0), (21, 7, 0), (96, 0, 0), (2, 0, 0), (79, 0, 0), (25, 0, 0), (180, 800, 0), (21, 1, 0), (2, 87, 0), (96, 0, 0), (21, 7, 0), (96, 0, 0), (2, 0, 0), (79, 0, 0), (25, 0, 0), (180, 800, 0), (21, 1, 0), (2, 6, 0), (96, 0, 0), (92, 0, 0), (46, 0, 0), (2, 1, 0), (96, 0, 0), (79, 0, 0)], (6, 0, 0, 0, []))])
/-- 128: LastAwakeModel.room(II)I -/
def mb128 : Nat × Nat × List Bk := (3, 1, [(0, [(21, 1, 0), (133, 0, 0), (9, 1, 0), (9, 7, 0)], (7, 116, 9, 3, [0, 0])),
  (9, [], (2, 24, 12, 0, [])),
  (12, [(21, 2, 0), (133, 0, 0), (9, 1, 0), (9, 7, 0)], (7, 116, 21, 3, [0, 0])),
  (21, [], (2, 29, 24, 1, [])),
  (24, [(25, 0, 0)], (7, 120, 28, 1, [1, 8])),
  (28, [], (6, 0, 0, 0, [])),
  (29, [(25, 0, 0), (2, 0, 0), (21, 1, 0), (21, 2, 0)], (7, 123, 36, 4, [1, 8])),
  (36, [(2, 1, 0)], (6, 0, 0, 0, []))])
/-- 129: LastAwakeModel.becomes(II)I -/
def mb129 : Nat × Nat × List Bk := (4, 1, [(0, [(25, 0, 0), (180, 800, 0), (21, 1, 0), (46, 0, 0), (54, 3, 0), (25, 0, 0), (180, 800, 0), (21, 1, 0), (21, 2, 0), (79, 0, 0), (21, 3, 0)], (6, 0, 0, 0, []))])
/-- 130: LastAwakeModel.place(II)I -/
def mb130 : Nat × Nat × List Bk := (3, 1, [(0, [(21, 1, 0), (133, 0, 0), (9, 0, 0), (9, 1, 0)], (7, 116, 7, 3, [0, 0])),
  (7, [], (2, 30, 10, 0, [])),
  (10, [(25, 0, 0), (2, 0, 0), (21, 2, 0)], (7, 124, 16, 3, [1, 8])),
  (16, [], (2, 30, 19, 0, [])),
  (19, [(25, 0, 0), (2, 2, 0), (21, 1, 0), (96, 0, 0), (21, 2, 0)], (7, 129, 27, 3, [1, 8])),
  (27, [], (1, 34, 0, 0, [])),
  (30, [(25, 0, 0)], (7, 120, 34, 1, [1, 8])),
  (34, [], (6, 0, 0, 0, []))])
/-- 131: LastAwakeModel.things(II)I -/
def mb131 : Nat × Nat × List Bk := (3, 1, [(0, [(25, 0, 0), (2, 0, 0), (21, 1, 0)], (7, 124, 6, 3, [1, 8])),
  (6, [], (2, 33, 9, 0, [])),
  (9, [(21, 2, 0), (133, 0, 0), (9, 0, 0), (9, 9, 0)], (7, 116, 18, 3, [0, 0])),
  (18, [], (2, 33, 21, 0, [])),
  (21, [(25, 0, 0), (2, 10, 0), (21, 1, 0), (96, 0, 0), (21, 2, 0)], (7, 129, 30, 3, [1, 8])),
  (30, [], (1, 37, 0, 0, [])),
  (33, [(25, 0, 0)], (7, 120, 37, 1, [1, 8])),
  (37, [], (6, 0, 0, 0, []))])
/-- 132: LastAwakeModel.moon(I)I -/
def mb132 : Nat × Nat × List Bk := (2, 1, [(0, [(21, 1, 0), (133, 0, 0), (9, 0, 0), (9, 127, 0)], (7, 116, 9, 3, [0, 0])),
  (9, [], (2, 21, 12, 0, [])),
  (12, [(25, 0, 0), (2, 4, 0), (21, 1, 0)], (7, 129, 18, 3, [1, 8])),
  (18, [], (1, 25, 0, 0, [])),
  (21, [(25, 0, 0)], (7, 120, 25, 1, [1, 8])),
  (25, [], (6, 0, 0, 0, []))])
/-- 133: LastAwakeModel.cord(I)I -/
def mb133 : Nat × Nat × List Bk := (2, 1, [(0, [(21, 1, 0), (133, 0, 0), (9, 0, 0), (9, 1, 0)], (7, 116, 7, 3, [0, 0])),
  (7, [], (2, 19, 10, 0, [])),
  (10, [(25, 0, 0), (2, 5, 0), (21, 1, 0)], (7, 129, 16, 3, [1, 8])),
  (16, [], (1, 23, 0, 0, [])),
  (19, [(25, 0, 0)], (7, 120, 23, 1, [1, 8])),
  (23, [], (6, 0, 0, 0, []))])
/-- 134: LastAwakeModel.sleeper(IIIII)I -/
def mb134 : Nat × Nat × List Bk := (6, 1, [(0, [(21, 1, 0), (133, 0, 0), (9, 0, 0), (9, 5, 0)], (7, 116, 9, 3, [0, 0])),
  (9, [], (2, 62, 12, 0, [])),
  (12, [(21, 2, 0), (133, 0, 0), (9, 0, 0), (9, 120, 0)], (7, 116, 21, 3, [0, 0])),
  (21, [], (2, 62, 24, 0, [])),
  (24, [(21, 3, 0), (133, 0, 0), (9, 0, 0), (9, 9, 0)], (7, 116, 33, 3, [0, 0])),
  (33, [], (2, 62, 36, 0, [])),
  (36, [(21, 4, 0), (133, 0, 0), (9, 0, 0), (9, 20, 0)], (7, 116, 46, 3, [0, 0])),
  (46, [], (2, 62, 49, 0, [])),
  (49, [(21, 5, 0), (133, 0, 0), (9, 0, 0), (9, 60, 0)], (7, 116, 59, 3, [0, 0])),
  (59, [], (2, 67, 62, 1, [])),
  (62, [(25, 0, 0)], (7, 120, 66, 1, [1, 8])),
  (66, [], (6, 0, 0, 0, [])),
  (67, [(25, 0, 0), (180, 800, 0), (2, 6, 0), (46, 0, 0), (2, 4, 0)], (3, 85, 78, 1, [])),
  (78, [(25, 0, 0), (2, -4, 0)], (7, 119, 84, 2, [1, 8])),
  (84, [], (6, 0, 0, 0, [])),
  (85, [(25, 0, 0), (2, 0, 0), (21, 1, 0), (21, 2, 0), (21, 3, 0), (21, 4, 0), (21, 5, 0)], (7, 127, 97, 7, [1, 8])),
  (97, [(25, 0, 0), (180, 800, 0), (2, 6, 0), (46, 0, 0), (2, 1, 0), (100, 0, 0)], (6, 0, 0, 0, []))])
/-- 135: LastAwakeModel.become(III)I -/
def mb135 : Nat × Nat × List Bk := (5, 1, [(0, [(25, 0, 0), (21, 1, 0)], (7, 125, 5, 2, [1, 8])),
  (5, [], (2, 49, 8, 0, [])),
  (8, [(21, 2, 0), (133, 0, 0), (9, 0, 0), (9, 5, 0)], (7, 116, 17, 3, [0, 0])),
  (17, [], (2, 49, 20, 0, [])),
  (20, [(21, 3, 0), (133, 0, 0), (21, 2, 0), (2, 5, 0)], (3, 33, 27, 1, [])),
  (27, [(9, -1, 0)], (1, 34, 0, 0, [])),
  (33, [(9, 0, 0)], (0, 34, 0, 0, [])),
  (34, [(21, 2, 0)], (7, 126, 38, 1, [0, 0])),
  (38, [(133, 0, 0)], (7, 116, 42, 3, [0, 0])),
  (42, [], (2, 49, 45, 0, [])),
  (45, [(2, 1, 0)], (1, 50, 0, 0, [])),
  (49, [(2, 0, 0)], (0, 50, 0, 0, [])),
  (50, [(54, 4, 0), (21, 4, 0)], (2, 73, 57, 0, [])),
  (57, [(25, 0, 0), (2, 59, 0), (2, 4, 0), (21, 2, 0), (104, 0, 0), (96, 0, 0), (21, 1, 0), (96, 0, 0), (21, 3, 0)], (7, 129, 70, 3, [1, 8])),
  (70, [], (1, 79, 0, 0, [])),
  (73, [(25, 0, 0), (2, -10, 0)], (7, 121, 79, 2, [1, 8])),
  (79, [], (6, 0, 0, 0, []))])
/-- 136: LastAwakeModel.type(I)I -/
def mb136 : Nat × Nat × List Bk := (2, 1, [(0, [(21, 1, 0), (133, 0, 0), (9, 0, 0), (9, 127, 0)], (7, 116, 9, 3, [0, 0])),
  (9, [], (2, 17, 12, 1, [])),
  (12, [(25, 0, 0)], (7, 120, 16, 1, [1, 8])),
  (16, [], (6, 0, 0, 0, [])),
  (17, [(25, 0, 0), (180, 803, 0), (2, 150, 0)], (3, 34, 27, 1, [])),
  (27, [(25, 0, 0), (2, -4, 0)], (7, 119, 33, 2, [1, 8])),
  (33, [], (6, 0, 0, 0, [])),
  (34, [(25, 0, 0), (180, 802, 0), (25, 0, 0), (180, 803, 0), (21, 1, 0), (79, 0, 0), (25, 0, 0), (89, 0, 0), (180, 803, 0), (2, 1, 0), (96, 0, 0), (181, 803, 0), (25, 0, 0), (180, 803, 0)], (6, 0, 0, 0, []))])
/-- 137: LastAwakeModel.clear()I -/
def mb137 : Nat × Nat × List Bk := (2, 1, [(0, [(25, 0, 0), (180, 803, 0), (54, 1, 0), (25, 0, 0), (2, 0, 0), (181, 803, 0), (21, 1, 0)], (6, 0, 0, 0, []))])
/-- 138: LastAwakeModel.byteAt(I)I -/
def mb138 : Nat × Nat × List Bk := (2, 1, [(0, [(21, 1, 0), (25, 0, 0), (180, 803, 0)], (3, 17, 8, 3, [])),
  (8, [(25, 0, 0), (180, 802, 0), (21, 1, 0), (46, 0, 0)], (1, 18, 0, 0, [])),
  (17, [(2, -1, 0)], (0, 18, 0, 0, [])),
  (18, [], (6, 0, 0, 0, []))])
/-- 139: LastAwakeModel.token()V -/
def mb139 : Nat × Nat × List Bk := (1, 0, [(0, [(25, 0, 0), (25, 0, 0), (180, 807, 0)], (7, 138, 8, 2, [1, 8])),
  (8, [(2, 32, 0)], (3, 26, 13, 1, [])),
  (13, [(25, 0, 0), (89, 0, 0), (180, 807, 0), (2, 1, 0), (96, 0, 0), (181, 807, 0)], (1, 0, 0, 0, [])),
  (26, [(25, 0, 0), (25, 0, 0), (180, 807, 0), (181, 808, 0), (25, 0, 0), (25, 0, 0), (25, 0, 0), (180, 807, 0)], (7, 138, 43, 2, [1, 8])),
  (43, [(133, 0, 0), (9, 97, 0), (9, 122, 0)], (7, 116, 53, 3, [0, 0])),
  (53, [(181, 810, 0), (25, 0, 0), (25, 0, 0), (25, 0, 0), (180, 807, 0)], (7, 138, 65, 2, [1, 8])),
  (65, [(133, 0, 0), (9, 48, 0), (9, 57, 0)], (7, 116, 75, 3, [0, 0])),
  (75, [(181, 809, 0), (25, 0, 0), (89, 0, 0), (180, 807, 0), (25, 0, 0), (180, 807, 0), (25, 0, 0), (180, 803, 0)], (3, 98, 94, 3, [])),
  (94, [(2, 1, 0)], (1, 99, 0, 0, [])),
  (98, [(2, 0, 0)], (0, 99, 0, 0, [])),
  (99, [(96, 0, 0), (181, 807, 0)], (0, 103, 0, 0, [])),
  (103, [(25, 0, 0), (180, 810, 0)], (2, 131, 110, 0, [])),
  (110, [(25, 0, 0), (25, 0, 0), (180, 807, 0)], (7, 138, 118, 2, [1, 8])),
  (118, [(133, 0, 0), (9, 97, 0), (9, 122, 0)], (7, 116, 128, 3, [0, 0])),
  (128, [], (2, 159, 131, 1, [])),
  (131, [(25, 0, 0), (180, 809, 0)], (2, 172, 138, 0, [])),
  (138, [(25, 0, 0), (25, 0, 0), (180, 807, 0)], (7, 138, 146, 2, [1, 8])),
  (146, [(133, 0, 0), (9, 48, 0), (9, 57, 0)], (7, 116, 156, 3, [0, 0])),
  (156, [], (2, 172, 159, 0, [])),
  (159, [(25, 0, 0), (89, 0, 0), (180, 807, 0), (2, 1, 0), (96, 0, 0), (181, 807, 0)], (1, 103, 0, 0, [])),
  (172, [], (6, 0, 0, 0, []))])
/-- 140: LastAwakeModel.takes(II)Z -/
def mb140 : Nat × Nat × List Bk := (4, 3, [(0, [(25, 0, 0)], (7, 139, 4, 1, [1, 8])),
  (4, [(25, 0, 0), (2, 0, 0), (181, 811, 0), (25, 0, 0), (180, 808, 0), (54, 3, 0)], (0, 14, 0, 0, [])),
  (14, [(21, 3, 0), (25, 0, 0), (180, 807, 0)], (3, 68, 22, 3, [])),
  (22, [(25, 0, 0), (180, 809, 0)], (2, 68, 29, 0, [])),
  (29, [(25, 0, 0), (180, 807, 0), (25, 0, 0), (180, 808, 0), (100, 0, 0), (2, 4, 0)], (3, 68, 42, 3, [])),
  (42, [(25, 0, 0), (2, 10, 0), (25, 0, 0), (180, 811, 0), (104, 0, 0), (25, 0, 0), (21, 3, 0)], (7, 138, 55, 2, [1, 8])),
  (55, [(96, 0, 0), (2, 48, 0), (100, 0, 0), (181, 811, 0), (132, 3, 1)], (1, 14, 0, 0, [])),
  (68, [(25, 0, 0), (180, 809, 0)], (2, 107, 75, 0, [])),
  (75, [(25, 0, 0), (180, 807, 0), (25, 0, 0), (180, 808, 0), (100, 0, 0), (2, 4, 0)], (3, 107, 88, 3, [])),
  (88, [(25, 0, 0), (180, 811, 0), (133, 0, 0), (21, 1, 0), (133, 0, 0), (21, 2, 0), (133, 0, 0)], (7, 116, 100, 3, [0, 0])),
  (100, [], (2, 107, 103, 0, [])),
  (103, [(2, 1, 0)], (1, 108, 0, 0, [])),
  (107, [(2, 0, 0)], (0, 108, 0, 0, [])),
  (108, [], (6, 0, 0, 0, []))])
/-- 141: LastAwakeModel.isNamed(IIIII)Z -/
def mb141 : Nat × Nat × List Bk := (7, 3, [(0, [(25, 0, 0), (180, 810, 0)], (2, 50, 7, 0, [])),
  (7, [(25, 0, 0), (180, 807, 0), (25, 0, 0), (180, 808, 0), (100, 0, 0), (21, 1, 0)], (3, 50, 20, 1, [])),
  (20, [(25, 0, 0), (25, 0, 0), (180, 808, 0)], (7, 138, 28, 2, [1, 8])),
  (28, [(21, 2, 0)], (3, 50, 32, 1, [])),
  (32, [(25, 0, 0), (25, 0, 0), (180, 808, 0), (2, 1, 0), (96, 0, 0)], (7, 138, 42, 2, [1, 8])),
  (42, [(21, 3, 0)], (3, 50, 46, 1, [])),
  (46, [(2, 1, 0)], (1, 51, 0, 0, [])),
  (50, [(2, 0, 0)], (0, 51, 0, 0, [])),
  (51, [(54, 6, 0), (21, 6, 0)], (2, 102, 58, 0, [])),
  (58, [(21, 1, 0), (2, 3, 0)], (3, 78, 63, 2, [])),
  (63, [(25, 0, 0), (25, 0, 0), (180, 808, 0), (2, 2, 0), (96, 0, 0)], (7, 138, 73, 2, [1, 8])),
  (73, [(21, 4, 0)], (3, 102, 78, 1, [])),
  (78, [(21, 1, 0), (2, 4, 0)], (3, 98, 83, 2, [])),
  (83, [(25, 0, 0), (25, 0, 0), (180, 808, 0), (2, 3, 0), (96, 0, 0)], (7, 138, 93, 2, [1, 8])),
  (93, [(21, 5, 0)], (3, 102, 98, 1, [])),
  (98, [(2, 1, 0)], (1, 103, 0, 0, [])),
  (102, [(2, 0, 0)], (0, 103, 0, 0, [])),
  (103, [], (6, 0, 0, 0, []))])
/-- 142: LastAwakeModel.wordNow()I -/
def mb142 : Nat × Nat × List Bk := (1, 1, [(0, [(25, 0, 0), (2, 4, 0), (2, 114, 0), (2, 111, 0), (2, 111, 0), (2, 109, 0)], (7, 141, 13, 6, [1, 8])),
  (13, [], (2, 18, 16, 0, [])),
  (16, [(2, 0, 0)], (6, 0, 0, 0, [])),
  (18, [(25, 0, 0), (2, 6, 0), (2, 115, 0), (2, 119, 0), (2, 105, 0), (2, 116, 0)], (7, 141, 32, 6, [1, 8])),
  (32, [], (2, 67, 35, 0, [])),
  (35, [(25, 0, 0), (25, 0, 0), (180, 808, 0), (2, 4, 0), (96, 0, 0)], (7, 138, 45, 2, [1, 8])),
  (45, [(2, 99, 0)], (3, 67, 50, 1, [])),
  (50, [(25, 0, 0), (25, 0, 0), (180, 808, 0), (2, 5, 0), (96, 0, 0)], (7, 138, 60, 2, [1, 8])),
  (60, [(2, 104, 0)], (3, 67, 65, 1, [])),
  (65, [(2, 1, 0)], (6, 0, 0, 0, [])),
  (67, [(25, 0, 0), (2, 3, 0), (2, 98, 0), (2, 101, 0), (2, 100, 0), (2, 0, 0)], (7, 141, 79, 6, [1, 8])),
  (79, [], (2, 84, 82, 0, [])),
  (82, [(2, 2, 0)], (6, 0, 0, 0, [])),
  (84, [(25, 0, 0), (2, 5, 0), (2, 116, 0), (2, 104, 0), (2, 105, 0), (2, 110, 0)], (7, 141, 97, 6, [1, 8])),
  (97, [], (2, 117, 100, 0, [])),
  (100, [(25, 0, 0), (25, 0, 0), (180, 808, 0), (2, 4, 0), (96, 0, 0)], (7, 138, 110, 2, [1, 8])),
  (110, [(2, 103, 0)], (3, 117, 115, 1, [])),
  (115, [(2, 3, 0)], (6, 0, 0, 0, [])),
  (117, [(25, 0, 0), (2, 4, 0), (2, 109, 0), (2, 111, 0), (2, 111, 0), (2, 110, 0)], (7, 141, 130, 6, [1, 8])),
  (130, [], (2, 135, 133, 0, [])),
  (133, [(2, 4, 0)], (6, 0, 0, 0, [])),
  (135, [(25, 0, 0), (2, 4, 0), (2, 99, 0), (2, 111, 0), (2, 114, 0), (2, 100, 0)], (7, 141, 148, 6, [1, 8])),
  (148, [], (2, 153, 151, 0, [])),
  (151, [(2, 5, 0)], (6, 0, 0, 0, [])),
  (153, [(25, 0, 0), (2, 7, 0), (2, 115, 0), (2, 108, 0), (2, 101, 0), (2, 101, 0)], (7, 141, 167, 6, [1, 8])),
  (167, [], (2, 219, 170, 0, [])),
  (170, [(25, 0, 0), (25, 0, 0), (180, 808, 0), (2, 4, 0), (96, 0, 0)], (7, 138, 180, 2, [1, 8])),
  (180, [(2, 112, 0)], (3, 219, 185, 1, [])),
  (185, [(25, 0, 0), (25, 0, 0), (180, 808, 0), (2, 5, 0), (96, 0, 0)], (7, 138, 195, 2, [1, 8])),
  (195, [(2, 101, 0)], (3, 219, 200, 1, [])),
  (200, [(25, 0, 0), (25, 0, 0), (180, 808, 0), (2, 6, 0), (96, 0, 0)], (7, 138, 211, 2, [1, 8])),
  (211, [(2, 114, 0)], (3, 219, 216, 1, [])),
  (216, [(2, 6, 0)], (6, 0, 0, 0, [])),
  (219, [(25, 0, 0), (2, 2, 0), (2, 117, 0), (2, 112, 0), (2, 0, 0), (2, 0, 0)], (7, 141, 230, 6, [1, 8])),
  (230, [], (2, 238, 233, 0, [])),
  (233, [(2, 7, 0)], (1, 239, 0, 0, [])),
  (238, [(2, -1, 0)], (0, 239, 0, 0, [])),
  (239, [], (6, 0, 0, 0, []))])
/-- 143: LastAwakeModel.takesRoom()Z -/
def mb143 : Nat × Nat × List Bk := (2, 3, [(0, [(25, 0, 0), (2, 1, 0), (2, 7, 0)], (7, 140, 7, 3, [1, 8])),
  (7, [], (2, 12, 10, 1, [])),
  (10, [(2, 0, 0)], (6, 0, 0, 0, [])),
  (12, [(25, 0, 0), (180, 811, 0), (54, 1, 0), (25, 0, 0), (2, 1, 0), (2, 7, 0)], (7, 140, 24, 3, [1, 8])),
  (24, [], (2, 29, 27, 1, [])),
  (27, [(2, 0, 0)], (6, 0, 0, 0, [])),
  (29, [(25, 0, 0), (2, 561, 0), (21, 1, 0), (25, 0, 0), (180, 811, 0)], (7, 123, 41, 4, [1, 8])),
  (41, [(2, 1, 0)], (6, 0, 0, 0, []))])
/-- 144: LastAwakeModel.takesCell()Z -/
def mb144 : Nat × Nat × List Bk := (1, 3, [(0, [(25, 0, 0), (2, 0, 0), (25, 0, 0), (180, 800, 0), (2, 561, 0), (46, 0, 0), (25, 0, 0), (180, 800, 0), (2, 562, 0), (46, 0, 0), (104, 0, 0), (2, 1, 0), (100, 0, 0)], (7, 140, 24, 3, [1, 8])),
  (24, [], (6, 0, 0, 0, []))])
/-- 145: LastAwakeModel.takesSleeper()Z -/
def mb145 : Nat × Nat × List Bk := (4, 3, [(0, [(25, 0, 0), (180, 800, 0), (2, 567, 0), (46, 0, 0), (2, 4, 0)], (3, 14, 12, 1, [])),
  (12, [(2, 0, 0)], (6, 0, 0, 0, [])),
  (14, [(25, 0, 0), (180, 800, 0), (2, 567, 0), (46, 0, 0), (54, 1, 0), (25, 0, 0), (2, 561, 0), (2, 0, 0), (2, 0, 0), (2, 0, 0), (2, 0, 0), (2, 0, 0)], (7, 127, 35, 7, [1, 8])),
  (35, [(2, 1, 0), (54, 2, 0), (2, 0, 0), (54, 3, 0)], (0, 39, 0, 0, [])),
  (39, [(21, 3, 0), (2, 5, 0)], (3, 82, 44, 3, [])),
  (44, [(21, 2, 0)], (2, 82, 48, 0, [])),
  (48, [(25, 0, 0), (2, 0, 0), (21, 3, 0)], (7, 126, 54, 1, [0, 0])),
  (54, [], (7, 140, 57, 3, [1, 8])),
  (57, [(54, 2, 0), (25, 0, 0), (180, 800, 0), (2, 620, 0), (2, 4, 0), (21, 3, 0), (104, 0, 0), (96, 0, 0), (21, 1, 0), (96, 0, 0), (25, 0, 0), (180, 811, 0), (79, 0, 0), (132, 3, 1)], (1, 39, 0, 0, [])),
  (82, [(21, 2, 0)], (6, 0, 0, 0, []))])
/-- 146: LastAwakeModel.takesThing()Z -/
def mb146 : Nat × Nat × List Bk := (2, 3, [(0, [(25, 0, 0)], (7, 144, 4, 1, [1, 8])),
  (4, [], (2, 9, 7, 1, [])),
  (7, [(2, 0, 0)], (6, 0, 0, 0, [])),
  (9, [(25, 0, 0), (180, 811, 0), (54, 1, 0), (25, 0, 0), (2, 0, 0), (2, 9, 0)], (7, 140, 21, 3, [1, 8])),
  (21, [], (2, 26, 24, 1, [])),
  (24, [(2, 0, 0)], (6, 0, 0, 0, [])),
  (26, [(25, 0, 0), (180, 800, 0), (2, 571, 0), (21, 1, 0), (96, 0, 0), (25, 0, 0), (180, 811, 0), (79, 0, 0), (2, 1, 0)], (6, 0, 0, 0, []))])
/-- 147: LastAwakeModel.takesUp()Z -/
def mb147 : Nat × Nat × List Bk := (2, 3, [(0, [(25, 0, 0), (2, 0, 0), (25, 0, 0), (180, 800, 0), (2, 567, 0), (46, 0, 0), (2, 1, 0), (100, 0, 0)], (7, 140, 15, 3, [1, 8])),
  (15, [], (2, 20, 18, 1, [])),
  (18, [(2, 0, 0)], (6, 0, 0, 0, [])),
  (20, [(25, 0, 0), (180, 811, 0), (54, 1, 0), (25, 0, 0), (2, 0, 0), (2, 120, 0)], (7, 140, 32, 3, [1, 8])),
  (32, [], (2, 37, 35, 1, [])),
  (35, [(2, 0, 0)], (6, 0, 0, 0, [])),
  (37, [(25, 0, 0), (180, 800, 0), (2, 640, 0), (21, 1, 0), (96, 0, 0), (25, 0, 0), (180, 811, 0), (79, 0, 0), (2, 1, 0)], (6, 0, 0, 0, []))])
/-- 148: LastAwakeModel.takesItem(I)Z -/
def mb148 : Nat × Nat × List Bk := (4, 3, [(0, [(21, 1, 0)], (5, 136, 0, 0, [44, 49, 49, 72, 77, 120, 131])),
  (44, [(25, 0, 0)], (7, 143, 48, 1, [1, 8])),
  (48, [], (6, 0, 0, 0, [])),
  (49, [(25, 0, 0)], (7, 144, 53, 1, [1, 8])),
  (53, [(54, 2, 0), (25, 0, 0), (180, 800, 0), (2, 563, 0), (21, 1, 0), (96, 0, 0), (2, 1, 0), (100, 0, 0), (25, 0, 0), (180, 811, 0), (79, 0, 0), (21, 2, 0)], (6, 0, 0, 0, [])),
  (72, [(25, 0, 0)], (7, 146, 76, 1, [1, 8])),
  (76, [], (6, 0, 0, 0, [])),
  (77, [(25, 0, 0), (2, 0, 0), (25, 0, 0), (180, 800, 0), (2, 561, 0), (46, 0, 0), (2, 1, 0), (100, 0, 0)], (7, 140, 92, 3, [1, 8])),
  (92, [(54, 3, 0), (25, 0, 0), (180, 800, 0), (2, 565, 0), (92, 0, 0), (46, 0, 0), (21, 3, 0)], (2, 115, 106, 0, [])),
  (106, [(2, 1, 0), (25, 0, 0), (180, 811, 0), (120, 0, 0)], (1, 116, 0, 0, [])),
  (115, [(2, 0, 0)], (0, 116, 0, 0, [])),
  (116, [(128, 0, 0), (79, 0, 0), (21, 3, 0)], (6, 0, 0, 0, [])),
  (120, [(25, 0, 0), (180, 800, 0), (2, 566, 0), (2, 1, 0), (79, 0, 0), (2, 1, 0)], (6, 0, 0, 0, [])),
  (131, [(25, 0, 0)], (7, 145, 135, 1, [1, 8])),
  (135, [], (6, 0, 0, 0, [])),
  (136, [(25, 0, 0)], (7, 147, 140, 1, [1, 8])),
  (140, [], (6, 0, 0, 0, []))])
/-- 149: LastAwakeModel.reads()Z -/
def mb149 : Nat × Nat × List Bk := (2, 3, [(0, [(25, 0, 0), (2, 0, 0), (181, 807, 0), (25, 0, 0), (2, 0, 0), (181, 812, 0), (25, 0, 0)], (7, 139, 14, 1, [1, 8])),
  (14, [(25, 0, 0), (180, 808, 0), (25, 0, 0), (180, 803, 0)], (3, 32, 25, 2, [])),
  (25, [(25, 0, 0), (180, 812, 0)], (2, 112, 32, 1, [])),
  (32, [(25, 0, 0)], (7, 142, 36, 1, [1, 8])),
  (36, [(54, 1, 0), (21, 1, 0), (2, -1, 0)], (3, 74, 42, 0, [])),
  (42, [(21, 1, 0)], (2, 50, 46, 1, [])),
  (46, [(2, 1, 0)], (1, 51, 0, 0, [])),
  (50, [(2, 0, 0)], (0, 51, 0, 0, [])),
  (51, [(25, 0, 0), (180, 812, 0)], (2, 62, 58, 1, [])),
  (58, [(2, 1, 0)], (1, 63, 0, 0, [])),
  (62, [(2, 0, 0)], (0, 63, 0, 0, [])),
  (63, [], (3, 74, 66, 1, [])),
  (66, [(25, 0, 0), (21, 1, 0)], (7, 148, 71, 2, [1, 8])),
  (71, [], (2, 76, 74, 1, [])),
  (74, [(2, 0, 0)], (6, 0, 0, 0, [])),
  (76, [(25, 0, 0)], (7, 139, 80, 1, [1, 8])),
  (80, [(25, 0, 0), (25, 0, 0), (180, 808, 0)], (7, 138, 88, 2, [1, 8])),
  (88, [(2, 59, 0)], (3, 95, 93, 0, [])),
  (93, [(2, 0, 0)], (6, 0, 0, 0, [])),
  (95, [(25, 0, 0), (89, 0, 0), (180, 812, 0), (2, 1, 0), (96, 0, 0), (181, 812, 0), (25, 0, 0)], (7, 139, 109, 1, [1, 8])),
  (109, [], (1, 14, 0, 0, [])),
  (112, [(2, 1, 0)], (6, 0, 0, 0, []))])
/-- 150: LastAwakeModel.read()I -/
def mb150 : Nat × Nat × List Bk := (1, 1, [(0, [(25, 0, 0)], (7, 149, 4, 1, [1, 8])),
  (4, [], (2, 15, 7, 1, [])),
  (7, [(2, -10, 0), (25, 0, 0), (180, 808, 0), (100, 0, 0)], (6, 0, 0, 0, [])),
  (15, [(25, 0, 0), (2, 561, 0), (2, 0, 0)], (7, 122, 23, 3, [1, 8])),
  (23, [(25, 0, 0), (180, 812, 0)], (6, 0, 0, 0, []))])
/-- 151: LastAwakeModel.stepTo(I)I -/
def mb151 : Nat × Nat × List Bk := (2, 1, [(0, [(2, 2, 0), (25, 0, 0), (180, 800, 0), (2, 4, 0), (46, 0, 0), (21, 1, 0), (25, 0, 0), (180, 800, 0), (2, 0, 0), (46, 0, 0), (112, 0, 0)], (7, 117, 18, 2, [0, 0])),
  (18, [], (2, 25, 21, 0, [])),
  (21, [(2, 0, 0)], (1, 34, 0, 0, [])),
  (25, [(25, 0, 0), (180, 800, 0), (2, 10, 0), (21, 1, 0), (96, 0, 0), (46, 0, 0)], (0, 34, 0, 0, [])),
  (34, [(96, 0, 0)], (6, 0, 0, 0, []))])
/-- 152: LastAwakeModel.areBeside(II)Z -/
def mb152 : Nat × Nat × List Bk := (5, 3, [(0, [(21, 1, 0), (25, 0, 0), (180, 800, 0), (2, 0, 0), (46, 0, 0), (112, 0, 0), (21, 2, 0), (25, 0, 0), (180, 800, 0), (2, 0, 0), (46, 0, 0), (112, 0, 0), (100, 0, 0), (54, 3, 0), (21, 1, 0), (25, 0, 0), (180, 800, 0), (2, 0, 0), (46, 0, 0), (108, 0, 0), (21, 2, 0), (25, 0, 0), (180, 800, 0), (2, 0, 0), (46, 0, 0), (108, 0, 0), (100, 0, 0), (54, 4, 0), (21, 3, 0), (21, 3, 0), (104, 0, 0), (21, 4, 0), (21, 4, 0), (104, 0, 0), (96, 0, 0), (2, 1, 0)], (3, 54, 50, 1, [])),
  (50, [(2, 1, 0)], (1, 55, 0, 0, [])),
  (54, [(2, 0, 0)], (0, 55, 0, 0, [])),
  (55, [], (6, 0, 0, 0, []))])
/-- 153: LastAwakeModel.wayOf(II)I -/
def mb153 : Nat × Nat × List Bk := (7, 1, [(0, [(25, 0, 0), (180, 800, 0), (2, 0, 0), (46, 0, 0), (25, 0, 0), (180, 800, 0), (2, 1, 0), (46, 0, 0), (104, 0, 0), (54, 3, 0), (2, 0, 0), (54, 4, 0)], (0, 17, 0, 0, [])),
  (17, [(21, 4, 0), (21, 3, 0)], (3, 48, 23, 3, [])),
  (23, [(25, 0, 0), (180, 813, 0), (21, 4, 0), (21, 4, 0), (21, 1, 0)], (3, 39, 35, 1, [])),
  (35, [(2, 0, 0)], (1, 41, 0, 0, [])),
  (39, [(2, 1000000000, 0)], (0, 41, 0, 0, [])),
  (41, [(79, 0, 0), (132, 4, 1)], (1, 17, 0, 0, [])),
  (48, [(2, 1, 0), (54, 4, 0)], (0, 51, 0, 0, [])),
  (51, [(21, 4, 0)], (2, 163, 56, 0, [])),
  (56, [(2, 0, 0), (54, 4, 0), (2, 0, 0), (54, 5, 0)], (0, 62, 0, 0, [])),
  (62, [(21, 5, 0), (21, 3, 0)], (3, 160, 68, 3, [])),
  (68, [(2, 0, 0), (54, 6, 0)], (0, 71, 0, 0, [])),
  (71, [(21, 6, 0), (21, 3, 0)], (3, 154, 77, 3, [])),
  (77, [(25, 0, 0), (180, 813, 0), (21, 5, 0), (46, 0, 0), (2, 1000000000, 0)], (3, 148, 89, 3, [])),
  (89, [(25, 0, 0), (21, 5, 0), (21, 6, 0)], (7, 152, 97, 3, [1, 8])),
  (97, [], (2, 148, 100, 0, [])),
  (100, [(25, 0, 0), (180, 813, 0), (21, 5, 0), (46, 0, 0), (25, 0, 0), (21, 6, 0)], (7, 151, 113, 2, [1, 8])),
  (113, [(96, 0, 0), (25, 0, 0), (180, 813, 0), (21, 6, 0), (46, 0, 0)], (3, 148, 124, 3, [])),
  (124, [(25, 0, 0), (180, 813, 0), (21, 6, 0), (25, 0, 0), (180, 813, 0), (21, 5, 0), (46, 0, 0), (25, 0, 0), (21, 6, 0)], (7, 151, 143, 2, [1, 8])),
  (143, [(96, 0, 0), (79, 0, 0), (2, 1, 0), (54, 4, 0)], (0, 148, 0, 0, [])),
  (148, [(132, 6, 1)], (1, 71, 0, 0, [])),
  (154, [(132, 5, 1)], (1, 62, 0, 0, [])),
  (160, [], (1, 51, 0, 0, [])),
  (163, [(25, 0, 0), (180, 813, 0), (21, 2, 0), (46, 0, 0)], (6, 0, 0, 0, []))])
/-- 154: LastAwakeModel.way(II)I -/
def mb154 : Nat × Nat × List Bk := (3, 1, [(0, [(25, 0, 0), (2, 0, 0), (21, 1, 0)], (7, 124, 6, 3, [1, 8])),
  (6, [], (2, 27, 9, 0, [])),
  (9, [(25, 0, 0), (2, 0, 0), (21, 2, 0)], (7, 124, 15, 3, [1, 8])),
  (15, [], (2, 27, 18, 0, [])),
  (18, [(25, 0, 0), (21, 1, 0), (21, 2, 0)], (7, 153, 24, 3, [1, 8])),
  (24, [], (1, 31, 0, 0, [])),
  (27, [(25, 0, 0)], (7, 120, 31, 1, [1, 8])),
  (31, [], (6, 0, 0, 0, []))])
/-- 155: LastAwakeModel.bed()I -/
def mb155 : Nat × Nat × List Bk := (5, 1, [(0, [(2, -1, 0), (54, 1, 0), (2, 1000000000, 0), (54, 2, 0), (2, 0, 0), (54, 3, 0)], (0, 7, 0, 0, [])),
  (7, [(21, 3, 0), (25, 0, 0), (180, 800, 0), (2, 0, 0), (46, 0, 0), (25, 0, 0), (180, 800, 0), (2, 1, 0), (46, 0, 0), (104, 0, 0)], (3, 90, 24, 3, [])),
  (24, [(21, 3, 0), (25, 0, 0), (180, 800, 0), (2, 2, 0), (46, 0, 0)], (3, 84, 34, 0, [])),
  (34, [(25, 0, 0), (180, 800, 0), (2, 10, 0), (21, 3, 0), (96, 0, 0), (46, 0, 0)], (2, 84, 46, 1, [])),
  (46, [(25, 0, 0), (21, 3, 0), (25, 0, 0), (180, 800, 0), (2, 2, 0), (46, 0, 0)], (7, 153, 57, 3, [1, 8])),
  (57, [(54, 4, 0), (21, 4, 0), (21, 2, 0)], (3, 69, 65, 3, [])),
  (65, [(21, 3, 0)], (1, 70, 0, 0, [])),
  (69, [(21, 1, 0)], (0, 70, 0, 0, [])),
  (70, [(54, 1, 0), (21, 4, 0), (21, 2, 0)], (3, 82, 77, 3, [])),
  (77, [(21, 4, 0)], (1, 83, 0, 0, [])),
  (82, [(21, 2, 0)], (0, 83, 0, 0, [])),
  (83, [(54, 2, 0)], (0, 84, 0, 0, [])),
  (84, [(132, 3, 1)], (1, 7, 0, 0, [])),
  (90, [(21, 1, 0)], (6, 0, 0, 0, []))])
/-- 156: LastAwakeModel.layNow()V -/
def mb156 : Nat × Nat × List Bk := (2, 0, [(0, [(2, 0, 0), (54, 1, 0)], (0, 2, 0, 0, [])),
  (2, [(21, 1, 0), (2, 4, 0)], (3, 58, 7, 3, [])),
  (7, [(25, 0, 0), (180, 814, 0), (21, 1, 0), (25, 0, 0), (180, 800, 0), (2, 79, 0), (21, 1, 0), (96, 0, 0), (46, 0, 0), (79, 0, 0), (25, 0, 0), (180, 815, 0), (21, 1, 0), (25, 0, 0), (180, 800, 0), (2, 83, 0), (21, 1, 0), (96, 0, 0), (46, 0, 0), (79, 0, 0), (25, 0, 0), (180, 816, 0), (21, 1, 0), (25, 0, 0), (180, 800, 0), (2, 87, 0), (21, 1, 0), (96, 0, 0), (46, 0, 0), (79, 0, 0), (132, 1, 1)], (1, 2, 0, 0, [])),
  (58, [(25, 0, 0), (25, 0, 0), (25, 0, 0), (180, 800, 0), (2, 3, 0), (46, 0, 0), (25, 0, 0), (180, 800, 0), (2, 2, 0), (46, 0, 0)], (7, 153, 75, 3, [1, 8])),
  (75, [(181, 817, 0), (25, 0, 0), (25, 0, 0), (180, 800, 0), (2, 5, 0), (46, 0, 0), (181, 818, 0)], (6, 0, 0, 0, []))])
/-- 157: LastAwakeModel.waits(I)I -/
def mb157 : Nat × Nat × List Bk := (5, 1, [(0, [(2, 1000000000, 0), (54, 2, 0), (2, 0, 0), (54, 3, 0)], (0, 5, 0, 0, [])),
  (5, [(21, 3, 0), (25, 0, 0), (180, 800, 0), (2, 6, 0), (46, 0, 0)], (3, 43, 16, 3, [])),
  (16, [(25, 0, 0), (180, 815, 0), (21, 3, 0), (46, 0, 0), (21, 2, 0)], (3, 35, 26, 3, [])),
  (26, [(25, 0, 0), (180, 815, 0), (21, 3, 0), (46, 0, 0)], (1, 36, 0, 0, [])),
  (35, [(21, 2, 0)], (0, 36, 0, 0, [])),
  (36, [(54, 2, 0), (132, 3, 1)], (1, 5, 0, 0, [])),
  (43, [(25, 0, 0), (180, 800, 0), (2, 75, 0), (21, 1, 0), (96, 0, 0), (46, 0, 0), (54, 3, 0), (21, 3, 0), (2, 5, 0), (25, 0, 0), (180, 815, 0), (21, 1, 0), (46, 0, 0), (21, 2, 0), (100, 0, 0), (104, 0, 0), (96, 0, 0), (54, 4, 0), (25, 0, 0), (180, 800, 0), (2, 59, 0), (21, 1, 0), (96, 0, 0), (46, 0, 0)], (5, 148, 0, 1, [112, 115, 120, 124, 132])),
  (112, [(21, 4, 0)], (6, 0, 0, 0, [])),
  (115, [(2, 2, 0), (21, 4, 0), (104, 0, 0)], (6, 0, 0, 0, [])),
  (120, [(21, 3, 0), (2, 2, 0), (108, 0, 0)], (6, 0, 0, 0, [])),
  (124, [(2, 20, 0), (2, 2, 0), (21, 4, 0), (104, 0, 0), (96, 0, 0)], (6, 0, 0, 0, [])),
  (132, [(21, 3, 0), (2, 2, 0), (108, 0, 0), (25, 0, 0), (180, 800, 0), (2, 63, 0), (21, 1, 0), (96, 0, 0), (46, 0, 0), (2, 4, 0), (108, 0, 0), (96, 0, 0)], (6, 0, 0, 0, [])),
  (148, [(21, 3, 0)], (6, 0, 0, 0, []))])
/-- 158: LastAwakeModel.goNight()V -/
def mb158 : Nat × Nat × List Bk := (4, 0, [(0, [(25, 0, 0), (2, 300, 0), (181, 819, 0), (25, 0, 0), (2, -1, 0), (181, 820, 0), (25, 0, 0), (2, 0, 0), (181, 821, 0), (2, 0, 0), (54, 1, 0)], (0, 19, 0, 0, [])),
  (19, [(21, 1, 0), (2, 300, 0)], (3, 191, 26, 3, [])),
  (26, [(25, 0, 0), (180, 820, 0), (2, -1, 0)], (3, 191, 34, 1, [])),
  (34, [(25, 0, 0), (180, 800, 0), (2, 6, 0), (46, 0, 0), (2, 1, 0), (100, 0, 0), (54, 2, 0)], (0, 44, 0, 0, [])),
  (44, [(21, 2, 0)], (2, 85, 48, 2, [])),
  (48, [(25, 0, 0), (25, 0, 0), (180, 800, 0), (2, 63, 0), (21, 2, 0), (96, 0, 0), (46, 0, 0), (25, 0, 0), (21, 2, 0)], (7, 157, 63, 2, [1, 8])),
  (63, [(96, 0, 0), (21, 1, 0)], (3, 72, 68, 4, [])),
  (68, [(21, 2, 0)], (1, 76, 0, 0, [])),
  (72, [(25, 0, 0), (180, 820, 0)], (0, 76, 0, 0, [])),
  (76, [(181, 820, 0), (132, 2, -1)], (1, 44, 0, 0, [])),
  (85, [(25, 0, 0), (180, 800, 0), (2, 6, 0), (46, 0, 0), (2, 1, 0), (100, 0, 0), (54, 2, 0)], (0, 95, 0, 0, [])),
  (95, [(21, 2, 0)], (2, 166, 99, 2, [])),
  (99, [(25, 0, 0), (180, 814, 0), (21, 2, 0), (46, 0, 0), (21, 1, 0)], (3, 126, 109, 1, [])),
  (109, [(25, 0, 0), (180, 800, 0), (2, 63, 0), (21, 2, 0), (96, 0, 0), (46, 0, 0), (21, 1, 0)], (3, 126, 122, 4, [])),
  (122, [(2, 1, 0)], (1, 127, 0, 0, [])),
  (126, [(2, 0, 0)], (0, 127, 0, 0, [])),
  (127, [(54, 3, 0), (25, 0, 0), (21, 3, 0)], (2, 137, 133, 0, [])),
  (133, [(21, 2, 0)], (1, 141, 0, 0, [])),
  (137, [(25, 0, 0), (180, 820, 0)], (0, 141, 0, 0, [])),
  (141, [(181, 820, 0), (25, 0, 0), (21, 3, 0)], (2, 153, 149, 0, [])),
  (149, [(2, 1, 0)], (1, 157, 0, 0, [])),
  (153, [(25, 0, 0), (180, 821, 0)], (0, 157, 0, 0, [])),
  (157, [(181, 821, 0), (132, 2, -1)], (1, 95, 0, 0, [])),
  (166, [(25, 0, 0), (25, 0, 0), (180, 820, 0), (2, -1, 0)], (3, 181, 175, 1, [])),
  (175, [(2, 300, 0)], (1, 182, 0, 0, [])),
  (181, [(21, 1, 0)], (0, 182, 0, 0, [])),
  (182, [(181, 819, 0), (132, 1, 1)], (1, 19, 0, 0, [])),
  (191, [], (6, 0, 0, 0, []))])
/-- 159: LastAwakeModel.costOf(I)I -/
def mb159 : Nat × Nat × List Bk := (4, 1, [(0, [(25, 0, 0), (180, 800, 0), (2, 67, 0), (21, 1, 0), (96, 0, 0), (46, 0, 0), (2, 0, 0), (25, 0, 0), (180, 819, 0), (25, 0, 0), (180, 800, 0), (2, 63, 0), (21, 1, 0), (96, 0, 0), (46, 0, 0), (100, 0, 0)], (7, 118, 27, 2, [0, 0])),
  (27, [(104, 0, 0), (2, 3, 0), (2, 0, 0), (25, 0, 0), (180, 800, 0), (2, 63, 0), (21, 1, 0), (96, 0, 0), (46, 0, 0), (25, 0, 0), (180, 819, 0), (100, 0, 0)], (7, 118, 47, 2, [0, 0])),
  (47, [(104, 0, 0), (96, 0, 0), (54, 2, 0), (21, 1, 0), (25, 0, 0), (180, 820, 0)], (3, 69, 58, 1, [])),
  (58, [(25, 0, 0), (180, 818, 0)], (2, 69, 65, 1, [])),
  (65, [(2, 1, 0)], (1, 70, 0, 0, [])),
  (69, [(2, 0, 0)], (0, 70, 0, 0, [])),
  (70, [(54, 3, 0), (21, 2, 0), (21, 3, 0)], (2, 107, 76, 0, [])),
  (76, [(25, 0, 0), (180, 821, 0), (2, 1, 0)], (3, 88, 84, 1, [])),
  (84, [(2, 0, 0)], (1, 97, 0, 0, [])),
  (88, [(25, 0, 0), (180, 800, 0), (2, 71, 0), (21, 1, 0), (96, 0, 0), (46, 0, 0)], (0, 97, 0, 0, [])),
  (97, [(2, 2, 0), (25, 0, 0), (180, 817, 0), (104, 0, 0), (96, 0, 0)], (1, 108, 0, 0, [])),
  (107, [(2, 0, 0)], (0, 108, 0, 0, [])),
  (108, [(96, 0, 0)], (6, 0, 0, 0, []))])
/-- 160: LastAwakeModel.pays()V -/
def mb160 : Nat × Nat × List Bk := (2, 0, [(0, [(2, 0, 0), (54, 1, 0)], (0, 2, 0, 0, [])),
  (2, [(21, 1, 0), (25, 0, 0), (180, 800, 0), (2, 6, 0), (46, 0, 0)], (3, 33, 13, 3, [])),
  (13, [(25, 0, 0), (180, 816, 0), (21, 1, 0), (92, 0, 0), (46, 0, 0), (25, 0, 0), (21, 1, 0)], (7, 159, 25, 2, [1, 8])),
  (25, [(96, 0, 0), (79, 0, 0), (132, 1, 1)], (1, 2, 0, 0, [])),
  (33, [(25, 0, 0), (180, 820, 0), (2, -1, 0)], (3, 54, 41, 0, [])),
  (41, [(25, 0, 0), (180, 815, 0), (25, 0, 0), (180, 820, 0), (92, 0, 0), (46, 0, 0), (2, 1, 0), (96, 0, 0), (79, 0, 0)], (0, 54, 0, 0, [])),
  (54, [], (6, 0, 0, 0, []))])
/-- 161: LastAwakeModel.minds()V -/
def mb161 : Nat × Nat × List Bk := (3, 0, [(0, [(25, 0, 0), (180, 800, 0), (2, 9, 0), (46, 0, 0), (2, 8, 0)], (3, 58, 12, 1, [])),
  (12, [(2, 0, 0), (54, 1, 0)], (0, 14, 0, 0, [])),
  (14, [(21, 1, 0), (2, 70, 0)], (3, 47, 20, 3, [])),
  (20, [(25, 0, 0), (180, 800, 0), (2, 107, 0), (21, 1, 0), (96, 0, 0), (25, 0, 0), (180, 800, 0), (2, 107, 0), (21, 1, 0), (96, 0, 0), (2, 10, 0), (96, 0, 0), (46, 0, 0), (79, 0, 0), (132, 1, 1)], (1, 14, 0, 0, [])),
  (47, [(25, 0, 0), (180, 800, 0), (2, 9, 0), (92, 0, 0), (46, 0, 0), (2, 1, 0), (100, 0, 0), (79, 0, 0)], (0, 58, 0, 0, [])),
  (58, [(2, 107, 0), (2, 10, 0), (25, 0, 0), (180, 800, 0), (2, 9, 0), (46, 0, 0), (104, 0, 0), (96, 0, 0), (54, 1, 0), (2, 0, 0), (54, 2, 0)], (0, 74, 0, 0, [])),
  (74, [(21, 2, 0), (2, 4, 0)], (3, 121, 79, 3, [])),
  (79, [(25, 0, 0), (180, 800, 0), (21, 1, 0), (21, 2, 0), (96, 0, 0), (25, 0, 0), (180, 800, 0), (2, 83, 0), (21, 2, 0), (96, 0, 0), (46, 0, 0), (79, 0, 0), (25, 0, 0), (180, 800, 0), (21, 1, 0), (2, 4, 0), (96, 0, 0), (21, 2, 0), (96, 0, 0), (25, 0, 0), (180, 800, 0), (2, 87, 0), (21, 2, 0), (96, 0, 0), (46, 0, 0), (79, 0, 0), (132, 2, 1)], (1, 74, 0, 0, [])),
  (121, [(25, 0, 0), (180, 800, 0), (21, 1, 0), (2, 8, 0), (96, 0, 0), (25, 0, 0), (180, 800, 0), (2, 8, 0), (46, 0, 0), (79, 0, 0), (25, 0, 0), (180, 800, 0), (21, 1, 0), (2, 9, 0), (96, 0, 0), (25, 0, 0), (180, 800, 0), (2, 6, 0), (46, 0, 0), (79, 0, 0), (25, 0, 0), (180, 800, 0), (2, 9, 0), (92, 0, 0), (46, 0, 0), (2, 1, 0), (96, 0, 0), (79, 0, 0)], (6, 0, 0, 0, []))])
/-- 162: LastAwakeModel.pass(I)I -/
def mb162 : Nat × Nat × List Bk := (5, 1, [(0, [(21, 1, 0), (133, 0, 0), (9, 1, 0), (9, 30, 0)], (7, 116, 9, 3, [0, 0])),
  (9, [], (2, 17, 12, 1, [])),
  (12, [(25, 0, 0)], (7, 120, 16, 1, [1, 8])),
  (16, [], (6, 0, 0, 0, [])),
  (17, [(25, 0, 0)], (7, 156, 21, 1, [1, 8])),
  (21, [(2, 0, 0), (54, 2, 0), (2, 0, 0), (54, 3, 0)], (0, 25, 0, 0, [])),
  (25, [(21, 3, 0), (21, 1, 0)], (3, 130, 30, 3, [])),
  (30, [(25, 0, 0)], (7, 161, 34, 1, [1, 8])),
  (34, [(25, 0, 0)], (7, 158, 38, 1, [1, 8])),
  (38, [(25, 0, 0)], (7, 160, 42, 1, [1, 8])),
  (42, [(21, 2, 0), (25, 0, 0), (180, 820, 0), (2, -1, 0)], (3, 55, 51, 1, [])),
  (51, [(2, 0, 0)], (1, 56, 0, 0, [])),
  (55, [(2, 1, 0)], (0, 56, 0, 0, [])),
  (56, [(96, 0, 0), (54, 2, 0), (2, 0, 0), (54, 4, 0)], (0, 61, 0, 0, [])),
  (61, [(21, 4, 0), (25, 0, 0), (180, 800, 0), (2, 6, 0), (46, 0, 0)], (3, 113, 73, 3, [])),
  (73, [(25, 0, 0), (180, 800, 0), (2, 83, 0), (21, 4, 0), (96, 0, 0), (25, 0, 0), (180, 815, 0), (21, 4, 0), (46, 0, 0), (79, 0, 0), (25, 0, 0), (180, 800, 0), (2, 87, 0), (21, 4, 0), (96, 0, 0), (25, 0, 0), (180, 816, 0), (21, 4, 0), (46, 0, 0), (79, 0, 0), (132, 4, 1)], (1, 61, 0, 0, [])),
  (113, [(25, 0, 0), (180, 800, 0), (2, 8, 0), (92, 0, 0), (46, 0, 0), (2, 1, 0), (96, 0, 0), (79, 0, 0), (132, 3, 1)], (1, 25, 0, 0, [])),
  (130, [(21, 2, 0)], (6, 0, 0, 0, []))])
/-- 163: LastAwakeModel.undo()I -/
def mb163 : Nat × Nat × List Bk := (3, 1, [(0, [(25, 0, 0), (180, 800, 0), (2, 9, 0), (46, 0, 0)], (2, 17, 10, 1, [])),
  (10, [(25, 0, 0), (2, -3, 0)], (7, 119, 16, 2, [1, 8])),
  (16, [], (6, 0, 0, 0, [])),
  (17, [(25, 0, 0), (180, 800, 0), (2, 9, 0), (92, 0, 0), (46, 0, 0), (2, 1, 0), (100, 0, 0), (79, 0, 0), (2, 107, 0), (2, 10, 0), (25, 0, 0), (180, 800, 0), (2, 9, 0), (46, 0, 0), (104, 0, 0), (96, 0, 0), (54, 1, 0), (2, 0, 0), (54, 2, 0)], (0, 44, 0, 0, [])),
  (44, [(21, 2, 0), (25, 0, 0), (180, 800, 0), (21, 1, 0), (2, 9, 0), (96, 0, 0), (46, 0, 0)], (3, 99, 57, 3, [])),
  (57, [(25, 0, 0), (180, 800, 0), (2, 83, 0), (21, 2, 0), (96, 0, 0), (25, 0, 0), (180, 800, 0), (21, 1, 0), (21, 2, 0), (96, 0, 0), (46, 0, 0), (79, 0, 0), (25, 0, 0), (180, 800, 0), (2, 87, 0), (21, 2, 0), (96, 0, 0), (25, 0, 0), (180, 800, 0), (21, 1, 0), (2, 4, 0), (96, 0, 0), (21, 2, 0), (96, 0, 0), (46, 0, 0), (79, 0, 0), (132, 2, 1)], (1, 44, 0, 0, [])),
  (99, [(25, 0, 0), (180, 800, 0), (2, 8, 0), (25, 0, 0), (180, 800, 0), (21, 1, 0), (2, 8, 0), (96, 0, 0), (46, 0, 0), (79, 0, 0), (2, 1, 0)], (6, 0, 0, 0, []))])
/-- 164: LastAwakeModel.feltBy(I)I -/
def mb164 : Nat × Nat × List Bk := (4, 1, [(0, [(2, 3, 0), (25, 0, 0), (180, 800, 0), (2, 83, 0), (21, 1, 0), (96, 0, 0), (46, 0, 0), (104, 0, 0), (54, 2, 0), (2, 0, 0), (54, 3, 0)], (0, 14, 0, 0, [])),
  (14, [(21, 3, 0), (25, 0, 0), (180, 800, 0), (2, 6, 0), (46, 0, 0)], (3, 43, 25, 3, [])),
  (25, [(21, 2, 0), (25, 0, 0), (180, 800, 0), (2, 83, 0), (21, 3, 0), (96, 0, 0), (46, 0, 0), (100, 0, 0), (54, 2, 0), (132, 3, 1)], (1, 14, 0, 0, [])),
  (43, [(21, 2, 0)], (6, 0, 0, 0, []))])
/-- 165: LastAwakeModel.about(II)I -/
def mb165 : Nat × Nat × List Bk := (3, 1, [(0, [(25, 0, 0), (21, 1, 0)], (7, 125, 5, 2, [1, 8])),
  (5, [], (2, 20, 8, 0, [])),
  (8, [(21, 2, 0), (133, 0, 0), (9, 0, 0), (9, 3, 0)], (7, 116, 17, 3, [0, 0])),
  (17, [], (2, 27, 20, 1, [])),
  (20, [(25, 0, 0), (2, -100000, 0)], (7, 121, 26, 2, [1, 8])),
  (26, [], (6, 0, 0, 0, [])),
  (27, [(25, 0, 0)], (7, 156, 31, 1, [1, 8])),
  (31, [(21, 2, 0)], (2, 47, 35, 1, [])),
  (35, [(25, 0, 0), (180, 800, 0), (2, 83, 0), (21, 1, 0), (96, 0, 0), (46, 0, 0)], (1, 82, 0, 0, [])),
  (47, [(21, 2, 0), (2, 1, 0)], (3, 64, 52, 1, [])),
  (52, [(25, 0, 0), (180, 800, 0), (2, 87, 0), (21, 1, 0), (96, 0, 0), (46, 0, 0)], (1, 82, 0, 0, [])),
  (64, [(21, 2, 0), (2, 2, 0)], (3, 77, 69, 1, [])),
  (69, [(25, 0, 0), (21, 1, 0)], (7, 157, 74, 2, [1, 8])),
  (74, [], (1, 82, 0, 0, [])),
  (77, [(25, 0, 0), (21, 1, 0)], (7, 164, 82, 2, [1, 8])),
  (82, [], (6, 0, 0, 0, []))])
/-- 166: LastAwakeModel.tonight(I)I -/
def mb166 : Nat × Nat × List Bk := (2, 1, [(0, [(21, 1, 0), (133, 0, 0), (9, 0, 0), (9, 2, 0)], (7, 116, 9, 3, [0, 0])),
  (9, [], (2, 17, 12, 1, [])),
  (12, [(25, 0, 0)], (7, 120, 16, 1, [1, 8])),
  (16, [], (6, 0, 0, 0, [])),
  (17, [(25, 0, 0)], (7, 156, 21, 1, [1, 8])),
  (21, [(25, 0, 0)], (7, 158, 25, 1, [1, 8])),
  (25, [(21, 1, 0)], (2, 36, 29, 1, [])),
  (29, [(25, 0, 0), (180, 819, 0)], (1, 52, 0, 0, [])),
  (36, [(21, 1, 0), (2, 1, 0)], (3, 48, 41, 1, [])),
  (41, [(25, 0, 0), (180, 820, 0)], (1, 52, 0, 0, [])),
  (48, [(25, 0, 0), (180, 821, 0)], (0, 52, 0, 0, [])),
  (52, [], (6, 0, 0, 0, []))])
/-- 167: LastAwakeModel.cost(I)I -/
def mb167 : Nat × Nat × List Bk := (2, 1, [(0, [(25, 0, 0), (21, 1, 0)], (7, 125, 5, 2, [1, 8])),
  (5, [], (2, 13, 8, 1, [])),
  (8, [(25, 0, 0)], (7, 120, 12, 1, [1, 8])),
  (12, [], (6, 0, 0, 0, [])),
  (13, [(25, 0, 0)], (7, 156, 17, 1, [1, 8])),
  (17, [(25, 0, 0)], (7, 158, 21, 1, [1, 8])),
  (21, [(25, 0, 0), (21, 1, 0)], (7, 159, 26, 2, [1, 8])),
  (26, [], (6, 0, 0, 0, []))])
/-- 168: LastAwakeModel.sumOf(I)I -/
def mb168 : Nat × Nat × List Bk := (4, 1, [(0, [(2, 0, 0), (54, 2, 0), (2, 0, 0), (54, 3, 0)], (0, 4, 0, 0, [])),
  (4, [(21, 3, 0), (25, 0, 0), (180, 800, 0), (2, 6, 0), (46, 0, 0)], (3, 43, 15, 3, [])),
  (15, [(21, 2, 0), (21, 1, 0)], (2, 29, 20, 1, [])),
  (20, [(25, 0, 0), (180, 815, 0), (21, 3, 0), (46, 0, 0)], (1, 35, 0, 0, [])),
  (29, [(25, 0, 0), (180, 816, 0), (21, 3, 0), (46, 0, 0)], (0, 35, 0, 0, [])),
  (35, [(96, 0, 0), (54, 2, 0), (132, 3, 1)], (1, 4, 0, 0, [])),
  (43, [(21, 2, 0)], (6, 0, 0, 0, []))])
/-- 169: LastAwakeModel.foretold(III)I -/
def mb169 : Nat × Nat × List Bk := (5, 1, [(0, [(21, 1, 0), (133, 0, 0), (9, 0, 0), (9, 60, 0)], (7, 116, 9, 3, [0, 0])),
  (9, [], (2, 35, 12, 0, [])),
  (12, [(25, 0, 0), (21, 2, 0)], (7, 125, 17, 2, [1, 8])),
  (17, [], (2, 25, 20, 1, [])),
  (20, [(21, 2, 0), (2, -1, 0)], (3, 35, 25, 1, [])),
  (25, [(21, 3, 0), (133, 0, 0), (9, 0, 0), (9, 1, 0)], (7, 116, 32, 3, [0, 0])),
  (32, [], (2, 40, 35, 1, [])),
  (35, [(25, 0, 0)], (7, 120, 39, 1, [1, 8])),
  (39, [], (6, 0, 0, 0, [])),
  (40, [(25, 0, 0)], (7, 156, 44, 1, [1, 8])),
  (44, [(2, 0, 0), (54, 4, 0)], (0, 47, 0, 0, [])),
  (47, [(21, 4, 0), (21, 1, 0)], (3, 67, 53, 3, [])),
  (53, [(25, 0, 0)], (7, 158, 57, 1, [1, 8])),
  (57, [(25, 0, 0)], (7, 160, 61, 1, [1, 8])),
  (61, [(132, 4, 1)], (1, 47, 0, 0, [])),
  (67, [(21, 2, 0), (2, -1, 0)], (3, 80, 72, 1, [])),
  (72, [(25, 0, 0), (21, 3, 0)], (7, 168, 77, 2, [1, 8])),
  (77, [], (1, 99, 0, 0, [])),
  (80, [(21, 3, 0)], (2, 93, 84, 1, [])),
  (84, [(25, 0, 0), (180, 815, 0), (21, 2, 0), (46, 0, 0)], (1, 99, 0, 0, [])),
  (93, [(25, 0, 0), (180, 816, 0), (21, 2, 0), (46, 0, 0)], (0, 99, 0, 0, [])),
  (99, [], (6, 0, 0, 0, []))])
/-- 170: LastAwakeModel.layWithout()V -/
def mb170 : Nat × Nat × List Bk := (2, 0, [(0, [(25, 0, 0)], (7, 156, 4, 1, [1, 8])),
  (4, [(25, 0, 0), (2, 0, 0), (181, 818, 0), (2, 0, 0), (54, 1, 0)], (0, 11, 0, 0, [])),
  (11, [(21, 1, 0), (2, 60, 0)], (3, 42, 17, 4, [])),
  (17, [(25, 0, 0), (180, 822, 0), (21, 1, 0), (25, 0, 0), (2, 1, 0)], (7, 168, 27, 2, [1, 8])),
  (27, [(79, 0, 0), (25, 0, 0)], (7, 158, 32, 1, [1, 8])),
  (32, [(25, 0, 0)], (7, 160, 36, 1, [1, 8])),
  (36, [(132, 1, 1)], (1, 11, 0, 0, [])),
  (42, [], (6, 0, 0, 0, []))])
/-- 171: LastAwakeModel.worth(I)I -/
def mb171 : Nat × Nat × List Bk := (3, 1, [(0, [(21, 1, 0), (133, 0, 0), (9, 0, 0), (9, 9999, 0)], (7, 116, 9, 3, [0, 0])),
  (9, [], (2, 17, 12, 1, [])),
  (12, [(25, 0, 0)], (7, 120, 16, 1, [1, 8])),
  (16, [], (6, 0, 0, 0, [])),
  (17, [(25, 0, 0)], (7, 170, 21, 1, [1, 8])),
  (21, [(25, 0, 0)], (7, 156, 25, 1, [1, 8])),
  (25, [(25, 0, 0), (2, 1, 0), (181, 818, 0), (2, 0, 0), (54, 2, 0)], (0, 32, 0, 0, [])),
  (32, [(21, 2, 0), (2, 60, 0)], (3, 70, 38, 4, [])),
  (38, [(25, 0, 0), (2, 1, 0)], (7, 168, 43, 2, [1, 8])),
  (43, [(21, 1, 0), (96, 0, 0), (25, 0, 0), (180, 822, 0), (21, 2, 0), (46, 0, 0)], (3, 56, 54, 4, [])),
  (54, [(21, 2, 0)], (6, 0, 0, 0, [])),
  (56, [(25, 0, 0)], (7, 158, 60, 1, [1, 8])),
  (60, [(25, 0, 0)], (7, 160, 64, 1, [1, 8])),
  (64, [(132, 2, 1)], (1, 32, 0, 0, [])),
  (70, [(2, -1, 0)], (6, 0, 0, 0, []))])
/-- 172: LastAwakeModel.reading(I)I -/
def mb172 : Nat × Nat × List Bk := (7, 1, [(0, [(25, 0, 0), (21, 1, 0)], (7, 125, 5, 2, [1, 8])),
  (5, [], (2, 13, 8, 1, [])),
  (8, [(25, 0, 0)], (7, 120, 12, 1, [1, 8])),
  (12, [], (6, 0, 0, 0, [])),
  (13, [(25, 0, 0)], (7, 156, 17, 1, [1, 8])),
  (17, [(25, 0, 0), (180, 800, 0), (2, 63, 0), (21, 1, 0), (96, 0, 0), (46, 0, 0), (54, 2, 0), (2, -1000000000, 0), (54, 3, 0), (2, 0, 0), (54, 4, 0), (2, 0, 0), (54, 5, 0)], (0, 36, 0, 0, [])),
  (36, [(21, 5, 0), (2, 120, 0)], (3, 120, 43, 4, [])),
  (43, [(25, 0, 0), (180, 800, 0), (2, 63, 0), (21, 1, 0), (96, 0, 0), (21, 5, 0), (79, 0, 0), (25, 0, 0)], (7, 158, 58, 1, [1, 8])),
  (58, [(2, 2, 0), (21, 5, 0), (25, 0, 0), (180, 819, 0)], (3, 73, 68, 3, [])),
  (68, [(21, 5, 0)], (1, 77, 0, 0, [])),
  (73, [(25, 0, 0), (180, 819, 0)], (0, 77, 0, 0, [])),
  (77, [(104, 0, 0), (25, 0, 0), (21, 1, 0)], (7, 159, 83, 2, [1, 8])),
  (83, [(100, 0, 0), (54, 6, 0), (21, 6, 0), (21, 3, 0)], (3, 97, 92, 5, [])),
  (92, [(21, 5, 0)], (1, 99, 0, 0, [])),
  (97, [(21, 4, 0)], (0, 99, 0, 0, [])),
  (99, [(54, 4, 0), (21, 6, 0), (21, 3, 0)], (3, 112, 107, 5, [])),
  (107, [(21, 6, 0)], (1, 113, 0, 0, [])),
  (112, [(21, 3, 0)], (0, 113, 0, 0, [])),
  (113, [(54, 3, 0), (132, 5, 1)], (1, 36, 0, 0, [])),
  (120, [(25, 0, 0), (180, 800, 0), (2, 63, 0), (21, 1, 0), (96, 0, 0), (21, 2, 0), (79, 0, 0), (21, 4, 0)], (6, 0, 0, 0, []))])
/-- 173: LastAwakeModel.layCosts(II)V -/
def mb173 : Nat × Nat × List Bk := (6, 0, [(0, [(25, 0, 0)], (7, 156, 4, 1, [1, 8])),
  (4, [(25, 0, 0), (180, 800, 0), (2, 75, 0), (21, 1, 0), (96, 0, 0), (46, 0, 0), (54, 3, 0), (25, 0, 0), (180, 800, 0), (2, 75, 0), (21, 2, 0), (96, 0, 0), (46, 0, 0), (54, 4, 0), (2, 0, 0), (54, 5, 0)], (0, 28, 0, 0, [])),
  (28, [(21, 5, 0), (2, 49, 0)], (3, 103, 35, 3, [])),
  (35, [(25, 0, 0), (180, 800, 0), (2, 75, 0), (21, 1, 0), (96, 0, 0), (2, 10, 0), (21, 5, 0), (2, 7, 0), (108, 0, 0), (104, 0, 0), (79, 0, 0), (25, 0, 0), (180, 800, 0), (2, 75, 0), (21, 2, 0), (96, 0, 0), (2, 10, 0), (21, 5, 0), (2, 7, 0), (112, 0, 0), (104, 0, 0), (79, 0, 0), (25, 0, 0)], (7, 158, 73, 1, [1, 8])),
  (73, [(25, 0, 0), (180, 823, 0), (21, 5, 0), (25, 0, 0), (21, 1, 0)], (7, 159, 84, 2, [1, 8])),
  (84, [(79, 0, 0), (25, 0, 0), (180, 824, 0), (21, 5, 0), (25, 0, 0), (21, 2, 0)], (7, 159, 96, 2, [1, 8])),
  (96, [(79, 0, 0), (132, 5, 1)], (1, 28, 0, 0, [])),
  (103, [(25, 0, 0), (180, 800, 0), (2, 75, 0), (21, 1, 0), (96, 0, 0), (21, 3, 0), (79, 0, 0), (25, 0, 0), (180, 800, 0), (2, 75, 0), (21, 2, 0), (96, 0, 0), (21, 4, 0), (79, 0, 0)], (6, 0, 0, 0, []))])
/-- 174: LastAwakeModel.waiting(III)I -/
def mb174 : Nat × Nat × List Bk := (9, 1, [(0, [(25, 0, 0), (21, 1, 0)], (7, 125, 5, 2, [1, 8])),
  (5, [], (2, 31, 8, 0, [])),
  (8, [(25, 0, 0), (21, 2, 0)], (7, 125, 13, 2, [1, 8])),
  (13, [], (2, 31, 16, 0, [])),
  (16, [(21, 1, 0), (21, 2, 0)], (3, 31, 21, 0, [])),
  (21, [(21, 3, 0), (133, 0, 0), (9, 0, 0), (9, 1, 0)], (7, 116, 28, 3, [0, 0])),
  (28, [], (2, 38, 31, 1, [])),
  (31, [(25, 0, 0), (2, -10, 0)], (7, 121, 37, 2, [1, 8])),
  (37, [], (6, 0, 0, 0, [])),
  (38, [(25, 0, 0), (21, 1, 0), (21, 2, 0)], (7, 173, 44, 3, [1, 8])),
  (44, [(2, 0, 0), (54, 4, 0), (2, -1, 0), (54, 5, 0), (2, 0, 0), (54, 6, 0)], (0, 53, 0, 0, [])),
  (53, [(21, 6, 0), (2, 49, 0)], (3, 195, 60, 3, [])),
  (60, [(2, 1, 0), (54, 7, 0), (2, 0, 0), (54, 8, 0)], (0, 66, 0, 0, [])),
  (66, [(21, 8, 0), (2, 7, 0)], (3, 143, 73, 3, [])),
  (73, [(21, 7, 0)], (2, 134, 78, 0, [])),
  (78, [(25, 0, 0), (180, 823, 0), (2, 7, 0), (21, 8, 0), (104, 0, 0), (21, 6, 0), (2, 7, 0), (112, 0, 0), (96, 0, 0), (46, 0, 0), (25, 0, 0), (180, 823, 0), (21, 6, 0), (46, 0, 0)], (3, 134, 104, 2, [])),
  (104, [(25, 0, 0), (180, 824, 0), (21, 6, 0), (2, 7, 0), (108, 0, 0), (2, 7, 0), (104, 0, 0), (21, 8, 0), (96, 0, 0), (46, 0, 0), (25, 0, 0), (180, 824, 0), (21, 6, 0), (46, 0, 0)], (3, 134, 130, 2, [])),
  (130, [(2, 1, 0)], (1, 135, 0, 0, [])),
  (134, [(2, 0, 0)], (0, 135, 0, 0, [])),
  (135, [(54, 7, 0), (132, 8, 1)], (1, 66, 0, 0, [])),
  (143, [(21, 7, 0)], (2, 170, 148, 0, [])),
  (148, [(21, 4, 0)], (2, 170, 153, 1, [])),
  (153, [(2, 10, 0), (21, 6, 0), (2, 7, 0), (108, 0, 0), (104, 0, 0), (21, 6, 0), (2, 7, 0), (112, 0, 0), (96, 0, 0)], (1, 172, 0, 0, [])),
  (170, [(21, 5, 0)], (0, 172, 0, 0, [])),
  (172, [(54, 5, 0), (21, 4, 0), (21, 7, 0)], (2, 185, 181, 0, [])),
  (181, [(2, 1, 0)], (1, 186, 0, 0, [])),
  (185, [(2, 0, 0)], (0, 186, 0, 0, [])),
  (186, [(96, 0, 0), (54, 4, 0), (132, 6, 1)], (1, 53, 0, 0, [])),
  (195, [(21, 3, 0)], (2, 204, 199, 1, [])),
  (199, [(21, 4, 0)], (1, 206, 0, 0, [])),
  (204, [(21, 5, 0)], (0, 206, 0, 0, [])),
  (206, [], (6, 0, 0, 0, []))])
/-- 175: LastAwakeModel.power(II)I -/
def mb175 : Nat × Nat × List Bk := (4, 1, [(0, [(2, 1, 0), (54, 2, 0), (2, 0, 0), (54, 3, 0)], (0, 4, 0, 0, [])),
  (4, [(21, 3, 0), (21, 1, 0)], (3, 19, 9, 3, [])),
  (9, [(21, 2, 0), (21, 0, 0), (104, 0, 0), (54, 2, 0), (132, 3, 1)], (1, 4, 0, 0, [])),
  (19, [(21, 2, 0)], (6, 0, 0, 0, []))])
/-- 176: LastAwakeModel.mostBy(II)I -/
def mb176 : Nat × Nat × List Bk := (6, 1, [(0, [(25, 0, 0), (2, 60, 0), (181, 819, 0), (25, 0, 0), (2, 0, 0), (181, 821, 0), (2, 0, 0), (54, 3, 0)], (0, 13, 0, 0, [])),
  (13, [(21, 3, 0), (25, 0, 0), (180, 800, 0), (2, 6, 0), (46, 0, 0)], (3, 37, 24, 3, [])),
  (24, [(25, 0, 0), (180, 816, 0), (21, 3, 0), (2, 0, 0), (79, 0, 0), (132, 3, 1)], (1, 13, 0, 0, [])),
  (37, [(21, 1, 0), (54, 3, 0), (2, 0, 0), (54, 4, 0)], (0, 42, 0, 0, [])),
  (42, [(21, 4, 0), (21, 2, 0)], (3, 114, 48, 3, [])),
  (48, [(25, 0, 0), (21, 3, 0), (25, 0, 0), (180, 800, 0), (2, 6, 0), (46, 0, 0), (112, 0, 0), (181, 820, 0), (21, 3, 0), (25, 0, 0), (180, 800, 0), (2, 6, 0), (46, 0, 0), (108, 0, 0), (54, 3, 0), (2, 0, 0), (54, 5, 0)], (0, 74, 0, 0, [])),
  (74, [(21, 5, 0), (25, 0, 0), (180, 800, 0), (2, 6, 0), (46, 0, 0)], (3, 108, 86, 3, [])),
  (86, [(25, 0, 0), (180, 816, 0), (21, 5, 0), (92, 0, 0), (46, 0, 0), (25, 0, 0), (21, 5, 0)], (7, 159, 100, 2, [1, 8])),
  (100, [(96, 0, 0), (79, 0, 0), (132, 5, 1)], (1, 74, 0, 0, [])),
  (108, [(132, 4, 1)], (1, 42, 0, 0, [])),
  (114, [(2, 0, 0), (54, 4, 0), (2, 0, 0), (54, 5, 0)], (0, 120, 0, 0, [])),
  (120, [(21, 5, 0), (25, 0, 0), (180, 800, 0), (2, 6, 0), (46, 0, 0)], (3, 152, 132, 3, [])),
  (132, [(21, 4, 0), (25, 0, 0), (180, 816, 0), (21, 5, 0), (46, 0, 0)], (7, 118, 144, 2, [0, 0])),
  (144, [(54, 4, 0), (132, 5, 1)], (1, 120, 0, 0, [])),
  (152, [(21, 4, 0)], (6, 0, 0, 0, []))])
/-- 177: LastAwakeModel.turns(II)I -/
def mb177 : Nat × Nat × List Bk := (7, 1, [(0, [(21, 1, 0), (133, 0, 0), (9, 0, 0), (9, 6, 0)], (7, 116, 9, 3, [0, 0])),
  (9, [], (2, 17, 12, 0, [])),
  (12, [(21, 2, 0), (2, -1, 0)], (3, 24, 17, 3, [])),
  (17, [(25, 0, 0), (2, -10, 0)], (7, 121, 23, 2, [1, 8])),
  (23, [], (6, 0, 0, 0, [])),
  (24, [(25, 0, 0), (180, 800, 0), (2, 6, 0), (46, 0, 0)], (2, 36, 34, 1, [])),
  (34, [(2, -1, 0)], (6, 0, 0, 0, [])),
  (36, [(25, 0, 0)], (7, 156, 40, 1, [1, 8])),
  (40, [(2, 1000000000, 0), (54, 3, 0), (2, 0, 0), (54, 4, 0), (2, 0, 0), (54, 5, 0)], (0, 49, 0, 0, [])),
  (49, [(21, 5, 0), (25, 0, 0), (180, 800, 0), (2, 6, 0), (46, 0, 0), (21, 1, 0)], (7, 175, 62, 2, [0, 0])),
  (62, [], (3, 108, 65, 3, [])),
  (65, [(25, 0, 0), (21, 5, 0), (21, 1, 0)], (7, 176, 72, 3, [1, 8])),
  (72, [(54, 6, 0), (21, 6, 0), (21, 3, 0)], (3, 85, 80, 3, [])),
  (80, [(21, 5, 0)], (1, 87, 0, 0, [])),
  (85, [(21, 4, 0)], (0, 87, 0, 0, [])),
  (87, [(54, 4, 0), (21, 6, 0), (21, 3, 0)], (3, 100, 95, 3, [])),
  (95, [(21, 6, 0)], (1, 101, 0, 0, [])),
  (100, [(21, 3, 0)], (0, 101, 0, 0, [])),
  (101, [(54, 3, 0), (132, 5, 1)], (1, 49, 0, 0, [])),
  (108, [(21, 2, 0), (2, -1, 0)], (3, 117, 113, 1, [])),
  (113, [(21, 3, 0)], (1, 153, 0, 0, [])),
  (117, [(21, 2, 0), (21, 1, 0)], (3, 151, 122, 3, [])),
  (122, [(21, 4, 0), (25, 0, 0), (180, 800, 0), (2, 6, 0), (46, 0, 0), (21, 1, 0), (2, 1, 0), (100, 0, 0), (21, 2, 0), (100, 0, 0)], (7, 175, 139, 2, [0, 0])),
  (139, [(108, 0, 0), (25, 0, 0), (180, 800, 0), (2, 6, 0), (46, 0, 0), (112, 0, 0)], (1, 153, 0, 0, [])),
  (151, [(2, -5, 0)], (0, 153, 0, 0, [])),
  (153, [], (6, 0, 0, 0, []))])
/-- 178: LastAwakeModel.tells(JJ)V -/
def mb178 : Nat × Nat × List Bk := (11, 0, [(0, [(22, 1, 0), (55, 5, 0), (22, 3, 0), (55, 7, 0)], (0, 6, 0, 0, [])),
  (6, [(22, 7, 0), (9, 0, 0), (148, 0, 0)], (2, 31, 13, 0, [])),
  (13, [(22, 5, 0), (22, 7, 0), (113, 0, 0), (55, 9, 0), (22, 7, 0), (55, 5, 0), (22, 9, 0), (55, 7, 0)], (1, 6, 0, 0, [])),
  (31, [(25, 0, 0), (22, 1, 0), (22, 5, 0), (109, 0, 0), (181, 805, 0), (25, 0, 0), (22, 3, 0), (22, 5, 0), (109, 0, 0), (181, 806, 0)], (6, 0, 0, 0, []))])
/-- 179: LastAwakeModel.raised(JI)J -/
def mb179 : Nat × Nat × List Bk := (6, 2, [(0, [(9, 1, 0), (55, 3, 0), (2, 0, 0), (54, 5, 0)], (0, 5, 0, 0, [])),
  (5, [(21, 5, 0), (21, 2, 0)], (3, 21, 11, 3, [])),
  (11, [(22, 3, 0), (22, 0, 0), (105, 0, 0), (55, 3, 0), (132, 5, 1)], (1, 5, 0, 0, [])),
  (21, [(22, 3, 0)], (6, 0, 0, 0, []))])
/-- 180: LastAwakeModel.shoe(III)I -/
def mb180 : Nat × Nat × List Bk := (9, 1, [(0, [(21, 1, 0), (133, 0, 0), (9, 0, 0), (9, 10, 0)], (7, 116, 9, 3, [0, 0])),
  (9, [], (2, 34, 12, 0, [])),
  (12, [(21, 2, 0), (133, 0, 0), (9, 0, 0), (9, 9, 0)], (7, 116, 21, 3, [0, 0])),
  (21, [], (2, 34, 24, 0, [])),
  (24, [(21, 3, 0), (133, 0, 0), (9, 0, 0), (9, 1, 0)], (7, 116, 31, 3, [0, 0])),
  (31, [], (2, 39, 34, 1, [])),
  (34, [(25, 0, 0)], (7, 120, 38, 1, [1, 8])),
  (38, [], (6, 0, 0, 0, [])),
  (39, [(9, 10, 0), (21, 2, 0)], (7, 179, 46, 2, [0, 0])),
  (46, [(55, 4, 0), (9, 0, 0), (55, 6, 0), (2, 0, 0), (54, 8, 0)], (0, 54, 0, 0, [])),
  (54, [(21, 8, 0), (21, 2, 0)], (3, 93, 60, 3, [])),
  (60, [(22, 6, 0), (9, 10, 0), (21, 1, 0), (133, 0, 0), (101, 0, 0), (21, 8, 0)], (7, 179, 73, 2, [0, 0])),
  (73, [(9, 10, 0), (21, 2, 0), (21, 8, 0), (100, 0, 0)], (7, 179, 83, 2, [0, 0])),
  (83, [(105, 0, 0), (97, 0, 0), (55, 6, 0), (132, 8, 1)], (1, 54, 0, 0, [])),
  (93, [(25, 0, 0), (21, 3, 0)], (2, 114, 98, 1, [])),
  (98, [(22, 4, 0), (9, 10, 0), (21, 1, 0), (133, 0, 0), (101, 0, 0), (21, 2, 0)], (7, 179, 110, 2, [0, 0])),
  (110, [(101, 0, 0)], (1, 116, 0, 0, [])),
  (114, [(22, 6, 0)], (0, 116, 0, 0, [])),
  (116, [(22, 4, 0)], (7, 178, 121, 3, [1, 8])),
  (121, [(2, 1, 0)], (6, 0, 0, 0, []))])
/-- 181: LastAwakeModel.clap(III)I -/
def mb181 : Nat × Nat × List Bk := (13, 1, [(0, [(21, 1, 0), (133, 0, 0), (9, 0, 0), (9, 10, 0)], (7, 116, 9, 3, [0, 0])),
  (9, [], (2, 36, 12, 0, [])),
  (12, [(21, 2, 0), (133, 0, 0), (9, 0, 0), (9, 10, 0)], (7, 116, 21, 3, [0, 0])),
  (21, [], (2, 36, 24, 0, [])),
  (24, [(21, 3, 0), (133, 0, 0), (9, 0, 0), (9, 8, 0)], (7, 116, 33, 3, [0, 0])),
  (33, [], (2, 41, 36, 1, [])),
  (36, [(25, 0, 0)], (7, 120, 40, 1, [1, 8])),
  (40, [], (6, 0, 0, 0, [])),
  (41, [(9, 1, 0), (55, 4, 0), (9, 0, 0), (55, 6, 0), (21, 1, 0), (133, 0, 0), (9, 10, 0), (21, 2, 0), (133, 0, 0), (101, 0, 0), (105, 0, 0), (9, 10, 0), (21, 1, 0), (133, 0, 0), (101, 0, 0), (21, 2, 0), (133, 0, 0), (105, 0, 0), (97, 0, 0), (55, 8, 0), (2, 0, 0), (54, 10, 0)], (0, 71, 0, 0, [])),
  (71, [(21, 10, 0), (21, 3, 0)], (3, 121, 77, 3, [])),
  (77, [(22, 4, 0), (55, 11, 0), (22, 4, 0), (9, 100, 0), (22, 8, 0), (101, 0, 0), (105, 0, 0), (22, 6, 0), (22, 8, 0), (105, 0, 0), (97, 0, 0), (55, 4, 0), (22, 6, 0), (9, 100, 0), (22, 8, 0), (101, 0, 0), (105, 0, 0), (22, 11, 0), (22, 8, 0), (105, 0, 0), (97, 0, 0), (55, 6, 0), (132, 10, 1)], (1, 71, 0, 0, [])),
  (121, [(25, 0, 0), (22, 4, 0), (22, 4, 0), (22, 6, 0), (97, 0, 0)], (7, 178, 132, 3, [1, 8])),
  (132, [(2, 1, 0)], (6, 0, 0, 0, []))])
/-- 182: LastAwakeModel.asleep(IIIII)I -/
def mb182 : Nat × Nat × List Bk := (11, 1, [(0, [(21, 1, 0), (133, 0, 0), (9, 0, 0), (9, 10, 0)], (7, 116, 9, 3, [0, 0])),
  (9, [], (2, 66, 12, 0, [])),
  (12, [(21, 2, 0), (133, 0, 0), (9, 0, 0), (9, 10, 0)], (7, 116, 21, 3, [0, 0])),
  (21, [], (2, 66, 24, 0, [])),
  (24, [(21, 3, 0), (133, 0, 0), (9, 0, 0), (9, 10, 0)], (7, 116, 33, 3, [0, 0])),
  (33, [], (2, 66, 36, 0, [])),
  (36, [(21, 5, 0), (133, 0, 0), (9, 0, 0), (9, 6, 0)], (7, 116, 46, 3, [0, 0])),
  (46, [], (2, 66, 49, 0, [])),
  (49, [(21, 4, 0), (133, 0, 0), (9, 0, 0), (2, 1, 0), (21, 5, 0), (120, 0, 0), (2, 1, 0), (100, 0, 0), (133, 0, 0)], (7, 116, 63, 3, [0, 0])),
  (63, [], (2, 71, 66, 1, [])),
  (66, [(25, 0, 0)], (7, 120, 70, 1, [1, 8])),
  (70, [], (6, 0, 0, 0, [])),
  (71, [(21, 1, 0), (133, 0, 0), (55, 6, 0), (9, 10, 0), (21, 1, 0), (133, 0, 0), (101, 0, 0), (55, 8, 0), (2, 0, 0), (54, 10, 0)], (0, 86, 0, 0, [])),
  (86, [(21, 10, 0), (21, 5, 0)], (3, 151, 93, 3, [])),
  (93, [(22, 6, 0), (21, 4, 0), (21, 10, 0)], (7, 117, 102, 2, [0, 0])),
  (102, [], (2, 110, 105, 0, [])),
  (105, [(21, 2, 0), (133, 0, 0)], (1, 116, 0, 0, [])),
  (110, [(9, 10, 0), (21, 2, 0), (133, 0, 0), (101, 0, 0)], (0, 116, 0, 0, [])),
  (116, [(105, 0, 0), (55, 6, 0), (22, 8, 0), (21, 4, 0), (21, 10, 0)], (7, 117, 128, 2, [0, 0])),
  (128, [], (2, 136, 131, 0, [])),
  (131, [(21, 3, 0), (133, 0, 0)], (1, 142, 0, 0, [])),
  (136, [(9, 10, 0), (21, 3, 0), (133, 0, 0), (101, 0, 0)], (0, 142, 0, 0, [])),
  (142, [(105, 0, 0), (55, 8, 0), (132, 10, 1)], (1, 86, 0, 0, [])),
  (151, [(22, 6, 0), (22, 8, 0), (97, 0, 0), (9, 0, 0), (148, 0, 0)], (2, 168, 161, 1, [])),
  (161, [(25, 0, 0), (2, -3, 0)], (7, 119, 167, 2, [1, 8])),
  (167, [], (6, 0, 0, 0, [])),
  (168, [(25, 0, 0), (22, 6, 0), (22, 6, 0), (22, 8, 0), (97, 0, 0)], (7, 178, 179, 3, [1, 8])),
  (179, [(2, 1, 0)], (6, 0, 0, 0, []))])
/-- 183: LastAwakeModel.note(II)I -/
def mb183 : Nat × Nat × List Bk := (3, 1, [(0, [(25, 0, 0), (21, 1, 0)], (7, 125, 5, 2, [1, 8])),
  (5, [], (2, 29, 8, 0, [])),
  (8, [(21, 2, 0), (133, 0, 0), (9, 0, 0), (2, 1, 0), (25, 0, 0), (180, 800, 0), (2, 6, 0), (46, 0, 0), (120, 0, 0), (2, 1, 0), (100, 0, 0), (133, 0, 0)], (7, 116, 26, 3, [0, 0])),
  (26, [], (2, 34, 29, 1, [])),
  (29, [(25, 0, 0)], (7, 120, 33, 1, [1, 8])),
  (33, [], (6, 0, 0, 0, [])),
  (34, [(25, 0, 0), (180, 800, 0), (2, 7, 0), (46, 0, 0), (2, 8, 0)], (3, 53, 46, 1, [])),
  (46, [(25, 0, 0), (2, -4, 0)], (7, 119, 52, 2, [1, 8])),
  (52, [], (6, 0, 0, 0, [])),
  (53, [(25, 0, 0), (180, 800, 0), (2, 91, 0), (25, 0, 0), (180, 800, 0), (2, 7, 0), (46, 0, 0), (96, 0, 0), (21, 1, 0), (79, 0, 0), (25, 0, 0), (180, 800, 0), (2, 99, 0), (25, 0, 0), (180, 800, 0), (2, 7, 0), (46, 0, 0), (96, 0, 0), (21, 2, 0), (79, 0, 0), (25, 0, 0), (180, 800, 0), (2, 7, 0), (92, 0, 0), (46, 0, 0), (2, 1, 0), (96, 0, 0), (79, 0, 0), (25, 0, 0), (180, 800, 0), (2, 7, 0), (46, 0, 0), (2, 1, 0), (100, 0, 0)], (6, 0, 0, 0, []))])
/-- 184: LastAwakeModel.burn()I -/
def mb184 : Nat × Nat × List Bk := (2, 1, [(0, [(25, 0, 0), (180, 800, 0), (2, 7, 0), (46, 0, 0), (54, 1, 0), (25, 0, 0), (180, 800, 0), (2, 7, 0), (2, 0, 0), (79, 0, 0), (21, 1, 0)], (6, 0, 0, 0, []))])
/-- 185: LastAwakeModel.liarsIf(I)I -/
def mb185 : Nat × Nat × List Bk := (6, 1, [(0, [(2, 0, 0), (54, 2, 0), (2, 0, 0), (54, 3, 0), (2, 0, 0), (54, 4, 0)], (0, 7, 0, 0, [])),
  (7, [(21, 4, 0), (25, 0, 0), (180, 800, 0), (2, 7, 0), (46, 0, 0)], (3, 89, 19, 3, [])),
  (19, [(25, 0, 0), (180, 800, 0), (2, 99, 0), (21, 4, 0), (96, 0, 0), (46, 0, 0), (21, 1, 0)], (7, 117, 33, 2, [0, 0])),
  (33, [(54, 5, 0), (21, 2, 0), (21, 5, 0)], (2, 45, 41, 0, [])),
  (41, [(2, 0, 0)], (1, 57, 0, 0, [])),
  (45, [(2, 1, 0), (25, 0, 0), (180, 800, 0), (2, 91, 0), (21, 4, 0), (96, 0, 0), (46, 0, 0), (120, 0, 0)], (0, 57, 0, 0, [])),
  (57, [(128, 0, 0), (54, 2, 0), (21, 3, 0), (21, 5, 0)], (2, 80, 65, 0, [])),
  (65, [(2, 1, 0), (25, 0, 0), (180, 800, 0), (2, 91, 0), (21, 4, 0), (96, 0, 0), (46, 0, 0), (120, 0, 0)], (1, 81, 0, 0, [])),
  (80, [(2, 0, 0)], (0, 81, 0, 0, [])),
  (81, [(128, 0, 0), (54, 3, 0), (132, 4, 1)], (1, 7, 0, 0, [])),
  (89, [(2, 0, 0), (54, 4, 0), (2, 0, 0), (54, 5, 0)], (0, 95, 0, 0, [])),
  (95, [(21, 5, 0), (2, 4, 0)], (3, 118, 101, 3, [])),
  (101, [(21, 4, 0), (21, 2, 0), (21, 5, 0), (122, 0, 0), (2, 1, 0), (126, 0, 0), (96, 0, 0), (54, 4, 0), (132, 5, 1)], (1, 95, 0, 0, [])),
  (118, [(21, 2, 0), (21, 3, 0), (126, 0, 0)], (2, 129, 124, 1, [])),
  (124, [(21, 4, 0)], (1, 130, 0, 0, [])),
  (129, [(2, -1, 0)], (0, 130, 0, 0, [])),
  (130, [], (6, 0, 0, 0, []))])
/-- 186: LastAwakeModel.who(I)I -/
def mb186 : Nat × Nat × List Bk := (4, 1, [(0, [(21, 1, 0), (133, 0, 0), (9, 0, 0), (9, 4, 0)], (7, 116, 9, 3, [0, 0])),
  (9, [], (2, 17, 12, 1, [])),
  (12, [(25, 0, 0)], (7, 120, 16, 1, [1, 8])),
  (16, [], (6, 0, 0, 0, [])),
  (17, [(2, 0, 0), (54, 2, 0), (2, 0, 0), (54, 3, 0)], (0, 21, 0, 0, [])),
  (21, [(21, 3, 0), (25, 0, 0), (180, 800, 0), (2, 6, 0), (46, 0, 0)], (3, 57, 32, 3, [])),
  (32, [(21, 2, 0), (25, 0, 0), (21, 3, 0)], (7, 185, 38, 2, [1, 8])),
  (38, [(21, 1, 0)], (3, 48, 42, 1, [])),
  (42, [(2, 1, 0), (21, 3, 0), (120, 0, 0)], (1, 49, 0, 0, [])),
  (48, [(2, 0, 0)], (0, 49, 0, 0, [])),
  (49, [(128, 0, 0), (54, 2, 0), (132, 3, 1)], (1, 21, 0, 0, [])),
  (57, [(21, 2, 0)], (6, 0, 0, 0, []))])
/-- 187: LastAwakeModel.drawn(III)I -/
def mb187 : Nat × Nat × List Bk := (10, 1, [(0, [(21, 1, 0), (133, 0, 0), (9, 0, 0), (9, 999999, 0)], (7, 116, 9, 3, [0, 0])),
  (9, [], (2, 32, 12, 0, [])),
  (12, [(21, 2, 0), (133, 0, 0), (9, 0, 0), (9, 60, 0)], (7, 116, 21, 3, [0, 0])),
  (21, [], (2, 32, 24, 0, [])),
  (24, [(25, 0, 0), (21, 3, 0)], (7, 125, 29, 2, [1, 8])),
  (29, [], (2, 37, 32, 1, [])),
  (32, [(25, 0, 0)], (7, 120, 36, 1, [1, 8])),
  (36, [], (6, 0, 0, 0, [])),
  (37, [(25, 0, 0)], (7, 156, 41, 1, [1, 8])),
  (41, [(21, 1, 0), (133, 0, 0), (55, 4, 0), (25, 0, 0), (180, 815, 0), (21, 3, 0), (46, 0, 0), (54, 6, 0), (2, 0, 0), (54, 7, 0)], (0, 56, 0, 0, [])),
  (56, [(21, 7, 0), (21, 2, 0)], (3, 146, 62, 3, [])),
  (62, [(2, 0, 0), (54, 8, 0)], (0, 65, 0, 0, [])),
  (65, [(21, 8, 0), (25, 0, 0), (180, 800, 0), (2, 6, 0), (46, 0, 0)], (3, 132, 77, 3, [])),
  (77, [(22, 4, 0), (9, 1103515245, 0), (105, 0, 0), (9, 12345, 0), (97, 0, 0), (9, 2147483648, 0), (113, 0, 0), (55, 4, 0), (22, 4, 0), (9, 65536, 0), (109, 0, 0), (9, 180, 0), (113, 0, 0), (136, 0, 0), (54, 9, 0), (25, 0, 0), (180, 814, 0), (21, 8, 0), (21, 9, 0), (2, 120, 0)], (3, 123, 119, 5, [])),
  (119, [(2, -1, 0)], (1, 125, 0, 0, [])),
  (123, [(21, 9, 0)], (0, 125, 0, 0, [])),
  (125, [(79, 0, 0), (132, 8, 1)], (1, 65, 0, 0, [])),
  (132, [(25, 0, 0)], (7, 158, 136, 1, [1, 8])),
  (136, [(25, 0, 0)], (7, 160, 140, 1, [1, 8])),
  (140, [(132, 7, 1)], (1, 56, 0, 0, [])),
  (146, [(25, 0, 0), (180, 815, 0), (21, 3, 0), (46, 0, 0), (21, 6, 0), (100, 0, 0)], (6, 0, 0, 0, []))])
/-- 188: LastAwakeModel.part(I)J -/
def mb188 : Nat × Nat × List Bk := (2, 2, [(0, [(21, 1, 0)], (2, 11, 4, 1, [])),
  (4, [(25, 0, 0), (180, 805, 0)], (1, 28, 0, 0, [])),
  (11, [(21, 1, 0), (2, 1, 0)], (3, 23, 16, 1, [])),
  (16, [(25, 0, 0), (180, 806, 0)], (1, 28, 0, 0, [])),
  (23, [(25, 0, 0)], (7, 120, 27, 1, [1, 8])),
  (27, [(133, 0, 0)], (0, 28, 0, 0, [])),
  (28, [], (6, 0, 0, 0, []))])
/-- 189: LastAwakeModel.image(I)I -/
def mb189 : Nat × Nat × List Bk := (2, 1, [(0, [(21, 1, 0), (133, 0, 0), (9, 0, 0), (9, 1, 0)], (7, 116, 7, 3, [0, 0])),
  (7, [], (2, 15, 10, 1, [])),
  (10, [(25, 0, 0)], (7, 120, 14, 1, [1, 8])),
  (14, [], (6, 0, 0, 0, [])),
  (15, [(25, 0, 0), (2, 0, 0), (2, 187, 0), (2, 1, 0), (21, 1, 0), (96, 0, 0), (104, 0, 0)], (7, 122, 27, 3, [1, 8])),
  (27, [(25, 0, 0), (180, 801, 0), (21, 1, 0), (2, 1, 0), (84, 0, 0), (2, 1, 0)], (6, 0, 0, 0, []))])
/-- 190: LastAwakeModel.from(I)I -/
def mb190 : Nat × Nat × List Bk := (2, 1, [(0, [(21, 1, 0), (133, 0, 0), (9, 0, 0), (9, 1, 0)], (7, 116, 7, 3, [0, 0])),
  (7, [], (2, 15, 10, 1, [])),
  (10, [(25, 0, 0)], (7, 120, 14, 1, [1, 8])),
  (14, [], (6, 0, 0, 0, [])),
  (15, [(25, 0, 0), (180, 801, 0), (21, 1, 0), (51, 0, 0)], (2, 31, 24, 1, [])),
  (24, [(25, 0, 0), (2, -3, 0)], (7, 119, 30, 2, [1, 8])),
  (30, [], (6, 0, 0, 0, [])),
  (31, [(25, 0, 0), (2, 187, 0), (2, 1, 0), (21, 1, 0), (96, 0, 0), (104, 0, 0), (2, 0, 0)], (7, 122, 43, 3, [1, 8])),
  (43, [(2, 1, 0)], (6, 0, 0, 0, []))])
/-- 191: LastAwakeModel.status(I)I -/
def mb191 : Nat × Nat × List Bk := (2, 1, [(0, [(21, 1, 0), (133, 0, 0), (9, 0, 0), (9, 2, 0)], (7, 116, 9, 3, [0, 0])),
  (9, [], (2, 21, 12, 0, [])),
  (12, [(25, 0, 0), (180, 804, 0), (21, 1, 0), (46, 0, 0)], (1, 26, 0, 0, [])),
  (21, [(25, 0, 0), (2, -1, 0)], (7, 121, 26, 2, [1, 8])),
  (26, [], (6, 0, 0, 0, []))])
/-- 192: LastAwakeModel.countOf(I)I -/
def mb192 : Nat × Nat × List Bk := (2, 1, [(0, [(21, 1, 0), (2, 10, 0)], (3, 13, 6, 1, [])),
  (6, [(25, 0, 0), (180, 803, 0)], (1, 19, 0, 0, [])),
  (13, [(25, 0, 0), (180, 800, 0), (21, 1, 0), (46, 0, 0)], (0, 19, 0, 0, [])),
  (19, [], (6, 0, 0, 0, []))])
/-- 193: LastAwakeModel.count(I)I -/
def mb193 : Nat × Nat × List Bk := (2, 1, [(0, [(21, 1, 0), (133, 0, 0), (9, 0, 0), (9, 10, 0)], (7, 116, 9, 3, [0, 0])),
  (9, [], (2, 20, 12, 0, [])),
  (12, [(25, 0, 0), (21, 1, 0)], (7, 192, 17, 2, [1, 8])),
  (17, [], (1, 24, 0, 0, [])),
  (20, [(25, 0, 0)], (7, 120, 24, 1, [1, 8])),
  (24, [], (6, 0, 0, 0, []))])
/-- 194: LastAwakeModel.mix(J)V -/
def mb194 : Nat × Nat × List Bk := (3, 0, [(0, [(25, 0, 0), (9, 31, 0), (25, 0, 0), (180, 825, 0), (105, 0, 0), (22, 1, 0), (97, 0, 0), (181, 825, 0)], (6, 0, 0, 0, []))])
/-- 195: LastAwakeModel.digest()J -/
def mb195 : Nat × Nat × List Bk := (3, 2, [(0, [(25, 0, 0), (9, 857, 0), (181, 825, 0), (2, 0, 0), (54, 1, 0)], (0, 9, 0, 0, [])),
  (9, [(21, 1, 0), (2, 11, 0)], (3, 31, 15, 3, [])),
  (15, [(25, 0, 0), (25, 0, 0), (21, 1, 0)], (7, 192, 21, 2, [1, 8])),
  (21, [(133, 0, 0)], (7, 194, 25, 2, [1, 8])),
  (25, [(132, 1, 1)], (1, 9, 0, 0, [])),
  (31, [(2, 0, 0), (54, 1, 0)], (0, 33, 0, 0, [])),
  (33, [(21, 1, 0), (25, 0, 0), (180, 800, 0), (2, 0, 0), (46, 0, 0), (25, 0, 0), (180, 800, 0), (2, 1, 0), (46, 0, 0), (104, 0, 0)], (3, 70, 50, 3, [])),
  (50, [(25, 0, 0), (25, 0, 0), (180, 800, 0), (2, 10, 0), (21, 1, 0), (96, 0, 0), (46, 0, 0), (133, 0, 0)], (7, 194, 64, 2, [1, 8])),
  (64, [(132, 1, 1)], (1, 33, 0, 0, [])),
  (70, [(2, 0, 0), (54, 1, 0)], (0, 72, 0, 0, [])),
  (72, [(21, 1, 0), (25, 0, 0), (180, 800, 0), (2, 6, 0), (46, 0, 0)], (3, 121, 83, 3, [])),
  (83, [(2, 0, 0), (54, 2, 0)], (0, 85, 0, 0, [])),
  (85, [(21, 2, 0), (2, 8, 0)], (3, 115, 91, 3, [])),
  (91, [(25, 0, 0), (25, 0, 0), (180, 800, 0), (2, 59, 0), (2, 4, 0), (21, 2, 0), (104, 0, 0), (96, 0, 0), (21, 1, 0), (96, 0, 0), (46, 0, 0), (133, 0, 0)], (7, 194, 109, 2, [1, 8])),
  (109, [(132, 2, 1)], (1, 85, 0, 0, [])),
  (115, [(132, 1, 1)], (1, 72, 0, 0, [])),
  (121, [(2, 0, 0), (54, 1, 0)], (0, 123, 0, 0, [])),
  (123, [(21, 1, 0), (25, 0, 0), (180, 800, 0), (2, 7, 0), (46, 0, 0)], (3, 168, 134, 3, [])),
  (134, [(25, 0, 0), (25, 0, 0), (180, 800, 0), (2, 91, 0), (21, 1, 0), (96, 0, 0), (46, 0, 0), (133, 0, 0)], (7, 194, 148, 2, [1, 8])),
  (148, [(25, 0, 0), (25, 0, 0), (180, 800, 0), (2, 99, 0), (21, 1, 0), (96, 0, 0), (46, 0, 0), (133, 0, 0)], (7, 194, 162, 2, [1, 8])),
  (162, [(132, 1, 1)], (1, 123, 0, 0, [])),
  (168, [(25, 0, 0), (25, 0, 0), (180, 805, 0)], (7, 194, 176, 2, [1, 8])),
  (176, [(25, 0, 0), (25, 0, 0), (180, 806, 0)], (7, 194, 184, 2, [1, 8])),
  (184, [(25, 0, 0), (180, 825, 0)], (6, 0, 0, 0, []))])
/-- 196: java/lang/Integer.bitCount(I)I -/
def mb196 : Nat × Nat × List Bk := (1, 1, [(0, [(21, 0, 0), (21, 0, 0), (2, 1, 0), (124, 0, 0), (2, 1431655765, 0), (126, 0, 0), (100, 0, 0), (54, 0, 0), (21, 0, 0), (2, 858993459, 0), (126, 0, 0), (21, 0, 0), (2, 2, 0), (124, 0, 0), (2, 858993459, 0), (126, 0, 0), (96, 0, 0), (54, 0, 0), (21, 0, 0), (21, 0, 0), (2, 4, 0), (124, 0, 0), (96, 0, 0), (2, 252645135, 0), (126, 0, 0), (54, 0, 0), (21, 0, 0), (21, 0, 0), (2, 8, 0), (124, 0, 0), (96, 0, 0), (54, 0, 0), (21, 0, 0), (21, 0, 0), (2, 16, 0), (124, 0, 0), (96, 0, 0), (54, 0, 0), (21, 0, 0), (2, 63, 0), (126, 0, 0)], (6, 0, 0, 0, []))])
/-- 197: java/lang/String.length()I -/
def mb197 : Nat × Nat × List Bk := (1, 1, [(0, [(25, 0, 0), (205, 0, 0), (190, 0, 0), (25, 0, 0)], (7, 199, 9, 1, [1, 13])),
  (9, [(122, 0, 0)], (6, 0, 0, 0, []))])
/-- 198: java/lang/String.charAt(I)C -/
def mb198 : Nat × Nat × List Bk := (2, 5, [(0, [(25, 0, 0)], (7, 200, 4, 1, [1, 13])),
  (4, [], (2, 16, 7, 0, [])),
  (7, [(25, 0, 0), (205, 0, 0), (21, 1, 0)], (7, 202, 15, 2, [0, 0])),
  (15, [], (6, 0, 0, 0, []))])
/-- 199: java/lang/String.coder()B -/
def mb199 : Nat × Nat × List Bk := (1, 4, [(0, [(2, 1, 0)], (2, 13, 6, 0, [])),
  (6, [(25, 0, 0), (205, 1, 0)], (1, 14, 0, 0, [])),
  (13, [(2, 1, 0)], (0, 14, 0, 0, [])),
  (14, [], (6, 0, 0, 0, []))])
/-- 200: java/lang/String.isLatin1()Z -/
def mb200 : Nat × Nat × List Bk := (1, 3, [(0, [(2, 1, 0)], (2, 17, 6, 0, [])),
  (6, [(25, 0, 0), (205, 1, 0)], (2, 17, 13, 1, [])),
  (13, [(2, 1, 0)], (1, 18, 0, 0, [])),
  (17, [(2, 0, 0)], (0, 18, 0, 0, [])),
  (18, [], (6, 0, 0, 0, []))])
/-- 201: java/lang/String.checkIndex(II)V -/
def mb201 : Nat × Nat × List Bk := (2, 0, [(0, [(21, 0, 0), (21, 1, 0), (178, 19, 0)], (7, 204, 8, 3, [0, 0])),
  (8, [(87, 0, 0)], (6, 0, 0, 0, []))])
/-- 202: java/lang/StringLatin1.charAt([BI)C -/
def mb202 : Nat × Nat × List Bk := (2, 5, [(0, [(21, 1, 0), (25, 0, 0), (190, 0, 0)], (7, 201, 6, 2, [0, 0])),
  (6, [(25, 0, 0), (21, 1, 0), (51, 0, 0), (2, 255, 0), (126, 0, 0), (146, 0, 0)], (6, 0, 0, 0, []))])
/-- 203: java/util/Arrays.fill([II)V -/
def mb203 : Nat × Nat × List Bk := (4, 0, [(0, [(2, 0, 0), (54, 2, 0), (25, 0, 0), (190, 0, 0), (54, 3, 0)], (0, 5, 0, 0, [])),
  (5, [(21, 2, 0), (21, 3, 0)], (3, 20, 10, 3, [])),
  (10, [(25, 0, 0), (21, 2, 0), (21, 1, 0), (79, 0, 0), (132, 2, 1)], (1, 5, 0, 0, [])),
  (20, [], (6, 0, 0, 0, []))])
/-- 204: jdk/internal/util/Preconditions.checkIndex(IILjava/util/function/BiFunction;)I -/
def mb204 : Nat × Nat × List Bk := (3, 1, [(0, [(21, 0, 0)], (2, 9, 4, 2, [])),
  (4, [(21, 0, 0), (21, 1, 0)], (3, 16, 9, 2, [])),
  (16, [(21, 0, 0)], (6, 0, 0, 0, []))])
/-- 205: LastAwakeLaw.law([I)Z -/
def mb205 : Nat × Nat × List Bk := (4, 3, [(0, [(187, 7, 0), (89, 0, 0)], (7, 67, 7, 1, [2, 0])),
  (7, [(58, 1, 0), (187, 8, 0), (89, 0, 0)], (7, 115, 15, 1, [2, 0])),
  (15, [(58, 2, 0), (2, 0, 0), (54, 3, 0)], (0, 18, 0, 0, [])),
  (18, [(21, 3, 0), (25, 0, 0), (190, 0, 0), (2, 6, 0), (100, 0, 0)], (3, 1211, 27, 4, [])),
  (27, [(25, 0, 0), (21, 3, 0), (46, 0, 0), (2, 63, 0), (126, 0, 0)], (5, 1205, 0, 0, [188, 221, 254, 287, 310, 333, 396, 439, 462, 475, 488, 511, 524, 557, 590, 603, 626, 649, 692, 715, 738, 781, 814, 857, 900, 963, 996, 1009, 1032, 1075, 1099, 1122, 1145, 1168, 1191])),
  (188, [(25, 1, 0), (25, 0, 0), (21, 3, 0), (2, 1, 0), (96, 0, 0), (46, 0, 0), (25, 0, 0), (21, 3, 0), (2, 2, 0), (96, 0, 0), (46, 0, 0)], (7, 68, 202, 3, [1, 7])),
  (202, [(25, 2, 0), (25, 0, 0), (21, 3, 0), (2, 1, 0), (96, 0, 0), (46, 0, 0), (25, 0, 0), (21, 3, 0), (2, 2, 0), (96, 0, 0), (46, 0, 0)], (7, 128, 216, 3, [1, 8])),
  (216, [], (3, 1205, 219, 0, [])),
  (219, [(2, 0, 0)], (6, 0, 0, 0, [])),
  (221, [(25, 1, 0), (25, 0, 0), (21, 3, 0), (2, 1, 0), (96, 0, 0), (46, 0, 0), (25, 0, 0), (21, 3, 0), (2, 2, 0), (96, 0, 0), (46, 0, 0)], (7, 69, 235, 3, [1, 7])),
  (235, [(25, 2, 0), (25, 0, 0), (21, 3, 0), (2, 1, 0), (96, 0, 0), (46, 0, 0), (25, 0, 0), (21, 3, 0), (2, 2, 0), (96, 0, 0), (46, 0, 0)], (7, 130, 249, 3, [1, 8])),
  (249, [], (3, 1205, 252, 0, [])),
  (252, [(2, 0, 0)], (6, 0, 0, 0, [])),
  (254, [(25, 1, 0), (25, 0, 0), (21, 3, 0), (2, 1, 0), (96, 0, 0), (46, 0, 0), (25, 0, 0), (21, 3, 0), (2, 2, 0), (96, 0, 0), (46, 0, 0)], (7, 70, 268, 3, [1, 7])),
  (268, [(25, 2, 0), (25, 0, 0), (21, 3, 0), (2, 1, 0), (96, 0, 0), (46, 0, 0), (25, 0, 0), (21, 3, 0), (2, 2, 0), (96, 0, 0), (46, 0, 0)], (7, 131, 282, 3, [1, 8])),
  (282, [], (3, 1205, 285, 0, [])),
  (285, [(2, 0, 0)], (6, 0, 0, 0, [])),
  (287, [(25, 1, 0), (25, 0, 0), (21, 3, 0), (2, 1, 0), (96, 0, 0), (46, 0, 0)], (7, 71, 296, 2, [1, 7])),
  (296, [(25, 2, 0), (25, 0, 0), (21, 3, 0), (2, 1, 0), (96, 0, 0), (46, 0, 0)], (7, 132, 305, 2, [1, 8])),
  (305, [], (3, 1205, 308, 0, [])),
  (308, [(2, 0, 0)], (6, 0, 0, 0, [])),
  (310, [(25, 1, 0), (25, 0, 0), (21, 3, 0), (2, 1, 0), (96, 0, 0), (46, 0, 0)], (7, 72, 319, 2, [1, 7])),
  (319, [(25, 2, 0), (25, 0, 0), (21, 3, 0), (2, 1, 0), (96, 0, 0), (46, 0, 0)], (7, 133, 328, 2, [1, 8])),
  (328, [], (3, 1205, 331, 0, [])),
  (331, [(2, 0, 0)], (6, 0, 0, 0, [])),
  (333, [(25, 1, 0), (25, 0, 0), (21, 3, 0), (2, 1, 0), (96, 0, 0), (46, 0, 0), (25, 0, 0), (21, 3, 0), (2, 2, 0), (96, 0, 0), (46, 0, 0), (25, 0, 0), (21, 3, 0), (2, 3, 0), (96, 0, 0), (46, 0, 0), (25, 0, 0), (21, 3, 0), (2, 4, 0), (96, 0, 0), (46, 0, 0), (25, 0, 0), (21, 3, 0), (2, 5, 0), (96, 0, 0), (46, 0, 0)], (7, 73, 362, 6, [1, 7])),
  (362, [(25, 2, 0), (25, 0, 0), (21, 3, 0), (2, 1, 0), (96, 0, 0), (46, 0, 0), (25, 0, 0), (21, 3, 0), (2, 2, 0), (96, 0, 0), (46, 0, 0), (25, 0, 0), (21, 3, 0), (2, 3, 0), (96, 0, 0), (46, 0, 0), (25, 0, 0), (21, 3, 0), (2, 4, 0), (96, 0, 0), (46, 0, 0), (25, 0, 0), (21, 3, 0), (2, 5, 0), (96, 0, 0), (46, 0, 0)], (7, 134, 391, 6, [1, 8])),
  (391, [], (3, 1205, 394, 0, [])),
  (394, [(2, 0, 0)], (6, 0, 0, 0, [])),
  (396, [(25, 1, 0), (25, 0, 0), (21, 3, 0), (2, 1, 0), (96, 0, 0), (46, 0, 0), (25, 0, 0), (21, 3, 0), (2, 2, 0), (96, 0, 0), (46, 0, 0), (25, 0, 0), (21, 3, 0), (2, 3, 0), (96, 0, 0), (46, 0, 0)], (7, 74, 415, 4, [1, 7])),
  (415, [(25, 2, 0), (25, 0, 0), (21, 3, 0), (2, 1, 0), (96, 0, 0), (46, 0, 0), (25, 0, 0), (21, 3, 0), (2, 2, 0), (96, 0, 0), (46, 0, 0), (25, 0, 0), (21, 3, 0), (2, 3, 0), (96, 0, 0), (46, 0, 0)], (7, 135, 434, 4, [1, 8])),
  (434, [], (3, 1205, 437, 0, [])),
  (437, [(2, 0, 0)], (6, 0, 0, 0, [])),
  (439, [(25, 1, 0), (25, 0, 0), (21, 3, 0), (2, 1, 0), (96, 0, 0), (46, 0, 0)], (7, 75, 448, 2, [1, 7])),
  (448, [(25, 2, 0), (25, 0, 0), (21, 3, 0), (2, 1, 0), (96, 0, 0), (46, 0, 0)], (7, 136, 457, 2, [1, 8])),
  (457, [], (3, 1205, 460, 0, [])),
  (460, [(2, 0, 0)], (6, 0, 0, 0, [])),
  (462, [(25, 1, 0)], (7, 76, 466, 1, [1, 7])),
  (466, [(25, 2, 0)], (7, 137, 470, 1, [1, 8])),
  (470, [], (3, 1205, 473, 0, [])),
  (473, [(2, 0, 0)], (6, 0, 0, 0, [])),
  (475, [(25, 1, 0)], (7, 77, 479, 1, [1, 7])),
  (479, [(25, 2, 0)], (7, 150, 483, 1, [1, 8])),
  (483, [], (3, 1205, 486, 0, [])),
  (486, [(2, 0, 0)], (6, 0, 0, 0, [])),
  (488, [(25, 1, 0), (25, 0, 0), (21, 3, 0), (2, 1, 0), (96, 0, 0), (46, 0, 0)], (7, 78, 497, 2, [1, 7])),
  (497, [(25, 2, 0), (25, 0, 0), (21, 3, 0), (2, 1, 0), (96, 0, 0), (46, 0, 0)], (7, 162, 506, 2, [1, 8])),
  (506, [], (3, 1205, 509, 0, [])),
  (509, [(2, 0, 0)], (6, 0, 0, 0, [])),
  (511, [(25, 1, 0)], (7, 79, 515, 1, [1, 7])),
  (515, [(25, 2, 0)], (7, 163, 519, 1, [1, 8])),
  (519, [], (3, 1205, 522, 0, [])),
  (522, [(2, 0, 0)], (6, 0, 0, 0, [])),
  (524, [(25, 1, 0), (25, 0, 0), (21, 3, 0), (2, 1, 0), (96, 0, 0), (46, 0, 0), (25, 0, 0), (21, 3, 0), (2, 2, 0), (96, 0, 0), (46, 0, 0)], (7, 80, 538, 3, [1, 7])),
  (538, [(25, 2, 0), (25, 0, 0), (21, 3, 0), (2, 1, 0), (96, 0, 0), (46, 0, 0), (25, 0, 0), (21, 3, 0), (2, 2, 0), (96, 0, 0), (46, 0, 0)], (7, 165, 552, 3, [1, 8])),
  (552, [], (3, 1205, 555, 0, [])),
  (555, [(2, 0, 0)], (6, 0, 0, 0, [])),
  (557, [(25, 1, 0), (25, 0, 0), (21, 3, 0), (2, 1, 0), (96, 0, 0), (46, 0, 0), (25, 0, 0), (21, 3, 0), (2, 2, 0), (96, 0, 0), (46, 0, 0)], (7, 81, 571, 3, [1, 7])),
  (571, [(25, 2, 0), (25, 0, 0), (21, 3, 0), (2, 1, 0), (96, 0, 0), (46, 0, 0), (25, 0, 0), (21, 3, 0), (2, 2, 0), (96, 0, 0), (46, 0, 0)], (7, 154, 585, 3, [1, 8])),
  (585, [], (3, 1205, 588, 0, [])),
  (588, [(2, 0, 0)], (6, 0, 0, 0, [])),
  (590, [(25, 1, 0)], (7, 82, 594, 1, [1, 7])),
  (594, [(25, 2, 0)], (7, 155, 598, 1, [1, 8])),
  (598, [], (3, 1205, 601, 0, [])),
  (601, [(2, 0, 0)], (6, 0, 0, 0, [])),
  (603, [(25, 1, 0), (25, 0, 0), (21, 3, 0), (2, 1, 0), (96, 0, 0), (46, 0, 0)], (7, 83, 612, 2, [1, 7])),
  (612, [(25, 2, 0), (25, 0, 0), (21, 3, 0), (2, 1, 0), (96, 0, 0), (46, 0, 0)], (7, 166, 621, 2, [1, 8])),
  (621, [], (3, 1205, 624, 0, [])),
  (624, [(2, 0, 0)], (6, 0, 0, 0, [])),
  (626, [(25, 1, 0), (25, 0, 0), (21, 3, 0), (2, 1, 0), (96, 0, 0), (46, 0, 0)], (7, 84, 635, 2, [1, 7])),
  (635, [(25, 2, 0), (25, 0, 0), (21, 3, 0), (2, 1, 0), (96, 0, 0), (46, 0, 0)], (7, 167, 644, 2, [1, 8])),
  (644, [], (3, 1205, 647, 0, [])),
  (647, [(2, 0, 0)], (6, 0, 0, 0, [])),
  (649, [(25, 1, 0), (25, 0, 0), (21, 3, 0), (2, 1, 0), (96, 0, 0), (46, 0, 0), (25, 0, 0), (21, 3, 0), (2, 2, 0), (96, 0, 0), (46, 0, 0), (25, 0, 0), (21, 3, 0), (2, 3, 0), (96, 0, 0), (46, 0, 0)], (7, 85, 668, 4, [1, 7])),
  (668, [(25, 2, 0), (25, 0, 0), (21, 3, 0), (2, 1, 0), (96, 0, 0), (46, 0, 0), (25, 0, 0), (21, 3, 0), (2, 2, 0), (96, 0, 0), (46, 0, 0), (25, 0, 0), (21, 3, 0), (2, 3, 0), (96, 0, 0), (46, 0, 0)], (7, 169, 687, 4, [1, 8])),
  (687, [], (3, 1205, 690, 0, [])),
  (690, [(2, 0, 0)], (6, 0, 0, 0, [])),
  (692, [(25, 1, 0), (25, 0, 0), (21, 3, 0), (2, 1, 0), (96, 0, 0), (46, 0, 0)], (7, 86, 701, 2, [1, 7])),
  (701, [(25, 2, 0), (25, 0, 0), (21, 3, 0), (2, 1, 0), (96, 0, 0), (46, 0, 0)], (7, 171, 710, 2, [1, 8])),
  (710, [], (3, 1205, 713, 0, [])),
  (713, [(2, 0, 0)], (6, 0, 0, 0, [])),
  (715, [(25, 1, 0), (25, 0, 0), (21, 3, 0), (2, 1, 0), (96, 0, 0), (46, 0, 0)], (7, 87, 724, 2, [1, 7])),
  (724, [(25, 2, 0), (25, 0, 0), (21, 3, 0), (2, 1, 0), (96, 0, 0), (46, 0, 0)], (7, 172, 733, 2, [1, 8])),
  (733, [], (3, 1205, 736, 0, [])),
  (736, [(2, 0, 0)], (6, 0, 0, 0, [])),
  (738, [(25, 1, 0), (25, 0, 0), (21, 3, 0), (2, 1, 0), (96, 0, 0), (46, 0, 0), (25, 0, 0), (21, 3, 0), (2, 2, 0), (96, 0, 0), (46, 0, 0), (25, 0, 0), (21, 3, 0), (2, 3, 0), (96, 0, 0), (46, 0, 0)], (7, 88, 757, 4, [1, 7])),
  (757, [(25, 2, 0), (25, 0, 0), (21, 3, 0), (2, 1, 0), (96, 0, 0), (46, 0, 0), (25, 0, 0), (21, 3, 0), (2, 2, 0), (96, 0, 0), (46, 0, 0), (25, 0, 0), (21, 3, 0), (2, 3, 0), (96, 0, 0), (46, 0, 0)], (7, 174, 776, 4, [1, 8])),
  (776, [], (3, 1205, 779, 0, [])),
  (779, [(2, 0, 0)], (6, 0, 0, 0, [])),
  (781, [(25, 1, 0), (25, 0, 0), (21, 3, 0), (2, 1, 0), (96, 0, 0), (46, 0, 0), (25, 0, 0), (21, 3, 0), (2, 2, 0), (96, 0, 0), (46, 0, 0)], (7, 89, 795, 3, [1, 7])),
  (795, [(25, 2, 0), (25, 0, 0), (21, 3, 0), (2, 1, 0), (96, 0, 0), (46, 0, 0), (25, 0, 0), (21, 3, 0), (2, 2, 0), (96, 0, 0), (46, 0, 0)], (7, 177, 809, 3, [1, 8])),
  (809, [], (3, 1205, 812, 0, [])),
  (812, [(2, 0, 0)], (6, 0, 0, 0, [])),
  (814, [(25, 1, 0), (25, 0, 0), (21, 3, 0), (2, 1, 0), (96, 0, 0), (46, 0, 0), (25, 0, 0), (21, 3, 0), (2, 2, 0), (96, 0, 0), (46, 0, 0), (25, 0, 0), (21, 3, 0), (2, 3, 0), (96, 0, 0), (46, 0, 0)], (7, 90, 833, 4, [1, 7])),
  (833, [(25, 2, 0), (25, 0, 0), (21, 3, 0), (2, 1, 0), (96, 0, 0), (46, 0, 0), (25, 0, 0), (21, 3, 0), (2, 2, 0), (96, 0, 0), (46, 0, 0), (25, 0, 0), (21, 3, 0), (2, 3, 0), (96, 0, 0), (46, 0, 0)], (7, 180, 852, 4, [1, 8])),
  (852, [], (3, 1205, 855, 0, [])),
  (855, [(2, 0, 0)], (6, 0, 0, 0, [])),
  (857, [(25, 1, 0), (25, 0, 0), (21, 3, 0), (2, 1, 0), (96, 0, 0), (46, 0, 0), (25, 0, 0), (21, 3, 0), (2, 2, 0), (96, 0, 0), (46, 0, 0), (25, 0, 0), (21, 3, 0), (2, 3, 0), (96, 0, 0), (46, 0, 0)], (7, 91, 876, 4, [1, 7])),
  (876, [(25, 2, 0), (25, 0, 0), (21, 3, 0), (2, 1, 0), (96, 0, 0), (46, 0, 0), (25, 0, 0), (21, 3, 0), (2, 2, 0), (96, 0, 0), (46, 0, 0), (25, 0, 0), (21, 3, 0), (2, 3, 0), (96, 0, 0), (46, 0, 0)], (7, 181, 895, 4, [1, 8])),
  (895, [], (3, 1205, 898, 0, [])),
  (898, [(2, 0, 0)], (6, 0, 0, 0, [])),
  (900, [(25, 1, 0), (25, 0, 0), (21, 3, 0), (2, 1, 0), (96, 0, 0), (46, 0, 0), (25, 0, 0), (21, 3, 0), (2, 2, 0), (96, 0, 0), (46, 0, 0), (25, 0, 0), (21, 3, 0), (2, 3, 0), (96, 0, 0), (46, 0, 0), (25, 0, 0), (21, 3, 0), (2, 4, 0), (96, 0, 0), (46, 0, 0), (25, 0, 0), (21, 3, 0), (2, 5, 0), (96, 0, 0), (46, 0, 0)], (7, 92, 929, 6, [1, 7])),
  (929, [(25, 2, 0), (25, 0, 0), (21, 3, 0), (2, 1, 0), (96, 0, 0), (46, 0, 0), (25, 0, 0), (21, 3, 0), (2, 2, 0), (96, 0, 0), (46, 0, 0), (25, 0, 0), (21, 3, 0), (2, 3, 0), (96, 0, 0), (46, 0, 0), (25, 0, 0), (21, 3, 0), (2, 4, 0), (96, 0, 0), (46, 0, 0), (25, 0, 0), (21, 3, 0), (2, 5, 0), (96, 0, 0), (46, 0, 0)], (7, 182, 958, 6, [1, 8])),
  (958, [], (3, 1205, 961, 0, [])),
  (961, [(2, 0, 0)], (6, 0, 0, 0, [])),
  (963, [(25, 1, 0), (25, 0, 0), (21, 3, 0), (2, 1, 0), (96, 0, 0), (46, 0, 0), (25, 0, 0), (21, 3, 0), (2, 2, 0), (96, 0, 0), (46, 0, 0)], (7, 93, 977, 3, [1, 7])),
  (977, [(25, 2, 0), (25, 0, 0), (21, 3, 0), (2, 1, 0), (96, 0, 0), (46, 0, 0), (25, 0, 0), (21, 3, 0), (2, 2, 0), (96, 0, 0), (46, 0, 0)], (7, 183, 991, 3, [1, 8])),
  (991, [], (3, 1205, 994, 0, [])),
  (994, [(2, 0, 0)], (6, 0, 0, 0, [])),
  (996, [(25, 1, 0)], (7, 94, 1000, 1, [1, 7])),
  (1000, [(25, 2, 0)], (7, 184, 1004, 1, [1, 8])),
  (1004, [], (3, 1205, 1007, 0, [])),
  (1007, [(2, 0, 0)], (6, 0, 0, 0, [])),
  (1009, [(25, 1, 0), (25, 0, 0), (21, 3, 0), (2, 1, 0), (96, 0, 0), (46, 0, 0)], (7, 95, 1018, 2, [1, 7])),
  (1018, [(25, 2, 0), (25, 0, 0), (21, 3, 0), (2, 1, 0), (96, 0, 0), (46, 0, 0)], (7, 186, 1027, 2, [1, 8])),
  (1027, [], (3, 1205, 1030, 0, [])),
  (1030, [(2, 0, 0)], (6, 0, 0, 0, [])),
  (1032, [(25, 1, 0), (25, 0, 0), (21, 3, 0), (2, 1, 0), (96, 0, 0), (46, 0, 0), (25, 0, 0), (21, 3, 0), (2, 2, 0), (96, 0, 0), (46, 0, 0), (25, 0, 0), (21, 3, 0), (2, 3, 0), (96, 0, 0), (46, 0, 0)], (7, 96, 1051, 4, [1, 7])),
  (1051, [(25, 2, 0), (25, 0, 0), (21, 3, 0), (2, 1, 0), (96, 0, 0), (46, 0, 0), (25, 0, 0), (21, 3, 0), (2, 2, 0), (96, 0, 0), (46, 0, 0), (25, 0, 0), (21, 3, 0), (2, 3, 0), (96, 0, 0), (46, 0, 0)], (7, 187, 1070, 4, [1, 8])),
  (1070, [], (3, 1205, 1073, 0, [])),
  (1073, [(2, 0, 0)], (6, 0, 0, 0, [])),
  (1075, [(25, 1, 0), (25, 0, 0), (21, 3, 0), (2, 1, 0), (96, 0, 0), (46, 0, 0)], (7, 97, 1084, 2, [1, 7])),
  (1084, [(25, 2, 0), (25, 0, 0), (21, 3, 0), (2, 1, 0), (96, 0, 0), (46, 0, 0)], (7, 188, 1093, 2, [1, 8])),
  (1093, [(148, 0, 0)], (2, 1205, 1097, 0, [])),
  (1097, [(2, 0, 0)], (6, 0, 0, 0, [])),
  (1099, [(25, 1, 0), (25, 0, 0), (21, 3, 0), (2, 1, 0), (96, 0, 0), (46, 0, 0)], (7, 98, 1108, 2, [1, 7])),
  (1108, [(25, 2, 0), (25, 0, 0), (21, 3, 0), (2, 1, 0), (96, 0, 0), (46, 0, 0)], (7, 189, 1117, 2, [1, 8])),
  (1117, [], (3, 1205, 1120, 0, [])),
  (1120, [(2, 0, 0)], (6, 0, 0, 0, [])),
  (1122, [(25, 1, 0), (25, 0, 0), (21, 3, 0), (2, 1, 0), (96, 0, 0), (46, 0, 0)], (7, 99, 1131, 2, [1, 7])),
  (1131, [(25, 2, 0), (25, 0, 0), (21, 3, 0), (2, 1, 0), (96, 0, 0), (46, 0, 0)], (7, 190, 1140, 2, [1, 8])),
  (1140, [], (3, 1205, 1143, 0, [])),
  (1143, [(2, 0, 0)], (6, 0, 0, 0, [])),
  (1145, [(25, 1, 0), (25, 0, 0), (21, 3, 0), (2, 1, 0), (96, 0, 0), (46, 0, 0)], (7, 100, 1154, 2, [1, 7])),
  (1154, [(25, 2, 0), (25, 0, 0), (21, 3, 0), (2, 1, 0), (96, 0, 0), (46, 0, 0)], (7, 191, 1163, 2, [1, 8])),
  (1163, [], (3, 1205, 1166, 0, [])),
  (1166, [(2, 0, 0)], (6, 0, 0, 0, [])),
  (1168, [(25, 1, 0), (25, 0, 0), (21, 3, 0), (2, 1, 0), (96, 0, 0), (46, 0, 0)], (7, 101, 1177, 2, [1, 7])),
  (1177, [(25, 2, 0), (25, 0, 0), (21, 3, 0), (2, 1, 0), (96, 0, 0), (46, 0, 0)], (7, 193, 1186, 2, [1, 8])),
  (1186, [], (3, 1205, 1189, 0, [])),
  (1189, [(2, 0, 0)], (6, 0, 0, 0, [])),
  (1191, [(25, 1, 0)], (7, 102, 1195, 1, [1, 7])),
  (1195, [(25, 2, 0)], (7, 195, 1199, 1, [1, 8])),
  (1199, [(148, 0, 0)], (2, 1205, 1203, 0, [])),
  (1203, [(2, 0, 0)], (6, 0, 0, 0, [])),
  (1205, [(132, 3, 6)], (1, 18, 0, 0, [])),
  (1211, [(2, 1, 0)], (6, 0, 0, 0, []))])
def mBL : List (Nat × Nat × List Bk) := [mb0, mb1, mb2, mb3, mb4, mb5, mb6, mb7, mb8, mb9, mb10, mb11, mb12, mb13, mb14, mb15, mb16, mb17, mb18, mb19, mb20, mb21, mb22, mb23, mb24, mb25, mb26, mb27, mb28, mb29, mb30, mb31, mb32, mb33, mb34, mb35, mb36, mb37, mb38, mb39, mb40, mb41, mb42, mb43, mb44, mb45, mb46, mb47, mb48, mb49, mb50, mb51, mb52, mb53, mb54, mb55, mb56, mb57, mb58, mb59, mb60, mb61, mb62, mb63, mb64, mb65, mb66, mb67, mb68, mb69, mb70, mb71, mb72, mb73, mb74, mb75, mb76, mb77, mb78, mb79, mb80, mb81, mb82, mb83, mb84, mb85, mb86, mb87, mb88, mb89, mb90, mb91, mb92, mb93, mb94, mb95, mb96, mb97, mb98, mb99, mb100, mb101, mb102, mb103, mb104, mb105, mb106, mb107, mb108, mb109, mb110, mb111, mb112, mb113, mb114, mb115, mb116, mb117, mb118, mb119, mb120, mb121, mb122, mb123, mb124, mb125, mb126, mb127, mb128, mb129, mb130, mb131, mb132, mb133, mb134, mb135, mb136, mb137, mb138, mb139, mb140, mb141, mb142, mb143, mb144, mb145, mb146, mb147, mb148, mb149, mb150, mb151, mb152, mb153, mb154, mb155, mb156, mb157, mb158, mb159, mb160, mb161, mb162, mb163, mb164, mb165, mb166, mb167, mb168, mb169, mb170, mb171, mb172, mb173, mb174, mb175, mb176, mb177, mb178, mb179, mb180, mb181, mb182, mb183, mb184, mb185, mb186, mb187, mb188, mb189, mb190, mb191, mb192, mb193, mb194, mb195, mb196, mb197, mb198, mb199, mb200, mb201, mb202, mb203, mb204, mb205]
def mB (m : Nat) : Nat × Nat × List Bk := mBL.getD m (0, 0, [])
end
section
/-! WHAT THE TABLES SAY IS IN THE CLAIM (each word by its place) -/
/-- class, place, class of the field (20: String), which field -/
def fTab : List (Nat × Nat × Nat × Nat × Nat) := [(0, 11, 0, 0, 166), (0, 19, 0, 4, 178), (0, 23, 0, 1, 170), (0, 27, 0, 2, 174), (0, 30, 0, 3, 176), (0, 33, 5, 0, 159), (0, 72, 2, 0, 216), (0, 75, 2, 2, 223), (1, 9, 1, 6, 118), (1, 15, 1, 7, 120), (1, 18, 1, 0, 101), (1, 22, 1, 1, 104), (1, 25, 1, 2, 107), (1, 28, 1, 3, 109), (1, 31, 1, 4, 111), (1, 34, 1, 5, 114), (1, 43, 1, 8, 121), (2, 7, 2, 0, 214), (2, 13, 2, 1, 218), (2, 16, 2, 2, 221), (3, 9, 3, 1, 199), (3, 15, 3, 2, 200), (3, 18, 3, 0, 196), (4, 9, 4, 1, 275), (4, 15, 4, 2, 276), (4, 19, 4, 0, 273), (4, 23, 4, 5, 279), (4, 29, 4, 3, 277), (4, 36, 4, 4, 278), (4, 43, 6, 1, 251), (4, 49, 0, 1, 171), (4, 57, 4, 6, 280), (4, 100, 6, 0, 249), (4, 104, 1, 0, 102), (4, 109, 1, 1, 105), (4, 129, 1, 4, 113), (4, 135, 1, 5, 117), (4, 142, 0, 0, 169), (4, 146, 5, 0, 162), (5, 9, 5, 0, 158), (6, 12, 6, 0, 247), (6, 21, 6, 1, 250), (6, 28, 6, 2, 253), (6, 35, 6, 3, 255), (6, 48, 3, 0, 197), (6, 74, 0, 1, 172), (6, 75, 0, 0, 167), (6, 79, 5, 0, 160), (6, 89, 2, 1, 219), (6, 92, 2, 0, 215), (6, 98, 1, 5, 116), (6, 105, 2, 2, 222), (6, 113, 1, 8, 122), (7, 10, 7, 0, 298), (7, 16, 7, 1, 299), (7, 19, 7, 2, 300), (7, 26, 7, 3, 301), (7, 30, 7, 4, 302), (7, 36, 7, 5, 303), (7, 39, 7, 6, 304), (7, 42, 7, 7, 305), (7, 46, 7, 8, 306), (7, 61, 6, 0, 248), (7, 71, 1, 2, 108), (7, 75, 1, 3, 110), (7, 85, 1, 6, 119), (7, 91, 1, 4, 112), (7, 97, 1, 5, 115), (7, 104, 6, 1, 252), (7, 108, 0, 1, 173), (7, 122, 0, 0, 168), (7, 126, 5, 0, 161), (7, 131, 4, 0, 274), (7, 148, 0, 3, 177), (7, 177, 6, 3, 256), (7, 181, 2, 0, 217), (7, 186, 2, 1, 220), (7, 189, 2, 2, 224), (7, 231, 6, 2, 254), (7, 235, 3, 0, 198), (7, 264, 1, 0, 103), (7, 267, 1, 1, 106), (7, 270, 0, 2, 175), (8, 7, 8, 0, 859), (8, 13, 8, 1, 860), (8, 17, 8, 2, 861), (8, 20, 8, 4, 863), (8, 23, 8, 6, 865), (8, 27, 8, 13, 872), (8, 30, 8, 14, 873), (8, 33, 8, 15, 874), (8, 36, 8, 16, 875), (8, 39, 8, 22, 881), (8, 42, 8, 23, 882), (8, 45, 8, 24, 883), (8, 102, 8, 3, 862), (8, 106, 8, 7, 866), (8, 112, 8, 8, 867), (8, 119, 8, 10, 869), (8, 127, 8, 9, 868), (8, 133, 8, 11, 870), (8, 159, 8, 12, 871), (8, 188, 8, 17, 876), (8, 191, 8, 18, 877), (8, 194, 8, 19, 878), (8, 197, 8, 20, 879), (8, 200, 8, 21, 880), (8, 254, 8, 5, 864), (8, 293, 8, 25, 884), (13, 9, 20, 0, 1281), (13, 15, 20, 1, 1282)]
def kTab : List (Nat × Nat × Int × Nat) := [(0, 47, 1000000000, 589), (1, 60, 1000000000, 565), (6, 135, 1000000000, 731), (7, 157, -100000, 635), (7, 244, 999999, 794), (8, 178, 1000000000, 1085), (8, 228, -100000, 1142), (8, 242, -1000000000, 1177), (10, 265, 1431655765, 787), (10, 266, 858993459, 788), (10, 267, 252645135, 789)]
def lTab : List (Nat × Nat × Int × Nat) := [(0, 82, 1103515245, 799), (0, 84, 12345, 800), (0, 86, 2147483648, 801), (0, 88, 65536, 802), (0, 90, 180, 803), (0, 92, 31, 843), (1, 74, 31, 838), (3, 37, 31, 848), (7, 221, 10, 741), (7, 252, 857, 832), (7, 254, 31, 833), (8, 60, 7, 943), (8, 74, 9, 971), (8, 76, 127, 976), (8, 78, 5, 985), (8, 80, 120, 986), (8, 82, 20, 987), (8, 84, 60, 988), (8, 94, -1, 1001), (8, 115, 97, 1033), (8, 117, 122, 1034), (8, 123, 48, 1035), (8, 125, 57, 1036), (8, 212, 30, 1105), (8, 226, 3, 1141), (8, 232, 2, 1151), (8, 237, 9999, 1168), (8, 246, 6, 1190), (8, 257, 10, 1202), (8, 267, 8, 1214), (8, 269, 100, 1215), (8, 271, 4, 1232), (8, 276, 999999, 1241), (8, 278, 1103515245, 1242), (8, 280, 12345, 1243), (8, 282, 2147483648, 1244), (8, 284, 65536, 1245), (8, 286, 180, 1246), (8, 291, 31, 1280), (8, 296, 857, 1275)]
def nTab : List (Nat × Nat × Nat × Nat × Nat × Nat) := [(0, 9, 5, 149, 153, 68), (6, 9, 1, 95, 96, 66), (6, 18, 0, 143, 144, 67), (6, 25, 3, 190, 191, 69), (6, 32, 2, 208, 209, 70), (7, 7, 6, 89, 90, 65), (7, 23, 4, 267, 268, 72), (9, 7, 7, 81, 82, 64), (9, 10, 8, 849, 850, 73)]
def aTab : List (Nat × Nat × Nat × Nat × Nat) := [(0, 9, 12, 149, 150), (7, 7, 13, 89, 266)]
def mTab : List (Nat × Nat × Nat × Nat × Nat) := [(0, 17, 151, 152, 142), (7, 34, 297, 152, 142)]
def oTab : List (Nat × Nat × Nat × Nat × Nat) := [(0, 3, 148, 87, 88), (1, 3, 100, 87, 88), (2, 1, 213, 87, 88), (3, 3, 195, 87, 88), (4, 3, 272, 87, 88), (5, 3, 157, 87, 88), (6, 3, 94, 87, 88), (7, 1, 86, 87, 88), (8, 1, 854, 87, 88)]
def cTab : List (Nat × Nat × Nat × Nat × Nat × Nat) := [(0, 37, 539, 534, 533, 78), (1, 46, 532, 534, 533, 78), (3, 22, 544, 534, 533, 78)]
def xTab : List (Nat × Nat × Nat × Nat × Nat × Nat × Nat) := [(0, 48, 1, 590, 575, 79, 576), (1, 69, 1, 574, 575, 79, 576), (6, 120, 0, 716, 717, 79, 718), (6, 136, 1, 732, 575, 79, 576), (7, 273, 1, 690, 575, 79, 576)]
def gTab : List (Nat × Nat × Nat × Nat) := [(4, 54, 2, 507), (4, 112, 1, 512), (7, 261, 0, 382), (13, 38, 3, 460), (13, 1053, 4, 476)]
def iTab0 : List (Nat × Nat × Nat × Nat × Nat × Nat × Nat × Nat) := [(0, 22, 49, 4, 0, 154, 155, 0), (0, 43, 103, 3, 0, 400, 331, 0), (0, 54, 6, 1, 0, 642, 643, 644), (0, 58, 29, 1, 2, 581, 582, 583), (0, 64, 5, 1, 0, 585, 586, 587), (0, 68, 51, 1, 5, 591, 592, 593), (0, 79, 50, 1, 5, 595, 596, 597), (1, 37, 203, 0, 0, 240, 241, 0), (1, 52, 103, 3, 0, 346, 331, 0), (1, 56, 24, 1, 1, 561, 563, 9), (1, 61, 25, 1, 1, 566, 568, 10), (1, 65, 26, 1, 1, 570, 572, 11), (3, 28, 34, 1, 3, 780, 782, 22), (3, 32, 196, 0, 0, 784, 785, 0), (4, 26, 44, 1, 4, 421, 423, 2), (4, 32, 39, 1, 4, 439, 441, 5), (4, 39, 40, 1, 4, 443, 445, 6), (4, 60, 42, 0, 0, 509, 510, 0), (4, 64, 103, 3, 0, 513, 331, 0), (4, 68, 43, 1, 4, 514, 516, 8), (4, 74, 41, 1, 4, 448, 450, 7), (4, 92, 197, 1, 13, 452, 453, 454), (4, 96, 198, 1, 13, 462, 463, 464), (4, 115, 54, 1, 6, 518, 233, 234), (4, 119, 17, 1, 1, 519, 348, 349), (4, 123, 18, 1, 1, 520, 352, 353), (4, 126, 19, 1, 1, 521, 360, 361), (4, 132, 20, 1, 1, 522, 368, 369), (4, 138, 4, 1, 0, 523, 389, 390), (4, 151, 47, 0, 0, 425, 426, 0), (4, 155, 45, 1, 4, 428, 430, 3), (4, 158, 48, 0, 0, 432, 433, 0), (4, 161, 46, 1, 4, 435, 437, 4), (6, 11, 13, 4, 0, 97, 98, 0), (6, 20, 0, 2, 0, 145, 146, 0), (6, 27, 30, 4, 0, 192, 193, 0), (6, 34, 28, 4, 0, 210, 211, 0), (6, 39, 54, 1, 6, 232, 233, 234), (6, 43, 14, 1, 1, 236, 237, 238), (6, 46, 1, 1, 0, 243, 244, 245)]
def iTab1 : List (Nat × Nat × Nat × Nat × Nat × Nat × Nat × Nat) := [(6, 52, 15, 1, 1, 528, 529, 530), (6, 56, 2, 1, 0, 535, 536, 537), (6, 59, 31, 1, 3, 540, 541, 542), (6, 62, 21, 1, 1, 557, 558, 559), (6, 65, 8, 1, 0, 577, 578, 579), (6, 69, 56, 1, 6, 553, 554, 555), (6, 71, 9, 1, 0, 599, 600, 601), (6, 85, 58, 1, 6, 603, 604, 605), (6, 95, 52, 1, 5, 607, 608, 609), (6, 101, 59, 1, 6, 611, 612, 613), (6, 109, 60, 1, 6, 615, 617, 12), (6, 116, 61, 1, 6, 712, 714, 17), (6, 126, 63, 1, 6, 719, 721, 18), (6, 129, 65, 1, 6, 727, 729, 20), (6, 132, 64, 1, 6, 723, 725, 19), (7, 9, 53, 2, 0, 91, 92, 0), (7, 25, 36, 4, 0, 269, 270, 0), (7, 49, 103, 0, 0, 330, 331, 0), (7, 53, 105, 1, 7, 333, 335, 0), (7, 57, 54, 1, 6, 337, 233, 234), (7, 65, 16, 1, 1, 342, 343, 344), (7, 78, 17, 1, 1, 347, 348, 349), (7, 82, 18, 1, 1, 351, 352, 353), (7, 88, 19, 1, 1, 359, 360, 361), (7, 94, 20, 1, 1, 367, 368, 369), (7, 100, 104, 0, 0, 379, 380, 0), (7, 113, 107, 1, 7, 384, 386, 1), (7, 117, 4, 1, 0, 388, 389, 390), (7, 121, 3, 1, 0, 396, 397, 398), (7, 134, 37, 1, 4, 405, 406, 407), (7, 137, 38, 1, 4, 417, 418, 419), (7, 141, 55, 1, 6, 524, 525, 526), (7, 145, 57, 1, 6, 549, 550, 551), (7, 151, 106, 1, 7, 623, 625, 13), (7, 154, 10, 1, 0, 627, 628, 629), (7, 158, 5, 1, 0, 636, 586, 587), (7, 161, 50, 1, 5, 637, 596, 597), (7, 164, 7, 1, 0, 638, 639, 640), (7, 167, 22, 1, 1, 650, 651, 652), (7, 171, 23, 1, 1, 658, 659, 660)]
def iTab2 : List (Nat × Nat × Nat × Nat × Nat × Nat × Nat × Nat) := [(7, 174, 56, 1, 6, 666, 554, 555), (7, 193, 58, 1, 6, 671, 604, 605), (7, 196, 6, 1, 0, 676, 643, 644), (7, 199, 59, 1, 6, 681, 612, 613), (7, 202, 109, 1, 7, 686, 688, 14), (7, 205, 110, 1, 7, 695, 697, 15), (7, 208, 111, 1, 7, 699, 701, 16), (7, 211, 21, 1, 1, 707, 558, 559), (7, 214, 62, 1, 6, 708, 709, 710), (7, 217, 66, 1, 6, 733, 734, 735), (7, 223, 113, 1, 7, 742, 744, 21), (7, 227, 112, 0, 0, 753, 754, 0), (7, 238, 32, 1, 3, 764, 765, 766), (7, 241, 33, 1, 3, 776, 777, 778), (7, 245, 11, 1, 0, 795, 796, 797), (7, 249, 108, 1, 7, 824, 826, 23), (7, 256, 27, 1, 1, 834, 835, 836), (7, 259, 12, 1, 0, 839, 840, 841), (7, 260, 35, 1, 3, 844, 845, 846), (7, 278, 114, 0, 0, 746, 747, 0), (8, 48, 123, 1, 8, 855, 857, 24), (8, 52, 119, 1, 8, 951, 953, 26), (8, 56, 116, 0, 0, 944, 945, 0), (8, 62, 120, 1, 8, 947, 949, 25), (8, 66, 124, 1, 8, 959, 961, 27), (8, 70, 129, 1, 8, 963, 965, 28), (8, 86, 127, 1, 8, 989, 991, 29), (8, 90, 125, 1, 8, 997, 999, 30), (8, 96, 126, 0, 0, 1002, 1003, 0), (8, 99, 121, 1, 8, 1005, 1007, 31), (8, 109, 138, 1, 8, 1029, 1031, 34), (8, 130, 139, 1, 8, 1025, 1027, 33), (8, 136, 141, 1, 8, 1041, 1043, 36), (8, 140, 140, 1, 8, 1053, 1055, 39), (8, 143, 144, 1, 8, 1057, 1059, 40), (8, 147, 143, 1, 8, 1049, 1051, 38), (8, 150, 146, 1, 8, 1061, 1063, 41), (8, 153, 145, 1, 8, 1065, 1067, 42), (8, 156, 147, 1, 8, 1069, 1071, 43), (8, 162, 142, 1, 8, 1037, 1039, 35)]
def iTab3 : List (Nat × Nat × Nat × Nat × Nat × Nat × Nat × Nat) := [(8, 165, 148, 1, 8, 1045, 1047, 37), (8, 168, 149, 1, 8, 1021, 1023, 32), (8, 171, 122, 1, 8, 1073, 1075, 44), (8, 175, 117, 0, 0, 1094, 1095, 0), (8, 179, 152, 1, 8, 1086, 1088, 46), (8, 182, 151, 1, 8, 1090, 1092, 47), (8, 185, 153, 1, 8, 1081, 1083, 45), (8, 203, 157, 1, 8, 1118, 1120, 51), (8, 206, 118, 0, 0, 1130, 1131, 0), (8, 209, 159, 1, 8, 1126, 1128, 53), (8, 214, 156, 1, 8, 1106, 1108, 48), (8, 217, 161, 1, 8, 1110, 1112, 49), (8, 220, 158, 1, 8, 1114, 1116, 50), (8, 223, 160, 1, 8, 1122, 1124, 52), (8, 229, 164, 1, 8, 1143, 1145, 54), (8, 234, 168, 1, 8, 1160, 1162, 55), (8, 239, 170, 1, 8, 1169, 1171, 56), (8, 243, 173, 1, 8, 1182, 1184, 57), (8, 248, 175, 0, 0, 1191, 1192, 0), (8, 251, 176, 1, 8, 1194, 1196, 58), (8, 259, 179, 0, 0, 1203, 1204, 0), (8, 263, 178, 1, 8, 1206, 1208, 59), (8, 273, 185, 1, 8, 1233, 1235, 60), (8, 288, 192, 1, 8, 1267, 1269, 61), (8, 298, 194, 1, 8, 1276, 1278, 62), (9, 9, 67, 2, 0, 83, 84, 0), (9, 12, 115, 2, 0, 851, 852, 0), (9, 13, 68, 1, 7, 326, 327, 328), (9, 17, 128, 1, 8, 939, 940, 941), (9, 18, 69, 1, 7, 338, 339, 340), (9, 21, 130, 1, 8, 955, 956, 957), (9, 22, 70, 1, 7, 355, 356, 357), (9, 25, 131, 1, 8, 967, 968, 969), (9, 26, 71, 1, 7, 363, 364, 365), (9, 30, 132, 1, 8, 972, 973, 974), (9, 31, 72, 1, 7, 371, 372, 373), (9, 34, 133, 1, 8, 977, 978, 979), (9, 35, 73, 1, 7, 375, 376, 377), (9, 39, 134, 1, 8, 981, 982, 983), (9, 40, 74, 1, 7, 392, 393, 394)]
def iTab4 : List (Nat × Nat × Nat × Nat × Nat × Nat × Nat × Nat) := [(9, 44, 135, 1, 8, 993, 994, 995), (9, 45, 75, 1, 7, 401, 402, 403), (9, 48, 136, 1, 8, 1009, 1010, 1011), (9, 49, 76, 1, 7, 409, 410, 411), (9, 53, 137, 1, 8, 1013, 1014, 1015), (9, 54, 77, 1, 7, 413, 414, 415), (9, 57, 150, 1, 8, 1017, 1018, 1019), (9, 58, 78, 1, 7, 545, 546, 547), (9, 61, 162, 1, 8, 1101, 1102, 1103), (9, 62, 79, 1, 7, 619, 620, 621), (9, 65, 163, 1, 8, 1133, 1134, 1135), (9, 66, 80, 1, 7, 631, 632, 633), (9, 69, 165, 1, 8, 1137, 1138, 1139), (9, 70, 81, 1, 7, 646, 647, 648), (9, 73, 154, 1, 8, 1077, 1078, 1079), (9, 74, 82, 1, 7, 654, 655, 656), (9, 77, 155, 1, 8, 1097, 1098, 1099), (9, 78, 83, 1, 7, 662, 663, 664), (9, 81, 166, 1, 8, 1147, 1148, 1149), (9, 82, 84, 1, 7, 667, 668, 669), (9, 85, 167, 1, 8, 1152, 1153, 1154), (9, 86, 85, 1, 7, 672, 673, 674), (9, 89, 169, 1, 8, 1156, 1157, 1158), (9, 90, 86, 1, 7, 677, 678, 679), (9, 93, 171, 1, 8, 1164, 1165, 1166), (9, 94, 87, 1, 7, 682, 683, 684), (9, 97, 172, 1, 8, 1173, 1174, 1175), (9, 98, 88, 1, 7, 691, 692, 693), (9, 101, 174, 1, 8, 1178, 1179, 1180), (9, 102, 89, 1, 7, 703, 704, 705), (9, 105, 177, 1, 8, 1186, 1187, 1188), (9, 106, 90, 1, 7, 737, 738, 739), (9, 109, 180, 1, 8, 1198, 1199, 1200), (9, 110, 91, 1, 7, 749, 750, 751), (9, 113, 181, 1, 8, 1210, 1211, 1212), (9, 114, 92, 1, 7, 756, 757, 758), (9, 117, 182, 1, 8, 1216, 1217, 1218), (9, 118, 93, 1, 7, 760, 761, 762), (9, 121, 183, 1, 8, 1220, 1221, 1222), (9, 122, 94, 1, 7, 768, 769, 770)]
def iTab5 : List (Nat × Nat × Nat × Nat × Nat × Nat × Nat × Nat) := [(9, 125, 184, 1, 8, 1224, 1225, 1226), (9, 126, 95, 1, 7, 772, 773, 774), (9, 129, 186, 1, 8, 1228, 1229, 1230), (9, 130, 96, 1, 7, 790, 791, 792), (9, 133, 187, 1, 8, 1237, 1238, 1239), (9, 134, 97, 1, 7, 804, 805, 806), (9, 138, 188, 1, 8, 1247, 1248, 1249), (9, 139, 98, 1, 7, 808, 809, 810), (9, 142, 189, 1, 8, 1251, 1252, 1253), (9, 143, 99, 1, 7, 812, 813, 814), (9, 146, 190, 1, 8, 1255, 1256, 1257), (9, 147, 100, 1, 7, 816, 817, 818), (9, 150, 191, 1, 8, 1259, 1260, 1261), (9, 151, 101, 1, 7, 820, 821, 822), (9, 154, 193, 1, 8, 1263, 1264, 1265), (9, 155, 102, 1, 7, 828, 829, 830), (9, 159, 195, 1, 8, 1271, 1272, 1273), (13, 335, 199, 1, 13, 456, 457, 458), (13, 492, 200, 1, 13, 466, 467, 468), (13, 495, 202, 0, 0, 470, 471, 0), (13, 1059, 204, 0, 0, 478, 479, 0), (14, 9, 201, 0, 0, 473, 474, 0)]
/-- class, place, the method called, how (0 static, 1 an object's, 2 a constructor, 3 static by the nest, 4 a constructor by the nest), whose -/
def iTab : List (Nat × Nat × Nat × Nat × Nat × Nat × Nat × Nat) := iTab0 ++ (iTab1 ++ (iTab2 ++ (iTab3 ++ (iTab4 ++ (iTab5)))))
def mKL : List Mt := [(0, "<init>", cX0_init, 2, 2, 32), (0, "startAnew", cX0_startAnew, 1, 0, 0), (0, "copyFrom", cX0_copyFrom, 3, 1, 40), (0, "has", cX0_has, 2, 1, 22), (0, "welcome", cX0_welcome, 7, 0, 0), (0, "leastCount", cX0_leastCount, 3, 1, 21), (0, "sum", cX0_sum, 4, 0, 0), (0, "feltBy", cX0_feltBy, 2, 1, 23), (0, "foresee", cX0_foresee, 7, 2, 43), (0, "rememberNight", cX0_rememberNight, 3, 1, 21), (0, "forgetNight", cX0_forgetNight, 3, 0, 0), (0, "drawUps", cX0_drawUps, 7, 0, 0), (0, "mixInto", cX0_mixInto, 7, 0, 0), (1, "<init>", cX1_init, 1, 1, 12), (1, "layOut", cX1_layOut, 3, 1, 23), (1, "copyFrom", cX1_copyFrom, 2, 1, 40), (1, "has", cX1_has, 2, 1, 22), (1, "putSwitch", cX1_putSwitch, 2, 0, 0), (1, "putBed", cX1_putBed, 2, 0, 0), (1, "putThings", cX1_putThings, 3, 0, 0), (1, "shineOn", cX1_shineOn, 2, 0, 0), (1, "measureWalk", cX1_measureWalk, 1, 3, 75), (1, "wayBetween", cX1_wayBetween, 3, 3, 75), (1, "nearestBed", cX1_nearestBed, 3, 3, 75), (1, "measureWaysTo", cX1_measureWaysTo, 7, 2, 49), (1, "shorten", cX1_shorten, 6, 1, 24), (1, "wayOver", cX1_wayOver, 5, 0, 0), (1, "mixInto", cX1_mixInto, 6, 0, 0), (2, "<init>", cX2_init, 1, 1, 12), (2, "endAt", cX2_endAt, 4, 0, 0), (3, "<init>", cX3_init, 1, 1, 12), (3, "copyFrom", cX3_copyFrom, 2, 1, 40), (3, "write", cX3_write, 3, 0, 0), (3, "suspects", cX3_suspects, 5, 2, 45), (3, "liarsIf", cX3_liarsIf, 6, 1, 20), (3, "mixInto", cX3_mixInto, 6, 0, 0), (4, "<init>", cX4_init, 1, 1, 12), (4, "append", cX4_append, 2, 0, 0), (4, "tellRoom", cX4_tellRoom, 3, 7, 152), (4, "itemStands", cX4_itemStands, 6, 6, 127), (4, "itemOfWord", cX4_itemOfWord, 1, 5, 107), (4, "wordIs", cX4_wordIs, 3, 4, 85), (4, "mostOfNumber", cX4_mostOfNumber, 4, 0, 0), (4, "apply", cX4_apply, 3, 3, 67), (4, "nextToken", cX4_nextToken, 1, 2, 40), (4, "takeWord", cX4_takeWord, 1, 1, 20), (4, "takeNumber", cX4_takeNumber, 1, 1, 20), (4, "isLetter", cX4_isLetter, 1, 0, 0), (4, "isFigure", cX4_isFigure, 1, 0, 0), (5, "<init>", cX5_init, 1, 1, 12), (5, "waits", cX5_waits, 6, 0, 0), (5, "isUpAnyhow", cX5_isUpAnyhow, 1, 0, 0), (5, "lightCost", cX5_lightCost, 3, 0, 0), (6, "<init>", cX6_init, 1, 3, 67), (6, "startAnew", cX6_startAnew, 3, 2, 45), (6, "copyFrom", cX6_copyFrom, 2, 2, 62), (6, "foresee", cX6_foresee, 1, 4, 95), (6, "spendNight", cX6_spendNight, 2, 5, 115), (6, "costTonight", cX6_costTonight, 4, 2, 43), (6, "errandTonight", cX6_errandTonight, 1, 1, 23), (6, "errandOf", cX6_errandOf, 4, 0, 0), (6, "burden", cX6_burden, 5, 1, 23), (6, "leastOfTurns", cX6_leastOfTurns, 4, 4, 96), (6, "turnsWithin", cX6_turnsWithin, 5, 3, 71), (6, "ownTurnsWithin", cX6_ownTurnsWithin, 5, 2, 47), (6, "nextBurden", cX6_nextBurden, 6, 3, 71), (6, "whoseTurn", cX6_whoseTurn, 6, 3, 71), (7, "<init>", cX7_init, 1, 4, 87), (7, "room", cX7_room, 3, 3, 67), (7, "place", cX7_place, 5, 2, 43), (7, "things", cX7_things, 5, 2, 43), (7, "moon", cX7_moon, 3, 1, 22), (7, "cord", cX7_cord, 3, 1, 22), (7, "sleeper", cX7_sleeper, 6, 2, 43), (7, "become", cX7_become, 6, 2, 43), (7, "type", cX7_type, 2, 1, 22), (7, "clear", cX7_clear, 2, 0, 0), (7, "read", cX7_read, 2, 8, 174), (7, "pass", cX7_pass, 4, 6, 136), (7, "undo", cX7_undo, 1, 1, 22), (7, "about", cX7_about, 4, 2, 44), (7, "way", cX7_way, 3, 4, 97), (7, "bed", cX7_bed, 1, 4, 97), (7, "tonight", cX7_tonight, 3, 5, 115), (7, "cost", cX7_cost, 2, 5, 115), (7, "foretold", cX7_foretold, 5, 6, 136), (7, "worth", cX7_worth, 4, 6, 136), (7, "reading", cX7_reading, 6, 6, 137), (7, "waiting", cX7_waiting, 8, 6, 139), (7, "turns", cX7_turns, 4, 5, 119), (7, "shoe", cX7_shoe, 11, 2, 56), (7, "clap", cX7_clap, 9, 2, 56), (7, "asleep", cX7_asleep, 12, 2, 56), (7, "note", cX7_note, 3, 2, 43), (7, "burn", cX7_burn, 2, 0, 0), (7, "who", cX7_who, 2, 3, 69), (7, "drawn", cX7_drawn, 8, 6, 136), (7, "part", cX7_part, 2, 1, 22), (7, "image", cX7_image, 2, 4, 87), (7, "from", cX7_from, 2, 3, 83), (7, "status", cX7_status, 2, 1, 22), (7, "count", cX7_count, 2, 1, 22), (7, "digest", cX7_digest, 4, 1, 26), (7, "within", cX7_within, 3, 0, 0), (7, "fitsTrait", cX7_fitsTrait, 2, 1, 22), (7, "bad", cX7_bad, 2, 0, 0), (7, "no", cX7_no, 1, 0, 0), (7, "full", cX7_full, 1, 0, 0), (7, "howMany", cX7_howMany, 2, 0, 0), (7, "joyOfReading", cX7_joyOfReading, 3, 5, 115), (7, "fillCosts", cX7_fillCosts, 5, 5, 115), (7, "pairRests", cX7_pairRests, 4, 0, 0), (7, "turnedAbout", cX7_turnedAbout, 5, 0, 0), (7, "setFraction", cX7_setFraction, 7, 1, 30), (7, "commonDivisor", cX7_commonDivisor, 11, 0, 0), (8, "<init>", cX8_init, 1, 1, 24), (8, "in", cX8_in, 6, 0, 0), (8, "has", cX8_has, 2, 0, 0), (8, "more", cX8_more, 2, 0, 0), (8, "met", cX8_met, 2, 0, 0), (8, "bad", cX8_bad, 1, 1, 21), (8, "badAs", cX8_badAs, 2, 0, 0), (8, "copy", cX8_copy, 4, 0, 0), (8, "begins", cX8_begins, 5, 0, 0), (8, "isCell", cX8_isCell, 3, 1, 25), (8, "isOne", cX8_isOne, 2, 1, 25), (8, "most", cX8_most, 1, 0, 0), (8, "comes", cX8_comes, 8, 0, 0), (8, "room", cX8_room, 3, 2, 41), (8, "becomes", cX8_becomes, 4, 0, 0), (8, "place", cX8_place, 3, 2, 47), (8, "things", cX8_things, 3, 2, 47), (8, "moon", cX8_moon, 2, 2, 41), (8, "cord", cX8_cord, 2, 2, 41), (8, "sleeper", cX8_sleeper, 6, 2, 41), (8, "become", cX8_become, 5, 2, 46), (8, "type", cX8_type, 2, 2, 41), (8, "clear", cX8_clear, 2, 0, 0), (8, "byteAt", cX8_byteAt, 2, 0, 0), (8, "token", cX8_token, 1, 1, 25), (8, "takes", cX8_takes, 4, 2, 45), (8, "isNamed", cX8_isNamed, 7, 1, 21), (8, "wordNow", cX8_wordNow, 1, 2, 47), (8, "takesRoom", cX8_takesRoom, 2, 3, 68), (8, "takesCell", cX8_takesCell, 1, 3, 68), (8, "takesSleeper", cX8_takesSleeper, 4, 3, 68), (8, "takesThing", cX8_takesThing, 2, 4, 88), (8, "takesUp", cX8_takesUp, 2, 3, 68), (8, "takesItem", cX8_takesItem, 4, 5, 109), (8, "reads", cX8_reads, 2, 6, 132), (8, "read", cX8_read, 1, 7, 153), (8, "stepTo", cX8_stepTo, 2, 1, 21), (8, "areBeside", cX8_areBeside, 5, 0, 0), (8, "wayOf", cX8_wayOf, 7, 2, 42), (8, "way", cX8_way, 3, 3, 68), (8, "bed", cX8_bed, 5, 3, 68), (8, "layNow", cX8_layNow, 2, 3, 68), (8, "waits", cX8_waits, 5, 0, 0), (8, "goNight", cX8_goNight, 4, 1, 24), (8, "costOf", cX8_costOf, 4, 1, 21), (8, "pays", cX8_pays, 2, 2, 44), (8, "minds", cX8_minds, 3, 0, 0), (8, "pass", cX8_pass, 5, 4, 89), (8, "undo", cX8_undo, 3, 1, 21), (8, "feltBy", cX8_feltBy, 4, 0, 0), (8, "about", cX8_about, 3, 4, 89), (8, "tonight", cX8_tonight, 2, 4, 89), (8, "cost", cX8_cost, 2, 4, 89), (8, "sumOf", cX8_sumOf, 4, 0, 0), (8, "foretold", cX8_foretold, 5, 4, 89), (8, "layWithout", cX8_layWithout, 2, 4, 89), (8, "worth", cX8_worth, 3, 5, 110), (8, "reading", cX8_reading, 7, 4, 89), (8, "layCosts", cX8_layCosts, 6, 4, 89), (8, "waiting", cX8_waiting, 9, 5, 114), (8, "power", cX8_power, 4, 0, 0), (8, "mostBy", cX8_mostBy, 6, 2, 44), (8, "turns", cX8_turns, 7, 4, 89), (8, "tells", cX8_tells, 11, 0, 0), (8, "raised", cX8_raised, 6, 0, 0), (8, "shoe", cX8_shoe, 9, 2, 41), (8, "clap", cX8_clap, 13, 2, 41), (8, "asleep", cX8_asleep, 11, 2, 41), (8, "note", cX8_note, 3, 2, 46), (8, "burn", cX8_burn, 2, 0, 0), (8, "liarsIf", cX8_liarsIf, 6, 1, 21), (8, "who", cX8_who, 4, 2, 46), (8, "drawn", cX8_drawn, 10, 4, 89), (8, "part", cX8_part, 2, 2, 41), (8, "image", cX8_image, 2, 2, 41), (8, "from", cX8_from, 2, 2, 41), (8, "status", cX8_status, 2, 1, 25), (8, "countOf", cX8_countOf, 2, 0, 0), (8, "count", cX8_count, 2, 2, 41), (8, "mix", cX8_mix, 3, 0, 0), (8, "digest", cX8_digest, 3, 1, 22), (10, "bitCount", cJ6_bitCount_0f7a4, 1, 0, 0), (13, "length", cJ0_length_8abf5, 1, 1, 20), (13, "charAt", cJ0_charAt_5068e, 2, 3, 64), (13, "coder", cJ0_coder_7d493, 1, 0, 0), (13, "isLatin1", cJ0_isLatin1_aae02, 1, 0, 0), (13, "checkIndex", cJ0_checkIndex_df160, 2, 1, 22), (14, "charAt", cJ1_charAt_3b067, 2, 2, 43), (12, "fill", cJ7_fill_53178, 4, 0, 0), (15, "checkIndex", cJ3_checkIndex_8e157, 3, 0, 0), (9, "law", cL_law, 4, 9, 195)]
def mYL : List MethodName := [yX0_init, yX0_startAnew, yX0_copyFrom, yX0_has, yX0_welcome, yX0_leastCount, yX0_sum, yX0_feltBy, yX0_foresee, yX0_rememberNight, yX0_forgetNight, yX0_drawUps, yX0_mixInto, yX1_init, yX1_layOut, yX1_copyFrom, yX1_has, yX1_putSwitch, yX1_putBed, yX1_putThings, yX1_shineOn, yX1_measureWalk, yX1_wayBetween, yX1_nearestBed, yX1_measureWaysTo, yX1_shorten, yX1_wayOver, yX1_mixInto, yX2_init, yX2_endAt, yX3_init, yX3_copyFrom, yX3_write, yX3_suspects, yX3_liarsIf, yX3_mixInto, yX4_init, yX4_append, yX4_tellRoom, yX4_itemStands, yX4_itemOfWord, yX4_wordIs, yX4_mostOfNumber, yX4_apply, yX4_nextToken, yX4_takeWord, yX4_takeNumber, yX4_isLetter, yX4_isFigure, yX5_init, yX5_waits, yX5_isUpAnyhow, yX5_lightCost, yX6_init, yX6_startAnew, yX6_copyFrom, yX6_foresee, yX6_spendNight, yX6_costTonight, yX6_errandTonight, yX6_errandOf, yX6_burden, yX6_leastOfTurns, yX6_turnsWithin, yX6_ownTurnsWithin, yX6_nextBurden, yX6_whoseTurn, yX7_init, yX7_room, yX7_place, yX7_things, yX7_moon, yX7_cord, yX7_sleeper, yX7_become, yX7_type, yX7_clear, yX7_read, yX7_pass, yX7_undo, yX7_about, yX7_way, yX7_bed, yX7_tonight, yX7_cost, yX7_foretold, yX7_worth, yX7_reading, yX7_waiting, yX7_turns, yX7_shoe, yX7_clap, yX7_asleep, yX7_note, yX7_burn, yX7_who, yX7_drawn, yX7_part, yX7_image, yX7_from, yX7_status, yX7_count, yX7_digest, yX7_within, yX7_fitsTrait, yX7_bad, yX7_no, yX7_full, yX7_howMany, yX7_joyOfReading, yX7_fillCosts, yX7_pairRests, yX7_turnedAbout, yX7_setFraction, yX7_commonDivisor, yX8_init, yX8_in, yX8_has, yX8_more, yX8_met, yX8_bad, yX8_badAs, yX8_copy, yX8_begins, yX8_isCell, yX8_isOne, yX8_most, yX8_comes, yX8_room, yX8_becomes, yX8_place, yX8_things, yX8_moon, yX8_cord, yX8_sleeper, yX8_become, yX8_type, yX8_clear, yX8_byteAt, yX8_token, yX8_takes, yX8_isNamed, yX8_wordNow, yX8_takesRoom, yX8_takesCell, yX8_takesSleeper, yX8_takesThing, yX8_takesUp, yX8_takesItem, yX8_reads, yX8_read, yX8_stepTo, yX8_areBeside, yX8_wayOf, yX8_way, yX8_bed, yX8_layNow, yX8_waits, yX8_goNight, yX8_costOf, yX8_pays, yX8_minds, yX8_pass, yX8_undo, yX8_feltBy, yX8_about, yX8_tonight, yX8_cost, yX8_sumOf, yX8_foretold, yX8_layWithout, yX8_worth, yX8_reading, yX8_layCosts, yX8_waiting, yX8_power, yX8_mostBy, yX8_turns, yX8_tells, yX8_raised, yX8_shoe, yX8_clap, yX8_asleep, yX8_note, yX8_burn, yX8_liarsIf, yX8_who, yX8_drawn, yX8_part, yX8_image, yX8_from, yX8_status, yX8_countOf, yX8_count, yX8_mix, yX8_digest, yJ6_bitCount_0f7a4, yJ0_length_8abf5, yJ0_charAt_5068e, yJ0_coder_7d493, yJ0_isLatin1_aae02, yJ0_checkIndex_df160, yJ1_charAt_3b067, yJ7_fill_53178, yJ3_checkIndex_8e157, yL_law]
def mNL : List Nat := [0, 0, 1, 1, 5, 0, 1, 1, 1, 0, 0, 1, 1, 0, 2, 1, 1, 1, 1, 2, 1, 0, 2, 0, 1, 2, 2, 1, 0, 3, 0, 1, 2, 2, 1, 1, 0, 1, 1, 2, 0, 1, 3, 2, 0, 0, 0, 1, 1, 0, 1, 0, 1, 0, 2, 1, 0, 0, 1, 0, 2, 3, 1, 2, 3, 2, 3, 0, 2, 2, 2, 1, 1, 5, 3, 1, 0, 0, 1, 0, 2, 2, 0, 1, 1, 3, 1, 1, 3, 2, 3, 3, 5, 2, 0, 1, 3, 1, 1, 1, 1, 1, 0, 3, 2, 1, 0, 0, 1, 2, 2, 2, 3, 2, 2, 0, 3, 2, 2, 1, 0, 1, 2, 3, 2, 1, 1, 6, 2, 2, 2, 2, 1, 1, 5, 3, 1, 0, 1, 0, 2, 5, 0, 0, 0, 0, 0, 0, 1, 0, 0, 1, 2, 2, 2, 0, 0, 1, 0, 1, 0, 0, 1, 0, 1, 2, 1, 1, 1, 3, 0, 1, 1, 2, 3, 2, 2, 2, 2, 2, 3, 3, 5, 2, 0, 1, 1, 3, 1, 1, 1, 1, 1, 1, 1, 0, 1, 0, 1, 0, 0, 2, 2, 2, 3, 1]
def yPL : List (Nat × Nat) := [(147, 67), (246, 67), (538, 67), (399, 67), (391, 67), (588, 67), (645, 67), (641, 67), (580, 67), (602, 67), (630, 67), (798, 67), (842, 67), (99, 66), (239, 66), (531, 66), (345, 66), (350, 66), (354, 66), (362, 66), (370, 66), (560, 66), (653, 66), (661, 66), (564, 66), (569, 66), (573, 66), (837, 66), (212, 70), (584, 70), (194, 69), (543, 69), (767, 69), (779, 69), (783, 69), (847, 69), (271, 72), (408, 72), (420, 72), (442, 72), (446, 72), (451, 72), (511, 72), (517, 72), (424, 72), (431, 72), (438, 72), (427, 72), (434, 72), (156, 68), (598, 68), (594, 68), (610, 68), (93, 65), (235, 65), (527, 65), (556, 65), (552, 65), (606, 65), (614, 65), (618, 65), (715, 65), (711, 65), (722, 65), (726, 65), (730, 65), (736, 65), (85, 64), (329, 64), (341, 64), (358, 64), (366, 64), (374, 64), (378, 64), (395, 64), (404, 64), (412, 64), (416, 64), (548, 64), (622, 64), (634, 64), (649, 64), (657, 64), (665, 64), (670, 64), (675, 64), (680, 64), (685, 64), (694, 64), (706, 64), (740, 64), (752, 64), (759, 64), (763, 64), (771, 64), (775, 64), (793, 64), (807, 64), (811, 64), (815, 64), (819, 64), (823, 64), (831, 64), (332, 64), (381, 64), (336, 64), (626, 64), (387, 64), (827, 64), (689, 64), (698, 64), (702, 64), (755, 64), (745, 64), (748, 64), (853, 73), (946, 73), (1096, 73), (1132, 73), (954, 73), (950, 73), (1008, 73), (1076, 73), (858, 73), (962, 73), (1000, 73), (1004, 73), (992, 73), (942, 73), (966, 73), (958, 73), (970, 73), (975, 73), (980, 73), (984, 73), (996, 73), (1012, 73), (1016, 73), (1032, 73), (1028, 73), (1056, 73), (1044, 73), (1040, 73), (1052, 73), (1060, 73), (1068, 73), (1064, 73), (1072, 73), (1048, 73), (1024, 73), (1020, 73), (1093, 73), (1089, 73), (1084, 73), (1080, 73), (1100, 73), (1109, 73), (1121, 73), (1117, 73), (1129, 73), (1125, 73), (1113, 73), (1104, 73), (1136, 73), (1146, 73), (1140, 73), (1150, 73), (1155, 73), (1163, 73), (1159, 73), (1172, 73), (1167, 73), (1176, 73), (1185, 73), (1181, 73), (1193, 73), (1197, 73), (1189, 73), (1209, 73), (1205, 73), (1201, 73), (1213, 73), (1219, 73), (1223, 73), (1227, 73), (1236, 73), (1231, 73), (1240, 73), (1250, 73), (1254, 73), (1258, 73), (1262, 73), (1270, 73), (1266, 73), (1279, 73), (1274, 73), (786, 80), (455, 74), (465, 74), (459, 74), (469, 74), (475, 74), (472, 75), (242, 71), (480, 76)]
def mK (m : Nat) : Mt := mKL.getD m (0, "", ⟨#[]⟩, 0, 0, 0)
def mY (m : Nat) : MethodName := mYL.getD m ⟨"", "", ""⟩
def mN (m : Nat) : Nat := mNL.getD m 0
def rtT (k : Nat) : Option FieldType := match k with
  | 0 => none
  | 1 => some .int
  | 2 => some .long
  | 3 => some .boolean
  | 4 => some .byte
  | _ => some .char
abbrev cW (m : Nat) : Cond := .code (mY m) (mK m).2.2.1 (mK m).2.2.2.1 (rtT (mB m).2.1)
def inW (p : Nat) (w : Cond) : Bool := decide (lw_tbl[p]? = some w) && goodWord w
theorem inW_tG {p : Nat} {w : Cond} (h : inW p w = true) : w ∈ tG := by
  unfold inW at h
  rw [Bool.and_eq_true, decide_eq_true_eq] at h
  exact tG_of (List.mem_of_getElem? h.1) h.2
def inN (p : Nat) (w : Cond) : Bool := decide (lw_tbl[p]? = some w) && isN w
theorem inN_nW {p : Nat} {w : Cond} (h : inN p w = true) : w ∈ nW := by
  unfold inN at h
  rw [Bool.and_eq_true, decide_eq_true_eq] at h
  exact List.mem_filter.mpr ⟨List.mem_of_getElem? h.1, h.2⟩
def fOk (r : Nat × Nat × Nat × Nat × Nat) : Bool := if r.2.2.1 < 9 then decide (r.2.2.2.1 < clN r.2.2.1) && inW r.2.2.2.2 (.fieldLink (clS r.1) r.2.1 (clT r.2.2.1 r.2.2.2.1).1 (clT r.2.2.1 r.2.2.2.1).2.1 (clT r.2.2.1 r.2.2.2.1).2.2.1)
  else decide (r.2.2.2.1 < 2) && inW r.2.2.2.2 (.fieldLink (clS r.1) r.2.1 "java/lang/String" (if r.2.2.2.1 = 0 then "value" else "coder") (if r.2.2.2.1 = 0 then "[B" else "B"))
theorem fTab_ok : fTab.all fOk = true := by decide +kernel
def kOk (r : Nat × Nat × Int × Nat) : Bool := inW r.2.2.2 (.constant (clS r.1) r.2.1 (Int32.ofInt r.2.2.1))
theorem kTab_ok : kTab.all kOk = true := by decide +kernel
def lOk (r : Nat × Nat × Int × Nat) : Bool := inW r.2.2.2 (.constantLong (clS r.1) r.2.1 (Int64.ofInt r.2.2.1))
theorem lTab_ok : lTab.all lOk = true := by decide +kernel
def nOk (r : Nat × Nat × Nat × Nat × Nat × Nat) : Bool := decide (r.2.2.1 < 9) && (inW r.2.2.2.1 (.classLink (clS r.1) r.2.1 (clS r.2.2.1)) && (inW r.2.2.2.2.1 (.instantiable (clS r.2.2.1) (clN r.2.2.1)) && inW r.2.2.2.2.2 (.initialized (clS r.2.2.1))))
theorem nTab_ok : nTab.all nOk = true := by decide +kernel
def aOk (r : Nat × Nat × Nat × Nat × Nat) : Bool := decide (r.2.2.1 = 12 ∨ r.2.2.1 = 13) && (inW r.2.2.2.1 (.classLink (clS r.1) r.2.1 (clS (r.2.2.1 - 7))) && inN r.2.2.2.2 (.arrayOver (.object (clS (r.2.2.1 - 7)))))
theorem aTab_ok : aTab.all aOk = true := by decide +kernel
def mOk (r : Nat × Nat × Nat × Nat × Nat) : Bool := inW r.2.2.1 (.classLink (clS r.1) r.2.1 "[[I") && (inN r.2.2.2.1 (.arrayOver (.array .int)) && inW r.2.2.2.2 (.arrayClass .int))
theorem mTab_ok : mTab.all mOk = true := by decide +kernel
def oOk (r : Nat × Nat × Nat × Nat × Nat) : Bool := inW r.2.2.1 (.methodLink (clS r.1) r.2.1 Lib.objectInit) && (inW r.2.2.2.1 (.instanceMethod Lib.objectInit) && inW r.2.2.2.2 (.code Lib.objectInit ⟨#[0xb1]⟩ 1 none))
theorem oTab_ok : oTab.all oOk = true := by decide +kernel
def cOk (r : Nat × Nat × Nat × Nat × Nat × Nat) : Bool := inW r.2.2.1 (.methodLink (clS r.1) r.2.1 arraycopyName) && (inW r.2.2.2.1 (.native arraycopyName) && (inW r.2.2.2.2.1 (.static arraycopyName) && inW r.2.2.2.2.2 (.initialized "java/lang/System")))
theorem cTab_ok : cTab.all cOk = true := by decide +kernel
def xOk (r : Nat × Nat × Nat × Nat × Nat × Nat × Nat) : Bool := match r.2.2.1 with
  | 0 => inW r.2.2.2.1 (.methodLink (clS r.1) r.2.1 Lib.Math.max.name) && (inW r.2.2.2.2.1 (.static Lib.Math.max.name) && (inW r.2.2.2.2.2.1 (.initialized "java/lang/Math") && inW r.2.2.2.2.2.2 (.code Lib.Math.max.name Lib.Math.max.code 2 (some .int))))
  | 1 => inW r.2.2.2.1 (.methodLink (clS r.1) r.2.1 Lib.Math.min.name) && (inW r.2.2.2.2.1 (.static Lib.Math.min.name) && (inW r.2.2.2.2.2.1 (.initialized "java/lang/Math") && inW r.2.2.2.2.2.2 (.code Lib.Math.min.name Lib.Math.min.code 2 (some .int))))
  | _ => false
theorem xTab_ok : xTab.all xOk = true := by decide +kernel
def gOk (r : Nat × Nat × Nat × Nat) : Bool := match r.2.2.1 with
  | 0 => inW r.2.2.2 (.fieldLink (clS r.1) r.2.1 "LastAwake" "MOST_OF_TRAIT" "[I")
  | 1 => inN r.2.2.2 (.fieldLinkNest (clS r.1) r.2.1 "LastAwake" "MOST_OF_TRAIT" "[I" "LastAwake")
  | 2 => inW r.2.2.2 (.fieldLink (clS r.1) r.2.1 "LastAwake$Script" "NUMBERS_OF" "[I")
  | 3 => inW r.2.2.2 (.fieldLink (clS r.1) r.2.1 "java/lang/String" "COMPACT_STRINGS" "Z")
  | 4 => inW r.2.2.2 (.fieldLink (clS r.1) r.2.1 "jdk/internal/util/Preconditions" "SIOOBE_FORMATTER" "Ljava/util/function/BiFunction;")
  | _ => false
theorem gTab_ok : gTab.all gOk = true := by decide +kernel
def iOk (r : Nat × Nat × Nat × Nat × Nat × Nat × Nat × Nat) : Bool := decide (r.2.2.1 < 205) && (match r.2.2.2.1 with
  | 0 => inW r.2.2.2.2.2.1 (.methodLink (clS r.1) r.2.1 (mY r.2.2.1)) && inW r.2.2.2.2.2.2.1 (.static (mY r.2.2.1))
  | 1 => inW r.2.2.2.2.2.1 (.methodLink (clS r.1) r.2.1 (mY r.2.2.1)) && (inW r.2.2.2.2.2.2.1 (.instanceMethod (mY r.2.2.1)) && (inW r.2.2.2.2.2.2.2 (.selects (clS r.2.2.2.2.1) (mY r.2.2.1) (mY r.2.2.1)) && (decide ((mY r.2.2.1).cls = clS r.2.2.2.2.1) && decide (r.2.2.2.2.1 < 9 ∨ r.2.2.2.2.1 = 13))))
  | 2 => inW r.2.2.2.2.2.1 (.methodLink (clS r.1) r.2.1 (mY r.2.2.1)) && (inW r.2.2.2.2.2.2.1 (.instanceMethod (mY r.2.2.1)) && decide ((mY r.2.2.1).name = "<init>" ∧ (mB r.2.2.1).2.1 = 0))
  | 3 => inN r.2.2.2.2.2.1 (.methodLinkNest (clS r.1) r.2.1 (mY r.2.2.1) "LastAwake") && inW r.2.2.2.2.2.2.1 (.static (mY r.2.2.1))
  | 4 => inN r.2.2.2.2.2.1 (.methodLinkNest (clS r.1) r.2.1 (mY r.2.2.1) "LastAwake") && (inW r.2.2.2.2.2.2.1 (.instanceMethod (mY r.2.2.1)) && decide ((mY r.2.2.1).name = "<init>" ∧ (mB r.2.2.1).2.1 = 0))
  | _ => false)
theorem iTab0_ok : iTab0.all iOk = true := by decide +kernel
theorem iTab1_ok : iTab1.all iOk = true := by decide +kernel
theorem iTab2_ok : iTab2.all iOk = true := by decide +kernel
theorem iTab3_ok : iTab3.all iOk = true := by decide +kernel
theorem iTab4_ok : iTab4.all iOk = true := by decide +kernel
theorem iTab5_ok : iTab5.all iOk = true := by decide +kernel
theorem iTab_ok : iTab.all iOk = true := by
  unfold iTab
  simp only [List.all_append, Bool.and_eq_true]
  exact ⟨iTab0_ok, iTab1_ok, iTab2_ok, iTab3_ok, iTab4_ok, iTab5_ok⟩
end
section
def yOk (m : Nat) : Bool := decide ((mY m).cls = clS (mK m).1) && (decide ((mY m).name = (mK m).2.1) && (decide ((mK m).2.2.2.1 = (mB m).1) && (plainName (mY m).cls && (decide ((mY m).cls ≠ "java/lang/invoke/MethodHandle" ∧ (mY m).cls ≠ "java/lang/invoke/VarHandle") && (decide ((parseMethodDescriptor (mY m).desc).map (fun d => d.parameters.length) = some (mN m)) && inW (yPL.getD m (0, 0)).2 (.initialized (mY m).cls))))))
theorem yOk_0 : (List.range' 0 41).all yOk = true := by decide +kernel
theorem yOk_41 : (List.range' 41 41).all yOk = true := by decide +kernel
theorem yOk_82 : (List.range' 82 41).all yOk = true := by decide +kernel
theorem yOk_123 : (List.range' 123 41).all yOk = true := by decide +kernel
theorem yOk_164 : (List.range' 164 41).all yOk = true := by decide +kernel
theorem yOk_all (m : Nat) (h : m < 205) : yOk m = true := by
  rcases Nat.lt_or_ge m 41 with h0 | h0
  · exact List.all_eq_true.mp yOk_0 m (List.mem_range'.mpr ⟨m - 0, by omega, by omega⟩)
  rcases Nat.lt_or_ge m 82 with h1 | h1
  · exact List.all_eq_true.mp yOk_41 m (List.mem_range'.mpr ⟨m - 41, by omega, by omega⟩)
  rcases Nat.lt_or_ge m 123 with h2 | h2
  · exact List.all_eq_true.mp yOk_82 m (List.mem_range'.mpr ⟨m - 82, by omega, by omega⟩)
  rcases Nat.lt_or_ge m 164 with h3 | h3
  · exact List.all_eq_true.mp yOk_123 m (List.mem_range'.mpr ⟨m - 123, by omega, by omega⟩)
  exact List.all_eq_true.mp yOk_164 m (List.mem_range'.mpr ⟨m - 164, by omega, by omega⟩)
def cwP (m : Nat) : Prop := lw_tbl[(yPL.getD m (0, 0)).1]? = some (cW m)
set_option maxRecDepth 20000 in
theorem cw_0 : cwP 0 := by unfold cwP; rfl
set_option maxRecDepth 20000 in
theorem cw_1 : cwP 1 := by unfold cwP; rfl
set_option maxRecDepth 20000 in
theorem cw_2 : cwP 2 := by unfold cwP; rfl
set_option maxRecDepth 20000 in
theorem cw_3 : cwP 3 := by unfold cwP; rfl
set_option maxRecDepth 20000 in
theorem cw_4 : cwP 4 := by unfold cwP; rfl
set_option maxRecDepth 20000 in
theorem cw_5 : cwP 5 := by unfold cwP; rfl
set_option maxRecDepth 20000 in
theorem cw_6 : cwP 6 := by unfold cwP; rfl
set_option maxRecDepth 20000 in
theorem cw_7 : cwP 7 := by unfold cwP; rfl
set_option maxRecDepth 20000 in
theorem cw_8 : cwP 8 := by unfold cwP; rfl
set_option maxRecDepth 20000 in
theorem cw_9 : cwP 9 := by unfold cwP; rfl
set_option maxRecDepth 20000 in
theorem cw_10 : cwP 10 := by unfold cwP; rfl
set_option maxRecDepth 20000 in
theorem cw_11 : cwP 11 := by unfold cwP; rfl
set_option maxRecDepth 20000 in
theorem cw_12 : cwP 12 := by unfold cwP; rfl
set_option maxRecDepth 20000 in
theorem cw_13 : cwP 13 := by unfold cwP; rfl
set_option maxRecDepth 20000 in
theorem cw_14 : cwP 14 := by unfold cwP; rfl
set_option maxRecDepth 20000 in
theorem cw_15 : cwP 15 := by unfold cwP; rfl
set_option maxRecDepth 20000 in
theorem cw_16 : cwP 16 := by unfold cwP; rfl
set_option maxRecDepth 20000 in
theorem cw_17 : cwP 17 := by unfold cwP; rfl
set_option maxRecDepth 20000 in
theorem cw_18 : cwP 18 := by unfold cwP; rfl
set_option maxRecDepth 20000 in
theorem cw_19 : cwP 19 := by unfold cwP; rfl
set_option maxRecDepth 20000 in
theorem cw_20 : cwP 20 := by unfold cwP; rfl
set_option maxRecDepth 20000 in
theorem cw_21 : cwP 21 := by unfold cwP; rfl
set_option maxRecDepth 20000 in
theorem cw_22 : cwP 22 := by unfold cwP; rfl
set_option maxRecDepth 20000 in
theorem cw_23 : cwP 23 := by unfold cwP; rfl
set_option maxRecDepth 20000 in
theorem cw_24 : cwP 24 := by unfold cwP; rfl
set_option maxRecDepth 20000 in
theorem cw_25 : cwP 25 := by unfold cwP; rfl
set_option maxRecDepth 20000 in
theorem cw_26 : cwP 26 := by unfold cwP; rfl
set_option maxRecDepth 20000 in
theorem cw_27 : cwP 27 := by unfold cwP; rfl
set_option maxRecDepth 20000 in
theorem cw_28 : cwP 28 := by unfold cwP; rfl
set_option maxRecDepth 20000 in
theorem cw_29 : cwP 29 := by unfold cwP; rfl
set_option maxRecDepth 20000 in
theorem cw_30 : cwP 30 := by unfold cwP; rfl
set_option maxRecDepth 20000 in
theorem cw_31 : cwP 31 := by unfold cwP; rfl
set_option maxRecDepth 20000 in
theorem cw_32 : cwP 32 := by unfold cwP; rfl
set_option maxRecDepth 20000 in
theorem cw_33 : cwP 33 := by unfold cwP; rfl
set_option maxRecDepth 20000 in
theorem cw_34 : cwP 34 := by unfold cwP; rfl
set_option maxRecDepth 20000 in
theorem cw_35 : cwP 35 := by unfold cwP; rfl
set_option maxRecDepth 20000 in
theorem cw_36 : cwP 36 := by unfold cwP; rfl
set_option maxRecDepth 20000 in
theorem cw_37 : cwP 37 := by unfold cwP; rfl
set_option maxRecDepth 20000 in
theorem cw_38 : cwP 38 := by unfold cwP; rfl
set_option maxRecDepth 20000 in
theorem cw_39 : cwP 39 := by unfold cwP; rfl
set_option maxRecDepth 20000 in
theorem cw_40 : cwP 40 := by unfold cwP; rfl
set_option maxRecDepth 20000 in
theorem cw_41 : cwP 41 := by unfold cwP; rfl
set_option maxRecDepth 20000 in
theorem cw_42 : cwP 42 := by unfold cwP; rfl
set_option maxRecDepth 20000 in
theorem cw_43 : cwP 43 := by unfold cwP; rfl
set_option maxRecDepth 20000 in
theorem cw_44 : cwP 44 := by unfold cwP; rfl
set_option maxRecDepth 20000 in
theorem cw_45 : cwP 45 := by unfold cwP; rfl
set_option maxRecDepth 20000 in
theorem cw_46 : cwP 46 := by unfold cwP; rfl
set_option maxRecDepth 20000 in
theorem cw_47 : cwP 47 := by unfold cwP; rfl
set_option maxRecDepth 20000 in
theorem cw_48 : cwP 48 := by unfold cwP; rfl
set_option maxRecDepth 20000 in
theorem cw_49 : cwP 49 := by unfold cwP; rfl
set_option maxRecDepth 20000 in
theorem cw_50 : cwP 50 := by unfold cwP; rfl
set_option maxRecDepth 20000 in
theorem cw_51 : cwP 51 := by unfold cwP; rfl
set_option maxRecDepth 20000 in
theorem cw_52 : cwP 52 := by unfold cwP; rfl
set_option maxRecDepth 20000 in
theorem cw_53 : cwP 53 := by unfold cwP; rfl
set_option maxRecDepth 20000 in
theorem cw_54 : cwP 54 := by unfold cwP; rfl
set_option maxRecDepth 20000 in
theorem cw_55 : cwP 55 := by unfold cwP; rfl
set_option maxRecDepth 20000 in
theorem cw_56 : cwP 56 := by unfold cwP; rfl
set_option maxRecDepth 20000 in
theorem cw_57 : cwP 57 := by unfold cwP; rfl
set_option maxRecDepth 20000 in
theorem cw_58 : cwP 58 := by unfold cwP; rfl
set_option maxRecDepth 20000 in
theorem cw_59 : cwP 59 := by unfold cwP; rfl
set_option maxRecDepth 20000 in
theorem cw_60 : cwP 60 := by unfold cwP; rfl
set_option maxRecDepth 20000 in
theorem cw_61 : cwP 61 := by unfold cwP; rfl
set_option maxRecDepth 20000 in
theorem cw_62 : cwP 62 := by unfold cwP; rfl
set_option maxRecDepth 20000 in
theorem cw_63 : cwP 63 := by unfold cwP; rfl
set_option maxRecDepth 20000 in
theorem cw_64 : cwP 64 := by unfold cwP; rfl
set_option maxRecDepth 20000 in
theorem cw_65 : cwP 65 := by unfold cwP; rfl
set_option maxRecDepth 20000 in
theorem cw_66 : cwP 66 := by unfold cwP; rfl
set_option maxRecDepth 20000 in
theorem cw_67 : cwP 67 := by unfold cwP; rfl
set_option maxRecDepth 20000 in
theorem cw_68 : cwP 68 := by unfold cwP; rfl
set_option maxRecDepth 20000 in
theorem cw_69 : cwP 69 := by unfold cwP; rfl
set_option maxRecDepth 20000 in
theorem cw_70 : cwP 70 := by unfold cwP; rfl
set_option maxRecDepth 20000 in
theorem cw_71 : cwP 71 := by unfold cwP; rfl
set_option maxRecDepth 20000 in
theorem cw_72 : cwP 72 := by unfold cwP; rfl
set_option maxRecDepth 20000 in
theorem cw_73 : cwP 73 := by unfold cwP; rfl
set_option maxRecDepth 20000 in
theorem cw_74 : cwP 74 := by unfold cwP; rfl
set_option maxRecDepth 20000 in
theorem cw_75 : cwP 75 := by unfold cwP; rfl
set_option maxRecDepth 20000 in
theorem cw_76 : cwP 76 := by unfold cwP; rfl
set_option maxRecDepth 20000 in
theorem cw_77 : cwP 77 := by unfold cwP; rfl
set_option maxRecDepth 20000 in
theorem cw_78 : cwP 78 := by unfold cwP; rfl
set_option maxRecDepth 20000 in
theorem cw_79 : cwP 79 := by unfold cwP; rfl
set_option maxRecDepth 20000 in
theorem cw_80 : cwP 80 := by unfold cwP; rfl
set_option maxRecDepth 20000 in
theorem cw_81 : cwP 81 := by unfold cwP; rfl
set_option maxRecDepth 20000 in
theorem cw_82 : cwP 82 := by unfold cwP; rfl
set_option maxRecDepth 20000 in
theorem cw_83 : cwP 83 := by unfold cwP; rfl
set_option maxRecDepth 20000 in
theorem cw_84 : cwP 84 := by unfold cwP; rfl
set_option maxRecDepth 20000 in
theorem cw_85 : cwP 85 := by unfold cwP; rfl
set_option maxRecDepth 20000 in
theorem cw_86 : cwP 86 := by unfold cwP; rfl
set_option maxRecDepth 20000 in
theorem cw_87 : cwP 87 := by unfold cwP; rfl
set_option maxRecDepth 20000 in
theorem cw_88 : cwP 88 := by unfold cwP; rfl
set_option maxRecDepth 20000 in
theorem cw_89 : cwP 89 := by unfold cwP; rfl
set_option maxRecDepth 20000 in
theorem cw_90 : cwP 90 := by unfold cwP; rfl
set_option maxRecDepth 20000 in
theorem cw_91 : cwP 91 := by unfold cwP; rfl
set_option maxRecDepth 20000 in
theorem cw_92 : cwP 92 := by unfold cwP; rfl
set_option maxRecDepth 20000 in
theorem cw_93 : cwP 93 := by unfold cwP; rfl
set_option maxRecDepth 20000 in
theorem cw_94 : cwP 94 := by unfold cwP; rfl
set_option maxRecDepth 20000 in
theorem cw_95 : cwP 95 := by unfold cwP; rfl
set_option maxRecDepth 20000 in
theorem cw_96 : cwP 96 := by unfold cwP; rfl
set_option maxRecDepth 20000 in
theorem cw_97 : cwP 97 := by unfold cwP; rfl
set_option maxRecDepth 20000 in
theorem cw_98 : cwP 98 := by unfold cwP; rfl
set_option maxRecDepth 20000 in
theorem cw_99 : cwP 99 := by unfold cwP; rfl
set_option maxRecDepth 20000 in
theorem cw_100 : cwP 100 := by unfold cwP; rfl
set_option maxRecDepth 20000 in
theorem cw_101 : cwP 101 := by unfold cwP; rfl
set_option maxRecDepth 20000 in
theorem cw_102 : cwP 102 := by unfold cwP; rfl
set_option maxRecDepth 20000 in
theorem cw_103 : cwP 103 := by unfold cwP; rfl
set_option maxRecDepth 20000 in
theorem cw_104 : cwP 104 := by unfold cwP; rfl
set_option maxRecDepth 20000 in
theorem cw_105 : cwP 105 := by unfold cwP; rfl
set_option maxRecDepth 20000 in
theorem cw_106 : cwP 106 := by unfold cwP; rfl
set_option maxRecDepth 20000 in
theorem cw_107 : cwP 107 := by unfold cwP; rfl
set_option maxRecDepth 20000 in
theorem cw_108 : cwP 108 := by unfold cwP; rfl
set_option maxRecDepth 20000 in
theorem cw_109 : cwP 109 := by unfold cwP; rfl
set_option maxRecDepth 20000 in
theorem cw_110 : cwP 110 := by unfold cwP; rfl
set_option maxRecDepth 20000 in
theorem cw_111 : cwP 111 := by unfold cwP; rfl
set_option maxRecDepth 20000 in
theorem cw_112 : cwP 112 := by unfold cwP; rfl
set_option maxRecDepth 20000 in
theorem cw_113 : cwP 113 := by unfold cwP; rfl
set_option maxRecDepth 20000 in
theorem cw_114 : cwP 114 := by unfold cwP; rfl
set_option maxRecDepth 20000 in
theorem cw_115 : cwP 115 := by unfold cwP; rfl
set_option maxRecDepth 20000 in
theorem cw_116 : cwP 116 := by unfold cwP; rfl
set_option maxRecDepth 20000 in
theorem cw_117 : cwP 117 := by unfold cwP; rfl
set_option maxRecDepth 20000 in
theorem cw_118 : cwP 118 := by unfold cwP; rfl
set_option maxRecDepth 20000 in
theorem cw_119 : cwP 119 := by unfold cwP; rfl
set_option maxRecDepth 20000 in
theorem cw_120 : cwP 120 := by unfold cwP; rfl
set_option maxRecDepth 20000 in
theorem cw_121 : cwP 121 := by unfold cwP; rfl
set_option maxRecDepth 20000 in
theorem cw_122 : cwP 122 := by unfold cwP; rfl
set_option maxRecDepth 20000 in
theorem cw_123 : cwP 123 := by unfold cwP; rfl
set_option maxRecDepth 20000 in
theorem cw_124 : cwP 124 := by unfold cwP; rfl
set_option maxRecDepth 20000 in
theorem cw_125 : cwP 125 := by unfold cwP; rfl
set_option maxRecDepth 20000 in
theorem cw_126 : cwP 126 := by unfold cwP; rfl
set_option maxRecDepth 20000 in
theorem cw_127 : cwP 127 := by unfold cwP; rfl
set_option maxRecDepth 20000 in
theorem cw_128 : cwP 128 := by unfold cwP; rfl
set_option maxRecDepth 20000 in
theorem cw_129 : cwP 129 := by unfold cwP; rfl
set_option maxRecDepth 20000 in
theorem cw_130 : cwP 130 := by unfold cwP; rfl
set_option maxRecDepth 20000 in
theorem cw_131 : cwP 131 := by unfold cwP; rfl
set_option maxRecDepth 20000 in
theorem cw_132 : cwP 132 := by unfold cwP; rfl
set_option maxRecDepth 20000 in
theorem cw_133 : cwP 133 := by unfold cwP; rfl
set_option maxRecDepth 20000 in
theorem cw_134 : cwP 134 := by unfold cwP; rfl
set_option maxRecDepth 20000 in
theorem cw_135 : cwP 135 := by unfold cwP; rfl
set_option maxRecDepth 20000 in
theorem cw_136 : cwP 136 := by unfold cwP; rfl
set_option maxRecDepth 20000 in
theorem cw_137 : cwP 137 := by unfold cwP; rfl
set_option maxRecDepth 20000 in
theorem cw_138 : cwP 138 := by unfold cwP; rfl
set_option maxRecDepth 20000 in
theorem cw_139 : cwP 139 := by unfold cwP; rfl
set_option maxRecDepth 20000 in
theorem cw_140 : cwP 140 := by unfold cwP; rfl
set_option maxRecDepth 20000 in
theorem cw_141 : cwP 141 := by unfold cwP; rfl
set_option maxRecDepth 20000 in
theorem cw_142 : cwP 142 := by unfold cwP; rfl
set_option maxRecDepth 20000 in
theorem cw_143 : cwP 143 := by unfold cwP; rfl
set_option maxRecDepth 20000 in
theorem cw_144 : cwP 144 := by unfold cwP; rfl
set_option maxRecDepth 20000 in
theorem cw_145 : cwP 145 := by unfold cwP; rfl
set_option maxRecDepth 20000 in
theorem cw_146 : cwP 146 := by unfold cwP; rfl
set_option maxRecDepth 20000 in
theorem cw_147 : cwP 147 := by unfold cwP; rfl
set_option maxRecDepth 20000 in
theorem cw_148 : cwP 148 := by unfold cwP; rfl
set_option maxRecDepth 20000 in
theorem cw_149 : cwP 149 := by unfold cwP; rfl
set_option maxRecDepth 20000 in
theorem cw_150 : cwP 150 := by unfold cwP; rfl
set_option maxRecDepth 20000 in
theorem cw_151 : cwP 151 := by unfold cwP; rfl
set_option maxRecDepth 20000 in
theorem cw_152 : cwP 152 := by unfold cwP; rfl
set_option maxRecDepth 20000 in
theorem cw_153 : cwP 153 := by unfold cwP; rfl
set_option maxRecDepth 20000 in
theorem cw_154 : cwP 154 := by unfold cwP; rfl
set_option maxRecDepth 20000 in
theorem cw_155 : cwP 155 := by unfold cwP; rfl
set_option maxRecDepth 20000 in
theorem cw_156 : cwP 156 := by unfold cwP; rfl
set_option maxRecDepth 20000 in
theorem cw_157 : cwP 157 := by unfold cwP; rfl
set_option maxRecDepth 20000 in
theorem cw_158 : cwP 158 := by unfold cwP; rfl
set_option maxRecDepth 20000 in
theorem cw_159 : cwP 159 := by unfold cwP; rfl
set_option maxRecDepth 20000 in
theorem cw_160 : cwP 160 := by unfold cwP; rfl
set_option maxRecDepth 20000 in
theorem cw_161 : cwP 161 := by unfold cwP; rfl
set_option maxRecDepth 20000 in
theorem cw_162 : cwP 162 := by unfold cwP; rfl
set_option maxRecDepth 20000 in
theorem cw_163 : cwP 163 := by unfold cwP; rfl
set_option maxRecDepth 20000 in
theorem cw_164 : cwP 164 := by unfold cwP; rfl
set_option maxRecDepth 20000 in
theorem cw_165 : cwP 165 := by unfold cwP; rfl
set_option maxRecDepth 20000 in
theorem cw_166 : cwP 166 := by unfold cwP; rfl
set_option maxRecDepth 20000 in
theorem cw_167 : cwP 167 := by unfold cwP; rfl
set_option maxRecDepth 20000 in
theorem cw_168 : cwP 168 := by unfold cwP; rfl
set_option maxRecDepth 20000 in
theorem cw_169 : cwP 169 := by unfold cwP; rfl
set_option maxRecDepth 20000 in
theorem cw_170 : cwP 170 := by unfold cwP; rfl
set_option maxRecDepth 20000 in
theorem cw_171 : cwP 171 := by unfold cwP; rfl
set_option maxRecDepth 20000 in
theorem cw_172 : cwP 172 := by unfold cwP; rfl
set_option maxRecDepth 20000 in
theorem cw_173 : cwP 173 := by unfold cwP; rfl
set_option maxRecDepth 20000 in
theorem cw_174 : cwP 174 := by unfold cwP; rfl
set_option maxRecDepth 20000 in
theorem cw_175 : cwP 175 := by unfold cwP; rfl
set_option maxRecDepth 20000 in
theorem cw_176 : cwP 176 := by unfold cwP; rfl
set_option maxRecDepth 20000 in
theorem cw_177 : cwP 177 := by unfold cwP; rfl
set_option maxRecDepth 20000 in
theorem cw_178 : cwP 178 := by unfold cwP; rfl
set_option maxRecDepth 20000 in
theorem cw_179 : cwP 179 := by unfold cwP; rfl
set_option maxRecDepth 20000 in
theorem cw_180 : cwP 180 := by unfold cwP; rfl
set_option maxRecDepth 20000 in
theorem cw_181 : cwP 181 := by unfold cwP; rfl
set_option maxRecDepth 20000 in
theorem cw_182 : cwP 182 := by unfold cwP; rfl
set_option maxRecDepth 20000 in
theorem cw_183 : cwP 183 := by unfold cwP; rfl
set_option maxRecDepth 20000 in
theorem cw_184 : cwP 184 := by unfold cwP; rfl
set_option maxRecDepth 20000 in
theorem cw_185 : cwP 185 := by unfold cwP; rfl
set_option maxRecDepth 20000 in
theorem cw_186 : cwP 186 := by unfold cwP; rfl
set_option maxRecDepth 20000 in
theorem cw_187 : cwP 187 := by unfold cwP; rfl
set_option maxRecDepth 20000 in
theorem cw_188 : cwP 188 := by unfold cwP; rfl
set_option maxRecDepth 20000 in
theorem cw_189 : cwP 189 := by unfold cwP; rfl
set_option maxRecDepth 20000 in
theorem cw_190 : cwP 190 := by unfold cwP; rfl
set_option maxRecDepth 20000 in
theorem cw_191 : cwP 191 := by unfold cwP; rfl
set_option maxRecDepth 20000 in
theorem cw_192 : cwP 192 := by unfold cwP; rfl
set_option maxRecDepth 20000 in
theorem cw_193 : cwP 193 := by unfold cwP; rfl
set_option maxRecDepth 20000 in
theorem cw_194 : cwP 194 := by unfold cwP; rfl
set_option maxRecDepth 20000 in
theorem cw_195 : cwP 195 := by unfold cwP; rfl
set_option maxRecDepth 20000 in
theorem cw_196 : cwP 196 := by unfold cwP; rfl
set_option maxRecDepth 20000 in
theorem cw_197 : cwP 197 := by unfold cwP; rfl
set_option maxRecDepth 20000 in
theorem cw_198 : cwP 198 := by unfold cwP; rfl
set_option maxRecDepth 20000 in
theorem cw_199 : cwP 199 := by unfold cwP; rfl
set_option maxRecDepth 20000 in
theorem cw_200 : cwP 200 := by unfold cwP; rfl
set_option maxRecDepth 20000 in
theorem cw_201 : cwP 201 := by unfold cwP; rfl
set_option maxRecDepth 20000 in
theorem cw_202 : cwP 202 := by unfold cwP; rfl
set_option maxRecDepth 20000 in
theorem cw_203 : cwP 203 := by unfold cwP; rfl
set_option maxRecDepth 20000 in
theorem cw_204 : cwP 204 := by unfold cwP; rfl
theorem cwA_0 : ∀ m ∈ [0, 1, 2, 3, 4, 5, 6, 7, 8, 9, 10, 11, 12, 13, 14, 15, 16, 17, 18, 19, 20, 21, 22, 23, 24, 25, 26, 27, 28, 29, 30, 31, 32, 33, 34, 35, 36, 37, 38, 39, 40], cwP m := List.forall_mem_cons.mpr ⟨cw_0, List.forall_mem_cons.mpr ⟨cw_1, List.forall_mem_cons.mpr ⟨cw_2, List.forall_mem_cons.mpr ⟨cw_3, List.forall_mem_cons.mpr ⟨cw_4, List.forall_mem_cons.mpr ⟨cw_5, List.forall_mem_cons.mpr ⟨cw_6, List.forall_mem_cons.mpr ⟨cw_7, List.forall_mem_cons.mpr ⟨cw_8, List.forall_mem_cons.mpr ⟨cw_9, List.forall_mem_cons.mpr ⟨cw_10, List.forall_mem_cons.mpr ⟨cw_11, List.forall_mem_cons.mpr ⟨cw_12, List.forall_mem_cons.mpr ⟨cw_13, List.forall_mem_cons.mpr ⟨cw_14, List.forall_mem_cons.mpr ⟨cw_15, List.forall_mem_cons.mpr ⟨cw_16, List.forall_mem_cons.mpr ⟨cw_17, List.forall_mem_cons.mpr ⟨cw_18, List.forall_mem_cons.mpr ⟨cw_19, List.forall_mem_cons.mpr ⟨cw_20, List.forall_mem_cons.mpr ⟨cw_21, List.forall_mem_cons.mpr ⟨cw_22, List.forall_mem_cons.mpr ⟨cw_23, List.forall_mem_cons.mpr ⟨cw_24, List.forall_mem_cons.mpr ⟨cw_25, List.forall_mem_cons.mpr ⟨cw_26, List.forall_mem_cons.mpr ⟨cw_27, List.forall_mem_cons.mpr ⟨cw_28, List.forall_mem_cons.mpr ⟨cw_29, List.forall_mem_cons.mpr ⟨cw_30, List.forall_mem_cons.mpr ⟨cw_31, List.forall_mem_cons.mpr ⟨cw_32, List.forall_mem_cons.mpr ⟨cw_33, List.forall_mem_cons.mpr ⟨cw_34, List.forall_mem_cons.mpr ⟨cw_35, List.forall_mem_cons.mpr ⟨cw_36, List.forall_mem_cons.mpr ⟨cw_37, List.forall_mem_cons.mpr ⟨cw_38, List.forall_mem_cons.mpr ⟨cw_39, List.forall_mem_cons.mpr ⟨cw_40, (fun _ h => absurd h List.not_mem_nil)⟩⟩⟩⟩⟩⟩⟩⟩⟩⟩⟩⟩⟩⟩⟩⟩⟩⟩⟩⟩⟩⟩⟩⟩⟩⟩⟩⟩⟩⟩⟩⟩⟩⟩⟩⟩⟩⟩⟩⟩⟩
theorem cwA_41 : ∀ m ∈ [41, 42, 43, 44, 45, 46, 47, 48, 49, 50, 51, 52, 53, 54, 55, 56, 57, 58, 59, 60, 61, 62, 63, 64, 65, 66, 67, 68, 69, 70, 71, 72, 73, 74, 75, 76, 77, 78, 79, 80, 81], cwP m := List.forall_mem_cons.mpr ⟨cw_41, List.forall_mem_cons.mpr ⟨cw_42, List.forall_mem_cons.mpr ⟨cw_43, List.forall_mem_cons.mpr ⟨cw_44, List.forall_mem_cons.mpr ⟨cw_45, List.forall_mem_cons.mpr ⟨cw_46, List.forall_mem_cons.mpr ⟨cw_47, List.forall_mem_cons.mpr ⟨cw_48, List.forall_mem_cons.mpr ⟨cw_49, List.forall_mem_cons.mpr ⟨cw_50, List.forall_mem_cons.mpr ⟨cw_51, List.forall_mem_cons.mpr ⟨cw_52, List.forall_mem_cons.mpr ⟨cw_53, List.forall_mem_cons.mpr ⟨cw_54, List.forall_mem_cons.mpr ⟨cw_55, List.forall_mem_cons.mpr ⟨cw_56, List.forall_mem_cons.mpr ⟨cw_57, List.forall_mem_cons.mpr ⟨cw_58, List.forall_mem_cons.mpr ⟨cw_59, List.forall_mem_cons.mpr ⟨cw_60, List.forall_mem_cons.mpr ⟨cw_61, List.forall_mem_cons.mpr ⟨cw_62, List.forall_mem_cons.mpr ⟨cw_63, List.forall_mem_cons.mpr ⟨cw_64, List.forall_mem_cons.mpr ⟨cw_65, List.forall_mem_cons.mpr ⟨cw_66, List.forall_mem_cons.mpr ⟨cw_67, List.forall_mem_cons.mpr ⟨cw_68, List.forall_mem_cons.mpr ⟨cw_69, List.forall_mem_cons.mpr ⟨cw_70, List.forall_mem_cons.mpr ⟨cw_71, List.forall_mem_cons.mpr ⟨cw_72, List.forall_mem_cons.mpr ⟨cw_73, List.forall_mem_cons.mpr ⟨cw_74, List.forall_mem_cons.mpr ⟨cw_75, List.forall_mem_cons.mpr ⟨cw_76, List.forall_mem_cons.mpr ⟨cw_77, List.forall_mem_cons.mpr ⟨cw_78, List.forall_mem_cons.mpr ⟨cw_79, List.forall_mem_cons.mpr ⟨cw_80, List.forall_mem_cons.mpr ⟨cw_81, (fun _ h => absurd h List.not_mem_nil)⟩⟩⟩⟩⟩⟩⟩⟩⟩⟩⟩⟩⟩⟩⟩⟩⟩⟩⟩⟩⟩⟩⟩⟩⟩⟩⟩⟩⟩⟩⟩⟩⟩⟩⟩⟩⟩⟩⟩⟩⟩
theorem cwA_82 : ∀ m ∈ [82, 83, 84, 85, 86, 87, 88, 89, 90, 91, 92, 93, 94, 95, 96, 97, 98, 99, 100, 101, 102, 103, 104, 105, 106, 107, 108, 109, 110, 111, 112, 113, 114, 115, 116, 117, 118, 119, 120, 121, 122], cwP m := List.forall_mem_cons.mpr ⟨cw_82, List.forall_mem_cons.mpr ⟨cw_83, List.forall_mem_cons.mpr ⟨cw_84, List.forall_mem_cons.mpr ⟨cw_85, List.forall_mem_cons.mpr ⟨cw_86, List.forall_mem_cons.mpr ⟨cw_87, List.forall_mem_cons.mpr ⟨cw_88, List.forall_mem_cons.mpr ⟨cw_89, List.forall_mem_cons.mpr ⟨cw_90, List.forall_mem_cons.mpr ⟨cw_91, List.forall_mem_cons.mpr ⟨cw_92, List.forall_mem_cons.mpr ⟨cw_93, List.forall_mem_cons.mpr ⟨cw_94, List.forall_mem_cons.mpr ⟨cw_95, List.forall_mem_cons.mpr ⟨cw_96, List.forall_mem_cons.mpr ⟨cw_97, List.forall_mem_cons.mpr ⟨cw_98, List.forall_mem_cons.mpr ⟨cw_99, List.forall_mem_cons.mpr ⟨cw_100, List.forall_mem_cons.mpr ⟨cw_101, List.forall_mem_cons.mpr ⟨cw_102, List.forall_mem_cons.mpr ⟨cw_103, List.forall_mem_cons.mpr ⟨cw_104, List.forall_mem_cons.mpr ⟨cw_105, List.forall_mem_cons.mpr ⟨cw_106, List.forall_mem_cons.mpr ⟨cw_107, List.forall_mem_cons.mpr ⟨cw_108, List.forall_mem_cons.mpr ⟨cw_109, List.forall_mem_cons.mpr ⟨cw_110, List.forall_mem_cons.mpr ⟨cw_111, List.forall_mem_cons.mpr ⟨cw_112, List.forall_mem_cons.mpr ⟨cw_113, List.forall_mem_cons.mpr ⟨cw_114, List.forall_mem_cons.mpr ⟨cw_115, List.forall_mem_cons.mpr ⟨cw_116, List.forall_mem_cons.mpr ⟨cw_117, List.forall_mem_cons.mpr ⟨cw_118, List.forall_mem_cons.mpr ⟨cw_119, List.forall_mem_cons.mpr ⟨cw_120, List.forall_mem_cons.mpr ⟨cw_121, List.forall_mem_cons.mpr ⟨cw_122, (fun _ h => absurd h List.not_mem_nil)⟩⟩⟩⟩⟩⟩⟩⟩⟩⟩⟩⟩⟩⟩⟩⟩⟩⟩⟩⟩⟩⟩⟩⟩⟩⟩⟩⟩⟩⟩⟩⟩⟩⟩⟩⟩⟩⟩⟩⟩⟩
theorem cwA_123 : ∀ m ∈ [123, 124, 125, 126, 127, 128, 129, 130, 131, 132, 133, 134, 135, 136, 137, 138, 139, 140, 141, 142, 143, 144, 145, 146, 147, 148, 149, 150, 151, 152, 153, 154, 155, 156, 157, 158, 159, 160, 161, 162, 163], cwP m := List.forall_mem_cons.mpr ⟨cw_123, List.forall_mem_cons.mpr ⟨cw_124, List.forall_mem_cons.mpr ⟨cw_125, List.forall_mem_cons.mpr ⟨cw_126, List.forall_mem_cons.mpr ⟨cw_127, List.forall_mem_cons.mpr ⟨cw_128, List.forall_mem_cons.mpr ⟨cw_129, List.forall_mem_cons.mpr ⟨cw_130, List.forall_mem_cons.mpr ⟨cw_131, List.forall_mem_cons.mpr ⟨cw_132, List.forall_mem_cons.mpr ⟨cw_133, List.forall_mem_cons.mpr ⟨cw_134, List.forall_mem_cons.mpr ⟨cw_135, List.forall_mem_cons.mpr ⟨cw_136, List.forall_mem_cons.mpr ⟨cw_137, List.forall_mem_cons.mpr ⟨cw_138, List.forall_mem_cons.mpr ⟨cw_139, List.forall_mem_cons.mpr ⟨cw_140, List.forall_mem_cons.mpr ⟨cw_141, List.forall_mem_cons.mpr ⟨cw_142, List.forall_mem_cons.mpr ⟨cw_143, List.forall_mem_cons.mpr ⟨cw_144, List.forall_mem_cons.mpr ⟨cw_145, List.forall_mem_cons.mpr ⟨cw_146, List.forall_mem_cons.mpr ⟨cw_147, List.forall_mem_cons.mpr ⟨cw_148, List.forall_mem_cons.mpr ⟨cw_149, List.forall_mem_cons.mpr ⟨cw_150, List.forall_mem_cons.mpr ⟨cw_151, List.forall_mem_cons.mpr ⟨cw_152, List.forall_mem_cons.mpr ⟨cw_153, List.forall_mem_cons.mpr ⟨cw_154, List.forall_mem_cons.mpr ⟨cw_155, List.forall_mem_cons.mpr ⟨cw_156, List.forall_mem_cons.mpr ⟨cw_157, List.forall_mem_cons.mpr ⟨cw_158, List.forall_mem_cons.mpr ⟨cw_159, List.forall_mem_cons.mpr ⟨cw_160, List.forall_mem_cons.mpr ⟨cw_161, List.forall_mem_cons.mpr ⟨cw_162, List.forall_mem_cons.mpr ⟨cw_163, (fun _ h => absurd h List.not_mem_nil)⟩⟩⟩⟩⟩⟩⟩⟩⟩⟩⟩⟩⟩⟩⟩⟩⟩⟩⟩⟩⟩⟩⟩⟩⟩⟩⟩⟩⟩⟩⟩⟩⟩⟩⟩⟩⟩⟩⟩⟩⟩
theorem cwA_164 : ∀ m ∈ [164, 165, 166, 167, 168, 169, 170, 171, 172, 173, 174, 175, 176, 177, 178, 179, 180, 181, 182, 183, 184, 185, 186, 187, 188, 189, 190, 191, 192, 193, 194, 195, 196, 197, 198, 199, 200, 201, 202, 203, 204], cwP m := List.forall_mem_cons.mpr ⟨cw_164, List.forall_mem_cons.mpr ⟨cw_165, List.forall_mem_cons.mpr ⟨cw_166, List.forall_mem_cons.mpr ⟨cw_167, List.forall_mem_cons.mpr ⟨cw_168, List.forall_mem_cons.mpr ⟨cw_169, List.forall_mem_cons.mpr ⟨cw_170, List.forall_mem_cons.mpr ⟨cw_171, List.forall_mem_cons.mpr ⟨cw_172, List.forall_mem_cons.mpr ⟨cw_173, List.forall_mem_cons.mpr ⟨cw_174, List.forall_mem_cons.mpr ⟨cw_175, List.forall_mem_cons.mpr ⟨cw_176, List.forall_mem_cons.mpr ⟨cw_177, List.forall_mem_cons.mpr ⟨cw_178, List.forall_mem_cons.mpr ⟨cw_179, List.forall_mem_cons.mpr ⟨cw_180, List.forall_mem_cons.mpr ⟨cw_181, List.forall_mem_cons.mpr ⟨cw_182, List.forall_mem_cons.mpr ⟨cw_183, List.forall_mem_cons.mpr ⟨cw_184, List.forall_mem_cons.mpr ⟨cw_185, List.forall_mem_cons.mpr ⟨cw_186, List.forall_mem_cons.mpr ⟨cw_187, List.forall_mem_cons.mpr ⟨cw_188, List.forall_mem_cons.mpr ⟨cw_189, List.forall_mem_cons.mpr ⟨cw_190, List.forall_mem_cons.mpr ⟨cw_191, List.forall_mem_cons.mpr ⟨cw_192, List.forall_mem_cons.mpr ⟨cw_193, List.forall_mem_cons.mpr ⟨cw_194, List.forall_mem_cons.mpr ⟨cw_195, List.forall_mem_cons.mpr ⟨cw_196, List.forall_mem_cons.mpr ⟨cw_197, List.forall_mem_cons.mpr ⟨cw_198, List.forall_mem_cons.mpr ⟨cw_199, List.forall_mem_cons.mpr ⟨cw_200, List.forall_mem_cons.mpr ⟨cw_201, List.forall_mem_cons.mpr ⟨cw_202, List.forall_mem_cons.mpr ⟨cw_203, List.forall_mem_cons.mpr ⟨cw_204, (fun _ h => absurd h List.not_mem_nil)⟩⟩⟩⟩⟩⟩⟩⟩⟩⟩⟩⟩⟩⟩⟩⟩⟩⟩⟩⟩⟩⟩⟩⟩⟩⟩⟩⟩⟩⟩⟩⟩⟩⟩⟩⟩⟩⟩⟩⟩⟩
theorem cw_all (m : Nat) (h : m < 205) : cW m ∈ tG := by
  have h9 : cwP m := by
    rcases Nat.lt_or_ge m 41 with h0 | h0
    · exact cwA_0 m (show m ∈ List.range' 0 41 from List.mem_range'.mpr ⟨m - 0, by omega, by omega⟩)
    rcases Nat.lt_or_ge m 82 with h1 | h1
    · exact cwA_41 m (show m ∈ List.range' 41 41 from List.mem_range'.mpr ⟨m - 41, by omega, by omega⟩)
    rcases Nat.lt_or_ge m 123 with h2 | h2
    · exact cwA_82 m (show m ∈ List.range' 82 41 from List.mem_range'.mpr ⟨m - 82, by omega, by omega⟩)
    rcases Nat.lt_or_ge m 164 with h3 | h3
    · exact cwA_123 m (show m ∈ List.range' 123 41 from List.mem_range'.mpr ⟨m - 123, by omega, by omega⟩)
    exact cwA_164 m (show m ∈ List.range' 164 41 from List.mem_range'.mpr ⟨m - 164, by omega, by omega⟩)
  exact tG_of (List.mem_of_getElem? h9) rfl
theorem aW_i : Cond.arrayClass .int ∈ tG := inW_tG (p := 142) (by decide +kernel)
theorem aW_b : Cond.arrayClass .byte ∈ tG := inW_tG (p := 296) (by decide +kernel)
theorem aW_z : Cond.arrayClass .boolean ∈ tG := inW_tG (p := 938) (by decide +kernel)
end
section
/-! LAST INSTRUCTIONS: least and most, copies, Object's constructor, rows of rows -/
theorem cat_le {P : Par} (v : AV) : (cV P v).category ≤ 2 := by
  cases h : cat1 v with
  | true => rw [cat1_k h]; omega
  | false => rw [cat1_c.mpr h]; omega
theorem cat_sum (P : Par) (st : List AV) : ((st.map (cV P)).map fun v => v.category).sum ≤ 2 * st.length := by
  induction st with
  | nil => simp
  | cons v t ih =>
    have := cat_le (P := P) v
    simp only [List.map_cons, List.sum_cons, List.length_cons]
    omega
/-- an instruction that leaves locals and heap, where the room is asked for -/
theorem gos_stc {S : List Int} {K : Mt} {pc q : Nat} {st st' : List AV} {L : List (Option AV)} {h : Hp}
    (k : ∀ (P : Par) (p : Program) (l : Launch) (e : Env) (R : Room) (s : State) (m : MethodId) (args : Array Value) (below : List Frame) (meth : Method) (c : Code) (Q : State → Prop) (H : Heap) (locs : List Loc) (cells slots : Nat) (ls : Array Slot),
      Cx S K P p R s m args meth c → hR P h H → va_S (aA P) s.heap H locs → lR P K.2.2.2.1 L ls → cells ≤ R.cells → slots ≤ R.slots → W p l e R s m args below meth c H locs cells slots Q (F0 m q ls (st'.map (cV P))) → W p l e R s m args below meth c H locs cells slots Q (F0 m pc ls (st.map (cV P)))) :
    Gos S K pc q (st, L, h) (st', L, h) :=
  ⟨LeT.rf _, fun P p l e R s m args below meth c Q t0 z0 C _ _ hc hs a ls H locs h1 h2 h3 => k P p l e R s m args below meth c Q H locs _ _ ls C h2 h3 h1 hc hs (a ls H locs h1 h2 h3)⟩
theorem ws_cp {P : Par} {T : List Sh} {M : Nat → Int → Int} {a d n0 n1 : Nat} {r0 r1 : Nat → Option Nat} {sp dp n : Int} (h0 : T[a]? = some (9, n0, r0)) (h1 : T[d]? = some (9, n1, r1)) (p0 : 0 ≤ sp) (p1 : 0 ≤ dp) (p2 : 0 ≤ n) :
    (wsOf P (T, M)).set d (P.1 + d, .inl (P.2.2.1 9, n1, .inl (va_cpy (fun i => Int32.ofInt (M a i)) (fun i => Int32.ofInt (M d i)) sp.toNat dp.toNat n.toNat))) = wsOf P (T, cpm M a d sp dp n) := by
  refine ws_set (h' := (T, cpm M a d sp dp n)) (List.getElem?_eq_some_iff.mp h1).1 rfl h1 ?_ (fun j hj => ⟨rfl, ?_⟩)
  · rw [eC_i (by omega) (by omega)]
    congr 4
    funext q
    show Int32.ofInt (cpm M a d sp dp n d q) = _
    unfold va_cpy cpm
    by_cases c : dp.toNat ≤ q ∧ q < dp.toNat + n.toNat
    · rw [if_pos c, if_pos ⟨rfl, by omega, by omega⟩]
      congr 2
      omega
    · rw [if_neg c, if_neg (fun z => c (by omega))]
  · funext q
    show cpm M a d sp dp n j q = M j q
    unfold cpm
    exact if_neg (fun z => hj z.1.symm)
section Ops5
variable {S : List Int} {K : Mt} {pc : Nat}
theorem s_max {i : Nat} (hd : decode K.2.2.1 pc = .ok (.invokestatic i, 3)) (w1 : Cond.methodLink (clS K.1) i Lib.Math.max.name ∈ tG) (w2 : Cond.static Lib.Math.max.name ∈ tG) (w3 : Cond.initialized "java/lang/Math" ∈ tG) (w4 : Cond.code Lib.Math.max.name Lib.Math.max.code 2 (some .int) ∈ tG) (hF : 1 ≤ K.2.2.2.2.1) (hL : 21 ≤ K.2.2.2.2.2) : Seg S K pc (pc + 3) (x_mm 0) := by
  rintro ⟨st, L, h⟩ σ' e
  unfold x_mm at e
  split at e
  · rename_i y x st0 hz
    simp only at hz
    subst hz
    split at e
    · rename_i hst
      cases e
      refine gos_stc fun P p l e R s m args below meth c Q H locs cells slots ls C h2 h3 h1 hc hs a => ?_
      refine va_mmax C.1 C.2.1 (C.2.2.1.trans h1.2.1.symm) C.2.2.2.1 (C.2.2.2.2.1 _ w1) (C.2.2.2.2.1 _ w2) (C.2.2.2.2.1 _ w3) (C.2.2.2.2.1 _ w4) (Nat.le_trans hF C.2.2.2.2.2.2.1) ?_ hc hs hd ?_
      · have := cat_sum P st0
        have := C.2.2.2.2.2.2.2.1
        omega
      · have e9 : (Value.int (if Int32.ofInt x < Int32.ofInt y then Int32.ofInt y else Int32.ofInt x)) = cV P (.inl (if n32 x < n32 y then y else x)) := by
          show _ = Value.int (Int32.ofInt (if n32 x < n32 y then y else x))
          by_cases c : n32 x < n32 y
          · rw [if_pos c, if_pos ((i32_lt x y).mpr c)]
          · rw [if_neg c, if_neg (fun z => c ((i32_lt x y).mp z))]
        rw [e9]
        exact a
    · cases e
  · cases e
theorem s_min {i : Nat} (hd : decode K.2.2.1 pc = .ok (.invokestatic i, 3)) (w1 : Cond.methodLink (clS K.1) i Lib.Math.min.name ∈ tG) (w2 : Cond.static Lib.Math.min.name ∈ tG) (w3 : Cond.initialized "java/lang/Math" ∈ tG) (w4 : Cond.code Lib.Math.min.name Lib.Math.min.code 2 (some .int) ∈ tG) (hF : 1 ≤ K.2.2.2.2.1) (hL : 21 ≤ K.2.2.2.2.2) : Seg S K pc (pc + 3) (x_mm 1) := by
  rintro ⟨st, L, h⟩ σ' e
  unfold x_mm at e
  split at e
  · rename_i y x st0 hz
    simp only at hz
    subst hz
    split at e
    · rename_i hst
      cases e
      refine gos_stc fun P p l e R s m args below meth c Q H locs cells slots ls C h2 h3 h1 hc hs a => ?_
      refine va_mmin C.1 C.2.1 (C.2.2.1.trans h1.2.1.symm) C.2.2.2.1 (C.2.2.2.2.1 _ w1) (C.2.2.2.2.1 _ w2) (C.2.2.2.2.1 _ w3) (C.2.2.2.2.1 _ w4) (Nat.le_trans hF C.2.2.2.2.2.2.1) ?_ hc hs hd ?_
      · have := cat_sum P st0
        have := C.2.2.2.2.2.2.2.1
        omega
      · have e9 : (Value.int (if Int32.ofInt y < Int32.ofInt x then Int32.ofInt y else Int32.ofInt x)) = cV P (.inl (if n32 y < n32 x then y else x)) := by
          show _ = Value.int (Int32.ofInt (if n32 y < n32 x then y else x))
          by_cases c : n32 y < n32 x
          · rw [if_pos c, if_pos ((i32_lt y x).mpr c)]
          · rw [if_neg c, if_neg (fun z => c ((i32_lt y x).mp z))]
        rw [e9]
        exact a
    · cases e
  · cases e
theorem s_oin {i : Nat} (hd : decode K.2.2.1 pc = .ok (.invokespecial i, 3)) (w1 : Cond.methodLink (clS K.1) i Lib.objectInit ∈ tG) (w2 : Cond.instanceMethod Lib.objectInit ∈ tG) (w3 : Cond.code Lib.objectInit ⟨#[0xb1]⟩ 1 none ∈ tG) (hF : 1 ≤ K.2.2.2.2.1) (hL : 12 ≤ K.2.2.2.2.2) : Seg S K pc (pc + 3) x_oin := by
  rintro ⟨st, L, h⟩ σ' e
  unfold x_oin at e
  split at e
  · rename_i a hz
    simp only at hz
    subst hz
    cases e
    refine gos_stc fun P p l e R s m args below meth c Q H locs cells slots ls C h2 h3 h1 hc hs x => ?_
    refine W.objInit C.1 C.2.1 C.2.2.2.1 (C.2.2.2.2.1 _ w1) (C.2.2.2.2.1 _ w2) (C.2.2.2.2.1 _ w3) rfl (h1.2.1.trans C.2.2.1.symm) rfl hd (Nat.le_trans hF C.2.2.2.2.2.2.1) ?_ x
    show 2 * 0 + 0 + 12 ≤ R.locals
    have := C.2.2.2.2.2.2.2.1
    omega
  · cases e
theorem s_acp {i : Nat} (hd : decode K.2.2.1 pc = .ok (.invokestatic i, 3)) (w1 : Cond.methodLink (clS K.1) i arraycopyName ∈ tG) (w2 : Cond.native arraycopyName ∈ tG) (w3 : Cond.static arraycopyName ∈ tG) (w4 : Cond.initialized "java/lang/System" ∈ tG) (hF : 1 ≤ K.2.2.2.2.1) (hL : 40 ≤ K.2.2.2.2.2) : Seg S K pc (pc + 3) x_acp := by
  rintro ⟨st, L, T, M⟩ σ' e
  unfold x_acp at e
  split at e
  · rename_i n dp d sp a hz
    simp only at hz
    subst hz
    split at e
    · rename_i k0 n0 r0 k1 n1 r1 hT0 hT1
      split at e
      · rename_i hg
        obtain ⟨rfl, rfl, g1, g2, g3, g4, g5⟩ := hg
        simp only at hT0 hT1
        cases e
        refine gos_hp rfl rfl fun P p l e R s m args below meth c Q H locs cells slots ls C h2 h3 h1 x => ?_
        have he0 := ws_at (P := P) (h := (T, M)) hT0
        rw [eC_i (by omega) (by omega)] at he0
        have he1 := ws_at (P := P) (h := (T, M)) hT1
        rw [eC_i (by omega) (by omega)] at he1
        refine va_copyi C.1 C.2.1 (C.2.2.1.trans h1.2.1.symm) C.2.2.2.1 (C.2.2.2.2.1 _ w1) (C.2.2.2.2.1 _ w2) (C.2.2.2.2.1 _ w3) (C.2.2.2.2.1 _ w4) C.2.2.2.2.2.2.2.2.1.1 h2.2 (ws_D P (T, M)) h3 a d 0 0 he0 he1 rfl rfl rfl (i32_nn g1) (i32_nn g2) (i32_nn g3) (by rw [i32_clamp, i32_clamp]; omega) (by rw [i32_clamp, i32_clamp]; omega) (fun _ _ => rfl) (Nat.le_trans hF C.2.2.2.2.2.2.1) ?_ hd (fun H1 locs1 y1 y2 y3 => ?_)
        · show 0 + (nativeFrameWords "java/lang/System" "arraycopy" 5 + 11) ≤ R.locals
          have e7 : nativeFrameWords "java/lang/System" "arraycopy" 5 = 7 := by decide
          have := C.2.2.2.2.2.2.2.1
          rw [e7]
          omega
        · have e5 := ws_cp (P := P) (M := M) hT0 hT1 g1 g2 g3
          rw [i32_clamp, i32_clamp, i32_clamp] at y1
          refine x H1 locs1 ?_ y3
          show va_P P.2.1 vwCl (wsOf P (T, cpm M a d (n32 sp) (n32 dp) (n32 n))) H1
          rw [← e5]
          exact y1
      · cases e
    · cases e
  · cases e
theorem outer_eq (cA : ClassId) (N h0 : Nat) : Jvm.Free.Multi.outerC cA N h0 N = arrV cA N (fun j => va_rf (if j < N then some (h0 + 1 + j) else none)) := by
  obtain ⟨f1, f2, f3⟩ := Jvm.Free.Multi.outerC_facts cA N h0 N
  obtain ⟨f4, f5⟩ := Jvm.Free.Multi.outerC_plain cA N h0 N
  have f6 : (Jvm.Free.Multi.outerC cA N h0 N).slots = (arrV cA N (fun j => va_rf (if j < N then some (h0 + 1 + j) else none))).slots := by
    apply Array.ext_getElem?
    intro i
    by_cases hi : i < N
    · rw [Jvm.Free.Multi.outerC_slot cA N h0 N i hi, arrV_read _ _ hi, if_pos hi, if_pos hi]
      rfl
    · rw [Array.getElem?_eq_none (by rw [f3]; omega), Array.getElem?_eq_none (by rw [arrV_size]; omega)]
  generalize Jvm.Free.Multi.outerC cA N h0 N = x at f1 f2 f4 f5 f6
  cases x
  simp only at f1 f2 f4 f5 f6
  subst f1 f2 f4 f5 f6
  rfl
theorem inner_eq (cA : ClassId) (N : Nat) : Jvm.Free.Multi.innerC cA N (defaultValue .int) = vp_cell cA (N, .inl (fun _ => 0)) := by
  show ({ cls := cA, slots := Array.replicate N (.int 0), vm := .none } : Cell) = arrV cA N (fun _ => .int 0)
  exact arrV_new _ _ _
theorem sz_rep (n k : Nat) : sz (List.replicate n ((9, k, nor) : Sh)) = n * k := by
  unfold sz
  rw [List.map_replicate, List.sum_replicate_nat]
theorem s_mna {i : Nat} (hd : decode K.2.2.1 pc = .ok (.multianewarray i 2, 4)) (w1 : Cond.classLink (clS K.1) i "[[I" ∈ tG) (w2 : Cond.arrayOver (.array .int) ∈ nW) (w3 : Cond.arrayClass .int ∈ tG) : Seg S K pc (pc + 4) x_mna := by
  rintro ⟨st, L, T, M⟩ σ' e
  unfold x_mna at e
  split at e
  · rename_i y z st0 hz
    simp only at hz
    subst hz
    split at e
    · rename_i hg
      obtain ⟨g1, g2, g3, g4⟩ := hg
      cases e
      simp only
      generalize hn : (n32 z).toNat = n
      generalize hk : (n32 y).toNat = k
      have eL : (T ++ ((14, n, fun i => if i < n then some (T.length + 1 + i) else none) : Sh) :: List.replicate n (9, k, nor)).length = T.length + (1 + n) := by simp; omega
      have eZ : sz (T ++ ((14, n, fun i => if i < n then some (T.length + 1 + i) else none) : Sh) :: List.replicate n (9, k, nor)) = sz T + (n + n * k) := by
        rw [sz_app]
        show _ + (n + sz (List.replicate n (9, k, nor))) = _
        rw [sz_rep]
      refine ⟨⟨by show _ ≤ List.length _; rw [eL]; exact Nat.le_add_right _ _, by show _ ≤ sz _; rw [eZ]; exact Nat.le_add_right _ _⟩, fun P p l e R s m args below meth c Q t0 z0 C h0 hz0 hc hs a ls H locs h1 h2 h3 X hX hSt => ?_⟩
      have u3 := h0.1
      have u4 : t0 ≤ T.length := h0.2
      have u5 : z0 ≤ sz T := hz0
      simp only [eL, eZ] at hc hs
      have hnn : (Int32.ofInt z).toNatClampNeg = n := by rw [i32_clamp, hn]
      have hkk : (Int32.ofInt y).toNatClampNeg = k := by rw [i32_clamp, hk]
      obtain ⟨vm₁, cA, comp, hW, hfA, hfC, -, -, X1, step⟩ := hSt.multianewarray2K (own := clS K.1) (index := i) (ty := .int) C.1 C.2.2.2.1 (C.2.2.2.2.1 _ w1) (Cond.overAtom_setVm (args := args) (s := s) (vm' := s.vm) (Vm.Alike.refl _) (.arrayOver (.array .int)) rfl (C.2.2.2.2.2.2.2.2.1.2.1 _ w2)) (C.2.2.2.2.1 _ w3)
        (g := F0 m pc ls (.int (Int32.ofInt y) :: .int (Int32.ofInt z) :: st0.map (cV P))) rfl (by rw [C.2.1]; exact hd) rfl (i32_nn g1) (i32_nn g3) (by rw [hnn]; omega) (by rw [hkk]; show k * 4 ≤ _; omega) (by rw [hkk]; omega) rfl rfl (by rw [hnn]; simp only at hc ⊢; omega) (by rw [hnn, hkk]; simp only at hs ⊢; omega)
      rw [hnn, hkk] at X1 step
      have c14 : cA = P.2.2.1 14 := by
        have c2 : s.vm.findClass ("[" ++ (FieldType.array .int).toString) = some (P.2.2.1 14) := (C.2.2.2.2.2.2.2.2.1.1.2 5 _ rfl).2
        exact Option.some.inj (hfA.symm.trans c2)
      have c9 : comp = P.2.2.1 9 := by
        have c2 : s.vm.findClass (FieldType.array .int).toString = some (P.2.2.1 9) := (C.2.2.2.2.2.2.2.2.1.1.2 0 _ rfl).2
        exact Option.some.inj (hfC.symm.trans c2)
      subst c14 c9
      have hXs : X.heap.size = P.1 + T.length := by rw [hX]; exact h2.1
      obtain ⟨f1, f2, -, -⟩ := Jvm.Free.Multi.fill_facts (X.setVm vm₁) (P.2.2.1 14) (P.2.2.1 9) n k (defaultValue .int) n
      have hsv : (X.setVm vm₁).heap = X.heap := rfl
      rw [hsv] at f1 f2
      have fo := fun q (hq : q < X.heap.size) => Jvm.Free.Multi.fill_old (X.setVm vm₁) (P.2.2.1 14) (P.2.2.1 9) n k (defaultValue .int) (a := q) (by rw [hsv]; exact hq) n
      have fi := fun j hj => Jvm.Free.Multi.fill_inner (X.setVm vm₁) (P.2.2.1 14) (P.2.2.1 9) n k (defaultValue .int) n j hj
      rw [hsv] at fi
      have hP' : va_P P.2.1 vwCl (wsOf P (T ++ ((14, n, fun i => if i < n then some (T.length + 1 + i) else none) : Sh) :: List.replicate n (9, k, nor), zm M T.length)) (Jvm.Free.Multi.fill (X.setVm vm₁) (P.2.2.1 14) (P.2.2.1 9) n k (defaultValue .int) n).heap := by
        intro j q hq
        rw [ws_get] at hq
        by_cases hj : j < T.length
        · simp only at hq
          rw [List.getElem?_append_left hj, List.getElem?_eq_getElem hj] at hq
          cases hq
          have e8 : zm M T.length j = M j := by
            funext i
            unfold zm
            rw [if_neg (by omega)]
          have h8 := h2.2 j _ (ws_at (P := P) (h := (T, M)) (List.getElem?_eq_getElem hj))
          show va_at P.2.1 vwCl (P.1 + j, eC P T[j] (zm M T.length j)) _
          rw [e8]
          exact va_at.kept h8 (by show _ = H[P.1 + j]?; rw [fo _ (by omega)]; exact congrArg (fun h : Heap => h[P.1 + j]?) hX)
        · have e8 : zm M T.length j = fun _ => 0 := by
            funext i
            unfold zm
            rw [if_pos (by omega)]
          simp only at hq
          rw [List.getElem?_append_right (by omega), e8] at hq
          cases hj2 : j - T.length with
          | zero =>
            rw [hj2] at hq
            cases hq
            have ej : P.1 + j = X.heap.size := by omega
            show (Jvm.Free.Multi.fill _ _ _ _ _ _ _).heap[P.1 + j]? = some (vp_cell (P.2.2.1 14) (n, .inr (.inr (.inr (.inr (fun i => (if i < n then some (T.length + 1 + i) else none : Option Nat).map (fun k => P.1 + k)))))))
            rw [ej, f2, outer_eq, vp_cell_q]
            congr 2
            funext q
            by_cases hq : q < n
            · rw [if_pos hq, if_pos hq, hXs]
              exact congrArg Value.ref (by omega : P.1 + T.length + 1 + q = P.1 + (T.length + 1 + q))
            · rw [if_neg hq, if_neg hq]; rfl
          | succ i9 =>
            rw [hj2] at hq
            simp only [List.getElem?_cons_succ, List.getElem?_replicate] at hq
            split at hq
            · rename_i hi9
              cases hq
              have ej : P.1 + j = X.heap.size + 1 + i9 := by omega
              show (Jvm.Free.Multi.fill _ _ _ _ _ _ _).heap[P.1 + j]? = some (vp_cell (P.2.2.1 9) (k, .inl (fun _ => 0)))
              rw [ej, fi i9 hi9, inner_eq]
            · cases hq
      have w := a ls (Jvm.Free.Multi.fill (X.setVm vm₁) (P.2.2.1 14) (P.2.2.1 9) n k (defaultValue .int) n).heap (locs ++ (List.range n).map fun j => ⟨X.heap.size, j⟩) h1 ⟨by show _ = P.1 + List.length _; rw [eL, f1]; omega, hP'⟩ ⟨by rw [f1]; omega, fun q q1 q2 => by
          rw [fo q (by omega)]
          have := h3.2.1 q q1 q2
          rw [← hX] at this
          exact this, fun q hq => by
          rcases List.mem_append.mp hq with h | h
          · exact h3.2.2 q h
          · obtain ⟨j, -, hj⟩ := List.mem_map.mp h
            rw [← hj]
            show P.1 ≤ X.heap.size
            omega⟩
      have ec : T.length - t0 + 1 + n = T.length + (1 + n) - t0 := by omega
      have es : sz T - z0 + n + n * k = sz T + (n + n * k) - z0 := by omega
      have X2 : Stand p l e R s m args below meth c (Jvm.Free.Multi.fill (X.setVm vm₁) (P.2.2.1 14) (P.2.2.1 9) n k (defaultValue .int) n) (locs ++ (List.range n).map fun j => ⟨X.heap.size, j⟩) (T.length + (1 + n) - t0) (sz T + (n + n * k) - z0) := by
        rw [← ec, ← es]
        exact X1
      simp only [eL, eZ] at w
      obtain ⟨t, a1, b1⟩ := w _ rfl X2
      refine ⟨t, step t ?_, b1⟩
      rw [hXs]
      exact a1
    · cases e
  · cases e
end Ops5
end
section
/-! FROM THE BYTES TO THE SMALL MACHINE'S INSTRUCTIONS -/
def lk2 {α : Type} (l : List (Nat × Nat × α)) (o i : Nat) : Option (Nat × Nat × α) := l.find? (fun r => r.1 == o && r.2.1 == i)
theorem lk2_mem {α : Type} {l : List (Nat × Nat × α)} {o i : Nat} {r : Nat × Nat × α} (h : lk2 l o i = some r) : r ∈ l ∧ r.1 = o ∧ r.2.1 = i := by
  unfold lk2 at h
  have h1 := List.find?_some h
  simp only [Bool.and_eq_true, beq_iff_eq] at h1
  exact ⟨List.mem_of_find?_eq_some h, h1.1, h1.2⟩
def sPl (i : Nat) : Option Nat := match i with
  | 72 => some 0
  | 78 => some 1
  | 80 => some 2
  | 82 => some 3
  | 84 => some 4
  | 86 => some 5
  | 88 => some 6
  | 90 => some 7
  | _ => none
theorem sPl_ok {i j : Nat} (h : sPl i = some j) : ∃ tx, sIdx[j]? = some (i, tx) := by
  unfold sPl at h
  split at h <;> first | (cases h; exact ⟨_, rfl⟩) | cases h
theorem ite_some {α : Type} {c : Prop} [Decidable c] {x y : α} (h : (if c then some x else none) = some y) : c ∧ x = y := by
  split at h
  · rename_i hc
    exact ⟨hc, Option.some.inj h⟩
  · cases h
/-- an instruction of the machine as one of the small machine's, in a method of that class and name that has so many frames and words left -/
def tr (o : Nat) (nm : String) (fr lo : Nat) (q : Instr × Nat) : Option In := match q.1 with
  | .iadd => if q.2 = 1 then some (96, 0, 0) else none
  | .isub => if q.2 = 1 then some (100, 0, 0) else none
  | .imul => if q.2 = 1 then some (104, 0, 0) else none
  | .idiv => if q.2 = 1 then some (108, 0, 0) else none
  | .irem => if q.2 = 1 then some (112, 0, 0) else none
  | .ineg => if q.2 = 1 then some (116, 0, 0) else none
  | .ishl => if q.2 = 1 then some (120, 0, 0) else none
  | .ishr => if q.2 = 1 then some (122, 0, 0) else none
  | .iushr => if q.2 = 1 then some (124, 0, 0) else none
  | .iand => if q.2 = 1 then some (126, 0, 0) else none
  | .ior => if q.2 = 1 then some (128, 0, 0) else none
  | .ladd => if q.2 = 1 then some (97, 0, 0) else none
  | .lsub => if q.2 = 1 then some (101, 0, 0) else none
  | .lmul => if q.2 = 1 then some (105, 0, 0) else none
  | .ldiv => if q.2 = 1 then some (109, 0, 0) else none
  | .lrem => if q.2 = 1 then some (113, 0, 0) else none
  | .lcmp => if q.2 = 1 then some (148, 0, 0) else none
  | .i2l => if q.2 = 1 then some (133, 0, 0) else none
  | .l2i => if q.2 = 1 then some (136, 0, 0) else none
  | .i2b => if q.2 = 1 then some (145, 0, 0) else none
  | .i2c => if q.2 = 1 then some (146, 0, 0) else none
  | .dup => if q.2 = 1 then some (89, 0, 0) else none
  | .dup2 => if q.2 = 1 then some (92, 0, 0) else none
  | .pop => if q.2 = 1 then some (87, 0, 0) else none
  | .iaload => if q.2 = 1 then some (46, 0, 0) else none
  | .baload => if q.2 = 1 then some (51, 0, 0) else none
  | .aaload => if q.2 = 1 then some (50, 0, 0) else none
  | .iastore => if q.2 = 1 then some (79, 0, 0) else none
  | .bastore => if q.2 = 1 then some (84, 0, 0) else none
  | .aastore => if q.2 = 1 then some (83, 0, 0) else none
  | .arraylength => if q.2 = 1 then some (190, 0, 0) else none
  | .iload k => if q.2 = 2 then some (21, (k : Int), 0) else none
  | .iload_n k => if q.2 = 1 then some (21, ((k : Nat) : Int), 0) else none
  | .lload k => if q.2 = 2 then some (22, (k : Int), 0) else none
  | .lload_n k => if q.2 = 1 then some (22, ((k : Nat) : Int), 0) else none
  | .aload k => if q.2 = 2 then some (25, (k : Int), 0) else none
  | .aload_n k => if q.2 = 1 then some (25, ((k : Nat) : Int), 0) else none
  | .istore k => if q.2 = 2 then some (54, (k : Int), 0) else none
  | .istore_n k => if q.2 = 1 then some (54, ((k : Nat) : Int), 0) else none
  | .lstore k => if q.2 = 2 then some (55, (k : Int), 0) else none
  | .lstore_n k => if q.2 = 1 then some (55, ((k : Nat) : Int), 0) else none
  | .astore k => if q.2 = 2 then some (58, (k : Int), 0) else none
  | .astore_n k => if q.2 = 1 then some (58, ((k : Nat) : Int), 0) else none
  | .iconst n => if q.2 = 1 then some (2, n, 0) else none
  | .bipush n => if q.2 = 2 ∧ (Int8.ofInt n).toInt32 = Int32.ofInt n then some (2, n, 0) else none
  | .sipush n => if q.2 = 3 ∧ (Int16.ofInt n).toInt32 = Int32.ofInt n then some (2, n, 0) else none
  | .lconst n => if q.2 = 1 ∧ Int64.ofNat (n : Nat) = Int64.ofInt (n : Nat) then some (9, ((n : Nat) : Int), 0) else none
  | .ldc i => if q.2 = 2 then (match lk2 kTab o i with
    | some r => some (2, r.2.2.1, 0)
    | none => if clS o = RX4 then (match sPl i with
      | some j => some (178, ((3 + j : Nat) : Int), 0)
      | none => none) else none) else none
  | .ldc_w i => if q.2 = 3 then (match lk2 kTab o i with
    | some r => some (2, r.2.2.1, 0)
    | none => none) else none
  | .ldc2_w i => if q.2 = 3 then (match lk2 lTab o i with
    | some r => some (9, r.2.2.1, 0)
    | none => none) else none
  | .iinc i n => if q.2 = 3 then some (132, (i : Int), n) else none
  | .getstatic i => if q.2 = 3 then (match lk2 gTab o i with
    | some r => (match r.2.2.1 with
      | 0 => some (178, 1, 0)
      | 1 => some (178, 1, 0)
      | 2 => some (178, 2, 0)
      | 3 => some (2, 1, 0)
      | 4 => some (178, 19, 0)
      | _ => none)
    | none => none) else none
  | .getfield i => if q.2 = 3 then (match lk2 fTab o i with
    | some r => if r.2.2.1 < 9 then some (180, ((r.2.2.1 * 100 + r.2.2.2.1 : Nat) : Int), 0) else some (205, (r.2.2.2.1 : Int), 0)
    | none => none) else none
  | .putfield i => if q.2 = 3 then (match lk2 fTab o i with
    | some r => if r.2.2.1 < 9 ∧ (if fT r.2.2.1 r.2.2.2.1 = 2 then (clT r.2.2.1 r.2.2.2.1).2.2.2 = true ∧ nm = "<init>" ∧ (clT r.2.2.1 r.2.2.2.1).1 = clS o else (clT r.2.2.1 r.2.2.2.1).2.2.2 = false) then some (181, ((r.2.2.1 * 100 + r.2.2.2.1 : Nat) : Int), 0) else none
    | none => none) else none
  | .new i => if q.2 = 3 then (match lk2 nTab o i with
    | some r => some (187, (r.2.2.1 : Int), 0)
    | none => none) else none
  | .newarray t => if q.2 = 2 then (match t with
    | .int => some (188, 9, 0)
    | .byte => some (188, 10, 0)
    | .boolean => some (188, 11, 0)
    | _ => none) else none
  | .anewarray i => if q.2 = 3 then (match lk2 aTab o i with
    | some r => some (188, (r.2.2.1 : Int), 0)
    | none => none) else none
  | .multianewarray i n => if q.2 = 4 ∧ n = 2 then (match lk2 mTab o i with
    | some _ => some (197, 0, 0)
    | none => none) else none
  | .invokespecial i => if q.2 = 3 ∧ 1 ≤ fr ∧ 12 ≤ lo then (match lk2 oTab o i with
    | some _ => some (202, 0, 0)
    | none => none) else none
  | .invokestatic i => if q.2 = 3 ∧ 1 ≤ fr ∧ 21 ≤ lo then (match lk2 xTab o i with
    | some r => some (210, (r.2.2.1 : Int), 0)
    | none => if 40 ≤ lo then (match lk2 cTab o i with
      | some _ => some (201, 0, 0)
      | none => none) else none) else none
  | _ => none
theorem cl100 : ∀ c, c < 9 → ∀ k, k < clN c → (c * 100 + k) / 100 = c ∧ (c * 100 + k) % 100 = k := by decide +kernel
set_option maxHeartbeats 4000000 in
theorem tr_ok {S : List Int} {K : Mt} {pc o fr lo : Nat} {nm : String} {ins : Instr} {len : Nat} {i : In} (hK : K.1 = o) (hN : K.2.1 = nm) (hF : K.2.2.2.2.1 = fr) (hL : K.2.2.2.2.2 = lo) (h : tr o nm fr lo (ins, len) = some i) (hd : decode K.2.2.1 pc = .ok (ins, len)) : Seg S K pc (pc + len) (ex S i) := by
  cases ins with
  | iadd =>
    obtain ⟨rfl, rfl⟩ := ite_some h
    exact s_iadd hd
  | isub =>
    obtain ⟨rfl, rfl⟩ := ite_some h
    exact s_isub hd
  | imul =>
    obtain ⟨rfl, rfl⟩ := ite_some h
    exact s_imul hd
  | idiv =>
    obtain ⟨rfl, rfl⟩ := ite_some h
    exact s_idiv hd
  | irem =>
    obtain ⟨rfl, rfl⟩ := ite_some h
    exact s_irem hd
  | ineg =>
    obtain ⟨rfl, rfl⟩ := ite_some h
    exact s_ineg hd
  | ishl =>
    obtain ⟨rfl, rfl⟩ := ite_some h
    exact s_ishl hd
  | ishr =>
    obtain ⟨rfl, rfl⟩ := ite_some h
    exact s_ishr hd
  | iushr =>
    obtain ⟨rfl, rfl⟩ := ite_some h
    exact s_iushr hd
  | iand =>
    obtain ⟨rfl, rfl⟩ := ite_some h
    exact s_iand hd
  | ior =>
    obtain ⟨rfl, rfl⟩ := ite_some h
    exact s_ior hd
  | ladd =>
    obtain ⟨rfl, rfl⟩ := ite_some h
    exact s_ladd hd
  | lsub =>
    obtain ⟨rfl, rfl⟩ := ite_some h
    exact s_lsub hd
  | lmul =>
    obtain ⟨rfl, rfl⟩ := ite_some h
    exact s_lmul hd
  | ldiv =>
    obtain ⟨rfl, rfl⟩ := ite_some h
    exact s_ldiv hd
  | lrem =>
    obtain ⟨rfl, rfl⟩ := ite_some h
    exact s_lrem hd
  | lcmp =>
    obtain ⟨rfl, rfl⟩ := ite_some h
    exact s_lcmp hd
  | i2l =>
    obtain ⟨rfl, rfl⟩ := ite_some h
    exact s_i2l hd
  | l2i =>
    obtain ⟨rfl, rfl⟩ := ite_some h
    exact s_l2i hd
  | i2b =>
    obtain ⟨rfl, rfl⟩ := ite_some h
    exact s_i2b hd
  | i2c =>
    obtain ⟨rfl, rfl⟩ := ite_some h
    exact s_i2c hd
  | dup =>
    obtain ⟨rfl, rfl⟩ := ite_some h
    exact s_dup hd
  | dup2 =>
    obtain ⟨rfl, rfl⟩ := ite_some h
    exact s_dup2 hd
  | pop =>
    obtain ⟨rfl, rfl⟩ := ite_some h
    exact s_pop hd
  | iaload =>
    obtain ⟨rfl, rfl⟩ := ite_some h
    exact s_iaload hd
  | baload =>
    obtain ⟨rfl, rfl⟩ := ite_some h
    exact s_baload hd
  | aaload =>
    obtain ⟨rfl, rfl⟩ := ite_some h
    exact s_aaload hd
  | iastore =>
    obtain ⟨rfl, rfl⟩ := ite_some h
    exact s_iastore hd
  | bastore =>
    obtain ⟨rfl, rfl⟩ := ite_some h
    exact s_bastore hd
  | aastore =>
    obtain ⟨rfl, rfl⟩ := ite_some h
    exact s_aastore hd
  | arraylength =>
    obtain ⟨rfl, rfl⟩ := ite_some h
    exact s_alen hd
  | iload k =>
    obtain ⟨rfl, rfl⟩ := ite_some h
    exact s_iload hd
  | iload_n k =>
    obtain ⟨rfl, rfl⟩ := ite_some h
    exact s_iload_n hd rfl
  | lload k =>
    obtain ⟨rfl, rfl⟩ := ite_some h
    exact s_lload hd
  | lload_n k =>
    obtain ⟨rfl, rfl⟩ := ite_some h
    exact s_lload_n hd rfl
  | aload k =>
    obtain ⟨rfl, rfl⟩ := ite_some h
    exact s_aload hd
  | aload_n k =>
    obtain ⟨rfl, rfl⟩ := ite_some h
    exact s_aload_n hd rfl
  | istore k =>
    obtain ⟨rfl, rfl⟩ := ite_some h
    exact s_istore hd
  | istore_n k =>
    obtain ⟨rfl, rfl⟩ := ite_some h
    exact s_istore_n hd rfl
  | lstore k =>
    obtain ⟨rfl, rfl⟩ := ite_some h
    exact s_lstore hd
  | lstore_n k =>
    obtain ⟨rfl, rfl⟩ := ite_some h
    exact s_lstore_n hd rfl
  | astore k =>
    obtain ⟨rfl, rfl⟩ := ite_some h
    exact s_astore hd
  | astore_n k =>
    obtain ⟨rfl, rfl⟩ := ite_some h
    exact s_astore_n hd rfl
  | iconst n =>
    obtain ⟨rfl, rfl⟩ := ite_some h
    exact s_iconst hd
  | bipush n =>
    obtain ⟨⟨rfl, g⟩, rfl⟩ := ite_some h
    exact s_bipush hd g
  | sipush n =>
    obtain ⟨⟨rfl, g⟩, rfl⟩ := ite_some h
    exact s_sipush hd g
  | lconst n =>
    obtain ⟨⟨rfl, g⟩, rfl⟩ := ite_some h
    exact s_lconst hd g
  | ldc i =>
    simp only [tr] at h
    split at h
    · rename_i g
      subst g
      split at h
      · rename_i r hr
        cases h
        obtain ⟨m1, m2, m3⟩ := lk2_mem hr
        have w := inW_tG (List.all_eq_true.mp kTab_ok r m1)
        rw [m2, m3, ← hK] at w
        exact s_ldc hd w
      · split at h
        · rename_i g2
          split at h
          · rename_i j hj
            cases h
            obtain ⟨tx, ht⟩ := sPl_ok hj
            exact s_ldcS hd (by rw [hK]; exact g2) ht
          · cases h
        · cases h
    · cases h
  | ldc_w i =>
    simp only [tr] at h
    split at h
    · rename_i g
      subst g
      split at h
      · rename_i r hr
        cases h
        obtain ⟨m1, m2, m3⟩ := lk2_mem hr
        have w := inW_tG (List.all_eq_true.mp kTab_ok r m1)
        rw [m2, m3, ← hK] at w
        exact s_ldcw hd w
      · cases h
    · cases h
  | ldc2_w i =>
    simp only [tr] at h
    split at h
    · rename_i g
      subst g
      split at h
      · rename_i r hr
        cases h
        obtain ⟨m1, m2, m3⟩ := lk2_mem hr
        have w := inW_tG (List.all_eq_true.mp lTab_ok r m1)
        rw [m2, m3, ← hK] at w
        exact s_ldc2 hd w
      · cases h
    · cases h
  | iinc i n =>
    obtain ⟨rfl, rfl⟩ := ite_some h
    exact s_iinc hd
  | getstatic i =>
    simp only [tr] at h
    split at h
    · rename_i g
      subst g
      split at h
      · rename_i r hr
        obtain ⟨m1, m2, m3⟩ := lk2_mem hr
        have w := List.all_eq_true.mp gTab_ok r m1
        unfold gOk at w
        split at h
        · rename_i e9; rw [e9] at w; cases h
          simp only at w
          rw [m2, m3, ← hK] at w
          exact s_gets_mt hd (inW_tG w)
        · rename_i e9; rw [e9] at w; cases h
          simp only at w
          rw [m2, m3, ← hK] at w
          exact s_gets_mtn hd (inN_nW w)
        · rename_i e9; rw [e9] at w; cases h
          simp only at w
          rw [m2, m3, ← hK] at w
          exact s_gets_no hd (inW_tG w)
        · rename_i e9; rw [e9] at w; cases h
          simp only at w
          rw [m2, m3, ← hK] at w
          exact s_gets_cs hd (inW_tG w)
        · rename_i e9; rw [e9] at w; cases h
          simp only at w
          rw [m2, m3, ← hK] at w
          exact s_gets_sf hd (inW_tG w)
        · cases h
      · cases h
    · cases h
  | getfield i =>
    simp only [tr] at h
    split at h
    · rename_i g
      subst g
      split at h
      · rename_i r hr
        obtain ⟨m1, m2, m3⟩ := lk2_mem hr
        have w := List.all_eq_true.mp fTab_ok r m1
        unfold fOk at w
        split at h
        · rename_i g2
          cases h
          rw [if_pos g2, Bool.and_eq_true, decide_eq_true_eq, m2, m3, ← hK] at w
          have hk := cl100 _ g2 _ w.1
          show Seg S K pc (pc + 3) (x_get ((r.2.2.1 * 100 + r.2.2.2.1) / 100) ((r.2.2.1 * 100 + r.2.2.2.1) % 100))
          rw [hk.1, hk.2]
          exact s_get hd g2 w.1 (inW_tG w.2)
        · rename_i g2
          cases h
          rw [if_neg g2, Bool.and_eq_true, decide_eq_true_eq, m2, m3, ← hK] at w
          exact s_gstr hd w.1 (inW_tG w.2)
      · cases h
    · cases h
  | putfield i =>
    simp only [tr] at h
    split at h
    · rename_i g
      subst g
      split at h
      · rename_i r hr
        obtain ⟨m1, m2, m3⟩ := lk2_mem hr
        have w := List.all_eq_true.mp fTab_ok r m1
        unfold fOk at w
        obtain ⟨⟨g2, g3⟩, rfl⟩ := ite_some h
        rw [if_pos g2, Bool.and_eq_true, decide_eq_true_eq, m2, m3, ← hK] at w
        have hk := cl100 _ g2 _ w.1
        show Seg S K pc (pc + 3) (if fT ((r.2.2.1 * 100 + r.2.2.2.1) / 100) ((r.2.2.1 * 100 + r.2.2.2.1) % 100) = 1 then x_putl ((r.2.2.1 * 100 + r.2.2.2.1) / 100) ((r.2.2.1 * 100 + r.2.2.2.1) % 100) else if fT ((r.2.2.1 * 100 + r.2.2.2.1) / 100) ((r.2.2.1 * 100 + r.2.2.2.1) % 100) = 2 then x_putr ((r.2.2.1 * 100 + r.2.2.2.1) / 100) ((r.2.2.1 * 100 + r.2.2.2.1) % 100) else x_puti ((r.2.2.1 * 100 + r.2.2.2.1) / 100) ((r.2.2.1 * 100 + r.2.2.2.1) % 100))
        rw [hk.1, hk.2]
        by_cases f1 : fT r.2.2.1 r.2.2.2.1 = 1
        · rw [if_pos f1]
          rw [if_neg (by omega)] at g3
          exact s_putl hd g2 w.1 (inW_tG w.2) g3 f1
        · rw [if_neg f1]
          by_cases f2 : fT r.2.2.1 r.2.2.2.1 = 2
          · rw [if_pos f2]
            rw [if_pos f2] at g3
            exact s_putr hd g2 w.1 (inW_tG w.2) g3.1 (hN.trans g3.2.1) (by rw [hK]; exact g3.2.2) f2
          · rw [if_neg f2]
            rw [if_neg f2] at g3
            exact s_puti hd g2 w.1 (inW_tG w.2) g3 f1 f2
      · cases h
    · cases h
  | new i =>
    simp only [tr] at h
    split at h
    · rename_i g
      subst g
      split at h
      · rename_i r hr
        cases h
        obtain ⟨m1, m2, m3⟩ := lk2_mem hr
        have w := List.all_eq_true.mp nTab_ok r m1
        unfold nOk at w
        rw [m2, m3, ← hK] at w
        simp only [Bool.and_eq_true, decide_eq_true_eq] at w
        exact s_new hd w.1 (inW_tG w.2.1) (inW_tG w.2.2.1) (inW_tG w.2.2.2)
      · cases h
    · cases h
  | newarray t =>
    simp only [tr] at h
    split at h
    · rename_i g
      subst g
      cases t with
      | int => cases h; exact s_newa_i hd aW_i
      | byte => cases h; exact s_newa_b hd aW_b
      | boolean => cases h; exact s_newa_z hd aW_z
      | _ => cases h
    · cases h
  | anewarray i =>
    simp only [tr] at h
    split at h
    · rename_i g
      subst g
      split at h
      · rename_i r hr
        cases h
        obtain ⟨m1, m2, m3⟩ := lk2_mem hr
        have w := List.all_eq_true.mp aTab_ok r m1
        unfold aOk at w
        rw [m2, m3, ← hK] at w
        simp only [Bool.and_eq_true, decide_eq_true_eq] at w
        obtain ⟨w1, w2, w3⟩ := w
        rcases w1 with w1 | w1
        · rw [w1] at w2 w3 ⊢
          exact s_anew_sl hd (inW_tG w2) (inN_nW w3)
        · rw [w1] at w2 w3 ⊢
          exact s_anew_st hd (inW_tG w2) (inN_nW w3)
      · cases h
    · cases h
  | multianewarray i n =>
    simp only [tr] at h
    split at h
    · rename_i g
      obtain ⟨rfl, rfl⟩ := g
      split at h
      · rename_i r hr
        cases h
        obtain ⟨m1, m2, m3⟩ := lk2_mem hr
        have w := List.all_eq_true.mp mTab_ok r m1
        unfold mOk at w
        rw [m2, m3, ← hK] at w
        simp only [Bool.and_eq_true] at w
        exact s_mna hd (inW_tG w.1) (inN_nW w.2.1) (inW_tG w.2.2)
      · cases h
    · cases h
  | invokespecial i =>
    simp only [tr] at h
    split at h
    · rename_i g
      obtain ⟨rfl, g1, g2⟩ := g
      split at h
      · rename_i r hr
        cases h
        obtain ⟨m1, m2, m3⟩ := lk2_mem hr
        have w := List.all_eq_true.mp oTab_ok r m1
        unfold oOk at w
        rw [m2, m3, ← hK] at w
        simp only [Bool.and_eq_true] at w
        exact s_oin hd (inW_tG w.1) (inW_tG w.2.1) (inW_tG w.2.2) (by rw [hF]; exact g1) (by rw [hL]; exact g2)
      · cases h
    · cases h
  | invokestatic i =>
    simp only [tr] at h
    split at h
    · rename_i g
      obtain ⟨rfl, g1, g2⟩ := g
      split at h
      · rename_i r hr
        cases h
        obtain ⟨m1, m2, m3⟩ := lk2_mem hr
        have w := List.all_eq_true.mp xTab_ok r m1
        unfold xOk at w
        rw [m2, m3, ← hK] at w
        split at w
        · rename_i e9
          simp only [Bool.and_eq_true] at w
          rw [e9]
          exact s_max hd (inW_tG w.1) (inW_tG w.2.1) (inW_tG w.2.2.1) (inW_tG w.2.2.2) (by rw [hF]; exact g1) (by rw [hL]; exact g2)
        · rename_i e9
          simp only [Bool.and_eq_true] at w
          rw [e9]
          exact s_min hd (inW_tG w.1) (inW_tG w.2.1) (inW_tG w.2.2.1) (inW_tG w.2.2.2) (by rw [hF]; exact g1) (by rw [hL]; exact g2)
        · cases w
      · split at h
        · rename_i g3
          split at h
          · rename_i r hr
            cases h
            obtain ⟨m1, m2, m3⟩ := lk2_mem hr
            have w := List.all_eq_true.mp cTab_ok r m1
            unfold cOk at w
            rw [m2, m3, ← hK] at w
            simp only [Bool.and_eq_true] at w
            exact s_acp hd (inW_tG w.1) (inW_tG w.2.1) (inW_tG w.2.2.1) (inW_tG w.2.2.2) (by rw [hF]; exact g1) (by rw [hL]; exact g3)
          · cases h
        · cases h
    · cases h
  | _ => (have h : none = some i := h); cases h
def chkI (o : Nat) (nm : String) (fr lo : Nat) (cc : ByteArray) : Nat → List In → Option Nat
  | pc, [] => some pc
  | pc, i :: r => match decode cc pc with
    | .ok q => if tr o nm fr lo q = some i then chkI o nm fr lo cc (pc + q.2) r else none
    | .error _ => none
theorem exL_ok {S : List Int} {K : Mt} : ∀ (is : List In) (pc q : Nat) (σ σ' : St), chkI K.1 K.2.1 K.2.2.2.2.1 K.2.2.2.2.2 K.2.2.1 pc is = some q → exL S is σ = some σ' → Gos S K pc q σ σ'
  | [], pc, q, σ, σ', h, e => by
    cases h
    cases e
    exact Gos.rf _ _ _ _
  | i :: r, pc, q, σ, σ', h, e => by
    unfold chkI at h
    split at h
    · rename_i x hx
      split at h
      · rename_i ht
        obtain ⟨ins, len⟩ := x
        unfold exL at e
        cases e1 : ex S i σ with
        | none => rw [e1] at e; cases e
        | some τ =>
          rw [e1] at e
          exact (tr_ok rfl rfl rfl rfl ht hx σ τ e1).tr (exL_ok r _ q τ σ' h e)
      · cases h
    · cases h
end
section
/-! THE SMALL MACHINE RUNS METHODS, AND WHAT IT DOES THE JVM DOES -/
def blk (m pc : Nat) : Option (List In × Tn) := (mB m).2.2.lookup pc
def run (S : List Int) : Nat → Nat → Nat → St → Option (Option AV × Hp)
  | 0, _, _, _ => none
  | f + 1, m, pc, σ => match blk m pc with
    | none => none
    | some (is, t) => (exL S is σ).bind (fun σ1 =>
      if t.1 = 6 then rtv (mB m).2.1 σ1
      else if t.1 = 7 then
        (if t.2.2.2.1.toNat ≤ σ1.1.length ∧ σ1.1.length ≤ t.2.2.2.1.toNat + 4 ∧ rcv (t.2.2.2.2.getD 0 0) (t.2.2.2.2.getD 1 0) (σ1.1.take t.2.2.2.1.toNat).reverse σ1.2.2.1 = true then
          (ini (mB t.2.1).1 (σ1.1.take t.2.2.2.1.toNat).reverse).bind (fun L' => (run S f t.2.1 0 ([], L', σ1.2.2)).bind (fun r => run S f m t.2.2.1 (r.1.toList ++ σ1.1.drop t.2.2.2.1.toNat, σ1.2.1, r.2)))
        else none)
      else (jmp t σ1).bind (fun r => run S f m r.1 r.2))
def opN (c : ClassFile.Cond) : Int := match c with
  | .eq => 0
  | .ne => 1
  | .lt => 2
  | .ge => 3
  | .gt => 4
  | .le => 5
def rmOk (m fr lo : Nat) : Bool := decide ((mK m).2.2.2.2.1 + 1 ≤ fr ∧ 8 + ((mK m).2.2.2.1 + 11) + (mK m).2.2.2.2.2 ≤ lo)
def chkT (o rk fr lo : Nat) (cc : ByteArray) (pc : Nat) (t : Tn) : Bool := if t.1 = 0 then decide (t.2.1 = pc) else match decode cc pc with
  | .ok (.goto off, len) => decide (len = 3 ∧ t.1 = 1 ∧ (pc : Int) + off = (t.2.1 : Int))
  | .ok (.ifCond c off, len) => decide (len = 3 ∧ t.1 = 2 ∧ (pc : Int) + off = (t.2.1 : Int) ∧ t.2.2.1 = pc + 3 ∧ t.2.2.2.1 = opN c)
  | .ok (.if_icmp c off, len) => decide (len = 3 ∧ t.1 = 3 ∧ (pc : Int) + off = (t.2.1 : Int) ∧ t.2.2.1 = pc + 3 ∧ t.2.2.2.1 = opN c)
  | .ok (.ifnonnull off, len) => decide (len = 3 ∧ t.1 = 4 ∧ (pc : Int) + off = (t.2.1 : Int) ∧ t.2.2.1 = pc + 3)
  | .ok (.tableswitch d lw hi offs, _) => decide (t.1 = 5 ∧ (pc : Int) + d = (t.2.1 : Int) ∧ offs.toList.map (fun o => (pc : Int) + o) = t.2.2.2.2.map (fun k : Nat => (k : Int)) ∧ t.2.2.2.1 = lw ∧ hi = lw + (t.2.2.2.2.length : Int) - 1)
  | .ok (.lookupswitch d ps, _) => (match ps.toList with
    | [(k0, o0), (k1, o1)] => decide (t.1 = 8 ∧ k0 = 0 ∧ k1 = 1 ∧ (pc : Int) + d = (t.2.1 : Int) ∧ t.2.2.2.1 = 0 ∧ t.2.2.2.2.map (fun k : Nat => (k : Int)) = [(pc : Int) + o0, (pc : Int) + o1])
    | _ => false)
  | .ok (.ireturn, len) => decide (len = 1 ∧ t.1 = 6 ∧ (rk = 1 ∨ rk = 3 ∨ rk = 4 ∨ rk = 5))
  | .ok (.lreturn, len) => decide (len = 1 ∧ t.1 = 6 ∧ rk = 2)
  | .ok (.return_, len) => decide (len = 1 ∧ t.1 = 6 ∧ rk = 0)
  | .ok (.invokestatic i, len) => (match lk2 iTab o i with
    | some r => decide (len = 3 ∧ t.1 = 7 ∧ t.2.2.1 = pc + 3 ∧ (r.2.2.2.1 = 0 ∨ r.2.2.2.1 = 3) ∧ t.2.1 = r.2.2.1 ∧ t.2.2.2.1 = (mN r.2.2.1 : Int) ∧ t.2.2.2.2 = [0, 0]) && rmOk r.2.2.1 fr lo
    | none => false)
  | .ok (.invokespecial i, len) => (match lk2 iTab o i with
    | some r => decide (len = 3 ∧ t.1 = 7 ∧ t.2.2.1 = pc + 3 ∧ (r.2.2.2.1 = 2 ∨ r.2.2.2.1 = 4) ∧ t.2.1 = r.2.2.1 ∧ t.2.2.2.1 = (mN r.2.2.1 : Int) + 1 ∧ t.2.2.2.2 = [2, 0]) && rmOk r.2.2.1 fr lo
    | none => false)
  | .ok (.invokevirtual i, len) => (match lk2 iTab o i with
    | some r => decide (len = 3 ∧ t.1 = 7 ∧ t.2.2.1 = pc + 3 ∧ r.2.2.2.1 = 1 ∧ t.2.1 = r.2.2.1 ∧ t.2.2.2.1 = (mN r.2.2.1 : Int) + 1 ∧ t.2.2.2.2 = [1, r.2.2.2.2.1]) && rmOk r.2.2.1 fr lo
    | none => false)
  | _ => false
-- what a method's end is
def Qm (P : Par) (r : Option AV × Hp) : Array Value → State → Outcome → State → Prop := fun _ st o t => o = .returned (r.1.map (cV P)) ∧ hR P r.2 t.heap ∧ va_F (aA P) st t
def Rok (S : List Int) (m pc : Nat) (σ : St) (r : Option AV × Hp) : Prop := LeT σ.2.2.1 r.2.1 ∧ ∀ (P : Par) (p : Program) (l : Launch) (e : Env) (R : Room) (s : State) (m' : MethodId) (args : Array Value) (below : List Frame) (meth : Method) (c : Code) (t0 z0 : Nat),
  Cx S (mK m) P p R s m' args meth c → meth.sig.returnType = rtT (mB m).2.1 → (s.heap.size = P.1 + t0 ∧ t0 ≤ σ.2.2.1.length) → z0 ≤ sz σ.2.2.1 → r.2.1.length - t0 ≤ R.cells → sz r.2.1 - z0 ≤ R.slots → Ats S (mK m) P p l e R s m' args below meth c (MQ below (Qm P r) args s (r.2.1.length - t0) (sz r.2.1 - z0) (aA P)) t0 z0 pc σ
theorem Rok.go {S : List Int} {m pc q : Nat} {σ τ : St} {r : Option AV × Hp} (g : Gos S (mK m) pc q σ τ) (k : Rok S m q τ r) : Rok S m pc σ r :=
  ⟨g.1.tr k.1, fun P p l e R s m' args below meth c t0 z0 C hr h0 hz hc hs => g.2 P p l e R s m' args below meth c _ t0 z0 C h0 hz (Nat.le_trans (Nat.sub_le_sub_right k.1.1 _) hc) (Nat.le_trans (Nat.sub_le_sub_right k.1.2 _) hs) (k.2 P p l e R s m' args below meth c t0 z0 C hr ⟨h0.1, Nat.le_trans h0.2 g.1.1⟩ (Nat.le_trans hz g.1.2) hc hs)⟩
theorem ret_i {S : List Int} {m pc : Nat} {L : List (Option AV)} {h : Hp} {z : Int} (hd : decode (mK m).2.2.1 pc = .ok (.ireturn, 1)) (hk : okr (mB m).2.1 z = true) : Rok S m pc ([.inl z], L, h) (some (.inl z), h) := by
  refine ⟨LeT.rf _, fun P p l e R s m' args below meth c t0 z0 C hr h0 hz hc hs ls H locs h1 h2 h3 => ?_⟩
  have hq : ∀ t : State, t.heap = H → s.WarmedH t.vm → Qm P (some (.inl z), h) args s (.returned (some (.int (Int32.ofInt z)))) t := fun t ht _ => ⟨rfl, by rw [ht]; exact h2, h3.F ht⟩
  have hlocks := C.2.2.2.2.2.2.2.2.2.2
  unfold okr at hk
  split at hk
  · rename_i e9
    rw [e9] at hr
    exact W.iret C.1 C.2.1 hr hq h3.2.2 hd hlocks
  · rename_i e9
    rw [e9] at hr
    exact W.zret C.1 C.2.1 hr (b_fits (of_decide_eq_true hk)).1 hq h3.2.2 hd hlocks
  · rename_i e9
    rw [e9] at hr
    have hz0 := of_decide_eq_true hk
    subst hz0
    exact W.zret (v := Int32.ofInt 0) C.1 C.2.1 hr (by decide) hq h3.2.2 hd hlocks
  · rename_i e9
    rw [e9] at hr
    have hz0 := of_decide_eq_true hk
    have en : Int32.ofInt z = nI z.toNat := by
      show _ = Int32.ofNat z.toNat
      rw [i32_nat, Int.toNat_of_nonneg hz0.1]
    refine W.zret (v := Int32.ofInt z) C.1 C.2.1 hr ?_ hq h3.2.2 hd hlocks
    rw [en]
    exact (pk_charN (by omega)).1
  · cases hk
theorem ret_l {S : List Int} {m pc : Nat} {L : List (Option AV)} {h : Hp} {z : Int} (hd : decode (mK m).2.2.1 pc = .ok (.lreturn, 1)) (hk : (mB m).2.1 = 2) : Rok S m pc ([.inr (.inl z)], L, h) (some (.inr (.inl z)), h) := by
  refine ⟨LeT.rf _, fun P p l e R s m' args below meth c t0 z0 C hr h0 hz hc hs ls H locs h1 h2 h3 => ?_⟩
  rw [hk] at hr
  exact W.lret C.1 C.2.1 hr (fun t ht _ => ⟨rfl, by rw [ht]; exact h2, h3.F ht⟩) h3.2.2 hd C.2.2.2.2.2.2.2.2.2.2
theorem ret_v {S : List Int} {m pc : Nat} {L : List (Option AV)} {h : Hp} (hd : decode (mK m).2.2.1 pc = .ok (.return_, 1)) (hk : (mB m).2.1 = 0) : Rok S m pc ([], L, h) (none, h) := by
  refine ⟨LeT.rf _, fun P p l e R s m' args below meth c t0 z0 C hr h0 hz hc hs ls H locs h1 h2 h3 => ?_⟩
  rw [hk] at hr
  exact W.vret C.1 C.2.1 hr (fun t ht _ => ⟨rfl, by rw [ht]; exact h2, h3.F ht⟩) h3.2.2 hd C.2.2.2.2.2.2.2.2.2.2
-- a method's entry
theorem lg_lvs (P : Par) (vs : List AV) : lg_sl (vs.map (cV P)) = (lvs vs).map (fun o => match o with
    | some v => Slot.val (cV P v)
    | none => Slot.second) := by
  unfold lg_sl lvs
  induction vs with
  | nil => rfl
  | cons v t ih =>
    simp only [List.map_cons, List.flatMap_cons, List.map_append, ih]
    congr 1
    cases h : cat1 v with
    | true => rw [if_neg (by rw [cat1_k h]; decide)]; rfl
    | false => rw [if_pos (cat1_c.mpr h)]; rfl
theorem ini_lR {P : Par} {nL : Nat} {vs : List AV} {L : List (Option AV)} (h : ini nL vs = some L) : lR P nL L ((lg_sl (vs.map (cV P)) ++ List.replicate (nL - (lg_sl (vs.map (cV P))).length) Slot.unset).toArray) := by
  unfold ini at h
  obtain ⟨hl, rfl⟩ := ite_some h
  have el : (lg_sl (vs.map (cV P))).length = (lvs vs).length := by rw [lg_lvs, List.length_map]
  obtain ⟨g1, g2, -⟩ := lv_entry (vs.map (cV P)) (n := nL) (by rw [el]; exact hl)
  refine ⟨by simp; omega, g1, g2, fun k v hk => ?_⟩
  have hlt := (List.getElem?_eq_some_iff.mp hk).1
  by_cases hk2 : k < (lvs vs).length
  · rw [List.getElem?_append_left hk2] at hk
    rw [List.getElem?_toArray, List.getElem?_append_left (by rw [el]; exact hk2), lg_lvs, List.getElem?_map, hk]
    rfl
  · rw [List.getElem?_append_right (by omega), List.getElem?_replicate] at hk
    split at hk <;> cases hk
abbrev rmM (m : Nat) (a b : Nat) : Room := { frames := (mK m).2.2.2.2.1, cells := a, slots := b, locals := (mK m).2.2.2.2.2 }
abbrev PcM (S : List Int) (P : Par) (vs : List AV) (h : Hp) : Array Value → State → Prop := va_Pc (vs.map (cV P)) (fun U => hR P h U.heap ∧ Wd S P U)
theorem y_facts {m : Nat} (hm : m < 205) : (mY m).cls = clS (mK m).1 ∧ (mY m).name = (mK m).2.1 ∧ (mK m).2.2.2.1 = (mB m).1 ∧ plainName (mY m).cls = true ∧ ((mY m).cls ≠ "java/lang/invoke/MethodHandle" ∧ (mY m).cls ≠ "java/lang/invoke/VarHandle") ∧ (parseMethodDescriptor (mY m).desc).map (fun d => d.parameters.length) = some (mN m) ∧ Cond.initialized (mY m).cls ∈ tG := by
  have h := yOk_all m hm
  unfold yOk at h
  simp only [Bool.and_eq_true, decide_eq_true_eq] at h
  exact ⟨h.1, h.2.1, h.2.2.1, h.2.2.2.1, h.2.2.2.2.1, h.2.2.2.2.2.1, inW_tG h.2.2.2.2.2.2⟩
theorem met_of {S : List Int} {m : Nat} {vs : List AV} {L' : List (Option AV)} {h : Hp} {r : Option AV × Hp} (hm : m < 205) (hi : ini (mB m).1 vs = some L') (k : Rok S m 0 ([], L', h) r) (l : Launch) (P : Par) :
    Met l (mY m) (cW m :: tG) (rmM m (r.2.1.length - h.1.length) (sz r.2.1 - sz h.1)) (PcM S P vs h) (Qm P r) (r.2.1.length - h.1.length) (sz r.2.1 - sz h.1) (aA P) := by
  obtain ⟨y1, y2, y3, y4, y5, y6, y7⟩ := y_facts hm
  refine Met.ofW (cc := (mK m).2.2.1) (maxL := (mK m).2.2.2.1) (ret := rtT (mB m).2.1) y4 rfl ?_
  intro p e s m' args below meth c s₁ B hml hv
  obtain ⟨rfl, hh, hw⟩ := hv
  have hts := atoms_spec (ws := cW m :: tG) B.pre
  have hown : s.vm.findClass (mY m).cls = some m'.cls := findClass_of_methodNamed B.named
  have hin := (name_of_methodNamed B.named B.method).1
  have hb : P.1 ≤ s.heap.size := by rw [hh.1]; exact Nat.le_add_right _ _
  have C : Cx S (mK m) P p (rmM m (r.2.1.length - h.1.length) (sz r.2.1 - sz h.1)) s m' (vs.map (cV P)).toArray meth c :=
    ⟨B.exec, B.bytes, hml, by rw [← y1]; exact hown, fun w hw => hts w (List.mem_cons_of_mem _ hw), fun h => (hin.trans y2).trans h, Nat.le_refl _, Nat.le_refl _, hw, hb, B.notSynchronized⟩
  have hl : lR P (mK m).2.2.2.1 L' ((lg_sl (vs.map (cV P)) ++ List.replicate ((mK m).2.2.2.1 - (lg_sl (vs.map (cV P))).length) Slot.unset).toArray) := by
    rw [y3]
    exact ini_lR hi
  rw [lg_entry_eq]
  have w := k.2 P p l e (rmM m (r.2.1.length - h.1.length) (sz r.2.1 - sz h.1)) s m' (vs.map (cV P)).toArray below meth c h.1.length (sz h.1) C B.returns ⟨hh.1, Nat.le_refl _⟩ (Nat.le_refl _) (Nat.le_refl _) (Nat.le_refl _) _ s.heap [] hl hh va_S.rf
  simp only [Nat.sub_self] at w
  exact w
theorem gos_call {S : List Int} {K : Mt} {pc : Nat} {st rest : List AV} {L : List (Option AV)} {h : Hp} {r : Option AV × Hp} (hle : LeT h.1 r.2.1)
    (hrun : ∀ (P : Par) (p : Program) (l : Launch) (e : Env) (R : Room) (s : State) (m : MethodId) (args : Array Value) (below : List Frame) (meth : Method) (c : Code) (H : Heap) (locs : List Loc) (cells slots : Nat) (ls : Array Slot),
      Cx S K P p R s m args meth c → hR P h H → va_S (aA P) s.heap H locs → lR P K.2.2.2.1 L ls → cells + (r.2.1.length - h.1.length) ≤ R.cells → slots + (sz r.2.1 - sz h.1) ≤ R.slots → ∃ aa, va_Run p l e R s m args below meth c H locs cells slots (r.2.1.length - h.1.length) (sz r.2.1 - sz h.1) (F0 m pc ls (st.map (cV P))) (rest.map (cV P)) (Qm P r aa) (aA P)) :
    Gos S K pc (pc + 3) (st, L, h) (r.1.toList ++ rest, L, r.2) := by
  refine ⟨hle, fun P p l e R s m args below meth c Q t0 z0 C h0 hz0 hc hs a ls H locs h1 h2 h3 X hX hSt => ?_⟩
  have u4 : t0 ≤ h.1.length := h0.2
  have u5 : z0 ≤ sz h.1 := hz0
  have u6 := hle.1
  have u7 := hle.2
  have e1 : h.1.length - t0 + (r.2.1.length - h.1.length) = r.2.1.length - t0 := by omega
  have e2 : sz h.1 - z0 + (sz r.2.1 - sz h.1) = sz r.2.1 - z0 := by omega
  obtain ⟨aa, hr⟩ := hrun P p l e R s m args below meth c H locs (h.1.length - t0) (sz h.1 - z0) ls C h2 h3 h1 (by rw [e1]; exact hc) (by rw [e2]; exact hs)
  obtain ⟨v, st₀, t, T', Lc, k0, X', hL, k1, k2, ⟨hv, hh, hF⟩, stp⟩ := hr X hX hSt
  cases hv
  rw [e1, e2] at X'
  have hS1 : va_S (aA P) s.heap T'.heap (locs ++ Lc) := by
    obtain ⟨f1, f2⟩ := hF
    rw [k0] at f1 f2
    refine ⟨Nat.le_trans h3.1 (by rw [k1]; exact f1), fun q q1 q2 => ?_, fun q hq => ?_⟩
    · rw [k1, f2 q (Nat.lt_of_lt_of_le q1 h3.1) q2]
      exact h3.2.1 q q1 q2
    · rcases List.mem_append.mp hq with g | g
      · exact h3.2.2 q g
      · exact hL q g
  have w := a ls T'.heap (locs ++ Lc) h1 (by rw [k1]; exact hh) hS1
  obtain ⟨t2, a1, b1⟩ := w T' rfl X'
  refine ⟨t2, stp t2 ?_, b1⟩
  have e3 : ((r.1.map (cV P)).toList ++ rest.map (cV P)) = (r.1.toList ++ rest).map (cV P) := by
    cases r.1 <;> simp
  show Steps p.tables e below (T'.setTop (F0 m (pc + 3) ls ((r.1.map (cV P)).toList ++ rest.map (cV P)))) t2
  rw [e3]
  exact a1
end
section
/-! CALLS, AND THE WHOLE RUN -/
theorem gW {w : Cond} (h : w ∈ tG) : w ∈ tG ∧ ((w.onTables && w.keeps) = true ∨ ∃ ty, w = .arrayClass ty) := ⟨h, good_of_word (tG_good w h).2⟩
theorem gIn {m : Nat} (hm : m < 205) : GoodIn tG (cW m :: tG) := by
  intro w hw
  rcases List.mem_cons.mp hw with rfl | hw
  · exact gW (cw_all m hm)
  · exact gW hw
theorem blind (S : List Int) (P : Par) (vs : List AV) (h : Hp) : FrameBlind (PcM S P vs h) := by
  intro a U g mk q
  obtain ⟨q0, q1, q2⟩ := q
  exact ⟨q0, q1, q2.calling⟩
theorem pcm_at {S : List Int} {K : Mt} {P : Par} {p : Program} {R : Room} {s : State} {m : MethodId} {args : Array Value} {meth : Method} {c : Code} {vs : List AV} {h : Hp} {H : Heap} {locs : List Loc} (C : Cx S K P p R s m args meth c) (h2 : hR P h H) (h3 : va_S (aA P) s.heap H locs) : ∀ U : State, U.heap = H → s.WarmedH U.vm → PcM S P vs h (vs.map (cV P)).toArray U := by
  intro U hU hW
  exact ⟨rfl, by rw [hU]; exact h2, C.2.2.2.2.2.2.2.2.1.goes hW (fun a a1 a2 => by rw [hU]; exact h3.2.1 a a1 a2)⟩
theorem take_map {st : List AV} {n : Nat} {P : Par} : st.map (cV P) = ((st.take n).reverse.map (cV P)).reverse ++ (st.drop n).map (cV P) := by
  rw [← List.map_reverse, List.reverse_reverse, ← List.map_append, List.take_append_drop]
theorem room_ok {P : Par} {m : MethodId} {pc : Nat} {ls : Array Slot} {rs : List Value} {st : List AV} (h : st.length ≤ 4) : 2 * (F0 m pc ls rs).monitorRoom + ((st.map (cV P)).map fun v => v.category).sum ≤ 8 := by
  have := cat_sum P st
  exact lv_room (by omega)
theorem vs_len {st : List AV} {n : Nat} (h : n ≤ st.length) : (st.take n).reverse.length = n := by
  rw [List.length_reverse, List.length_take]
  omega
section Calls
variable {S : List Int} {K : Mt} {pc m' n : Nat} {st : List AV} {L L' : List (Option AV)} {h : Hp} {r : Option AV × Hp} {i : Nat}
theorem call_s (hd : decode K.2.2.1 pc = .ok (.invokestatic i, 3)) (hm : m' < 205) (w1 : Cond.methodLink (clS K.1) i (mY m') ∈ tG) (w2 : Cond.static (mY m') ∈ tG) (hR : (mK m').2.2.2.2.1 + 1 ≤ K.2.2.2.2.1 ∧ 8 + ((mK m').2.2.2.1 + 11) + (mK m').2.2.2.2.2 ≤ K.2.2.2.2.2) (hn : n = mN m') (h1 : n ≤ st.length) (h2 : st.length ≤ n + 4)
    (hi : ini (mB m').1 (st.take n).reverse = some L') (k : Rok S m' 0 ([], L', h) r) : Gos S K pc (pc + 3) (st, L, h) (r.1.toList ++ st.drop n, L, r.2) := by
  obtain ⟨y1, y2, y3, y4, y5, y6, y7⟩ := y_facts hm
  refine gos_call k.1 (fun P p l e R s m args below meth c H locs cells slots ls C g2 g3 g1 hc hs => ⟨((st.take n).reverse.map (cV P)).toArray, ?_⟩)
  refine va_runS (Ts := tG) (As := (st.take n).reverse.map (cV P)) ⟨C.1, C.2.1, C.2.2.1, C.2.2.2.1, C.2.2.2.2.1⟩ (met_of hm hi k l P) (va_cwS (ws' := tG) (mN m') C.2.2.2.2.1 ?_ rfl rfl rfl ⟨y5.1, y5.2, y6⟩ ⟨Nat.le_trans hR.1 C.2.2.2.2.2.2.1, Nat.le_trans hR.2 C.2.2.2.2.2.2.2.1⟩) ⟨blind S P _ h, pcm_at C g2 g3⟩ rfl (by rw [List.length_map, vs_len h1, hn]) g1.2.1 take_map (room_ok (by rw [List.length_drop]; omega)) hd ⟨hc, hs⟩
  intro w hw
  unfold va_wsS at hw
  rcases List.mem_append.mp hw with hw | hw
  · simp only [List.mem_cons, List.not_mem_nil, or_false] at hw
    rcases hw with rfl | rfl | rfl
    · exact gW w1
    · exact gW w2
    · exact gW y7
  · exact gIn hm w hw
theorem call_sn (hd : decode K.2.2.1 pc = .ok (.invokestatic i, 3)) (hm : m' < 205) (w1 : Cond.methodLinkNest (clS K.1) i (mY m') "LastAwake" ∈ nW) (w2 : Cond.static (mY m') ∈ tG) (hR : (mK m').2.2.2.2.1 + 1 ≤ K.2.2.2.2.1 ∧ 8 + ((mK m').2.2.2.1 + 11) + (mK m').2.2.2.2.2 ≤ K.2.2.2.2.2) (hn : n = mN m') (h1 : n ≤ st.length) (h2 : st.length ≤ n + 4)
    (hi : ini (mB m').1 (st.take n).reverse = some L') (k : Rok S m' 0 ([], L', h) r) : Gos S K pc (pc + 3) (st, L, h) (r.1.toList ++ st.drop n, L, r.2) := by
  obtain ⟨y1, y2, y3, y4, y5, y6, y7⟩ := y_facts hm
  refine gos_call k.1 (fun P p l e R s m args below meth c H locs cells slots ls C g2 g3 g1 hc hs => ⟨((st.take n).reverse.map (cV P)).toArray, ?_⟩)
  exact va_runSN (Ts := tG) (As := (st.take n).reverse.map (cV P)) ⟨C.1, C.2.1, C.2.2.1, C.2.2.2.1, C.2.2.2.2.1⟩ (met_of hm hi k l P) ⟨va_cnB (ws' := tG) (mN m') C.2.2.2.2.1 (gIn hm) rfl rfl rfl (C.2.2.2.2.2.2.2.2.1.2.1 _ w1) (C.2.2.2.2.1 _ y7) ⟨y5.1, y5.2, y6⟩ ⟨Nat.le_trans hR.1 C.2.2.2.2.2.2.1, Nat.le_trans hR.2 C.2.2.2.2.2.2.2.1⟩, C.2.2.2.2.1 _ w2, trivial⟩ ⟨blind S P _ h, pcm_at C g2 g3⟩ rfl (by rw [List.length_map, vs_len h1, hn]) g1.2.1 take_map (room_ok (by rw [List.length_drop]; omega)) hd ⟨hc, hs⟩
theorem ref_split {P : Par} {b : AV} {As : List AV} {a : Nat} (hb : cV P b = .ref a) (he : (st.take n).reverse = b :: As) : st.map (cV P) = (As.map (cV P)).reverse ++ .ref a :: (st.drop n).map (cV P) := by
  have e0 := take_map (st := st) (n := n) (P := P)
  rw [e0, he, List.map_cons, hb, List.reverse_cons, List.append_assoc]
  rfl
theorem call_i (hd : decode K.2.2.1 pc = .ok (.invokespecial i, 3)) (hm : m' < 205) (w1 : Cond.methodLink (clS K.1) i (mY m') ∈ tG) (w2 : Cond.instanceMethod (mY m') ∈ tG) (hin : (mY m').name = "<init>" ∧ (mB m').2.1 = 0) (hR : (mK m').2.2.2.2.1 + 1 ≤ K.2.2.2.2.1 ∧ 8 + ((mK m').2.2.2.1 + 11) + (mK m').2.2.2.2.2 ≤ K.2.2.2.2.2) (hn : n = mN m' + 1) (h1 : n ≤ st.length) (h2 : st.length ≤ n + 4) (hr : isR (st.take n).reverse = true)
    (hi : ini (mB m').1 (st.take n).reverse = some L') (k : Rok S m' 0 ([], L', h) r) : Gos S K pc (pc + 3) (st, L, h) (r.1.toList ++ st.drop n, L, r.2) := by
  obtain ⟨y1, y2, y3, y4, y5, y6, y7⟩ := y_facts hm
  unfold isR at hr
  split at hr
  · rename_i a As he
    have hl := vs_len h1
    rw [he] at hl
    refine gos_call k.1 (fun P p l e R s m args below meth c H locs cells slots ls C g2 g3 g1 hc hs => ⟨((st.take n).reverse.map (cV P)).toArray, ?_⟩)
    have hM := met_of hm hi k l P
    have hp := pcm_at (vs := (st.take n).reverse) C g2 g3
    have hcw := cwI (ws := cW m' :: tG) (ws' := tG) (bytes := (mK m').2.2.1) (maxL := (mK m').2.2.2.1) (rm := rmM m' (r.2.1.length - h.1.length) (sz r.2.1 - sz h.1)) (R := R) (mN m') C.2.2.2.2.1 (gIn hm) (by show (.code _ _ _ (rtT (mB m').2.1) :: tG) = _; rw [hin.2]; rfl) rfl rfl (C.2.2.2.2.1 _ y7) (C.2.2.2.2.1 _ w1) (C.2.2.2.2.1 _ w2) hin.1 ⟨y5.1, y5.2, y6⟩ ⟨Nat.le_trans hR.1 C.2.2.2.2.2.2.1, Nat.le_trans hR.2 C.2.2.2.2.2.2.2.1⟩
    rw [he] at hM hp ⊢
    exact va_runI (Ts := tG) (b := P.1 + a) (As := As.map (cV P)) ⟨C.1, C.2.1, C.2.2.1, C.2.2.2.1, C.2.2.2.2.1⟩ hM hcw ⟨blind S P _ h, hp⟩ rfl (by rw [List.length_map]; simp only [List.length_cons] at hl; omega) g1.2.1 (ref_split rfl he) (room_ok (by rw [List.length_drop]; omega)) hd ⟨hc, hs⟩
  · cases hr
theorem call_in (hd : decode K.2.2.1 pc = .ok (.invokespecial i, 3)) (hm : m' < 205) (w1 : Cond.methodLinkNest (clS K.1) i (mY m') "LastAwake" ∈ nW) (w2 : Cond.instanceMethod (mY m') ∈ tG) (hin : (mY m').name = "<init>" ∧ (mB m').2.1 = 0) (hR : (mK m').2.2.2.2.1 + 1 ≤ K.2.2.2.2.1 ∧ 8 + ((mK m').2.2.2.1 + 11) + (mK m').2.2.2.2.2 ≤ K.2.2.2.2.2) (hn : n = mN m' + 1) (h1 : n ≤ st.length) (h2 : st.length ≤ n + 4) (hr : isR (st.take n).reverse = true)
    (hi : ini (mB m').1 (st.take n).reverse = some L') (k : Rok S m' 0 ([], L', h) r) : Gos S K pc (pc + 3) (st, L, h) (r.1.toList ++ st.drop n, L, r.2) := by
  obtain ⟨y1, y2, y3, y4, y5, y6, y7⟩ := y_facts hm
  unfold isR at hr
  split at hr
  · rename_i a As he
    have hl := vs_len h1
    rw [he] at hl
    refine gos_call k.1 (fun P p l e R s m args below meth c H locs cells slots ls C g2 g3 g1 hc hs => ⟨((st.take n).reverse.map (cV P)).toArray, ?_⟩)
    have hM := met_of hm hi k l P
    have hp := pcm_at (vs := (st.take n).reverse) C g2 g3
    have hcw := va_cnB (ws := cW m' :: tG) (ws' := tG) (bytes := (mK m').2.2.1) (maxL := (mK m').2.2.2.1) (ret := none) (rm := rmM m' (r.2.1.length - h.1.length) (sz r.2.1 - sz h.1)) (R := R) (mN m') C.2.2.2.2.1 (gIn hm) (by show (.code _ _ _ (rtT (mB m').2.1) :: tG) = _; rw [hin.2]; rfl) rfl rfl (C.2.2.2.2.2.2.2.2.1.2.1 _ w1) (C.2.2.2.2.1 _ y7) ⟨y5.1, y5.2, y6⟩ ⟨Nat.le_trans hR.1 C.2.2.2.2.2.2.1, Nat.le_trans hR.2 C.2.2.2.2.2.2.2.1⟩
    rw [he] at hM hp ⊢
    exact va_runIN (Ts := tG) (b := P.1 + a) (As := As.map (cV P)) ⟨C.1, C.2.1, C.2.2.1, C.2.2.2.1, C.2.2.2.2.1⟩ hM ⟨hcw, hin.1, C.2.2.2.2.1 _ w2⟩ ⟨blind S P _ h, hp⟩ rfl (by rw [List.length_map]; simp only [List.length_cons] at hl; omega) g1.2.1 (ref_split rfl he) (room_ok (by rw [List.length_drop]; omega)) hd ⟨hc, hs⟩
  · cases hr
theorem call_v {rc : Nat} (hd : decode K.2.2.1 pc = .ok (.invokevirtual i, 3)) (hm : m' < 205) (w1 : Cond.methodLink (clS K.1) i (mY m') ∈ tG) (w2 : Cond.instanceMethod (mY m') ∈ tG) (w3 : Cond.selects (clS rc) (mY m') (mY m') ∈ tG) (hC : (mY m').cls = clS rc) (hrc : rc < 9 ∨ rc = 13) (hR : (mK m').2.2.2.2.1 + 1 ≤ K.2.2.2.2.1 ∧ 8 + ((mK m').2.2.2.1 + 11) + (mK m').2.2.2.2.2 ≤ K.2.2.2.2.2) (hn : n = mN m' + 1) (h1 : n ≤ st.length) (h2 : st.length ≤ n + 4) (hr : isC rc (st.take n).reverse h.1 = true)
    (hi : ini (mB m').1 (st.take n).reverse = some L') (k : Rok S m' 0 ([], L', h) r) : Gos S K pc (pc + 3) (st, L, h) (r.1.toList ++ st.drop n, L, r.2) := by
  obtain ⟨y1, y2, y3, y4, y5, y6, y7⟩ := y_facts hm
  have hG : GoodIn tG (wsV (clS K.1) i (clS rc) (mY m') (cW m' :: tG)) := by
    intro w hw
    unfold wsV at hw
    rcases List.mem_append.mp hw with hw | hw
    · simp only [List.mem_cons, List.not_mem_nil, or_false] at hw
      rcases hw with rfl | rfl | rfl | rfl
      · exact gW w1
      · exact gW w2
      · exact gW w3
      · rw [hC] at y7
        exact gW y7
    · exact gIn hm w hw
  have hl := vs_len h1
  unfold isC at hr
  split at hr
  · rename_i a As he
    split at hr
    · rename_i k' n' r' hT
      have hg := of_decide_eq_true hr
      obtain ⟨rfl, rfl, hk9⟩ := hg
      rw [he] at hl
      refine gos_call k.1 (fun P p l e R s m args below meth c H locs cells slots ls C g2 g3 g1 hc hs => ⟨((st.take n).reverse.map (cV P)).toArray, ?_⟩)
      have hM := met_of hm hi k l P
      have hp := pcm_at (vs := (st.take n).reverse) C g2 g3
      rw [he] at hM hp ⊢
      have hw := ws_at (P := P) (h := h) hT
      rw [eC_o hk9] at hw
      exact va_runV (Ts := tG) (b := P.1 + a) (As := As.map (cV P)) ⟨C.1, C.2.1, C.2.2.1, C.2.2.2.1, C.2.2.2.2.1⟩ hM (cwV (ws' := tG) (mN m') C.2.2.2.2.1 hG rfl rfl rfl ⟨hC, y5.1, y5.2, y6⟩ ⟨Nat.le_trans hR.1 C.2.2.2.2.2.2.1, Nat.le_trans hR.2 C.2.2.2.2.2.2.2.1⟩) ⟨blind S P _ h, va_recv C.2.2.2.2.2.2.2.2.1.1 g2.2 (cl_at k' hk9) hw, hp⟩ rfl (by rw [List.length_map]; simp only [List.length_cons] at hl; omega) g1.2.1 (ref_split rfl he) (room_ok (by rw [List.length_drop]; omega)) hd ⟨hc, hs⟩
    · cases hr
  · rename_i j As he
    have hg := of_decide_eq_true hr
    obtain ⟨rfl, j1, j2⟩ := hg
    rw [he] at hl
    refine gos_call k.1 (fun P p l e R s m args below meth c H locs cells slots ls C g2 g3 g1 hc hs => ⟨((st.take n).reverse.map (cV P)).toArray, ?_⟩)
    have hM := met_of hm hi k l P
    have hp := pcm_at (vs := (st.take n).reverse) C g2 g3
    rw [he] at hM hp ⊢
    obtain ⟨ad, h0, -, -, -, -, -, h6⟩ := C.2.2.2.2.2.2.2.2.1.2.2.2
    have hb : cV P (vO j) = .ref (ad j) := by show va_rf (P.2.2.2 j) = _; rw [h0 j (by omega)]; rfl
    have hv := vk_recv (i := j - 3) h6 (by omega) g3
    have e3 : 3 + (j - 3) = j := by omega
    simp only [e3] at hv
    have hp2 : ∀ U : State, U.heap = H → s.WarmedH U.vm → PcM S P (vO j :: As) h (Value.ref (ad j) :: As.map (cV P)).toArray U := by
      rw [← hb]
      exact hp
    have hq := va_runV (p := p) (e := e) (R := R) (meth := meth) (below := below) (locs := locs) (cells := cells) (slots := slots) (Ts := tG) (b := ad j) (As := As.map (cV P)) (rest := (st.drop n).map (cV P)) (g := F0 m pc ls (st.map (cV P))) ⟨C.1, C.2.1, C.2.2.1, C.2.2.2.1, C.2.2.2.2.1⟩ hM (cwV (ws' := tG) (mN m') C.2.2.2.2.1 hG rfl rfl rfl ⟨hC, y5.1, y5.2, y6⟩ ⟨Nat.le_trans hR.1 C.2.2.2.2.2.2.1, Nat.le_trans hR.2 C.2.2.2.2.2.2.2.1⟩) ⟨blind S P _ h, hv, hp2⟩ rfl (by rw [List.length_map]; simp only [List.length_cons] at hl; omega) g1.2.1 (ref_split hb he) (room_ok (by rw [List.length_drop]; omega)) hd ⟨hc, hs⟩
    exact hq
  · cases hr
end Calls
end
section
/-! WHAT THE SMALL MACHINE RUNS, THE JVM RUNS -/
theorem jmp_ok {S : List Int} {K : Mt} {pc rk : Nat} {t : Tn} (h : chkT K.1 rk K.2.2.2.2.1 K.2.2.2.2.2 K.2.2.1 pc t = true) (h6 : ¬ t.1 = 6) (h7 : ¬ t.1 = 7) : Imp S K pc (jmp t) := by
  obtain ⟨k, a, b, z, l⟩ := t
  unfold chkT at h
  split at h
  · rename_i e0
    simp only at e0
    subst e0
    have h9 := of_decide_eq_true h
    simp only at h9
    subst h9
    exact imp_to S K a
  · simp only at h6 h7
    cases hdec : decode K.2.2.1 pc with
    | error x => rw [hdec] at h; cases h
    | ok q =>
      obtain ⟨ins, len⟩ := q
      rw [hdec] at h
      cases ins with
      | goto off =>
        obtain ⟨rfl, h0, h1⟩ := of_decide_eq_true h
        simp only at h0 h1
        subst h0
        exact i_goto hdec h1
      | ifCond c off =>
        obtain ⟨rfl, h0, h1, h2, h3⟩ := of_decide_eq_true h
        simp only at h0 h1 h2 h3
        subst h0 h2 h3
        cases c with
        | eq => exact i_if_eq hdec h1
        | ne => exact i_if_ne hdec h1
        | lt => exact i_if_lt hdec h1
        | ge => exact i_if_ge hdec h1
        | gt => exact i_if_gt hdec h1
        | le => exact i_if_le hdec h1
      | if_icmp c off =>
        obtain ⟨rfl, h0, h1, h2, h3⟩ := of_decide_eq_true h
        simp only at h0 h1 h2 h3
        subst h0 h2 h3
        cases c with
        | eq => exact i_icmp_eq hdec h1
        | ne => exact i_icmp_ne hdec h1
        | lt => exact i_icmp_lt hdec h1
        | ge => exact i_icmp_ge hdec h1
        | gt => exact i_icmp_gt hdec h1
        | le => exact i_icmp_le hdec h1
      | ifnonnull off =>
        obtain ⟨rfl, h0, h1, h2⟩ := of_decide_eq_true h
        simp only at h0 h1 h2
        subst h0 h2
        exact i_nn hdec h1
      | tableswitch d lw hi offs =>
        obtain ⟨h0, h1, h2, h3, h4⟩ := of_decide_eq_true h
        simp only at h0 h1 h2 h3 h4
        subst h0 h3
        exact i_tsw hdec h1 h2 h4
      | lookupswitch d ps =>
        simp only at h
        split at h
        · rename_i k0 o0 k1 o1 hps
          obtain ⟨h0, h1, h2, h3, h4, h5⟩ := of_decide_eq_true h
          subst h0 h1 h2 h4
          have ep : ps = #[(0, o0), (1, o1)] := by
            apply Array.toList_inj.mp
            rw [hps]
          subst ep
          match l, h5 with
          | [q0, q1], h5 =>
            simp only [List.map_cons, List.map_nil, List.cons.injEq, and_true] at h5
            exact i_lsw hdec h3 h5.1.symm h5.2.symm
          | [], h5 => simp at h5
          | [_], h5 => simp at h5
          | _ :: _ :: _ :: _, h5 => simp at h5
        · cases h
      | ireturn => exact absurd (of_decide_eq_true h).2.1 h6
      | lreturn => exact absurd (of_decide_eq_true h).2.1 h6
      | return_ => exact absurd (of_decide_eq_true h).2.1 h6
      | invokestatic i =>
        simp only at h
        split at h
        · rw [Bool.and_eq_true] at h
          exact absurd (of_decide_eq_true h.1).2.1 h7
        · cases h
      | invokespecial i =>
        simp only at h
        split at h
        · rw [Bool.and_eq_true] at h
          exact absurd (of_decide_eq_true h.1).2.1 h7
        · cases h
      | invokevirtual i =>
        simp only at h
        split at h
        · rw [Bool.and_eq_true] at h
          exact absurd (of_decide_eq_true h.1).2.1 h7
        · cases h
      | _ => cases h
def okB (m : Nat) (b : Bk) : Bool := match chkI (mK m).1 (mK m).2.1 (mK m).2.2.2.2.1 (mK m).2.2.2.2.2 (mK m).2.2.1 b.1 b.2.1 with
  | some q => chkT (mK m).1 (mB m).2.1 (mK m).2.2.2.2.1 (mK m).2.2.2.2.2 (mK m).2.2.1 q b.2.2
  | none => false
def okM (m : Nat) : Bool := (mB m).2.2.all (okB m)
theorem lookup_mem {α : Type} {l : List (Nat × α)} {k : Nat} {v : α} (h : l.lookup k = some v) : (k, v) ∈ l := by
  induction l with
  | nil => cases h
  | cons x t ih =>
    obtain ⟨a, b⟩ := x
    rw [List.lookup_cons] at h
    by_cases e : k = a
    · subst e
      simp at h
      subst h
      exact List.mem_cons_self
    · have : (k == a) = false := by simpa using e
      rw [this] at h
      exact List.mem_cons_of_mem _ (ih h)
theorem ret_ok {S : List Int} {m pc : Nat} {t : Tn} {σ : St} {r : Option AV × Hp} (h : chkT (mK m).1 (mB m).2.1 (mK m).2.2.2.2.1 (mK m).2.2.2.2.2 (mK m).2.2.1 pc t = true) (h6 : t.1 = 6) (e : rtv (mB m).2.1 σ = some r) : Rok S m pc σ r := by
  obtain ⟨k, a, b, z, l⟩ := t
  simp only at h6
  subst h6
  unfold chkT at h
  rw [if_neg (by simp)] at h
  cases hdec : decode (mK m).2.2.1 pc with
  | error x => rw [hdec] at h; cases h
  | ok q =>
    obtain ⟨ins, len⟩ := q
    rw [hdec] at h
    obtain ⟨st, L, hp⟩ := σ
    unfold rtv at e
    cases ins with
    | ireturn =>
      obtain ⟨rfl, -, h1⟩ := of_decide_eq_true h
      split at e
      · obtain ⟨g, -⟩ := ite_some e
        omega
      · rename_i z hz
        simp only at hz
        subst hz
        obtain ⟨g, rfl⟩ := ite_some e
        exact ret_i hdec g
      · obtain ⟨g, -⟩ := ite_some e
        omega
      · cases e
    | lreturn =>
      obtain ⟨rfl, -, h1⟩ := of_decide_eq_true h
      split at e
      · obtain ⟨g, -⟩ := ite_some e
        omega
      · obtain ⟨g, -⟩ := ite_some e
        rw [h1] at g
        cases g
      · rename_i z hz
        simp only at hz
        subst hz
        obtain ⟨g, rfl⟩ := ite_some e
        exact ret_l hdec g
      · cases e
    | return_ =>
      obtain ⟨rfl, -, h1⟩ := of_decide_eq_true h
      split at e
      · rename_i hz
        simp only at hz
        subst hz
        obtain ⟨g, rfl⟩ := ite_some e
        exact ret_v hdec g
      · obtain ⟨g, -⟩ := ite_some e
        rw [h1] at g
        cases g
      · obtain ⟨g, -⟩ := ite_some e
        omega
      · cases e
    | goto off => exact absurd (of_decide_eq_true h).2.1 (by simp)
    | ifCond c off => exact absurd (of_decide_eq_true h).2.1 (by simp)
    | if_icmp c off => exact absurd (of_decide_eq_true h).2.1 (by simp)
    | ifnonnull off => exact absurd (of_decide_eq_true h).2.1 (by simp)
    | tableswitch d lw hi offs => exact absurd (of_decide_eq_true h).1 (by simp)
    | lookupswitch d ps =>
      simp only at h
      split at h
      · exact absurd (of_decide_eq_true h).1 (by simp)
      · cases h
    | invokestatic i =>
      simp only at h
      split at h
      · rw [Bool.and_eq_true] at h
        exact absurd (of_decide_eq_true h.1).2.1 (by simp)
      · cases h
    | invokespecial i =>
      simp only at h
      split at h
      · rw [Bool.and_eq_true] at h
        exact absurd (of_decide_eq_true h.1).2.1 (by simp)
      · cases h
    | invokevirtual i =>
      simp only at h
      split at h
      · rw [Bool.and_eq_true] at h
        exact absurd (of_decide_eq_true h.1).2.1 (by simp)
      · cases h
    | _ => cases h
theorem call_ok {S : List Int} {m pc : Nat} {t : Tn} {st : List AV} {L L' : List (Option AV)} {hp : Hp} {r : Option AV × Hp} (h : chkT (mK m).1 (mB m).2.1 (mK m).2.2.2.2.1 (mK m).2.2.2.2.2 (mK m).2.2.1 pc t = true) (h7 : t.1 = 7) (g1 : t.2.2.2.1.toNat ≤ st.length) (g2 : st.length ≤ t.2.2.2.1.toNat + 4) (g3 : rcv (t.2.2.2.2.getD 0 0) (t.2.2.2.2.getD 1 0) (st.take t.2.2.2.1.toNat).reverse hp.1 = true)
    (hi : ini (mB t.2.1).1 (st.take t.2.2.2.1.toNat).reverse = some L') (k : t.2.1 < 205 → Rok S t.2.1 0 ([], L', hp) r) : Gos S (mK m) pc t.2.2.1 (st, L, hp) (r.1.toList ++ st.drop t.2.2.2.1.toNat, L, r.2) := by
  obtain ⟨k7, a, b, z, l⟩ := t
  simp only at h7 g1 g2 g3 hi k ⊢
  subst h7
  unfold chkT at h
  rw [if_neg (by simp)] at h
  cases hdec : decode (mK m).2.2.1 pc with
  | error x => rw [hdec] at h; cases h
  | ok q =>
    obtain ⟨ins, len⟩ := q
    rw [hdec] at h
    cases ins with
    | invokestatic i =>
      simp only at h
      split at h
      · rename_i x hx
        rw [Bool.and_eq_true] at h
        obtain ⟨ha, hrm⟩ := h
        have hrm := of_decide_eq_true hrm
        obtain ⟨rfl, -, e1, e2, e3, e4, e5⟩ := of_decide_eq_true ha
        obtain ⟨m1, m2, m3⟩ := lk2_mem hx
        have w := List.all_eq_true.mp iTab_ok x m1
        unfold iOk at w
        rw [Bool.and_eq_true, m2, m3] at w
        obtain ⟨w0, w⟩ := w
        have w0 := of_decide_eq_true w0
        subst e1 e3 e4 e5
        have en : ((mN x.2.2.1 : Nat) : Int).toNat = mN x.2.2.1 := Int.toNat_natCast _
        rw [en] at g1 g2 hi ⊢
        rcases e2 with e2 | e2
        · rw [e2] at w
          simp only [Bool.and_eq_true] at w
          exact call_s hdec w0 (inW_tG w.1) (inW_tG w.2) hrm rfl g1 g2 hi (k w0)
        · rw [e2] at w
          simp only [Bool.and_eq_true] at w
          exact call_sn hdec w0 (inN_nW w.1) (inW_tG w.2) hrm rfl g1 g2 hi (k w0)
      · cases h
    | invokespecial i =>
      simp only at h
      split at h
      · rename_i x hx
        rw [Bool.and_eq_true] at h
        obtain ⟨ha, hrm⟩ := h
        have hrm := of_decide_eq_true hrm
        obtain ⟨rfl, -, e1, e2, e3, e4, e5⟩ := of_decide_eq_true ha
        obtain ⟨m1, m2, m3⟩ := lk2_mem hx
        have w := List.all_eq_true.mp iTab_ok x m1
        unfold iOk at w
        rw [Bool.and_eq_true, m2, m3] at w
        obtain ⟨w0, w⟩ := w
        have w0 := of_decide_eq_true w0
        subst e1 e3 e4 e5
        have en : ((mN x.2.2.1 : Nat) + 1 : Int).toNat = mN x.2.2.1 + 1 := by omega
        rw [en] at g1 g2 g3 hi ⊢
        rcases e2 with e2 | e2
        · rw [e2] at w
          simp only [Bool.and_eq_true, decide_eq_true_eq] at w
          exact call_i hdec w0 (inW_tG w.1) (inW_tG w.2.1) w.2.2 hrm rfl g1 g2 g3 hi (k w0)
        · rw [e2] at w
          simp only [Bool.and_eq_true, decide_eq_true_eq] at w
          exact call_in hdec w0 (inN_nW w.1) (inW_tG w.2.1) w.2.2 hrm rfl g1 g2 g3 hi (k w0)
      · cases h
    | invokevirtual i =>
      simp only at h
      split at h
      · rename_i x hx
        rw [Bool.and_eq_true] at h
        obtain ⟨ha, hrm⟩ := h
        have hrm := of_decide_eq_true hrm
        obtain ⟨rfl, -, e1, e2, e3, e4, e5⟩ := of_decide_eq_true ha
        obtain ⟨m1, m2, m3⟩ := lk2_mem hx
        have w := List.all_eq_true.mp iTab_ok x m1
        unfold iOk at w
        rw [Bool.and_eq_true, m2, m3] at w
        obtain ⟨w0, w⟩ := w
        have w0 := of_decide_eq_true w0
        subst e1 e3 e4 e5
        have en : ((mN x.2.2.1 : Nat) + 1 : Int).toNat = mN x.2.2.1 + 1 := by omega
        rw [en] at g1 g2 g3 hi ⊢
        rw [e2] at w
        simp only [Bool.and_eq_true, decide_eq_true_eq] at w
        exact call_v hdec w0 (inW_tG w.1) (inW_tG w.2.1) (inW_tG w.2.2.1) w.2.2.2.1 w.2.2.2.2 hrm rfl g1 g2 g3 hi (k w0)
      · cases h
    | goto off => exact absurd (of_decide_eq_true h).2.1 (by simp)
    | ifCond c off => exact absurd (of_decide_eq_true h).2.1 (by simp)
    | if_icmp c off => exact absurd (of_decide_eq_true h).2.1 (by simp)
    | ifnonnull off => exact absurd (of_decide_eq_true h).2.1 (by simp)
    | ireturn => exact absurd (of_decide_eq_true h).2.1 (by simp)
    | lreturn => exact absurd (of_decide_eq_true h).2.1 (by simp)
    | return_ => exact absurd (of_decide_eq_true h).2.1 (by simp)
    | tableswitch d lw hi offs => exact absurd (of_decide_eq_true h).1 (by simp)
    | lookupswitch d ps =>
      simp only at h
      split at h
      · exact absurd (of_decide_eq_true h).1 (by simp)
      · cases h
    | _ => cases h
theorem run_ok {S : List Int} (hall : ∀ m, m < 206 → okM m = true) : ∀ (f m pc : Nat) (σ : St) (r : Option AV × Hp), m < 206 → run S f m pc σ = some r → Rok S m pc σ r
  | 0, _, _, _, _, _, h => by cases h
  | f + 1, m, pc, σ, r, hm, h => by
    unfold run at h
    cases hb : blk m pc with
    | none => rw [hb] at h; cases h
    | some x =>
      obtain ⟨is, t⟩ := x
      rw [hb] at h
      simp only at h
      have hk := List.all_eq_true.mp (hall m hm) (pc, is, t) (lookup_mem hb)
      unfold okB at hk
      split at hk
      · rename_i q hq
        cases h1 : exL S is σ with
        | none => rw [h1] at h; cases h
        | some σ1 =>
          rw [h1] at h
          simp only [Option.bind_some] at h
          refine Rok.go (exL_ok is pc q σ σ1 hq h1) ?_
          split at h
          · rename_i h6
            exact ret_ok hk h6 h
          · rename_i h6
            split at h
            · rename_i h7
              split at h
              · rename_i hg
                obtain ⟨g1, g2, g3⟩ := hg
                cases h2 : ini (mB t.2.1).1 (σ1.1.take t.2.2.2.1.toNat).reverse with
                | none => rw [h2] at h; cases h
                | some L' =>
                  rw [h2] at h
                  simp only [Option.bind_some] at h
                  cases h3 : run S f t.2.1 0 ([], L', σ1.2.2) with
                  | none => rw [h3] at h; cases h
                  | some r1 =>
                    rw [h3] at h
                    simp only [Option.bind_some] at h
                    exact Rok.go (call_ok (st := σ1.1) (L := σ1.2.1) (hp := σ1.2.2) hk h7 g1 g2 g3 h2 (fun h205 => run_ok hall f t.2.1 0 _ r1 (Nat.lt_of_lt_of_le h205 (by decide)) h3)) (run_ok hall f m t.2.2.1 _ r hm h)
              · cases h
            · rename_i h7
              cases h2 : jmp t σ1 with
              | none => rw [h2] at h; cases h
              | some x =>
                obtain ⟨q2, σ2⟩ := x
                rw [h2] at h
                simp only [Option.bind_some] at h
                exact Rok.go (jmp_ok hk h6 h7 σ1 q2 σ2 h2) (run_ok hall f m q2 σ2 r hm h)
      · cases hk
end
section
/-! THE BYTES OF EVERY METHOD ARE ITS BLOCKS -/
set_option maxRecDepth 100000 in
theorem ok_0 : okM 0 = true := by decide +kernel
set_option maxRecDepth 100000 in
theorem ok_1 : okM 1 = true := by decide +kernel
set_option maxRecDepth 100000 in
theorem ok_2 : okM 2 = true := by decide +kernel
set_option maxRecDepth 100000 in
theorem ok_3 : okM 3 = true := by decide +kernel
set_option maxRecDepth 100000 in
theorem ok_4 : okM 4 = true := by decide +kernel
set_option maxRecDepth 100000 in
theorem ok_5 : okM 5 = true := by decide +kernel
set_option maxRecDepth 100000 in
theorem ok_6 : okM 6 = true := by decide +kernel
set_option maxRecDepth 100000 in
theorem ok_7 : okM 7 = true := by decide +kernel
set_option maxRecDepth 100000 in
theorem ok_8 : okM 8 = true := by decide +kernel
set_option maxRecDepth 100000 in
theorem ok_9 : okM 9 = true := by decide +kernel
set_option maxRecDepth 100000 in
theorem ok_10 : okM 10 = true := by decide +kernel
set_option maxRecDepth 100000 in
theorem ok_11 : okM 11 = true := by decide +kernel
set_option maxRecDepth 100000 in
theorem ok_12 : okM 12 = true := by decide +kernel
set_option maxRecDepth 100000 in
theorem ok_13 : okM 13 = true := by decide +kernel
set_option maxRecDepth 100000 in
theorem ok_14 : okM 14 = true := by decide +kernel
set_option maxRecDepth 100000 in
theorem ok_15 : okM 15 = true := by decide +kernel
set_option maxRecDepth 100000 in
theorem ok_16 : okM 16 = true := by decide +kernel
set_option maxRecDepth 100000 in
theorem ok_17 : okM 17 = true := by decide +kernel
set_option maxRecDepth 100000 in
theorem ok_18 : okM 18 = true := by decide +kernel
set_option maxRecDepth 100000 in
theorem ok_19 : okM 19 = true := by decide +kernel
set_option maxRecDepth 100000 in
theorem ok_20 : okM 20 = true := by decide +kernel
set_option maxRecDepth 100000 in
theorem ok_21 : okM 21 = true := by decide +kernel
set_option maxRecDepth 100000 in
theorem ok_22 : okM 22 = true := by decide +kernel
set_option maxRecDepth 100000 in
theorem ok_23 : okM 23 = true := by decide +kernel
set_option maxRecDepth 100000 in
theorem ok_24 : okM 24 = true := by decide +kernel
set_option maxRecDepth 100000 in
theorem ok_25 : okM 25 = true := by decide +kernel
set_option maxRecDepth 100000 in
theorem ok_26 : okM 26 = true := by decide +kernel
set_option maxRecDepth 100000 in
theorem ok_27 : okM 27 = true := by decide +kernel
set_option maxRecDepth 100000 in
theorem ok_28 : okM 28 = true := by decide +kernel
set_option maxRecDepth 100000 in
theorem ok_29 : okM 29 = true := by decide +kernel
set_option maxRecDepth 100000 in
theorem ok_30 : okM 30 = true := by decide +kernel
set_option maxRecDepth 100000 in
theorem ok_31 : okM 31 = true := by decide +kernel
set_option maxRecDepth 100000 in
theorem ok_32 : okM 32 = true := by decide +kernel
set_option maxRecDepth 100000 in
theorem ok_33 : okM 33 = true := by decide +kernel
set_option maxRecDepth 100000 in
theorem ok_34 : okM 34 = true := by decide +kernel
set_option maxRecDepth 100000 in
theorem ok_35 : okM 35 = true := by decide +kernel
set_option maxRecDepth 100000 in
theorem ok_36 : okM 36 = true := by decide +kernel
set_option maxRecDepth 100000 in
theorem ok_37 : okM 37 = true := by decide +kernel
set_option maxRecDepth 100000 in
theorem ok_38 : okM 38 = true := by decide +kernel
set_option maxRecDepth 100000 in
theorem ok_39 : okM 39 = true := by decide +kernel
set_option maxRecDepth 100000 in
theorem ok_40 : okM 40 = true := by decide +kernel
set_option maxRecDepth 100000 in
theorem ok_41 : okM 41 = true := by decide +kernel
set_option maxRecDepth 100000 in
theorem ok_42 : okM 42 = true := by decide +kernel
set_option maxRecDepth 100000 in
theorem ok_43 : okM 43 = true := by decide +kernel
set_option maxRecDepth 100000 in
theorem ok_44 : okM 44 = true := by decide +kernel
set_option maxRecDepth 100000 in
theorem ok_45 : okM 45 = true := by decide +kernel
set_option maxRecDepth 100000 in
theorem ok_46 : okM 46 = true := by decide +kernel
set_option maxRecDepth 100000 in
theorem ok_47 : okM 47 = true := by decide +kernel
set_option maxRecDepth 100000 in
theorem ok_48 : okM 48 = true := by decide +kernel
set_option maxRecDepth 100000 in
theorem ok_49 : okM 49 = true := by decide +kernel
set_option maxRecDepth 100000 in
theorem ok_50 : okM 50 = true := by decide +kernel
set_option maxRecDepth 100000 in
theorem ok_51 : okM 51 = true := by decide +kernel
set_option maxRecDepth 100000 in
theorem ok_52 : okM 52 = true := by decide +kernel
set_option maxRecDepth 100000 in
theorem ok_53 : okM 53 = true := by decide +kernel
set_option maxRecDepth 100000 in
theorem ok_54 : okM 54 = true := by decide +kernel
set_option maxRecDepth 100000 in
theorem ok_55 : okM 55 = true := by decide +kernel
set_option maxRecDepth 100000 in
theorem ok_56 : okM 56 = true := by decide +kernel
set_option maxRecDepth 100000 in
theorem ok_57 : okM 57 = true := by decide +kernel
set_option maxRecDepth 100000 in
theorem ok_58 : okM 58 = true := by decide +kernel
set_option maxRecDepth 100000 in
theorem ok_59 : okM 59 = true := by decide +kernel
theorem okA_0 : ∀ m ∈ [0, 1, 2, 3, 4, 5, 6, 7, 8, 9, 10, 11, 12, 13, 14, 15, 16, 17, 18, 19, 20, 21, 22, 23, 24, 25, 26, 27, 28, 29, 30, 31, 32, 33, 34, 35, 36, 37, 38, 39, 40, 41, 42, 43, 44, 45, 46, 47, 48, 49, 50, 51, 52, 53, 54, 55, 56, 57, 58, 59], okM m = true := List.forall_mem_cons.mpr ⟨ok_0, List.forall_mem_cons.mpr ⟨ok_1, List.forall_mem_cons.mpr ⟨ok_2, List.forall_mem_cons.mpr ⟨ok_3, List.forall_mem_cons.mpr ⟨ok_4, List.forall_mem_cons.mpr ⟨ok_5, List.forall_mem_cons.mpr ⟨ok_6, List.forall_mem_cons.mpr ⟨ok_7, List.forall_mem_cons.mpr ⟨ok_8, List.forall_mem_cons.mpr ⟨ok_9, List.forall_mem_cons.mpr ⟨ok_10, List.forall_mem_cons.mpr ⟨ok_11, List.forall_mem_cons.mpr ⟨ok_12, List.forall_mem_cons.mpr ⟨ok_13, List.forall_mem_cons.mpr ⟨ok_14, List.forall_mem_cons.mpr ⟨ok_15, List.forall_mem_cons.mpr ⟨ok_16, List.forall_mem_cons.mpr ⟨ok_17, List.forall_mem_cons.mpr ⟨ok_18, List.forall_mem_cons.mpr ⟨ok_19, List.forall_mem_cons.mpr ⟨ok_20, List.forall_mem_cons.mpr ⟨ok_21, List.forall_mem_cons.mpr ⟨ok_22, List.forall_mem_cons.mpr ⟨ok_23, List.forall_mem_cons.mpr ⟨ok_24, List.forall_mem_cons.mpr ⟨ok_25, List.forall_mem_cons.mpr ⟨ok_26, List.forall_mem_cons.mpr ⟨ok_27, List.forall_mem_cons.mpr ⟨ok_28, List.forall_mem_cons.mpr ⟨ok_29, List.forall_mem_cons.mpr ⟨ok_30, List.forall_mem_cons.mpr ⟨ok_31, List.forall_mem_cons.mpr ⟨ok_32, List.forall_mem_cons.mpr ⟨ok_33, List.forall_mem_cons.mpr ⟨ok_34, List.forall_mem_cons.mpr ⟨ok_35, List.forall_mem_cons.mpr ⟨ok_36, List.forall_mem_cons.mpr ⟨ok_37, List.forall_mem_cons.mpr ⟨ok_38, List.forall_mem_cons.mpr ⟨ok_39, List.forall_mem_cons.mpr ⟨ok_40, List.forall_mem_cons.mpr ⟨ok_41, List.forall_mem_cons.mpr ⟨ok_42, List.forall_mem_cons.mpr ⟨ok_43, List.forall_mem_cons.mpr ⟨ok_44, List.forall_mem_cons.mpr ⟨ok_45, List.forall_mem_cons.mpr ⟨ok_46, List.forall_mem_cons.mpr ⟨ok_47, List.forall_mem_cons.mpr ⟨ok_48, List.forall_mem_cons.mpr ⟨ok_49, List.forall_mem_cons.mpr ⟨ok_50, List.forall_mem_cons.mpr ⟨ok_51, List.forall_mem_cons.mpr ⟨ok_52, List.forall_mem_cons.mpr ⟨ok_53, List.forall_mem_cons.mpr ⟨ok_54, List.forall_mem_cons.mpr ⟨ok_55, List.forall_mem_cons.mpr ⟨ok_56, List.forall_mem_cons.mpr ⟨ok_57, List.forall_mem_cons.mpr ⟨ok_58, List.forall_mem_cons.mpr ⟨ok_59, (fun _ h => absurd h List.not_mem_nil)⟩⟩⟩⟩⟩⟩⟩⟩⟩⟩⟩⟩⟩⟩⟩⟩⟩⟩⟩⟩⟩⟩⟩⟩⟩⟩⟩⟩⟩⟩⟩⟩⟩⟩⟩⟩⟩⟩⟩⟩⟩⟩⟩⟩⟩⟩⟩⟩⟩⟩⟩⟩⟩⟩⟩⟩⟩⟩⟩⟩
end
section
/-! THE BYTES OF EVERY METHOD ARE ITS BLOCKS -/
set_option maxRecDepth 100000 in
theorem ok_60 : okM 60 = true := by decide +kernel
set_option maxRecDepth 100000 in
theorem ok_61 : okM 61 = true := by decide +kernel
set_option maxRecDepth 100000 in
theorem ok_62 : okM 62 = true := by decide +kernel
set_option maxRecDepth 100000 in
theorem ok_63 : okM 63 = true := by decide +kernel
set_option maxRecDepth 100000 in
theorem ok_64 : okM 64 = true := by decide +kernel
set_option maxRecDepth 100000 in
theorem ok_65 : okM 65 = true := by decide +kernel
set_option maxRecDepth 100000 in
theorem ok_66 : okM 66 = true := by decide +kernel
set_option maxRecDepth 100000 in
theorem ok_67 : okM 67 = true := by decide +kernel
set_option maxRecDepth 100000 in
theorem ok_68 : okM 68 = true := by decide +kernel
set_option maxRecDepth 100000 in
theorem ok_69 : okM 69 = true := by decide +kernel
set_option maxRecDepth 100000 in
theorem ok_70 : okM 70 = true := by decide +kernel
set_option maxRecDepth 100000 in
theorem ok_71 : okM 71 = true := by decide +kernel
set_option maxRecDepth 100000 in
theorem ok_72 : okM 72 = true := by decide +kernel
set_option maxRecDepth 100000 in
theorem ok_73 : okM 73 = true := by decide +kernel
set_option maxRecDepth 100000 in
theorem ok_74 : okM 74 = true := by decide +kernel
set_option maxRecDepth 100000 in
theorem ok_75 : okM 75 = true := by decide +kernel
set_option maxRecDepth 100000 in
theorem ok_76 : okM 76 = true := by decide +kernel
set_option maxRecDepth 100000 in
theorem ok_77 : okM 77 = true := by decide +kernel
set_option maxRecDepth 100000 in
theorem ok_78 : okM 78 = true := by decide +kernel
set_option maxRecDepth 100000 in
theorem ok_79 : okM 79 = true := by decide +kernel
set_option maxRecDepth 100000 in
theorem ok_80 : okM 80 = true := by decide +kernel
set_option maxRecDepth 100000 in
theorem ok_81 : okM 81 = true := by decide +kernel
set_option maxRecDepth 100000 in
theorem ok_82 : okM 82 = true := by decide +kernel
set_option maxRecDepth 100000 in
theorem ok_83 : okM 83 = true := by decide +kernel
set_option maxRecDepth 100000 in
theorem ok_84 : okM 84 = true := by decide +kernel
set_option maxRecDepth 100000 in
theorem ok_85 : okM 85 = true := by decide +kernel
set_option maxRecDepth 100000 in
theorem ok_86 : okM 86 = true := by decide +kernel
set_option maxRecDepth 100000 in
theorem ok_87 : okM 87 = true := by decide +kernel
set_option maxRecDepth 100000 in
theorem ok_88 : okM 88 = true := by decide +kernel
set_option maxRecDepth 100000 in
theorem ok_89 : okM 89 = true := by decide +kernel
set_option maxRecDepth 100000 in
theorem ok_90 : okM 90 = true := by decide +kernel
set_option maxRecDepth 100000 in
theorem ok_91 : okM 91 = true := by decide +kernel
set_option maxRecDepth 100000 in
theorem ok_92 : okM 92 = true := by decide +kernel
set_option maxRecDepth 100000 in
theorem ok_93 : okM 93 = true := by decide +kernel
set_option maxRecDepth 100000 in
theorem ok_94 : okM 94 = true := by decide +kernel
set_option maxRecDepth 100000 in
theorem ok_95 : okM 95 = true := by decide +kernel
set_option maxRecDepth 100000 in
theorem ok_96 : okM 96 = true := by decide +kernel
set_option maxRecDepth 100000 in
theorem ok_97 : okM 97 = true := by decide +kernel
set_option maxRecDepth 100000 in
theorem ok_98 : okM 98 = true := by decide +kernel
set_option maxRecDepth 100000 in
theorem ok_99 : okM 99 = true := by decide +kernel
set_option maxRecDepth 100000 in
theorem ok_100 : okM 100 = true := by decide +kernel
set_option maxRecDepth 100000 in
theorem ok_101 : okM 101 = true := by decide +kernel
set_option maxRecDepth 100000 in
theorem ok_102 : okM 102 = true := by decide +kernel
set_option maxRecDepth 100000 in
theorem ok_103 : okM 103 = true := by decide +kernel
set_option maxRecDepth 100000 in
theorem ok_104 : okM 104 = true := by decide +kernel
set_option maxRecDepth 100000 in
theorem ok_105 : okM 105 = true := by decide +kernel
set_option maxRecDepth 100000 in
theorem ok_106 : okM 106 = true := by decide +kernel
set_option maxRecDepth 100000 in
theorem ok_107 : okM 107 = true := by decide +kernel
set_option maxRecDepth 100000 in
theorem ok_108 : okM 108 = true := by decide +kernel
set_option maxRecDepth 100000 in
theorem ok_109 : okM 109 = true := by decide +kernel
set_option maxRecDepth 100000 in
theorem ok_110 : okM 110 = true := by decide +kernel
set_option maxRecDepth 100000 in
theorem ok_111 : okM 111 = true := by decide +kernel
set_option maxRecDepth 100000 in
theorem ok_112 : okM 112 = true := by decide +kernel
set_option maxRecDepth 100000 in
theorem ok_113 : okM 113 = true := by decide +kernel
set_option maxRecDepth 100000 in
theorem ok_114 : okM 114 = true := by decide +kernel
set_option maxRecDepth 100000 in
theorem ok_115 : okM 115 = true := by decide +kernel
set_option maxRecDepth 100000 in
theorem ok_116 : okM 116 = true := by decide +kernel
set_option maxRecDepth 100000 in
theorem ok_117 : okM 117 = true := by decide +kernel
set_option maxRecDepth 100000 in
theorem ok_118 : okM 118 = true := by decide +kernel
set_option maxRecDepth 100000 in
theorem ok_119 : okM 119 = true := by decide +kernel
theorem okA_1 : ∀ m ∈ [60, 61, 62, 63, 64, 65, 66, 67, 68, 69, 70, 71, 72, 73, 74, 75, 76, 77, 78, 79, 80, 81, 82, 83, 84, 85, 86, 87, 88, 89, 90, 91, 92, 93, 94, 95, 96, 97, 98, 99, 100, 101, 102, 103, 104, 105, 106, 107, 108, 109, 110, 111, 112, 113, 114, 115, 116, 117, 118, 119], okM m = true := List.forall_mem_cons.mpr ⟨ok_60, List.forall_mem_cons.mpr ⟨ok_61, List.forall_mem_cons.mpr ⟨ok_62, List.forall_mem_cons.mpr ⟨ok_63, List.forall_mem_cons.mpr ⟨ok_64, List.forall_mem_cons.mpr ⟨ok_65, List.forall_mem_cons.mpr ⟨ok_66, List.forall_mem_cons.mpr ⟨ok_67, List.forall_mem_cons.mpr ⟨ok_68, List.forall_mem_cons.mpr ⟨ok_69, List.forall_mem_cons.mpr ⟨ok_70, List.forall_mem_cons.mpr ⟨ok_71, List.forall_mem_cons.mpr ⟨ok_72, List.forall_mem_cons.mpr ⟨ok_73, List.forall_mem_cons.mpr ⟨ok_74, List.forall_mem_cons.mpr ⟨ok_75, List.forall_mem_cons.mpr ⟨ok_76, List.forall_mem_cons.mpr ⟨ok_77, List.forall_mem_cons.mpr ⟨ok_78, List.forall_mem_cons.mpr ⟨ok_79, List.forall_mem_cons.mpr ⟨ok_80, List.forall_mem_cons.mpr ⟨ok_81, List.forall_mem_cons.mpr ⟨ok_82, List.forall_mem_cons.mpr ⟨ok_83, List.forall_mem_cons.mpr ⟨ok_84, List.forall_mem_cons.mpr ⟨ok_85, List.forall_mem_cons.mpr ⟨ok_86, List.forall_mem_cons.mpr ⟨ok_87, List.forall_mem_cons.mpr ⟨ok_88, List.forall_mem_cons.mpr ⟨ok_89, List.forall_mem_cons.mpr ⟨ok_90, List.forall_mem_cons.mpr ⟨ok_91, List.forall_mem_cons.mpr ⟨ok_92, List.forall_mem_cons.mpr ⟨ok_93, List.forall_mem_cons.mpr ⟨ok_94, List.forall_mem_cons.mpr ⟨ok_95, List.forall_mem_cons.mpr ⟨ok_96, List.forall_mem_cons.mpr ⟨ok_97, List.forall_mem_cons.mpr ⟨ok_98, List.forall_mem_cons.mpr ⟨ok_99, List.forall_mem_cons.mpr ⟨ok_100, List.forall_mem_cons.mpr ⟨ok_101, List.forall_mem_cons.mpr ⟨ok_102, List.forall_mem_cons.mpr ⟨ok_103, List.forall_mem_cons.mpr ⟨ok_104, List.forall_mem_cons.mpr ⟨ok_105, List.forall_mem_cons.mpr ⟨ok_106, List.forall_mem_cons.mpr ⟨ok_107, List.forall_mem_cons.mpr ⟨ok_108, List.forall_mem_cons.mpr ⟨ok_109, List.forall_mem_cons.mpr ⟨ok_110, List.forall_mem_cons.mpr ⟨ok_111, List.forall_mem_cons.mpr ⟨ok_112, List.forall_mem_cons.mpr ⟨ok_113, List.forall_mem_cons.mpr ⟨ok_114, List.forall_mem_cons.mpr ⟨ok_115, List.forall_mem_cons.mpr ⟨ok_116, List.forall_mem_cons.mpr ⟨ok_117, List.forall_mem_cons.mpr ⟨ok_118, List.forall_mem_cons.mpr ⟨ok_119, (fun _ h => absurd h List.not_mem_nil)⟩⟩⟩⟩⟩⟩⟩⟩⟩⟩⟩⟩⟩⟩⟩⟩⟩⟩⟩⟩⟩⟩⟩⟩⟩⟩⟩⟩⟩⟩⟩⟩⟩⟩⟩⟩⟩⟩⟩⟩⟩⟩⟩⟩⟩⟩⟩⟩⟩⟩⟩⟩⟩⟩⟩⟩⟩⟩⟩⟩
end
section
/-! THE BYTES OF EVERY METHOD ARE ITS BLOCKS -/
set_option maxRecDepth 100000 in
theorem ok_120 : okM 120 = true := by decide +kernel
set_option maxRecDepth 100000 in
theorem ok_121 : okM 121 = true := by decide +kernel
set_option maxRecDepth 100000 in
theorem ok_122 : okM 122 = true := by decide +kernel
set_option maxRecDepth 100000 in
theorem ok_123 : okM 123 = true := by decide +kernel
set_option maxRecDepth 100000 in
theorem ok_124 : okM 124 = true := by decide +kernel
set_option maxRecDepth 100000 in
theorem ok_125 : okM 125 = true := by decide +kernel
set_option maxRecDepth 100000 in
theorem ok_126 : okM 126 = true := by decide +kernel
set_option maxRecDepth 100000 in
theorem ok_127 : okM 127 = true := by decide +kernel
set_option maxRecDepth 100000 in
theorem ok_128 : okM 128 = true := by decide +kernel
set_option maxRecDepth 100000 in
theorem ok_129 : okM 129 = true := by decide +kernel
set_option maxRecDepth 100000 in
theorem ok_130 : okM 130 = true := by decide +kernel
set_option maxRecDepth 100000 in
theorem ok_131 : okM 131 = true := by decide +kernel
set_option maxRecDepth 100000 in
theorem ok_132 : okM 132 = true := by decide +kernel
set_option maxRecDepth 100000 in
theorem ok_133 : okM 133 = true := by decide +kernel
set_option maxRecDepth 100000 in
theorem ok_134 : okM 134 = true := by decide +kernel
set_option maxRecDepth 100000 in
theorem ok_135 : okM 135 = true := by decide +kernel
set_option maxRecDepth 100000 in
theorem ok_136 : okM 136 = true := by decide +kernel
set_option maxRecDepth 100000 in
theorem ok_137 : okM 137 = true := by decide +kernel
set_option maxRecDepth 100000 in
theorem ok_138 : okM 138 = true := by decide +kernel
set_option maxRecDepth 100000 in
theorem ok_139 : okM 139 = true := by decide +kernel
set_option maxRecDepth 100000 in
theorem ok_140 : okM 140 = true := by decide +kernel
set_option maxRecDepth 100000 in
theorem ok_141 : okM 141 = true := by decide +kernel
set_option maxRecDepth 100000 in
theorem ok_142 : okM 142 = true := by decide +kernel
set_option maxRecDepth 100000 in
theorem ok_143 : okM 143 = true := by decide +kernel
set_option maxRecDepth 100000 in
theorem ok_144 : okM 144 = true := by decide +kernel
set_option maxRecDepth 100000 in
theorem ok_145 : okM 145 = true := by decide +kernel
set_option maxRecDepth 100000 in
theorem ok_146 : okM 146 = true := by decide +kernel
set_option maxRecDepth 100000 in
theorem ok_147 : okM 147 = true := by decide +kernel
set_option maxRecDepth 100000 in
theorem ok_148 : okM 148 = true := by decide +kernel
set_option maxRecDepth 100000 in
theorem ok_149 : okM 149 = true := by decide +kernel
set_option maxRecDepth 100000 in
theorem ok_150 : okM 150 = true := by decide +kernel
set_option maxRecDepth 100000 in
theorem ok_151 : okM 151 = true := by decide +kernel
set_option maxRecDepth 100000 in
theorem ok_152 : okM 152 = true := by decide +kernel
set_option maxRecDepth 100000 in
theorem ok_153 : okM 153 = true := by decide +kernel
set_option maxRecDepth 100000 in
theorem ok_154 : okM 154 = true := by decide +kernel
set_option maxRecDepth 100000 in
theorem ok_155 : okM 155 = true := by decide +kernel
set_option maxRecDepth 100000 in
theorem ok_156 : okM 156 = true := by decide +kernel
set_option maxRecDepth 100000 in
theorem ok_157 : okM 157 = true := by decide +kernel
set_option maxRecDepth 100000 in
theorem ok_158 : okM 158 = true := by decide +kernel
set_option maxRecDepth 100000 in
theorem ok_159 : okM 159 = true := by decide +kernel
set_option maxRecDepth 100000 in
theorem ok_160 : okM 160 = true := by decide +kernel
set_option maxRecDepth 100000 in
theorem ok_161 : okM 161 = true := by decide +kernel
set_option maxRecDepth 100000 in
theorem ok_162 : okM 162 = true := by decide +kernel
set_option maxRecDepth 100000 in
theorem ok_163 : okM 163 = true := by decide +kernel
set_option maxRecDepth 100000 in
theorem ok_164 : okM 164 = true := by decide +kernel
set_option maxRecDepth 100000 in
theorem ok_165 : okM 165 = true := by decide +kernel
set_option maxRecDepth 100000 in
theorem ok_166 : okM 166 = true := by decide +kernel
set_option maxRecDepth 100000 in
theorem ok_167 : okM 167 = true := by decide +kernel
set_option maxRecDepth 100000 in
theorem ok_168 : okM 168 = true := by decide +kernel
set_option maxRecDepth 100000 in
theorem ok_169 : okM 169 = true := by decide +kernel
theorem okA_2 : ∀ m ∈ [120, 121, 122, 123, 124, 125, 126, 127, 128, 129, 130, 131, 132, 133, 134, 135, 136, 137, 138, 139, 140, 141, 142, 143, 144, 145, 146, 147, 148, 149, 150, 151, 152, 153, 154, 155, 156, 157, 158, 159, 160, 161, 162, 163, 164, 165, 166, 167, 168, 169], okM m = true := List.forall_mem_cons.mpr ⟨ok_120, List.forall_mem_cons.mpr ⟨ok_121, List.forall_mem_cons.mpr ⟨ok_122, List.forall_mem_cons.mpr ⟨ok_123, List.forall_mem_cons.mpr ⟨ok_124, List.forall_mem_cons.mpr ⟨ok_125, List.forall_mem_cons.mpr ⟨ok_126, List.forall_mem_cons.mpr ⟨ok_127, List.forall_mem_cons.mpr ⟨ok_128, List.forall_mem_cons.mpr ⟨ok_129, List.forall_mem_cons.mpr ⟨ok_130, List.forall_mem_cons.mpr ⟨ok_131, List.forall_mem_cons.mpr ⟨ok_132, List.forall_mem_cons.mpr ⟨ok_133, List.forall_mem_cons.mpr ⟨ok_134, List.forall_mem_cons.mpr ⟨ok_135, List.forall_mem_cons.mpr ⟨ok_136, List.forall_mem_cons.mpr ⟨ok_137, List.forall_mem_cons.mpr ⟨ok_138, List.forall_mem_cons.mpr ⟨ok_139, List.forall_mem_cons.mpr ⟨ok_140, List.forall_mem_cons.mpr ⟨ok_141, List.forall_mem_cons.mpr ⟨ok_142, List.forall_mem_cons.mpr ⟨ok_143, List.forall_mem_cons.mpr ⟨ok_144, List.forall_mem_cons.mpr ⟨ok_145, List.forall_mem_cons.mpr ⟨ok_146, List.forall_mem_cons.mpr ⟨ok_147, List.forall_mem_cons.mpr ⟨ok_148, List.forall_mem_cons.mpr ⟨ok_149, List.forall_mem_cons.mpr ⟨ok_150, List.forall_mem_cons.mpr ⟨ok_151, List.forall_mem_cons.mpr ⟨ok_152, List.forall_mem_cons.mpr ⟨ok_153, List.forall_mem_cons.mpr ⟨ok_154, List.forall_mem_cons.mpr ⟨ok_155, List.forall_mem_cons.mpr ⟨ok_156, List.forall_mem_cons.mpr ⟨ok_157, List.forall_mem_cons.mpr ⟨ok_158, List.forall_mem_cons.mpr ⟨ok_159, List.forall_mem_cons.mpr ⟨ok_160, List.forall_mem_cons.mpr ⟨ok_161, List.forall_mem_cons.mpr ⟨ok_162, List.forall_mem_cons.mpr ⟨ok_163, List.forall_mem_cons.mpr ⟨ok_164, List.forall_mem_cons.mpr ⟨ok_165, List.forall_mem_cons.mpr ⟨ok_166, List.forall_mem_cons.mpr ⟨ok_167, List.forall_mem_cons.mpr ⟨ok_168, List.forall_mem_cons.mpr ⟨ok_169, (fun _ h => absurd h List.not_mem_nil)⟩⟩⟩⟩⟩⟩⟩⟩⟩⟩⟩⟩⟩⟩⟩⟩⟩⟩⟩⟩⟩⟩⟩⟩⟩⟩⟩⟩⟩⟩⟩⟩⟩⟩⟩⟩⟩⟩⟩⟩⟩⟩⟩⟩⟩⟩⟩⟩⟩⟩
end
section
/-! THE BYTES OF EVERY METHOD ARE ITS BLOCKS -/
set_option maxRecDepth 100000 in
theorem ok_170 : okM 170 = true := by decide +kernel
set_option maxRecDepth 100000 in
theorem ok_171 : okM 171 = true := by decide +kernel
set_option maxRecDepth 100000 in
theorem ok_172 : okM 172 = true := by decide +kernel
set_option maxRecDepth 100000 in
theorem ok_173 : okM 173 = true := by decide +kernel
set_option maxRecDepth 100000 in
theorem ok_174 : okM 174 = true := by decide +kernel
set_option maxRecDepth 100000 in
theorem ok_175 : okM 175 = true := by decide +kernel
set_option maxRecDepth 100000 in
theorem ok_176 : okM 176 = true := by decide +kernel
set_option maxRecDepth 100000 in
theorem ok_177 : okM 177 = true := by decide +kernel
set_option maxRecDepth 100000 in
theorem ok_178 : okM 178 = true := by decide +kernel
set_option maxRecDepth 100000 in
theorem ok_179 : okM 179 = true := by decide +kernel
set_option maxRecDepth 100000 in
theorem ok_180 : okM 180 = true := by decide +kernel
set_option maxRecDepth 100000 in
theorem ok_181 : okM 181 = true := by decide +kernel
set_option maxRecDepth 100000 in
theorem ok_182 : okM 182 = true := by decide +kernel
set_option maxRecDepth 100000 in
theorem ok_183 : okM 183 = true := by decide +kernel
set_option maxRecDepth 100000 in
theorem ok_184 : okM 184 = true := by decide +kernel
set_option maxRecDepth 100000 in
theorem ok_185 : okM 185 = true := by decide +kernel
set_option maxRecDepth 100000 in
theorem ok_186 : okM 186 = true := by decide +kernel
set_option maxRecDepth 100000 in
theorem ok_187 : okM 187 = true := by decide +kernel
set_option maxRecDepth 100000 in
theorem ok_188 : okM 188 = true := by decide +kernel
set_option maxRecDepth 100000 in
theorem ok_189 : okM 189 = true := by decide +kernel
set_option maxRecDepth 100000 in
theorem ok_190 : okM 190 = true := by decide +kernel
set_option maxRecDepth 100000 in
theorem ok_191 : okM 191 = true := by decide +kernel
set_option maxRecDepth 100000 in
theorem ok_192 : okM 192 = true := by decide +kernel
set_option maxRecDepth 100000 in
theorem ok_193 : okM 193 = true := by decide +kernel
set_option maxRecDepth 100000 in
theorem ok_194 : okM 194 = true := by decide +kernel
set_option maxRecDepth 100000 in
theorem ok_195 : okM 195 = true := by decide +kernel
set_option maxRecDepth 100000 in
theorem ok_196 : okM 196 = true := by decide +kernel
set_option maxRecDepth 100000 in
theorem ok_197 : okM 197 = true := by decide +kernel
set_option maxRecDepth 100000 in
theorem ok_198 : okM 198 = true := by decide +kernel
set_option maxRecDepth 100000 in
theorem ok_199 : okM 199 = true := by decide +kernel
set_option maxRecDepth 100000 in
theorem ok_200 : okM 200 = true := by decide +kernel
set_option maxRecDepth 100000 in
theorem ok_201 : okM 201 = true := by decide +kernel
set_option maxRecDepth 100000 in
theorem ok_202 : okM 202 = true := by decide +kernel
set_option maxRecDepth 100000 in
theorem ok_203 : okM 203 = true := by decide +kernel
set_option maxRecDepth 100000 in
theorem ok_204 : okM 204 = true := by decide +kernel
end
section
/-! THE LAW'S BYTES ARE ITS BLOCKS -/
def lawB0 : List Bk := [(0, [(187, 7, 0), (89, 0, 0)], (7, 67, 7, 1, [2, 0])), (7, [(58, 1, 0), (187, 8, 0), (89, 0, 0)], (7, 115, 15, 1, [2, 0])), (15, [(58, 2, 0), (2, 0, 0), (54, 3, 0)], (0, 18, 0, 0, [])), (18, [(21, 3, 0), (25, 0, 0), (190, 0, 0), (2, 6, 0), (100, 0, 0)], (3, 1211, 27, 4, [])), (27, [(25, 0, 0), (21, 3, 0), (46, 0, 0), (2, 63, 0), (126, 0, 0)], (5, 1205, 0, 0, [188, 221, 254, 287, 310, 333, 396, 439, 462, 475, 488, 511, 524, 557, 590, 603, 626, 649, 692, 715, 738, 781, 814, 857, 900, 963, 996, 1009, 1032, 1075, 1099, 1122, 1145, 1168, 1191])), (188, [(25, 1, 0), (25, 0, 0), (21, 3, 0), (2, 1, 0), (96, 0, 0), (46, 0, 0), (25, 0, 0), (21, 3, 0), (2, 2, 0), (96, 0, 0), (46, 0, 0)], (7, 68, 202, 3, [1, 7])), (202, [(25, 2, 0), (25, 0, 0), (21, 3, 0), (2, 1, 0), (96, 0, 0), (46, 0, 0), (25, 0, 0), (21, 3, 0), (2, 2, 0), (96, 0, 0), (46, 0, 0)], (7, 128, 216, 3, [1, 8])), (216, [], (3, 1205, 219, 0, [])), (219, [(2, 0, 0)], (6, 0, 0, 0, [])), (221, [(25, 1, 0), (25, 0, 0), (21, 3, 0), (2, 1, 0), (96, 0, 0), (46, 0, 0), (25, 0, 0), (21, 3, 0), (2, 2, 0), (96, 0, 0), (46, 0, 0)], (7, 69, 235, 3, [1, 7])), (235, [(25, 2, 0), (25, 0, 0), (21, 3, 0), (2, 1, 0), (96, 0, 0), (46, 0, 0), (25, 0, 0), (21, 3, 0), (2, 2, 0), (96, 0, 0), (46, 0, 0)], (7, 130, 249, 3, [1, 8])), (249, [], (3, 1205, 252, 0, [])), (252, [(2, 0, 0)], (6, 0, 0, 0, [])), (254, [(25, 1, 0), (25, 0, 0), (21, 3, 0), (2, 1, 0), (96, 0, 0), (46, 0, 0), (25, 0, 0), (21, 3, 0), (2, 2, 0), (96, 0, 0), (46, 0, 0)], (7, 70, 268, 3, [1, 7])), (268, [(25, 2, 0), (25, 0, 0), (21, 3, 0), (2, 1, 0), (96, 0, 0), (46, 0, 0), (25, 0, 0), (21, 3, 0), (2, 2, 0), (96, 0, 0), (46, 0, 0)], (7, 131, 282, 3, [1, 8])), (282, [], (3, 1205, 285, 0, []))]
set_option maxRecDepth 100000 in
theorem okL_0 : lawB0.all (okB 205) = true := by decide +kernel
def lawB1 : List Bk := [(285, [(2, 0, 0)], (6, 0, 0, 0, [])), (287, [(25, 1, 0), (25, 0, 0), (21, 3, 0), (2, 1, 0), (96, 0, 0), (46, 0, 0)], (7, 71, 296, 2, [1, 7])), (296, [(25, 2, 0), (25, 0, 0), (21, 3, 0), (2, 1, 0), (96, 0, 0), (46, 0, 0)], (7, 132, 305, 2, [1, 8])), (305, [], (3, 1205, 308, 0, [])), (308, [(2, 0, 0)], (6, 0, 0, 0, [])), (310, [(25, 1, 0), (25, 0, 0), (21, 3, 0), (2, 1, 0), (96, 0, 0), (46, 0, 0)], (7, 72, 319, 2, [1, 7])), (319, [(25, 2, 0), (25, 0, 0), (21, 3, 0), (2, 1, 0), (96, 0, 0), (46, 0, 0)], (7, 133, 328, 2, [1, 8])), (328, [], (3, 1205, 331, 0, [])), (331, [(2, 0, 0)], (6, 0, 0, 0, [])), (333, [(25, 1, 0), (25, 0, 0), (21, 3, 0), (2, 1, 0), (96, 0, 0), (46, 0, 0), (25, 0, 0), (21, 3, 0), (2, 2, 0), (96, 0, 0), (46, 0, 0), (25, 0, 0), (21, 3, 0), (2, 3, 0), (96, 0, 0), (46, 0, 0), (25, 0, 0), (21, 3, 0), (2, 4, 0), (96, 0, 0), (46, 0, 0), (25, 0, 0), (21, 3, 0), (2, 5, 0), (96, 0, 0), (46, 0, 0)], (7, 73, 362, 6, [1, 7])), (362, [(25, 2, 0), (25, 0, 0), (21, 3, 0), (2, 1, 0), (96, 0, 0), (46, 0, 0), (25, 0, 0), (21, 3, 0), (2, 2, 0), (96, 0, 0), (46, 0, 0), (25, 0, 0), (21, 3, 0), (2, 3, 0), (96, 0, 0), (46, 0, 0), (25, 0, 0), (21, 3, 0), (2, 4, 0), (96, 0, 0), (46, 0, 0), (25, 0, 0), (21, 3, 0), (2, 5, 0), (96, 0, 0), (46, 0, 0)], (7, 134, 391, 6, [1, 8])), (391, [], (3, 1205, 394, 0, [])), (394, [(2, 0, 0)], (6, 0, 0, 0, [])), (396, [(25, 1, 0), (25, 0, 0), (21, 3, 0), (2, 1, 0), (96, 0, 0), (46, 0, 0), (25, 0, 0), (21, 3, 0), (2, 2, 0), (96, 0, 0), (46, 0, 0), (25, 0, 0), (21, 3, 0), (2, 3, 0), (96, 0, 0), (46, 0, 0)], (7, 74, 415, 4, [1, 7])), (415, [(25, 2, 0), (25, 0, 0), (21, 3, 0), (2, 1, 0), (96, 0, 0), (46, 0, 0), (25, 0, 0), (21, 3, 0), (2, 2, 0), (96, 0, 0), (46, 0, 0), (25, 0, 0), (21, 3, 0), (2, 3, 0), (96, 0, 0), (46, 0, 0)], (7, 135, 434, 4, [1, 8])), (434, [], (3, 1205, 437, 0, []))]
set_option maxRecDepth 100000 in
theorem okL_1 : lawB1.all (okB 205) = true := by decide +kernel
def lawB2 : List Bk := [(437, [(2, 0, 0)], (6, 0, 0, 0, [])), (439, [(25, 1, 0), (25, 0, 0), (21, 3, 0), (2, 1, 0), (96, 0, 0), (46, 0, 0)], (7, 75, 448, 2, [1, 7])), (448, [(25, 2, 0), (25, 0, 0), (21, 3, 0), (2, 1, 0), (96, 0, 0), (46, 0, 0)], (7, 136, 457, 2, [1, 8])), (457, [], (3, 1205, 460, 0, [])), (460, [(2, 0, 0)], (6, 0, 0, 0, [])), (462, [(25, 1, 0)], (7, 76, 466, 1, [1, 7])), (466, [(25, 2, 0)], (7, 137, 470, 1, [1, 8])), (470, [], (3, 1205, 473, 0, [])), (473, [(2, 0, 0)], (6, 0, 0, 0, [])), (475, [(25, 1, 0)], (7, 77, 479, 1, [1, 7])), (479, [(25, 2, 0)], (7, 150, 483, 1, [1, 8])), (483, [], (3, 1205, 486, 0, [])), (486, [(2, 0, 0)], (6, 0, 0, 0, [])), (488, [(25, 1, 0), (25, 0, 0), (21, 3, 0), (2, 1, 0), (96, 0, 0), (46, 0, 0)], (7, 78, 497, 2, [1, 7])), (497, [(25, 2, 0), (25, 0, 0), (21, 3, 0), (2, 1, 0), (96, 0, 0), (46, 0, 0)], (7, 162, 506, 2, [1, 8])), (506, [], (3, 1205, 509, 0, []))]
set_option maxRecDepth 100000 in
theorem okL_2 : lawB2.all (okB 205) = true := by decide +kernel
def lawB3 : List Bk := [(509, [(2, 0, 0)], (6, 0, 0, 0, [])), (511, [(25, 1, 0)], (7, 79, 515, 1, [1, 7])), (515, [(25, 2, 0)], (7, 163, 519, 1, [1, 8])), (519, [], (3, 1205, 522, 0, [])), (522, [(2, 0, 0)], (6, 0, 0, 0, [])), (524, [(25, 1, 0), (25, 0, 0), (21, 3, 0), (2, 1, 0), (96, 0, 0), (46, 0, 0), (25, 0, 0), (21, 3, 0), (2, 2, 0), (96, 0, 0), (46, 0, 0)], (7, 80, 538, 3, [1, 7])), (538, [(25, 2, 0), (25, 0, 0), (21, 3, 0), (2, 1, 0), (96, 0, 0), (46, 0, 0), (25, 0, 0), (21, 3, 0), (2, 2, 0), (96, 0, 0), (46, 0, 0)], (7, 165, 552, 3, [1, 8])), (552, [], (3, 1205, 555, 0, [])), (555, [(2, 0, 0)], (6, 0, 0, 0, [])), (557, [(25, 1, 0), (25, 0, 0), (21, 3, 0), (2, 1, 0), (96, 0, 0), (46, 0, 0), (25, 0, 0), (21, 3, 0), (2, 2, 0), (96, 0, 0), (46, 0, 0)], (7, 81, 571, 3, [1, 7])), (571, [(25, 2, 0), (25, 0, 0), (21, 3, 0), (2, 1, 0), (96, 0, 0), (46, 0, 0), (25, 0, 0), (21, 3, 0), (2, 2, 0), (96, 0, 0), (46, 0, 0)], (7, 154, 585, 3, [1, 8])), (585, [], (3, 1205, 588, 0, [])), (588, [(2, 0, 0)], (6, 0, 0, 0, [])), (590, [(25, 1, 0)], (7, 82, 594, 1, [1, 7])), (594, [(25, 2, 0)], (7, 155, 598, 1, [1, 8])), (598, [], (3, 1205, 601, 0, []))]
set_option maxRecDepth 100000 in
theorem okL_3 : lawB3.all (okB 205) = true := by decide +kernel
def lawB4 : List Bk := [(601, [(2, 0, 0)], (6, 0, 0, 0, [])), (603, [(25, 1, 0), (25, 0, 0), (21, 3, 0), (2, 1, 0), (96, 0, 0), (46, 0, 0)], (7, 83, 612, 2, [1, 7])), (612, [(25, 2, 0), (25, 0, 0), (21, 3, 0), (2, 1, 0), (96, 0, 0), (46, 0, 0)], (7, 166, 621, 2, [1, 8])), (621, [], (3, 1205, 624, 0, [])), (624, [(2, 0, 0)], (6, 0, 0, 0, [])), (626, [(25, 1, 0), (25, 0, 0), (21, 3, 0), (2, 1, 0), (96, 0, 0), (46, 0, 0)], (7, 84, 635, 2, [1, 7])), (635, [(25, 2, 0), (25, 0, 0), (21, 3, 0), (2, 1, 0), (96, 0, 0), (46, 0, 0)], (7, 167, 644, 2, [1, 8])), (644, [], (3, 1205, 647, 0, [])), (647, [(2, 0, 0)], (6, 0, 0, 0, [])), (649, [(25, 1, 0), (25, 0, 0), (21, 3, 0), (2, 1, 0), (96, 0, 0), (46, 0, 0), (25, 0, 0), (21, 3, 0), (2, 2, 0), (96, 0, 0), (46, 0, 0), (25, 0, 0), (21, 3, 0), (2, 3, 0), (96, 0, 0), (46, 0, 0)], (7, 85, 668, 4, [1, 7])), (668, [(25, 2, 0), (25, 0, 0), (21, 3, 0), (2, 1, 0), (96, 0, 0), (46, 0, 0), (25, 0, 0), (21, 3, 0), (2, 2, 0), (96, 0, 0), (46, 0, 0), (25, 0, 0), (21, 3, 0), (2, 3, 0), (96, 0, 0), (46, 0, 0)], (7, 169, 687, 4, [1, 8])), (687, [], (3, 1205, 690, 0, [])), (690, [(2, 0, 0)], (6, 0, 0, 0, [])), (692, [(25, 1, 0), (25, 0, 0), (21, 3, 0), (2, 1, 0), (96, 0, 0), (46, 0, 0)], (7, 86, 701, 2, [1, 7])), (701, [(25, 2, 0), (25, 0, 0), (21, 3, 0), (2, 1, 0), (96, 0, 0), (46, 0, 0)], (7, 171, 710, 2, [1, 8])), (710, [], (3, 1205, 713, 0, []))]
set_option maxRecDepth 100000 in
theorem okL_4 : lawB4.all (okB 205) = true := by decide +kernel
end
section
/-! THE LAW'S BYTES ARE ITS BLOCKS -/
def lawB5 : List Bk := [(713, [(2, 0, 0)], (6, 0, 0, 0, [])), (715, [(25, 1, 0), (25, 0, 0), (21, 3, 0), (2, 1, 0), (96, 0, 0), (46, 0, 0)], (7, 87, 724, 2, [1, 7])), (724, [(25, 2, 0), (25, 0, 0), (21, 3, 0), (2, 1, 0), (96, 0, 0), (46, 0, 0)], (7, 172, 733, 2, [1, 8])), (733, [], (3, 1205, 736, 0, [])), (736, [(2, 0, 0)], (6, 0, 0, 0, [])), (738, [(25, 1, 0), (25, 0, 0), (21, 3, 0), (2, 1, 0), (96, 0, 0), (46, 0, 0), (25, 0, 0), (21, 3, 0), (2, 2, 0), (96, 0, 0), (46, 0, 0), (25, 0, 0), (21, 3, 0), (2, 3, 0), (96, 0, 0), (46, 0, 0)], (7, 88, 757, 4, [1, 7])), (757, [(25, 2, 0), (25, 0, 0), (21, 3, 0), (2, 1, 0), (96, 0, 0), (46, 0, 0), (25, 0, 0), (21, 3, 0), (2, 2, 0), (96, 0, 0), (46, 0, 0), (25, 0, 0), (21, 3, 0), (2, 3, 0), (96, 0, 0), (46, 0, 0)], (7, 174, 776, 4, [1, 8])), (776, [], (3, 1205, 779, 0, [])), (779, [(2, 0, 0)], (6, 0, 0, 0, [])), (781, [(25, 1, 0), (25, 0, 0), (21, 3, 0), (2, 1, 0), (96, 0, 0), (46, 0, 0), (25, 0, 0), (21, 3, 0), (2, 2, 0), (96, 0, 0), (46, 0, 0)], (7, 89, 795, 3, [1, 7])), (795, [(25, 2, 0), (25, 0, 0), (21, 3, 0), (2, 1, 0), (96, 0, 0), (46, 0, 0), (25, 0, 0), (21, 3, 0), (2, 2, 0), (96, 0, 0), (46, 0, 0)], (7, 177, 809, 3, [1, 8])), (809, [], (3, 1205, 812, 0, [])), (812, [(2, 0, 0)], (6, 0, 0, 0, [])), (814, [(25, 1, 0), (25, 0, 0), (21, 3, 0), (2, 1, 0), (96, 0, 0), (46, 0, 0), (25, 0, 0), (21, 3, 0), (2, 2, 0), (96, 0, 0), (46, 0, 0), (25, 0, 0), (21, 3, 0), (2, 3, 0), (96, 0, 0), (46, 0, 0)], (7, 90, 833, 4, [1, 7])), (833, [(25, 2, 0), (25, 0, 0), (21, 3, 0), (2, 1, 0), (96, 0, 0), (46, 0, 0), (25, 0, 0), (21, 3, 0), (2, 2, 0), (96, 0, 0), (46, 0, 0), (25, 0, 0), (21, 3, 0), (2, 3, 0), (96, 0, 0), (46, 0, 0)], (7, 180, 852, 4, [1, 8])), (852, [], (3, 1205, 855, 0, []))]
set_option maxRecDepth 100000 in
theorem okL_5 : lawB5.all (okB 205) = true := by decide +kernel
def lawB6 : List Bk := [(855, [(2, 0, 0)], (6, 0, 0, 0, [])), (857, [(25, 1, 0), (25, 0, 0), (21, 3, 0), (2, 1, 0), (96, 0, 0), (46, 0, 0), (25, 0, 0), (21, 3, 0), (2, 2, 0), (96, 0, 0), (46, 0, 0), (25, 0, 0), (21, 3, 0), (2, 3, 0), (96, 0, 0), (46, 0, 0)], (7, 91, 876, 4, [1, 7])), (876, [(25, 2, 0), (25, 0, 0), (21, 3, 0), (2, 1, 0), (96, 0, 0), (46, 0, 0), (25, 0, 0), (21, 3, 0), (2, 2, 0), (96, 0, 0), (46, 0, 0), (25, 0, 0), (21, 3, 0), (2, 3, 0), (96, 0, 0), (46, 0, 0)], (7, 181, 895, 4, [1, 8])), (895, [], (3, 1205, 898, 0, [])), (898, [(2, 0, 0)], (6, 0, 0, 0, [])), (900, [(25, 1, 0), (25, 0, 0), (21, 3, 0), (2, 1, 0), (96, 0, 0), (46, 0, 0), (25, 0, 0), (21, 3, 0), (2, 2, 0), (96, 0, 0), (46, 0, 0), (25, 0, 0), (21, 3, 0), (2, 3, 0), (96, 0, 0), (46, 0, 0), (25, 0, 0), (21, 3, 0), (2, 4, 0), (96, 0, 0), (46, 0, 0), (25, 0, 0), (21, 3, 0), (2, 5, 0), (96, 0, 0), (46, 0, 0)], (7, 92, 929, 6, [1, 7])), (929, [(25, 2, 0), (25, 0, 0), (21, 3, 0), (2, 1, 0), (96, 0, 0), (46, 0, 0), (25, 0, 0), (21, 3, 0), (2, 2, 0), (96, 0, 0), (46, 0, 0), (25, 0, 0), (21, 3, 0), (2, 3, 0), (96, 0, 0), (46, 0, 0), (25, 0, 0), (21, 3, 0), (2, 4, 0), (96, 0, 0), (46, 0, 0), (25, 0, 0), (21, 3, 0), (2, 5, 0), (96, 0, 0), (46, 0, 0)], (7, 182, 958, 6, [1, 8])), (958, [], (3, 1205, 961, 0, [])), (961, [(2, 0, 0)], (6, 0, 0, 0, [])), (963, [(25, 1, 0), (25, 0, 0), (21, 3, 0), (2, 1, 0), (96, 0, 0), (46, 0, 0), (25, 0, 0), (21, 3, 0), (2, 2, 0), (96, 0, 0), (46, 0, 0)], (7, 93, 977, 3, [1, 7])), (977, [(25, 2, 0), (25, 0, 0), (21, 3, 0), (2, 1, 0), (96, 0, 0), (46, 0, 0), (25, 0, 0), (21, 3, 0), (2, 2, 0), (96, 0, 0), (46, 0, 0)], (7, 183, 991, 3, [1, 8])), (991, [], (3, 1205, 994, 0, [])), (994, [(2, 0, 0)], (6, 0, 0, 0, [])), (996, [(25, 1, 0)], (7, 94, 1000, 1, [1, 7])), (1000, [(25, 2, 0)], (7, 184, 1004, 1, [1, 8])), (1004, [], (3, 1205, 1007, 0, []))]
set_option maxRecDepth 100000 in
theorem okL_6 : lawB6.all (okB 205) = true := by decide +kernel
def lawB7 : List Bk := [(1007, [(2, 0, 0)], (6, 0, 0, 0, [])), (1009, [(25, 1, 0), (25, 0, 0), (21, 3, 0), (2, 1, 0), (96, 0, 0), (46, 0, 0)], (7, 95, 1018, 2, [1, 7])), (1018, [(25, 2, 0), (25, 0, 0), (21, 3, 0), (2, 1, 0), (96, 0, 0), (46, 0, 0)], (7, 186, 1027, 2, [1, 8])), (1027, [], (3, 1205, 1030, 0, [])), (1030, [(2, 0, 0)], (6, 0, 0, 0, [])), (1032, [(25, 1, 0), (25, 0, 0), (21, 3, 0), (2, 1, 0), (96, 0, 0), (46, 0, 0), (25, 0, 0), (21, 3, 0), (2, 2, 0), (96, 0, 0), (46, 0, 0), (25, 0, 0), (21, 3, 0), (2, 3, 0), (96, 0, 0), (46, 0, 0)], (7, 96, 1051, 4, [1, 7])), (1051, [(25, 2, 0), (25, 0, 0), (21, 3, 0), (2, 1, 0), (96, 0, 0), (46, 0, 0), (25, 0, 0), (21, 3, 0), (2, 2, 0), (96, 0, 0), (46, 0, 0), (25, 0, 0), (21, 3, 0), (2, 3, 0), (96, 0, 0), (46, 0, 0)], (7, 187, 1070, 4, [1, 8])), (1070, [], (3, 1205, 1073, 0, [])), (1073, [(2, 0, 0)], (6, 0, 0, 0, [])), (1075, [(25, 1, 0), (25, 0, 0), (21, 3, 0), (2, 1, 0), (96, 0, 0), (46, 0, 0)], (7, 97, 1084, 2, [1, 7])), (1084, [(25, 2, 0), (25, 0, 0), (21, 3, 0), (2, 1, 0), (96, 0, 0), (46, 0, 0)], (7, 188, 1093, 2, [1, 8])), (1093, [(148, 0, 0)], (2, 1205, 1097, 0, [])), (1097, [(2, 0, 0)], (6, 0, 0, 0, [])), (1099, [(25, 1, 0), (25, 0, 0), (21, 3, 0), (2, 1, 0), (96, 0, 0), (46, 0, 0)], (7, 98, 1108, 2, [1, 7])), (1108, [(25, 2, 0), (25, 0, 0), (21, 3, 0), (2, 1, 0), (96, 0, 0), (46, 0, 0)], (7, 189, 1117, 2, [1, 8])), (1117, [], (3, 1205, 1120, 0, []))]
set_option maxRecDepth 100000 in
theorem okL_7 : lawB7.all (okB 205) = true := by decide +kernel
def lawB8 : List Bk := [(1120, [(2, 0, 0)], (6, 0, 0, 0, [])), (1122, [(25, 1, 0), (25, 0, 0), (21, 3, 0), (2, 1, 0), (96, 0, 0), (46, 0, 0)], (7, 99, 1131, 2, [1, 7])), (1131, [(25, 2, 0), (25, 0, 0), (21, 3, 0), (2, 1, 0), (96, 0, 0), (46, 0, 0)], (7, 190, 1140, 2, [1, 8])), (1140, [], (3, 1205, 1143, 0, [])), (1143, [(2, 0, 0)], (6, 0, 0, 0, [])), (1145, [(25, 1, 0), (25, 0, 0), (21, 3, 0), (2, 1, 0), (96, 0, 0), (46, 0, 0)], (7, 100, 1154, 2, [1, 7])), (1154, [(25, 2, 0), (25, 0, 0), (21, 3, 0), (2, 1, 0), (96, 0, 0), (46, 0, 0)], (7, 191, 1163, 2, [1, 8])), (1163, [], (3, 1205, 1166, 0, [])), (1166, [(2, 0, 0)], (6, 0, 0, 0, [])), (1168, [(25, 1, 0), (25, 0, 0), (21, 3, 0), (2, 1, 0), (96, 0, 0), (46, 0, 0)], (7, 101, 1177, 2, [1, 7])), (1177, [(25, 2, 0), (25, 0, 0), (21, 3, 0), (2, 1, 0), (96, 0, 0), (46, 0, 0)], (7, 193, 1186, 2, [1, 8])), (1186, [], (3, 1205, 1189, 0, [])), (1189, [(2, 0, 0)], (6, 0, 0, 0, [])), (1191, [(25, 1, 0)], (7, 102, 1195, 1, [1, 7])), (1195, [(25, 2, 0)], (7, 195, 1199, 1, [1, 8])), (1199, [(148, 0, 0)], (2, 1205, 1203, 0, []))]
set_option maxRecDepth 100000 in
theorem okL_8 : lawB8.all (okB 205) = true := by decide +kernel
def lawB9 : List Bk := [(1203, [(2, 0, 0)], (6, 0, 0, 0, [])), (1205, [(132, 3, 6)], (1, 18, 0, 0, [])), (1211, [(2, 1, 0)], (6, 0, 0, 0, []))]
set_option maxRecDepth 100000 in
theorem okL_9 : lawB9.all (okB 205) = true := by decide +kernel
set_option maxRecDepth 100000 in
theorem ok_205 : okM 205 = true := by
  have e : (mB 205).2.2 = lawB0 ++ (lawB1 ++ (lawB2 ++ (lawB3 ++ (lawB4 ++ (lawB5 ++ (lawB6 ++ (lawB7 ++ (lawB8 ++ (lawB9))))))))) := rfl
  unfold okM
  rw [e]
  simp only [List.all_append, Bool.and_eq_true]
  exact ⟨okL_0, okL_1, okL_2, okL_3, okL_4, okL_5, okL_6, okL_7, okL_8, okL_9⟩
theorem okA_3 : ∀ m ∈ [170, 171, 172, 173, 174, 175, 176, 177, 178, 179, 180, 181, 182, 183, 184, 185, 186, 187, 188, 189, 190, 191, 192, 193, 194, 195, 196, 197, 198, 199, 200, 201, 202, 203, 204, 205], okM m = true := List.forall_mem_cons.mpr ⟨ok_170, List.forall_mem_cons.mpr ⟨ok_171, List.forall_mem_cons.mpr ⟨ok_172, List.forall_mem_cons.mpr ⟨ok_173, List.forall_mem_cons.mpr ⟨ok_174, List.forall_mem_cons.mpr ⟨ok_175, List.forall_mem_cons.mpr ⟨ok_176, List.forall_mem_cons.mpr ⟨ok_177, List.forall_mem_cons.mpr ⟨ok_178, List.forall_mem_cons.mpr ⟨ok_179, List.forall_mem_cons.mpr ⟨ok_180, List.forall_mem_cons.mpr ⟨ok_181, List.forall_mem_cons.mpr ⟨ok_182, List.forall_mem_cons.mpr ⟨ok_183, List.forall_mem_cons.mpr ⟨ok_184, List.forall_mem_cons.mpr ⟨ok_185, List.forall_mem_cons.mpr ⟨ok_186, List.forall_mem_cons.mpr ⟨ok_187, List.forall_mem_cons.mpr ⟨ok_188, List.forall_mem_cons.mpr ⟨ok_189, List.forall_mem_cons.mpr ⟨ok_190, List.forall_mem_cons.mpr ⟨ok_191, List.forall_mem_cons.mpr ⟨ok_192, List.forall_mem_cons.mpr ⟨ok_193, List.forall_mem_cons.mpr ⟨ok_194, List.forall_mem_cons.mpr ⟨ok_195, List.forall_mem_cons.mpr ⟨ok_196, List.forall_mem_cons.mpr ⟨ok_197, List.forall_mem_cons.mpr ⟨ok_198, List.forall_mem_cons.mpr ⟨ok_199, List.forall_mem_cons.mpr ⟨ok_200, List.forall_mem_cons.mpr ⟨ok_201, List.forall_mem_cons.mpr ⟨ok_202, List.forall_mem_cons.mpr ⟨ok_203, List.forall_mem_cons.mpr ⟨ok_204, List.forall_mem_cons.mpr ⟨ok_205, (fun _ h => absurd h List.not_mem_nil)⟩⟩⟩⟩⟩⟩⟩⟩⟩⟩⟩⟩⟩⟩⟩⟩⟩⟩⟩⟩⟩⟩⟩⟩⟩⟩⟩⟩⟩⟩⟩⟩⟩⟩⟩⟩
theorem okM_all (m : Nat) (h : m < 206) : okM m = true := by
  rcases Nat.lt_or_ge m 60 with h0 | h0
  · exact okA_0 m (show m ∈ List.range' 0 60 from List.mem_range'.mpr ⟨m - 0, by omega, by omega⟩)
  rcases Nat.lt_or_ge m 120 with h1 | h1
  · exact okA_1 m (show m ∈ List.range' 60 60 from List.mem_range'.mpr ⟨m - 60, by omega, by omega⟩)
  rcases Nat.lt_or_ge m 170 with h2 | h2
  · exact okA_2 m (show m ∈ List.range' 120 50 from List.mem_range'.mpr ⟨m - 120, by omega, by omega⟩)
  exact okA_3 m (show m ∈ List.range' 170 36 from List.mem_range'.mpr ⟨m - 170, by omega, by omega⟩)
end
section
/-! THE CLAIM OUT OF ONE WALK OF THE LAW'S BODY. Your part is whole_start (and what it stands on); all else here is the same for every law, but numbers. -/
def R_law : String := "LastAwakeLaw"
def lw_P (b : Addr) (xs : List Int32) (args : Array Value) (s : State) : Prop := args = #[.ref b] ∧ s.IntsAt b xs ∧ xs.length ≤ 384 ∧ (Jvm.Cond.and given_1 narrow_1).before args s = true
def lw_Q (_ : Array Value) (s : State) (o : Outcome) (t : State) : Prop := o = .returned (some (.int 1)) ∧ Framed s o t [] 600000 7302250
def lw_Z (below : List Frame) (a : Array Value) (s : State) : State → Prop := fun t => ∃ o, t.status = .running ∧ Ended t below o ∧ lw_Q a s o t
/-- the law's own end, with 1 on the stack, nothing written that was there before, its room as the claim has it -/
theorem lw_ret {p : Program} {l : Launch} {e : Env} {s : State} {m : MethodId} {below : List Frame} {meth : Method} {c : Code} {b : Nat} (hx : p.tables.exec = Jvm.exec) (hb : c.code = code) (hr : meth.sig.returnType = ret) (hlocks : meth.locks = false) {pc : Nat} {H : Heap} {ls : Array Slot} (hdg : decode code pc = .ok (.ireturn, 1)) : W p l e room_1 s m #[Value.ref b] below meth c H [] 600000 7302250 (lw_Z below #[Value.ref b] s) (F0 m pc ls [.int 1]) := by
  intro T hT X
  obtain ⟨fs, hret, hrun, hended, hW, hframe⟩ := X.leave (v := some (.int 1)) (hlocks := hlocks) (fun h => by rw [hr] at h; cases h)
  have hmeth' : T.vm.method? m = some meth := X.method'
  refine ⟨T.setFrames fs, ?_, .returned (some (.int 1)), hrun, hended, rfl, ⟨_, rfl⟩, hW, hframe⟩
  jvm_step X.here [X.here.top, hx, hb, hdg, hmeth', hr, ret, narrow_b1]
  (try refine ⟨rfl, ?_⟩); (try refine ⟨rfl, ?_⟩)
  first | (intro acts; rw [hret _ acts rfl rfl rfl]) | rw [hret _ _ rfl rfl rfl]
  exact Steps.refl _
/-- what holds at the law's entry: the machine, the code, the tables' words (any of lw_tbl by 'hts w (by decide +kernel)'), the script of L ints xs at the cell b, what the Statement gives of the start (any of its parts by flat_of_before) -/
def lw_At (p : Program) (s : State) (m : MethodId) (meth : Method) (c : Code) (b L : Nat) (xs : Nat → Int32) : Prop :=
  p.tables.exec = Jvm.exec ∧ c.code = code ∧ meth.sig.returnType = ret ∧ c.maxLocals = 4 ∧ s.vm.findClass R_law = some m.cls ∧ (∀ w ∈ lw_tbl, w.before #[Value.ref b] s = true) ∧ va_X b L xs s s.heap ∧ b < s.heap.size ∧ meth.locks = false ∧ (Jvm.Cond.and given_1 narrow_1).before #[Value.ref b] s = true
/-! THE START: from the claim's premises to the small machine -/
def tmS (i : Nat) : Term := .string "LastAwake$Script" ((sIdx.getD i (0, "")).1)
theorem n_inst : ∀ k, k < 9 → Cond.instantiable (clS k) (clN k) ∈ lw_tbl := by decide +kernel
set_option maxRecDepth 20000 in
theorem w_ao5 : Cond.arrayOver (.object RX5) ∈ lw_tbl := by decide +kernel
set_option maxRecDepth 20000 in
theorem w_ao6 : Cond.arrayOver (.object RX6) ∈ lw_tbl := by decide +kernel
set_option maxRecDepth 20000 in
theorem w_aoi : Cond.arrayOver (.array .int) ∈ lw_tbl := by decide +kernel
theorem arr_prim {s : State} {args : Array Value} {ty : FieldType} (h : (Cond.arrayClass ty).before args s = true) : ∃ cA, ArrOfT s cA ty ∧ s.vm.findClass ("[" ++ ty.toString) = some cA := by
  obtain ⟨c, k, comp, h1, h2, h3⟩ := Cond.arrayClass_spec h
  exact ⟨c, fun N z => ⟨(fun k h => by cases h), k, h2, comp, h3⟩, h1⟩
theorem arr_obj {s : State} {args : Array Value} {n : String} (h : (Cond.arrayOver (.object n)).before args s = true) : ∃ cA, ArrOfT s cA (.object n) ∧ va_RA s cA (.object n) := by
  obtain ⟨comp, c, k, h1, -, h2, h3, h4⟩ := Cond.arrayOver_spec h
  exact ⟨c, fun N z => ⟨(fun k h => by cases h), k, h2, comp, h3⟩, k, comp, h2, h3, h1, h4⟩
theorem arr_arr {s : State} {args : Array Value} {t : FieldType} (h : (Cond.arrayOver (.array t)).before args s = true) : ∃ cA, ArrOfT s cA (.array t) ∧ va_RA s cA (.array t) := by
  obtain ⟨comp, c, k, h1, -, h2, h3, h4⟩ := arrayOverA_spec h
  exact ⟨c, fun N z => ⟨(fun k h => by cases h), k, h2, comp, h3⟩, h4⟩
def given : List Cond := flatC (Jvm.Cond.and given_1 narrow_1)
theorem g_mt : Cond.arrayOf (.static "LastAwake" "MOST_OF_TRAIT" "[I") .int ∈ given := by decide +kernel
theorem g_mtl : Cond.eq (.length (.static "LastAwake" "MOST_OF_TRAIT" "[I")) (.int 6) ∈ given := by decide +kernel
theorem g_mte : ∀ j, j < 6 → Cond.eq (.elem (.static "LastAwake" "MOST_OF_TRAIT" "[I") (.int (Int32.ofNat j))) (.int (Int32.ofInt ((roL [] 1).getD j 0))) ∈ given := by decide +kernel
theorem g_no : Cond.arrayOf (.static "LastAwake$Script" "NUMBERS_OF" "[I") .int ∈ given := by decide +kernel
theorem g_nol : Cond.eq (.length (.static "LastAwake$Script" "NUMBERS_OF" "[I")) (.int 8) ∈ given := by decide +kernel
theorem g_noe : ∀ j, j < 8 → Cond.eq (.elem (.static "LastAwake$Script" "NUMBERS_OF" "[I") (.int (Int32.ofNat j))) (.int (Int32.ofInt ((roL [] 2).getD j 0))) ∈ given := by decide +kernel
theorem g_cs : Cond.eq (.static "java/lang/String" "COMPACT_STRINGS" "Z") (.int 1) ∈ given := by decide +kernel
theorem g_sf : Cond.isRef (.static "jdk/internal/util/Preconditions" "SIOOBE_FORMATTER" "Ljava/util/function/BiFunction;") ∈ given := by decide +kernel
theorem g_sx : ∀ i, i < 8 → Cond.exactly (tmS i) "java/lang/String" ∈ given := by decide +kernel
theorem g_sc : ∀ i, i < 8 → Cond.eq (.field (tmS i) "java/lang/String" "coder" "B") (.int 0) ∈ given := by decide +kernel
theorem g_sv : ∀ i, i < 8 → Cond.arrayOf (.field (tmS i) "java/lang/String" "value" "[B") .byte ∈ given := by decide +kernel
theorem g_sl : ∀ i, i < 8 → Cond.eq (.length (.field (tmS i) "java/lang/String" "value" "[B")) (.int (Int32.ofNat (sLen.getD i 0))) ∈ given := by decide +kernel
theorem g_se : ∀ i, i < 8 → ∀ j, j < sLen.getD i 0 → Cond.eq (.elem (.field (tmS i) "java/lang/String" "value" "[B") (.int (Int32.ofNat j))) (.int ((sByt.getD i []).getD j 0)) ∈ given := by decide +kernel
theorem g_sn : ∀ i, i < 8 → ∀ j, j < 8 → i ≠ j → Cond.not (Cond.eq (tmS i) (tmS j)) ∈ given ∨ Cond.not (Cond.eq (tmS j) (tmS i)) ∈ given := by decide +kernel
theorem sL_31 : ∀ i, i < 8 → sLen.getD i 0 < 2 ^ 31 := by decide +kernel
theorem w_ls1 : Cond.laysStatic "LastAwake" "MOST_OF_TRAIT" "[I" ∈ lw_tbl := by decide +kernel
theorem w_ls2 : Cond.laysStatic "LastAwake$Script" "NUMBERS_OF" "[I" ∈ lw_tbl := by decide +kernel
theorem w_ls3 : Cond.laysStatic "java/lang/String" "COMPACT_STRINGS" "Z" ∈ lw_tbl := by decide +kernel
theorem w_ls4 : Cond.laysStatic "jdk/internal/util/Preconditions" "SIOOBE_FORMATTER" "Ljava/util/function/BiFunction;" ∈ lw_tbl := by decide +kernel
theorem w_in1 : Cond.initialized "LastAwake" ∈ lw_tbl := by decide +kernel
theorem w_in2 : Cond.initialized "LastAwake$Script" ∈ lw_tbl := by decide +kernel
theorem w_in3 : Cond.initialized "java/lang/String" ∈ lw_tbl := by decide +kernel
theorem w_in4 : Cond.initialized "jdk/internal/util/Preconditions" ∈ lw_tbl := by decide +kernel
theorem w_sr : ∀ i, i < 8 → Cond.stringRef "LastAwake$Script" (sIdx.getD i (0, "")).1 (sIdx.getD i (0, "")).2 ∈ lw_tbl := by decide +kernel
theorem W_Q {p : Program} {l : Launch} {e : Env} {R : Room} {s : State} {m : MethodId} {args : Array Value} {below : List Frame} {meth : Method} {c : Code} {H : Heap} {locs : List Loc} {cells slots : Nat} {Q Q' : State → Prop} {g : JFrame} (h : ∀ t, Q t → Q' t) (k : W p l e R s m args below meth c H locs cells slots Q g) : W p l e R s m args below meth c H locs cells slots Q' g := by
  intro T hT X
  obtain ⟨t, a, b⟩ := k T hT X
  exact ⟨t, a, h t b⟩
/-- the worlds of the start -/
theorem start_w {p : Program} {s : State} {m : MethodId} {meth : Method} {c : Code} {b L : Nat} {xs : Nat → Int32} (hL : L ≤ 384) (C0 : lw_At p s m meth c b L xs) : ∃ P : Par, P.1 = s.heap.size ∧ cV P (vO 0) = .ref b ∧ Wd ((List.range L).map (fun j => (xs j).toInt)) P s := by
  obtain ⟨hx, hb, hr, hml, hown, hts, hX, hbl, hlocks, hgv⟩ := id C0
  have hG := flat_of_before _ hgv
  have hcl : ∀ k, k < 9 → ∃ (cC : ClassId) (iS : Nat → Nat), u_Kn s (clS k) (clT k) (clN k) cC iS := fun k hk => u_known hts (fun w hw => (cl_in k hk w hw).1) (hts _ (n_inst k hk))
  have hcl2 : ∀ k, ∃ (d : ClassId × (Nat → Nat)), k < 9 → u_Kn s (clS k) (clT k) (clN k) d.1 d.2 := by
    intro k
    by_cases hk : k < 9
    · obtain ⟨c1, c2, c3⟩ := hcl k hk
      exact ⟨(c1, c2), fun _ => c3⟩
    · exact ⟨(0, fun _ => 0), fun h => absurd h hk⟩
  obtain ⟨d, hd⟩ := Classical.axiomOfChoice hcl2
  obtain ⟨a9, ha9, hb9⟩ := arr_prim (hts _ (tG_good _ aW_i).1)
  obtain ⟨a10, ha10, hb10⟩ := arr_prim (hts _ (tG_good _ aW_b).1)
  obtain ⟨a11, ha11, hb11⟩ := arr_prim (hts _ (tG_good _ aW_z).1)
  obtain ⟨a12, ha12, hb12⟩ := arr_obj (hts _ w_ao5)
  obtain ⟨a13, ha13, hb13⟩ := arr_obj (hts _ w_ao6)
  obtain ⟨a14, ha14, hb14⟩ := arr_arr (hts _ w_aoi)
  have hA : ∀ a : Nat, a < s.heap.size → ¬ (fun q : Nat => s.heap.size ≤ q) a := fun a h => Nat.not_le.mpr h
  obtain ⟨t1, e1, T1⟩ := va_Tof (A := fun q : Nat => s.heap.size ≤ q) (tm := .static "LastAwake" "MOST_OF_TRAIT" "[I") (ty := .int) (N := 6) (f := fun i => .int (Int32.ofInt ((roL [] 1).getD i 0))) (by decide) (hG _ g_mt) (va_eqt (hG _ g_mtl)) (fun j hj => va_eqt (hG _ (g_mte j hj))) hA
  obtain ⟨t2, e2, T2⟩ := va_Tof (A := fun q : Nat => s.heap.size ≤ q) (tm := .static "LastAwake$Script" "NUMBERS_OF" "[I") (ty := .int) (N := 8) (f := fun i => .int (Int32.ofInt ((roL [] 2).getD i 0))) (by decide) (hG _ g_no) (va_eqt (hG _ g_nol)) (fun j hj => va_eqt (hG _ (g_noe j hj))) hA
  obtain ⟨adK, adV, S1, S2⟩ := vk_Sof (A := fun q : Nat => s.heap.size ≤ q) (N := 8) (tm := tmS) (len := sLen) (byt := sByt) sL_31 (fun i hi => hG _ (g_sx i hi)) (fun i hi => hG _ (g_sc i hi)) (fun i hi => hG _ (g_sv i hi)) (fun i hi => hG _ (g_sl i hi)) (fun i hi j hj => hG _ (g_se i hi j hj)) (fun i j hi hj hn => (g_sn i hi j hj hn).imp (hG _) (hG _)) hA
  have Z1 := va_Zref (A := fun q : Nat => s.heap.size ≤ q) (hts _ w_ls1) (hts _ w_in1) e1 hA
  have Z2 := va_Zref (A := fun q : Nat => s.heap.size ≤ q) (hts _ w_ls2) (hts _ w_in2) e2 hA
  have Z3 := va_Zof (A := fun q : Nat => s.heap.size ≤ q) (hts _ w_ls3) (hts _ w_in3) (va_eqi (hG _ g_cs)) hA
  have Z4 := va_Zqof (A := fun q : Nat => s.heap.size ≤ q) (hts _ w_ls4) (hts _ w_in4) (hG _ g_sf) hA
  have Z4' : ∃ o : Option Nat, va_Z "jdk/internal/util/Preconditions" "SIOOBE_FORMATTER" "Ljava/util/function/BiFunction;" (va_rf o) (fun q : Nat => s.heap.size ≤ q) s s.heap := by
    rcases Z4 with h | ⟨t, h⟩
    · exact ⟨none, h⟩
    · exact ⟨some t, h⟩
  obtain ⟨o, Z5⟩ := Z4'
  let ad : Nat → Nat := fun j => if j = 0 then b else if j = 1 then t1 else if j = 2 then t2 else if j < 11 then adK (j - 3) else adV (j - 11)
  let P : Par := (s.heap.size, (fun k => (d k).1, fun k => (d k).2), fun k => if k = 9 then a9 else if k = 10 then a10 else if k = 11 then a11 else if k = 12 then a12 else if k = 13 then a13 else a14, fun j => if j < 19 then some (ad j) else o)
  refine ⟨P, rfl, rfl, ⟨fun k q hq => ?_, fun k q hq => ?_⟩, fun w hw => ?_, fun i q hq => ?_, ad, fun j hj => ?_, Z1, Z2, fun j hj => ?_, Z3, ?_, ?_⟩
  · have hk : k < 9 := (List.getElem?_eq_some_iff.mp hq).1
    rw [cl_at k hk] at hq
    cases hq
    exact hd k hk
  · have hk : k < 6 := (List.getElem?_eq_some_iff.mp hq).1
    have h : k = 0 ∨ k = 1 ∨ k = 2 ∨ k = 3 ∨ k = 4 ∨ k = 5 := by omega
    rcases h with rfl | rfl | rfl | rfl | rfl | rfl <;> cases hq
    · exact ⟨ha9, hb9⟩
    · exact ⟨ha10, hb10⟩
    · exact ⟨ha11, hb11⟩
    · exact ⟨ha12, hb12⟩
    · exact ⟨ha13, hb13⟩
    · exact ⟨ha14, hb14⟩
  · obtain ⟨w1, w2⟩ := nW_in w hw
    have w3 := hts w w1
    cases w with
    | methodLinkNest _ _ _ _ => exact va_Nw.of rfl w3
    | fieldLinkNest _ _ _ _ _ _ => exact va_Nw.of rfl w3
    | arrayOver t => exact w3
    | _ => cases w2
  · have hi : i < 8 := (List.getElem?_eq_some_iff.mp hq).1
    have e9 : sIdx.getD i (0, "") = q := by rw [List.getD_eq_getElem?_getD, hq]; rfl
    have h1 := hts _ (w_sr i hi)
    have h2 := S2 i hi
    unfold tmS at h2
    rw [e9] at h1 h2
    refine ⟨adK i, ?_, vk_R.of h1 h2⟩
    show (if 3 + i < 19 then some (ad (3 + i)) else o) = _
    rw [if_pos (by omega)]
    show some (if 3 + i = 0 then b else if 3 + i = 1 then t1 else if 3 + i = 2 then t2 else if 3 + i < 11 then adK (3 + i - 3) else adV (3 + i - 11)) = _
    rw [if_neg (by omega), if_neg (by omega), if_neg (by omega), if_pos (by omega), Nat.add_sub_cancel_left]
  · show (if j < 19 then some (ad j) else o) = _
    rw [if_pos hj]
  · have h : j = 0 ∨ j = 1 ∨ j = 2 := by omega
    rcases h with rfl | rfl | rfl
    · obtain ⟨scr, x1, x2, x3, x4, x5⟩ := hX
      have el : ((List.range L).map (fun j => (xs j).toInt)).length = L := by simp
      refine ⟨scr, x1, x2, x3, ?_, ?_, fun k hk => ?_, Nat.not_le.mpr hbl⟩
      · show ((List.range L).map (fun j => (xs j).toInt)).length ≤ _
        rw [el, x4]
        exact Nat.le_refl _
      · show _ = Int32.ofNat ((List.range L).map (fun j => (xs j).toInt)).length
        rw [el, x4]
      · have hk : k < ((List.range L).map (fun j => (xs j).toInt)).length := hk
        rw [el] at hk
        rw [x5 k hk]
        show some (Value.int (xs k)) = some (Value.int (Int32.ofInt (((List.range L).map (fun j => (xs j).toInt)).getD k 0)))
        rw [List.getD_eq_getElem?_getD, List.getElem?_map, List.getElem?_range hk]
        show _ = some (Value.int (Int32.ofInt (xs k).toInt))
        rw [Int32.ofInt_toInt]
    · exact T1
    · exact T2
  · exact Z5
  · have f1 : (fun i => ad (3 + i)) = (fun i => if 3 + i < 11 then adK i else adV (3 + i - 11)) := by
      funext i
      show (if 3 + i = 0 then b else if 3 + i = 1 then t1 else if 3 + i = 2 then t2 else if 3 + i < 11 then adK (3 + i - 3) else adV (3 + i - 11)) = _
      rw [if_neg (by omega), if_neg (by omega), if_neg (by omega), Nat.add_sub_cancel_left]
    have f2 : (fun i => ad (11 + i)) = adV := by
      funext i
      show (if 11 + i = 0 then b else if 11 + i = 1 then t1 else if 11 + i = 2 then t2 else if 11 + i < 11 then adK (11 + i - 3) else adV (11 + i - 11)) = _
      rw [if_neg (by omega), if_neg (by omega), if_neg (by omega), if_neg (by omega), Nat.add_sub_cancel_left]
    rw [f1, f2]
    obtain ⟨q1, q2⟩ := S1
    refine ⟨fun i hi => ?_, fun i j hi hj he => ?_⟩
    · simp only [show 3 + i < 11 from by omega, if_true]
      exact q1 i hi
    · simp only [show 3 + i < 11 from by omega, show 3 + j < 11 from by omega, if_true] at he
      exact q2 i j hi hj he
/-- what is owed of the small machine: the law's run on every script -/
def LawRuns : Prop := ∀ S : List Int, S.length ≤ 384 → (∀ z ∈ S, n32 z = z) → ∃ (f : Nat) (h' : Hp), run S f 205 0 ([], [some (vO 0), none, none, none], [], fun _ _ => 0) = some (some (vI 1), h') ∧ h'.1.length ≤ 600000 ∧ sz h'.1 ≤ 7302250
theorem start_open (owed : LawRuns) {p : Program} {e : Env} {s : State} {m : MethodId} {below : List Frame} {meth : Method} {c : Code} (l : Launch) {b L : Nat} {xs : Nat → Int32} (hL : L ≤ 384) (C0 : lw_At p s m meth c b L xs) : W p l e room_1 s m #[Value.ref b] below meth c s.heap [] 0 0 (lw_Z below #[Value.ref b] s) (entryFrame m ([Value.ref b] : List Value).toArray 4) := by
  obtain ⟨hx, hb, hr, hml, hown, hts, hX, hbl, hlocks, hgv⟩ := id C0
  obtain ⟨P, hP1, hP2, hW⟩ := start_w hL C0
  obtain ⟨f, h', hrun, hc, hs⟩ := owed ((List.range L).map (fun j => (xs j).toInt)) (by simp; exact hL) (fun z hz => by
    obtain ⟨j, -, rfl⟩ := List.mem_map.mp hz
    rw [← i32_toInt, Int32.ofInt_toInt])
  have hok := run_ok okM_all f 205 0 _ _ (by decide) hrun
  have C : Cx ((List.range L).map (fun j => (xs j).toInt)) (mK 205) P p room_1 s m #[Value.ref b] meth c :=
    ⟨hx, hb, hml, hown, fun w hw => hts w (tG_good w hw).1, fun h => absurd h (by decide), by decide, by decide, hW, by rw [hP1]; exact Nat.le_refl _, hlocks⟩
  have hl : lR P 4 [some (vO 0), none, none, none] ((lg_sl ([vO 0].map (cV P)) ++ List.replicate (4 - (lg_sl ([vO 0].map (cV P))).length) Slot.unset).toArray) := ini_lR rfl
  have e9 : [vO 0].map (cV P) = [Value.ref b] := by show [cV P (vO 0)] = _; rw [hP2]
  rw [e9] at hl
  rw [lg_entry_eq]
  have w := hok.2 P p l e room_1 s m #[Value.ref b] below meth c 0 0 C hr ⟨by rw [hP1]; rfl, Nat.zero_le _⟩ (Nat.zero_le _) (by show h'.1.length - 0 ≤ 600000; omega) (by show sz h'.1 - 0 ≤ 7302250; omega) _ s.heap [] hl ⟨by rw [hP1]; rfl, fun k q hq => by cases hq⟩ va_S.rf
  refine W_Q (fun t ht => ?_) w
  obtain ⟨o, q1, q2, q3, Lc, ⟨q4, q5, q6⟩, q7⟩ := ht
  refine ⟨o, q1, q2, q3.1, q4, q5, q6.weaken (fun y hy hlt => ?_) (by omega) (by omega)⟩
  have := q7 y hy
  have : P.1 ≤ y.base := this
  rw [hP1] at this
  exact absurd hlt (Nat.not_lt.mpr this)
end
section
/-! RUNS WITH SOME FUEL: rules for blocks and calls -/
abbrev I32 (z : Int) : Prop := -2147483648 ≤ z ∧ z < 2147483648
abbrev I64 (z : Int) : Prop := -9223372036854775808 ≤ z ∧ z < 9223372036854775808
theorem n32_of {z : Int} (h : I32 z) : n32 z = z := n32_id h.1 h.2
theorem n64_of {z : Int} (h : I64 z) : n64 z = z := n64_id h.1 h.2
theorem run_mono {S : List Int} : ∀ (f m pc : Nat) (σ : St) (r : Option AV × Hp), run S f m pc σ = some r → run S (f + 1) m pc σ = some r
  | 0, _, _, _, _, h => by cases h
  | f + 1, m, pc, σ, r, h => by
    unfold run at h ⊢
    cases hb : blk m pc with
    | none => rw [hb] at h; cases h
    | some x =>
      obtain ⟨is, t⟩ := x
      rw [hb] at h
      simp only at h ⊢
      cases h1 : exL S is σ with
      | none => rw [h1] at h; cases h
      | some σ1 =>
        rw [h1] at h
        simp only [Option.bind_some] at h ⊢
        by_cases h6 : t.1 = 6
        · rw [if_pos h6] at h ⊢
          exact h
        · rw [if_neg h6] at h ⊢
          by_cases h7 : t.1 = 7
          · rw [if_pos h7] at h ⊢
            by_cases hg : t.2.2.2.1.toNat ≤ σ1.1.length ∧ σ1.1.length ≤ t.2.2.2.1.toNat + 4 ∧ rcv (t.2.2.2.2.getD 0 0) (t.2.2.2.2.getD 1 0) (σ1.1.take t.2.2.2.1.toNat).reverse σ1.2.2.1 = true
            · rw [if_pos hg] at h ⊢
              cases h2 : ini (mB t.2.1).1 (σ1.1.take t.2.2.2.1.toNat).reverse with
              | none => rw [h2] at h; cases h
              | some L' =>
                rw [h2] at h
                simp only [Option.bind_some] at h ⊢
                cases h3 : run S f t.2.1 0 ([], L', σ1.2.2) with
                | none => rw [h3] at h; cases h
                | some r1 =>
                  rw [h3] at h
                  simp only [Option.bind_some] at h
                  rw [run_mono f _ _ _ _ h3]
                  simp only [Option.bind_some]
                  exact run_mono f _ _ _ _ h
            · rw [if_neg hg] at h
              cases h
          · rw [if_neg h7] at h ⊢
            cases h2 : jmp t σ1 with
            | none => rw [h2] at h; cases h
            | some x =>
              rw [h2] at h
              simp only [Option.bind_some] at h ⊢
              exact run_mono f _ _ _ _ h
theorem run_le {S : List Int} {f g m pc : Nat} {σ : St} {r : Option AV × Hp} (h : f ≤ g) (k : run S f m pc σ = some r) : run S g m pc σ = some r := by
  induction h with
  | refl => exact k
  | step _ ih => exact run_mono _ _ _ _ _ ih
def Rn (S : List Int) (m pc : Nat) (σ : St) (r : Option AV × Hp) : Prop := ∃ f, run S f m pc σ = some r
def Cl (S : List Int) (m : Nat) (vs : List AV) (h : Hp) (r : Option AV × Hp) : Prop := ∃ L', ini (mB m).1 vs = some L' ∧ Rn S m 0 ([], L', h) r
theorem Rn.go {S : List Int} {m pc q : Nat} {is : List In} {t : Tn} {σ σ1 σ2 : St} {r : Option AV × Hp} (hb : blk m pc = some (is, t)) (hx : exL S is σ = some σ1) (h6 : ¬ t.1 = 6) (h7 : ¬ t.1 = 7) (hj : jmp t σ1 = some (q, σ2)) (k : Rn S m q σ2 r) : Rn S m pc σ r := by
  obtain ⟨f, hf⟩ := k
  refine ⟨f + 1, ?_⟩
  unfold run
  rw [hb]
  simp only
  rw [hx]
  simp only [Option.bind_some]
  rw [if_neg h6, if_neg h7, hj]
  exact hf
theorem Rn.ret {S : List Int} {m pc : Nat} {is : List In} {t : Tn} {σ σ1 : St} {r : Option AV × Hp} (hb : blk m pc = some (is, t)) (hx : exL S is σ = some σ1) (h6 : t.1 = 6) (hr : rtv (mB m).2.1 σ1 = some r) : Rn S m pc σ r := by
  refine ⟨1, ?_⟩
  unfold run
  rw [hb]
  simp only
  rw [hx]
  simp only [Option.bind_some]
  rw [if_pos h6, hr]
theorem Rn.cal {S : List Int} {m pc m' q n k rc : Nat} {is : List In} {σ : St} {st : List AV} {L : List (Option AV)} {h h2 : Hp} {rv : Option AV} {r : Option AV × Hp} {vs rest : List AV} (hb : blk m pc = some (is, (7, m', q, (n : Int), [k, rc]))) (hx : exL S is σ = some (st, L, h)) (hv : (st.take n).reverse = vs) (hd : st.drop n = rest) (hl : (Nat.ble n st.length && Nat.ble st.length (n + 4)) = true) (hc : rcv k rc vs h.1 = true) (c : Cl S m' vs h (rv, h2)) (kk : Rn S m q (rv.toList ++ rest, L, h2) r) : Rn S m pc σ r := by
  obtain ⟨L', hi, f1, hf1⟩ := c
  obtain ⟨f2, hf2⟩ := kk
  refine ⟨f1 + f2 + 1, ?_⟩
  unfold run
  rw [hb]
  simp only
  rw [hx]
  simp only [Option.bind_some]
  rw [if_neg (by decide), if_pos trivial]
  have en : ((n : Int)).toNat = n := Int.toNat_natCast n
  rw [Bool.and_eq_true] at hl
  have l1 := Nat.le_of_ble_eq_true hl.1
  have l2 := Nat.le_of_ble_eq_true hl.2
  rw [en, if_pos ⟨l1, l2, by rw [hv]; exact hc⟩, hv, hi]
  simp only [Option.bind_some]
  rw [run_le (Nat.le_add_right f1 f2) hf1]
  simp only [Option.bind_some]
  rw [hd]
  exact run_le (Nat.le_add_left f2 f1) hf2
theorem jmp_2 (q n : Nat) (w : Int) (l : List Nat) (σ : St) : jmp (2, q, n, w, l) σ = j_if w.toNat q n σ := by unfold jmp; rfl
theorem jmp_3 (q n : Nat) (w : Int) (l : List Nat) (σ : St) : jmp (3, q, n, w, l) σ = j_cmp w.toNat q n σ := by unfold jmp; rfl
theorem jmp_5 (q n : Nat) (w : Int) (l : List Nat) (σ : St) : jmp (5, q, n, w, l) σ = j_sw w l q σ := by unfold jmp; rfl
theorem jmp_8 (q n : Nat) (w : Int) (l : List Nat) (σ : St) : jmp (8, q, n, w, l) σ = j_sw w l q σ := by unfold jmp; rfl
section Rules
variable {S : List Int} {m pc q n : Nat} {is : List In} {σ : St} {st : List AV} {L : List (Option AV)} {h : Hp} {r : Option AV × Hp} {x y z : Int} {l : List Nat} {b : Nat} {w : Int}
theorem Rn.fal (hb : blk m pc = some (is, (0, q, b, w, l))) (hx : exL S is σ = some (st, L, h)) (k : Rn S m q (st, L, h) r) : Rn S m pc σ r := Rn.go hb hx (fun e => by cases e) (fun e => by cases e) rfl k
theorem Rn.jto (hb : blk m pc = some (is, (1, q, b, w, l))) (hx : exL S is σ = some (st, L, h)) (k : Rn S m q (st, L, h) r) : Rn S m pc σ r := Rn.go hb hx (fun e => by cases e) (fun e => by cases e) rfl k
theorem Rn.ri (hb : blk m pc = some (is, (6, q, b, w, l))) (hx : exL S is σ = some ([vI z], L, h)) (hk : (mB m).2.1 = 1) : Rn S m pc σ (some (vI z), h) := Rn.ret hb hx rfl (by rw [hk]; rfl)
theorem Rn.rz (hb : blk m pc = some (is, (6, q, b, w, l))) (hx : exL S is σ = some ([vI z], L, h)) (hk : (mB m).2.1 = 3) (hz : z = 0 ∨ z = 1) : Rn S m pc σ (some (vI z), h) := Rn.ret hb hx rfl (by rw [hk]; exact if_pos (decide_eq_true hz))
theorem Rn.rl (hb : blk m pc = some (is, (6, q, b, w, l))) (hx : exL S is σ = some ([vL z], L, h)) (hk : (mB m).2.1 = 2) : Rn S m pc σ (some (vL z), h) := Rn.ret hb hx rfl (by rw [hk]; rfl)
theorem Rn.rv (hb : blk m pc = some (is, (6, q, b, w, l))) (hx : exL S is σ = some ([], L, h)) (hk : (mB m).2.1 = 0) : Rn S m pc σ (none, h) := Rn.ret hb hx rfl (by rw [hk]; rfl)
theorem Rn.cif {op : Nat} (hb : blk m pc = some (is, (2, q, n, (op : Int), l))) (hx : exL S is σ = some (vI z :: st, L, h)) (ht : c1 op (n32 z) = true → Rn S m q (st, L, h) r) (hf : c1 op (n32 z) = false → Rn S m n (st, L, h) r) : Rn S m pc σ r := by
  cases hc : c1 op (n32 z) with
  | true => exact Rn.go hb hx (fun e => by cases e) (fun e => by cases e) (by rw [jmp_2, Int.toNat_natCast]; unfold j_if; simp only; rw [hc]; rfl) (ht hc)
  | false => exact Rn.go hb hx (fun e => by cases e) (fun e => by cases e) (by rw [jmp_2, Int.toNat_natCast]; unfold j_if; simp only; rw [hc]; rfl) (hf hc)
theorem Rn.ccm {op : Nat} (hb : blk m pc = some (is, (3, q, n, (op : Int), l))) (hx : exL S is σ = some (vI y :: vI x :: st, L, h)) (ht : c2 op (n32 x) (n32 y) = true → Rn S m q (st, L, h) r) (hf : c2 op (n32 x) (n32 y) = false → Rn S m n (st, L, h) r) : Rn S m pc σ r := by
  cases hc : c2 op (n32 x) (n32 y) with
  | true => exact Rn.go hb hx (fun e => by cases e) (fun e => by cases e) (by rw [jmp_3, Int.toNat_natCast]; unfold j_cmp; simp only; rw [hc]; rfl) (ht hc)
  | false => exact Rn.go hb hx (fun e => by cases e) (fun e => by cases e) (by rw [jmp_3, Int.toNat_natCast]; unfold j_cmp; simp only; rw [hc]; rfl) (hf hc)
theorem Rn.ieq (hb : blk m pc = some (is, (2, q, n, 0, l))) (hx : exL S is σ = some (vI z :: st, L, h)) (iz : I32 z) (ht : z = 0 → Rn S m q (st, L, h) r) (hf : ¬ z = 0 → Rn S m n (st, L, h) r) : Rn S m pc σ r :=
  Rn.cif (op := 0) hb hx (fun e => ht (by rw [n32_of iz] at e; exact of_decide_eq_true e)) (fun e => hf (by rw [n32_of iz] at e; exact of_decide_eq_false e))
theorem Rn.ine (hb : blk m pc = some (is, (2, q, n, 1, l))) (hx : exL S is σ = some (vI z :: st, L, h)) (iz : I32 z) (ht : ¬ z = 0 → Rn S m q (st, L, h) r) (hf : z = 0 → Rn S m n (st, L, h) r) : Rn S m pc σ r :=
  Rn.cif (op := 1) hb hx (fun e => ht (by rw [n32_of iz] at e; exact of_decide_eq_true e)) (fun e => hf (by rw [n32_of iz] at e; exact Decidable.of_not_not (of_decide_eq_false e)))
theorem Rn.ilt (hb : blk m pc = some (is, (2, q, n, 2, l))) (hx : exL S is σ = some (vI z :: st, L, h)) (iz : I32 z) (ht : z < 0 → Rn S m q (st, L, h) r) (hf : 0 ≤ z → Rn S m n (st, L, h) r) : Rn S m pc σ r :=
  Rn.cif (op := 2) hb hx (fun e => ht (by rw [n32_of iz] at e; exact of_decide_eq_true e)) (fun e => hf (by rw [n32_of iz] at e; exact Int.not_lt.mp (of_decide_eq_false e)))
theorem Rn.ige (hb : blk m pc = some (is, (2, q, n, 3, l))) (hx : exL S is σ = some (vI z :: st, L, h)) (iz : I32 z) (ht : 0 ≤ z → Rn S m q (st, L, h) r) (hf : z < 0 → Rn S m n (st, L, h) r) : Rn S m pc σ r :=
  Rn.cif (op := 3) hb hx (fun e => ht (by rw [n32_of iz] at e; exact of_decide_eq_true e)) (fun e => hf (by rw [n32_of iz] at e; exact Int.not_le.mp (of_decide_eq_false e)))
theorem Rn.igt (hb : blk m pc = some (is, (2, q, n, 4, l))) (hx : exL S is σ = some (vI z :: st, L, h)) (iz : I32 z) (ht : 0 < z → Rn S m q (st, L, h) r) (hf : z ≤ 0 → Rn S m n (st, L, h) r) : Rn S m pc σ r :=
  Rn.cif (op := 4) hb hx (fun e => ht (by rw [n32_of iz] at e; exact of_decide_eq_true e)) (fun e => hf (by rw [n32_of iz] at e; exact Int.not_lt.mp (of_decide_eq_false e)))
theorem Rn.ile (hb : blk m pc = some (is, (2, q, n, 5, l))) (hx : exL S is σ = some (vI z :: st, L, h)) (iz : I32 z) (ht : z ≤ 0 → Rn S m q (st, L, h) r) (hf : 0 < z → Rn S m n (st, L, h) r) : Rn S m pc σ r :=
  Rn.cif (op := 5) hb hx (fun e => ht (by rw [n32_of iz] at e; exact of_decide_eq_true e)) (fun e => hf (by rw [n32_of iz] at e; exact Int.not_le.mp (of_decide_eq_false e)))
theorem Rn.ceq (hb : blk m pc = some (is, (3, q, n, 0, l))) (hx : exL S is σ = some (vI y :: vI x :: st, L, h)) (ix : I32 x) (iy : I32 y) (ht : x = y → Rn S m q (st, L, h) r) (hf : ¬ x = y → Rn S m n (st, L, h) r) : Rn S m pc σ r :=
  Rn.ccm (op := 0) hb hx (fun e => ht (by rw [n32_of ix, n32_of iy] at e; exact of_decide_eq_true e)) (fun e => hf (by rw [n32_of ix, n32_of iy] at e; exact of_decide_eq_false e))
theorem Rn.cne (hb : blk m pc = some (is, (3, q, n, 1, l))) (hx : exL S is σ = some (vI y :: vI x :: st, L, h)) (ix : I32 x) (iy : I32 y) (ht : ¬ x = y → Rn S m q (st, L, h) r) (hf : x = y → Rn S m n (st, L, h) r) : Rn S m pc σ r :=
  Rn.ccm (op := 1) hb hx (fun e => ht (by rw [n32_of ix, n32_of iy] at e; exact of_decide_eq_true e)) (fun e => hf (by rw [n32_of ix, n32_of iy] at e; exact Decidable.of_not_not (of_decide_eq_false e)))
theorem Rn.clt (hb : blk m pc = some (is, (3, q, n, 2, l))) (hx : exL S is σ = some (vI y :: vI x :: st, L, h)) (ix : I32 x) (iy : I32 y) (ht : x < y → Rn S m q (st, L, h) r) (hf : y ≤ x → Rn S m n (st, L, h) r) : Rn S m pc σ r :=
  Rn.ccm (op := 2) hb hx (fun e => ht (by rw [n32_of ix, n32_of iy] at e; exact of_decide_eq_true e)) (fun e => hf (by rw [n32_of ix, n32_of iy] at e; exact Int.not_lt.mp (of_decide_eq_false e)))
theorem Rn.cge (hb : blk m pc = some (is, (3, q, n, 3, l))) (hx : exL S is σ = some (vI y :: vI x :: st, L, h)) (ix : I32 x) (iy : I32 y) (ht : y ≤ x → Rn S m q (st, L, h) r) (hf : x < y → Rn S m n (st, L, h) r) : Rn S m pc σ r :=
  Rn.ccm (op := 3) hb hx (fun e => ht (by rw [n32_of ix, n32_of iy] at e; exact of_decide_eq_true e)) (fun e => hf (by rw [n32_of ix, n32_of iy] at e; exact Int.not_le.mp (of_decide_eq_false e)))
theorem Rn.cgt (hb : blk m pc = some (is, (3, q, n, 4, l))) (hx : exL S is σ = some (vI y :: vI x :: st, L, h)) (ix : I32 x) (iy : I32 y) (ht : y < x → Rn S m q (st, L, h) r) (hf : x ≤ y → Rn S m n (st, L, h) r) : Rn S m pc σ r :=
  Rn.ccm (op := 4) hb hx (fun e => ht (by rw [n32_of ix, n32_of iy] at e; exact of_decide_eq_true e)) (fun e => hf (by rw [n32_of ix, n32_of iy] at e; exact Int.not_lt.mp (of_decide_eq_false e)))
theorem Rn.cle (hb : blk m pc = some (is, (3, q, n, 5, l))) (hx : exL S is σ = some (vI y :: vI x :: st, L, h)) (ix : I32 x) (iy : I32 y) (ht : x ≤ y → Rn S m q (st, L, h) r) (hf : y < x → Rn S m n (st, L, h) r) : Rn S m pc σ r :=
  Rn.ccm (op := 5) hb hx (fun e => ht (by rw [n32_of ix, n32_of iy] at e; exact of_decide_eq_true e)) (fun e => hf (by rw [n32_of ix, n32_of iy] at e; exact Int.not_le.mp (of_decide_eq_false e)))
/-- how two longs compare -/
def lc (x y : Int) : Int := if y < x then 1 else if x = y then 0 else -1
theorem n32_lc (x y : Int) : n32 (lc x y) = lc x y := by
  unfold lc
  split
  · decide
  · split <;> decide
theorem Rn.leq (hb : blk m pc = some (is, (2, q, n, 0, l))) (hx : exL S is σ = some (vI (lc x y) :: st, L, h)) (ht : x = y → Rn S m q (st, L, h) r) (hf : ¬ x = y → Rn S m n (st, L, h) r) : Rn S m pc σ r :=
  Rn.cif (op := 0) hb hx (fun e => ht (by rw [n32_lc] at e; have := of_decide_eq_true e; unfold lc at this; split at this <;> first | omega | (split at this <;> omega))) (fun e => hf (by rw [n32_lc] at e; have := of_decide_eq_false e; unfold lc at this; split at this <;> first | omega | (split at this <;> omega)))
theorem Rn.lne (hb : blk m pc = some (is, (2, q, n, 1, l))) (hx : exL S is σ = some (vI (lc x y) :: st, L, h)) (ht : ¬ x = y → Rn S m q (st, L, h) r) (hf : x = y → Rn S m n (st, L, h) r) : Rn S m pc σ r :=
  Rn.cif (op := 1) hb hx (fun e => ht (by rw [n32_lc] at e; have := of_decide_eq_true e; unfold lc at this; split at this <;> first | omega | (split at this <;> omega))) (fun e => hf (by rw [n32_lc] at e; have := of_decide_eq_false e; unfold lc at this; split at this <;> first | omega | (split at this <;> omega)))
theorem Rn.llt (hb : blk m pc = some (is, (2, q, n, 2, l))) (hx : exL S is σ = some (vI (lc x y) :: st, L, h)) (ht : x < y → Rn S m q (st, L, h) r) (hf : y ≤ x → Rn S m n (st, L, h) r) : Rn S m pc σ r :=
  Rn.cif (op := 2) hb hx (fun e => ht (by rw [n32_lc] at e; have := of_decide_eq_true e; unfold lc at this; split at this <;> first | omega | (split at this <;> omega))) (fun e => hf (by rw [n32_lc] at e; have := of_decide_eq_false e; unfold lc at this; split at this <;> first | omega | (split at this <;> omega)))
theorem Rn.lgt (hb : blk m pc = some (is, (2, q, n, 4, l))) (hx : exL S is σ = some (vI (lc x y) :: st, L, h)) (ht : y < x → Rn S m q (st, L, h) r) (hf : x ≤ y → Rn S m n (st, L, h) r) : Rn S m pc σ r :=
  Rn.cif (op := 4) hb hx (fun e => ht (by rw [n32_lc] at e; have := of_decide_eq_true e; unfold lc at this; split at this <;> first | omega | (split at this <;> omega))) (fun e => hf (by rw [n32_lc] at e; have := of_decide_eq_false e; unfold lc at this; split at this <;> first | omega | (split at this <;> omega)))
theorem Rn.lle (hb : blk m pc = some (is, (2, q, n, 5, l))) (hx : exL S is σ = some (vI (lc x y) :: st, L, h)) (ht : x ≤ y → Rn S m q (st, L, h) r) (hf : y < x → Rn S m n (st, L, h) r) : Rn S m pc σ r :=
  Rn.cif (op := 5) hb hx (fun e => ht (by rw [n32_lc] at e; have := of_decide_eq_true e; unfold lc at this; split at this <;> first | omega | (split at this <;> omega))) (fun e => hf (by rw [n32_lc] at e; have := of_decide_eq_false e; unfold lc at this; split at this <;> first | omega | (split at this <;> omega)))
theorem Rn.nul {k : Nat} (hb : blk m pc = some (is, (4, q, n, w, l))) (hx : exL S is σ = some (vR k :: st, L, h)) (k : Rn S m q (st, L, h) r) : Rn S m pc σ r := Rn.go hb hx (fun e => by cases e) (fun e => by cases e) rfl k
theorem Rn.nun (hb : blk m pc = some (is, (4, q, n, w, l))) (hx : exL S is σ = some (vN :: st, L, h)) (k : Rn S m n (st, L, h) r) : Rn S m pc σ r := Rn.go hb hx (fun e => by cases e) (fun e => by cases e) rfl k
theorem Rn.swi {q' : Nat} (hb : blk m pc = some (is, (5, q, n, w, l))) (hx : exL S is σ = some (vI z :: st, L, h)) (iz : I32 z) (hq : (if w ≤ z then l.getD (z - w).toNat q else q) = q') (k : Rn S m q' (st, L, h) r) : Rn S m pc σ r := Rn.go hb hx (fun e => by cases e) (fun e => by cases e) (by rw [jmp_5]; unfold j_sw; simp only; rw [n32_of iz, hq]) k
theorem Rn.swl {q' : Nat} (hb : blk m pc = some (is, (8, q, n, w, l))) (hx : exL S is σ = some (vI z :: st, L, h)) (iz : I32 z) (hq : (if w ≤ z then l.getD (z - w).toNat q else q) = q') (k : Rn S m q' (st, L, h) r) : Rn S m pc σ r := Rn.go hb hx (fun e => by cases e) (fun e => by cases e) (by rw [jmp_8]; unfold j_sw; simp only; rw [n32_of iz, hq]) k
end Rules
end
section
/-! ONE ROW AN INSTRUCTION: what it does to a state that is written out -/
theorem X_c {S : List Int} {i : In} {r : List In} {σ σ1 τ : St} (h : ex S i σ = some σ1) (k : exL S r σ1 = some τ) : exL S (i :: r) σ = some τ := by
  unfold exL
  rw [h]
  exact k
theorem ex_54 (S : List Int) (k w : Int) (σ : St) : ex S (54, k, w) σ = x_ist k.toNat σ := rfl
theorem ex_58 (S : List Int) (k w : Int) (σ : St) : ex S (58, k, w) σ = x_ast k.toNat σ := rfl
theorem ex_55 (S : List Int) (k w : Int) (σ : St) : ex S (55, k, w) σ = x_lst k.toNat σ := rfl
theorem ex_180 (S : List Int) (k w : Int) (σ : St) : ex S (180, k, w) σ = x_get (k.toNat / 100) (k.toNat % 100) σ := rfl
theorem ex_46 (S : List Int) (k w : Int) (σ : St) : ex S (46, k, w) σ = x_iald S σ := rfl
theorem ex_51 (S : List Int) (k w : Int) (σ : St) : ex S (51, k, w) σ = x_bald S σ := rfl
theorem ex_50 (S : List Int) (k w : Int) (σ : St) : ex S (50, k, w) σ = x_aald σ := rfl
theorem ex_79 (S : List Int) (k w : Int) (σ : St) : ex S (79, k, w) σ = x_iast σ := rfl
theorem ex_84 (S : List Int) (k w : Int) (σ : St) : ex S (84, k, w) σ = x_bast σ := rfl
theorem ex_83 (S : List Int) (k w : Int) (σ : St) : ex S (83, k, w) σ = x_aast σ := rfl
theorem ex_190 (S : List Int) (k w : Int) (σ : St) : ex S (190, k, w) σ = x_alen S σ := rfl
theorem ex_205 (S : List Int) (k w : Int) (σ : St) : ex S (205, k, w) σ = x_gstr k.toNat σ := rfl
theorem ex_201 (S : List Int) (k w : Int) (σ : St) : ex S (201, k, w) σ = x_acp σ := rfl
theorem ex_188 (S : List Int) (k w : Int) (σ : St) : ex S (188, k, w) σ = x_newa k.toNat σ := rfl
theorem ex_197 (S : List Int) (k w : Int) (σ : St) : ex S (197, k, w) σ = x_mna σ := rfl
theorem ex_21 (S : List Int) (k w : Int) (σ : St) : ex S (21, k, w) σ = x_ild k.toNat σ := rfl
theorem ex_22 (S : List Int) (k w : Int) (σ : St) : ex S (22, k, w) σ = x_lld k.toNat σ := rfl
theorem ex_25 (S : List Int) (k w : Int) (σ : St) : ex S (25, k, w) σ = x_ald k.toNat σ := rfl
theorem ex_132 (S : List Int) (k w : Int) (σ : St) : ex S (132, k, w) σ = x_inc k.toNat w σ := rfl
section Xrows
variable {S : List Int} {r : List In} {st : List AV} {L L' : List (Option AV)} {h : Hp} {T : List Sh} {M : Nat → Int → Int} {τ : St} {x y z k w n : Int} {a b c d e f : Nat} {rr nn : Nat → Option Nat}
theorem X_nil {σ : St} : exL S [] σ = some σ := rfl
theorem X_i (kk : exL S r (vI z :: st, L, h) = some τ) : exL S ((2, z, w) :: r) (st, L, h) = some τ := X_c rfl kk
theorem X_l (kk : exL S r (vL z :: st, L, h) = some τ) : exL S ((9, z, w) :: r) (st, L, h) = some τ := X_c rfl kk
theorem X_o (kk : exL S r (vO k.toNat :: st, L, h) = some τ) : exL S ((178, k, w) :: r) (st, L, h) = some τ := X_c rfl kk
theorem X_ild (g : L[k.toNat]? = some (some (vI z))) (kk : exL S r (vI z :: st, L, h) = some τ) : exL S ((21, k, w) :: r) (st, L, h) = some τ := X_c (by rw [ex_21]; unfold x_ild; simp only; rw [g]) kk
theorem X_lld (g : L[k.toNat]? = some (some (vL z))) (kk : exL S r (vL z :: st, L, h) = some τ) : exL S ((22, k, w) :: r) (st, L, h) = some τ := X_c (by rw [ex_22]; unfold x_lld; simp only; rw [g]) kk
theorem X_ald {v : Nat ⊕ Nat ⊕ Unit} (g : L[k.toNat]? = some (some (.inr (.inr v)))) (kk : exL S r (.inr (.inr v) :: st, L, h) = some τ) : exL S ((25, k, w) :: r) (st, L, h) = some τ := X_c (by rw [ex_25]; unfold x_ald; simp only; rw [g]) kk
theorem X_ist (hl : Nat.blt k.toNat L.length = true) (hL : st1 L k.toNat (vI z) = L') (kk : exL S r (st, L', h) = some τ) : exL S ((54, k, w) :: r) (vI z :: st, L, h) = some τ := X_c (by rw [ex_54]; unfold x_ist; simp only; rw [if_pos (show k.toNat < L.length from Nat.le_of_ble_eq_true hl), hL]) kk
theorem X_ast {v : Nat ⊕ Nat ⊕ Unit} (hl : Nat.blt k.toNat L.length = true) (hL : st1 L k.toNat (.inr (.inr v)) = L') (kk : exL S r (st, L', h) = some τ) : exL S ((58, k, w) :: r) (.inr (.inr v) :: st, L, h) = some τ := X_c (by rw [ex_58]; unfold x_ast; simp only; rw [if_pos (show k.toNat < L.length from Nat.le_of_ble_eq_true hl), hL]) kk
theorem X_lst (hl : Nat.blt (k.toNat + 1) L.length = true) (hL : st2 L k.toNat (vL z) = L') (kk : exL S r (st, L', h) = some τ) : exL S ((55, k, w) :: r) (vL z :: st, L, h) = some τ := X_c (by rw [ex_55]; unfold x_lst; simp only; rw [if_pos (show k.toNat + 1 < L.length from Nat.le_of_ble_eq_true hl), hL]) kk
theorem X_inc (g : L[k.toNat]? = some (some (vI z))) (hL : st1 L k.toNat (vI (z + n)) = L') (kk : exL S r (st, L', h) = some τ) : exL S ((132, k, n) :: r) (st, L, h) = some τ := X_c (by rw [ex_132]; unfold x_inc; simp only; rw [g]; simp only; rw [hL]) kk
theorem X_add (kk : exL S r (vI (x + y) :: st, L, h) = some τ) : exL S ((96, k, w) :: r) (vI y :: vI x :: st, L, h) = some τ := X_c rfl kk
theorem X_sub (kk : exL S r (vI (x - y) :: st, L, h) = some τ) : exL S ((100, k, w) :: r) (vI y :: vI x :: st, L, h) = some τ := X_c rfl kk
theorem X_mul (kk : exL S r (vI (x * y) :: st, L, h) = some τ) : exL S ((104, k, w) :: r) (vI y :: vI x :: st, L, h) = some τ := X_c rfl kk
theorem X_shl (kk : exL S r (vI (o_shl x y) :: st, L, h) = some τ) : exL S ((120, k, w) :: r) (vI y :: vI x :: st, L, h) = some τ := X_c rfl kk
theorem X_shr (kk : exL S r (vI (o_shr x y) :: st, L, h) = some τ) : exL S ((122, k, w) :: r) (vI y :: vI x :: st, L, h) = some τ := X_c rfl kk
theorem X_ush (kk : exL S r (vI (o_ushr x y) :: st, L, h) = some τ) : exL S ((124, k, w) :: r) (vI y :: vI x :: st, L, h) = some τ := X_c rfl kk
theorem X_and (kk : exL S r (vI (o_and x y) :: st, L, h) = some τ) : exL S ((126, k, w) :: r) (vI y :: vI x :: st, L, h) = some τ := X_c rfl kk
theorem X_or (kk : exL S r (vI (o_or x y) :: st, L, h) = some τ) : exL S ((128, k, w) :: r) (vI y :: vI x :: st, L, h) = some τ := X_c rfl kk
theorem X_lad (kk : exL S r (vL (x + y) :: st, L, h) = some τ) : exL S ((97, k, w) :: r) (vL y :: vL x :: st, L, h) = some τ := X_c rfl kk
theorem X_lsu (kk : exL S r (vL (x - y) :: st, L, h) = some τ) : exL S ((101, k, w) :: r) (vL y :: vL x :: st, L, h) = some τ := X_c rfl kk
theorem X_lmu (kk : exL S r (vL (x * y) :: st, L, h) = some τ) : exL S ((105, k, w) :: r) (vL y :: vL x :: st, L, h) = some τ := X_c rfl kk
theorem X_neg (kk : exL S r (vI (-x) :: st, L, h) = some τ) : exL S ((116, k, w) :: r) (vI x :: st, L, h) = some τ := X_c rfl kk
theorem X_i2b (kk : exL S r (vI (o_i2b x) :: st, L, h) = some τ) : exL S ((145, k, w) :: r) (vI x :: st, L, h) = some τ := X_c rfl kk
theorem X_i2c (kk : exL S r (vI (o_i2c x) :: st, L, h) = some τ) : exL S ((146, k, w) :: r) (vI x :: st, L, h) = some τ := X_c rfl kk
theorem X_i2l (ix : I32 x) (kk : exL S r (vL x :: st, L, h) = some τ) : exL S ((133, k, w) :: r) (vI x :: st, L, h) = some τ := X_c (by show some (vL (n32 x) :: st, L, h) = _; rw [n32_of ix]) kk
theorem X_l2i (kk : exL S r (vI x :: st, L, h) = some τ) : exL S ((136, k, w) :: r) (vL x :: st, L, h) = some τ := X_c rfl kk
theorem X_lcm (ix : I64 x) (iy : I64 y) (kk : exL S r (vI (lc x y) :: st, L, h) = some τ) : exL S ((148, k, w) :: r) (vL y :: vL x :: st, L, h) = some τ := X_c (by show some (vI (if n64 y < n64 x then 1 else if n64 x = n64 y then 0 else -1) :: st, L, h) = _; rw [n64_of ix, n64_of iy]; rfl) kk
theorem X_div (ix : 0 ≤ x ∧ x < 2147483648) (iy : 0 < y ∧ y < 2147483648) (kk : exL S r (vI (x / y) :: st, L, h) = some τ) : exL S ((108, k, w) :: r) (vI y :: vI x :: st, L, h) = some τ := X_c (by
  show (if n32 y = 0 then none else some (vI (Int.tdiv (n32 x) (n32 y)) :: st, L, h)) = _
  rw [n32_of (by omega), n32_of (by omega), if_neg (by omega), Int.tdiv_eq_ediv_of_nonneg ix.1]) kk
theorem X_rem (ix : 0 ≤ x ∧ x < 2147483648) (iy : 0 < y ∧ y < 2147483648) (kk : exL S r (vI (x % y) :: st, L, h) = some τ) : exL S ((112, k, w) :: r) (vI y :: vI x :: st, L, h) = some τ := X_c (by
  show (if n32 y = 0 then none else some (vI (Int.tmod (n32 x) (n32 y)) :: st, L, h)) = _
  rw [n32_of (by omega), n32_of (by omega), if_neg (by omega), Int.tmod_eq_emod_of_nonneg ix.1]) kk
theorem X_ldi (ix : 0 ≤ x ∧ x < 9223372036854775808) (iy : 0 < y ∧ y < 9223372036854775808) (kk : exL S r (vL (x / y) :: st, L, h) = some τ) : exL S ((109, k, w) :: r) (vL y :: vL x :: st, L, h) = some τ := X_c (by
  show (if n64 y = 0 then none else some (vL (Int.tdiv (n64 x) (n64 y)) :: st, L, h)) = _
  rw [n64_of (by omega), n64_of (by omega), if_neg (by omega), Int.tdiv_eq_ediv_of_nonneg ix.1]) kk
theorem X_lre (ix : 0 ≤ x ∧ x < 9223372036854775808) (iy : 0 < y ∧ y < 9223372036854775808) (kk : exL S r (vL (x % y) :: st, L, h) = some τ) : exL S ((113, k, w) :: r) (vL y :: vL x :: st, L, h) = some τ := X_c (by
  show (if n64 y = 0 then none else some (vL (Int.tmod (n64 x) (n64 y)) :: st, L, h)) = _
  rw [n64_of (by omega), n64_of (by omega), if_neg (by omega), Int.tmod_eq_emod_of_nonneg ix.1]) kk
theorem X_dupi (kk : exL S r (vI x :: vI x :: st, L, h) = some τ) : exL S ((89, k, w) :: r) (vI x :: st, L, h) = some τ := X_c rfl kk
theorem X_dupr {v : Nat ⊕ Nat ⊕ Unit} (kk : exL S r (.inr (.inr v) :: .inr (.inr v) :: st, L, h) = some τ) : exL S ((89, k, w) :: r) (.inr (.inr v) :: st, L, h) = some τ := X_c rfl kk
theorem X_du2 (kk : exL S r (vI x :: vR a :: vI x :: vR a :: st, L, h) = some τ) : exL S ((92, k, w) :: r) (vI x :: vR a :: st, L, h) = some τ := X_c rfl kk
theorem X_pop (kk : exL S r (st, L, h) = some τ) : exL S ((87, k, w) :: r) (vI x :: st, L, h) = some τ := X_c rfl kk
theorem X_min (ix : I32 x) (iy : I32 y) (hs : Nat.ble st.length 4 = true) (kk : exL S r (vI (if y < x then y else x) :: st, L, h) = some τ) : exL S ((210, 1, w) :: r) (vI y :: vI x :: st, L, h) = some τ := X_c (by
  show (if st.length ≤ 4 then some (vI (if (1 : Int).toNat = 0 then (if n32 x < n32 y then y else x) else (if n32 y < n32 x then y else x)) :: st, L, h) else none) = _
  rw [if_pos (Nat.le_of_ble_eq_true hs), if_neg (by decide), n32_of ix, n32_of iy]) kk
theorem X_max (ix : I32 x) (iy : I32 y) (hs : Nat.ble st.length 4 = true) (kk : exL S r (vI (if x < y then y else x) :: st, L, h) = some τ) : exL S ((210, 0, w) :: r) (vI y :: vI x :: st, L, h) = some τ := X_c (by
  show (if st.length ≤ 4 then some (vI (if (0 : Int).toNat = 0 then (if n32 x < n32 y then y else x) else (if n32 y < n32 x then y else x)) :: st, L, h) else none) = _
  rw [if_pos (Nat.le_of_ble_eq_true hs), if_pos (by decide), n32_of ix, n32_of iy]) kk
theorem X_gi (c d : Nat) (dz : Int) (hT : T[a]? = some (c, clN c, rr)) (hk : k.toNat / 100 = c ∧ k.toNat % 100 = d ∧ (d : Int) = dz) (hf : fT c d = 0 ∨ fT c d = 3) (kk : exL S r (vI (M a dz) :: st, L, T, M) = some τ) : exL S ((180, k, w) :: r) (vR a :: st, L, T, M) = some τ := X_c (by
  rw [ex_180]
  rw [hk.1, hk.2.1, ← hk.2.2]
  unfold x_get
  simp only
  rw [hT]
  simp only
  rw [if_pos ⟨trivial, trivial⟩, if_neg (by omega), if_neg (by omega)]) kk
theorem X_gl (c d : Nat) (dz : Int) (hT : T[a]? = some (c, clN c, rr)) (hk : k.toNat / 100 = c ∧ k.toNat % 100 = d ∧ (d : Int) = dz) (hf : fT c d = 1) (kk : exL S r (vL (M a dz) :: st, L, T, M) = some τ) : exL S ((180, k, w) :: r) (vR a :: st, L, T, M) = some τ := X_c (by
  rw [ex_180]
  rw [hk.1, hk.2.1, ← hk.2.2]
  unfold x_get
  simp only
  rw [hT]
  simp only
  rw [if_pos ⟨trivial, trivial⟩, if_pos hf]) kk
theorem X_gr (c d : Nat) (hT : T[a]? = some (c, clN c, rr)) (hk : k.toNat / 100 = c ∧ k.toNat % 100 = d) (hf : fT c d = 2) (hr : rr d = some b) (kk : exL S r (vR b :: st, L, T, M) = some τ) : exL S ((180, k, w) :: r) (vR a :: st, L, T, M) = some τ := X_c (by
  rw [ex_180]
  rw [hk.1, hk.2]
  unfold x_get
  simp only
  rw [hT]
  simp only
  rw [if_pos ⟨trivial, trivial⟩, if_neg (by omega), if_pos hf, hr]
  rfl) kk
theorem ex_181 (z w : Int) (σ : St) : ex S (181, z, w) σ = (if fT (z.toNat / 100) (z.toNat % 100) = 1 then x_putl (z.toNat / 100) (z.toNat % 100) else if fT (z.toNat / 100) (z.toNat % 100) = 2 then x_putr (z.toNat / 100) (z.toNat % 100) else x_puti (z.toNat / 100) (z.toNat % 100)) σ := rfl
theorem X_pi (c d : Nat) (dz : Int) (hT : T[a]? = some (c, clN c, rr)) (hk : k.toNat / 100 = c ∧ k.toNat % 100 = d ∧ (d : Int) = dz) (hf : fT c d = 0 ∨ (fT c d = 3 ∧ (z = 0 ∨ z = 1))) (kk : exL S r (st, L, T, um M a dz z) = some τ) : exL S ((181, k, w) :: r) (vI z :: vR a :: st, L, T, M) = some τ := X_c (by
  rw [ex_181, hk.1, hk.2.1, ← hk.2.2, if_neg (by omega), if_neg (by omega)]
  unfold x_puti
  simp only
  rw [hT]
  simp only
  rw [if_pos ⟨trivial, trivial, fun h3 => hf.elim (fun q => by omega) (fun q => q.2)⟩]) kk
theorem X_pl (c d : Nat) (dz : Int) (hT : T[a]? = some (c, clN c, rr)) (hk : k.toNat / 100 = c ∧ k.toNat % 100 = d ∧ (d : Int) = dz) (hf : fT c d = 1) (kk : exL S r (st, L, T, um M a dz z) = some τ) : exL S ((181, k, w) :: r) (vL z :: vR a :: st, L, T, M) = some τ := X_c (by
  rw [ex_181, hk.1, hk.2.1, ← hk.2.2, if_pos hf]
  unfold x_putl
  simp only
  rw [hT]
  simp only
  rw [if_pos ⟨trivial, trivial⟩]) kk
theorem X_pr (c d : Nat) (hT : T[a]? = some (c, clN c, rr)) (hk : k.toNat / 100 = c ∧ k.toNat % 100 = d) (hf : fT c d = 2) (kk : exL S r (st, L, T.set a (c, clN c, uf rr d (some b)), M) = some τ) : exL S ((181, k, w) :: r) (vR b :: vR a :: st, L, T, M) = some τ := X_c (by
  rw [ex_181, hk.1, hk.2, if_neg (by omega), if_pos hf]
  unfold x_putr
  simp only
  rw [hT]
  simp only
  rw [if_pos ⟨trivial, trivial⟩]) kk
theorem X_ia (hT : T[a]? = some (9, c, rr)) (g1 : 0 ≤ x) (g2 : x < (c : Int)) (g3 : Nat.ble c 1000 = true) (kk : exL S r (vI (M a x) :: st, L, T, M) = some τ) : exL S ((46, k, w) :: r) (vI x :: vR a :: st, L, T, M) = some τ := X_c (by
  have := Nat.le_of_ble_eq_true g3
  rw [ex_46]
  unfold x_iald
  simp only
  rw [hT]
  simp only
  rw [n32_of (by omega), if_pos ⟨trivial, g1, g2⟩]) kk
theorem X_io (hj : Nat.blt a 3 = true) (g1 : 0 ≤ x) (g2 : x < ((roL S a).length : Int)) (g3 : x < 2147483648) (kk : exL S r (vI ((roL S a).getD x.toNat 0) :: st, L, h) = some τ) : exL S ((46, k, w) :: r) (vI x :: vO a :: st, L, h) = some τ := X_c (by
  have := Nat.le_of_ble_eq_true hj
  rw [ex_46]
  unfold x_iald
  simp only
  rw [n32_of (by omega), if_pos ⟨this, g1, g2⟩]) kk
theorem X_is (hT : T[a]? = some (9, c, rr)) (g1 : 0 ≤ x) (g2 : x < (c : Int)) (g3 : Nat.ble c 1000 = true) (kk : exL S r (st, L, T, um M a x z) = some τ) : exL S ((79, k, w) :: r) (vI z :: vI x :: vR a :: st, L, T, M) = some τ := X_c (by
  have := Nat.le_of_ble_eq_true g3
  rw [ex_79]
  unfold x_iast
  simp only
  rw [hT]
  simp only
  rw [n32_of (by omega), if_pos ⟨trivial, g1, g2⟩]) kk
theorem X_ba (hT : T[a]? = some (d, c, rr)) (hd : d = 10 ∨ d = 11) (g1 : 0 ≤ x) (g2 : x < (c : Int)) (g3 : Nat.ble c 1000 = true) (kk : exL S r (vI (M a x) :: st, L, T, M) = some τ) : exL S ((51, k, w) :: r) (vI x :: vR a :: st, L, T, M) = some τ := X_c (by
  have := Nat.le_of_ble_eq_true g3
  rw [ex_51]
  unfold x_bald
  simp only
  rw [hT]
  simp only
  rw [n32_of (by omega), if_pos ⟨hd, g1, g2⟩]) kk
theorem X_bo (hj : 11 ≤ a ∧ a < 19) (g1 : 0 ≤ x) (g2 : x < ((roL S a).length : Int)) (g3 : x < 2147483648) (kk : exL S r (vI ((roL S a).getD x.toNat 0) :: st, L, h) = some τ) : exL S ((51, k, w) :: r) (vI x :: vO a :: st, L, h) = some τ := X_c (by
  rw [ex_51]
  unfold x_bald
  simp only
  rw [n32_of (by omega), if_pos ⟨hj, g1, g2⟩]) kk
theorem X_bs (hT : T[a]? = some (d, c, rr)) (hd : d = 10 ∨ d = 11) (g1 : 0 ≤ x) (g2 : x < (c : Int)) (g3 : Nat.ble c 1000 = true) (kk : exL S r (st, L, T, um M a x (if d = 10 then o_i2b z else o_nz z)) = some τ) : exL S ((84, k, w) :: r) (vI z :: vI x :: vR a :: st, L, T, M) = some τ := X_c (by
  have := Nat.le_of_ble_eq_true g3
  rw [ex_84]
  unfold x_bast
  simp only
  rw [hT]
  simp only
  rw [n32_of (by omega), if_pos ⟨hd, g1, g2⟩]) kk
theorem X_aa (hT : T[a]? = some (d, c, rr)) (hd : 12 ≤ d ∧ d < 15) (g1 : 0 ≤ x) (g2 : x < (c : Int)) (g3 : Nat.ble c 1000 = true) (hr : rr x.toNat = some b) (kk : exL S r (vR b :: st, L, T, M) = some τ) : exL S ((50, k, w) :: r) (vI x :: vR a :: st, L, T, M) = some τ := X_c (by
  have := Nat.le_of_ble_eq_true g3
  rw [ex_50]
  unfold x_aald
  simp only
  rw [hT]
  simp only
  rw [n32_of (by omega), if_pos ⟨hd, g1, g2⟩, hr]
  rfl) kk
theorem X_an (hT : T[a]? = some (d, c, rr)) (hd : 12 ≤ d ∧ d < 15) (g1 : 0 ≤ x) (g2 : x < (c : Int)) (g3 : Nat.ble c 1000 = true) (hr : rr x.toNat = none) (kk : exL S r (vN :: st, L, T, M) = some τ) : exL S ((50, k, w) :: r) (vI x :: vR a :: st, L, T, M) = some τ := X_c (by
  have := Nat.le_of_ble_eq_true g3
  rw [ex_50]
  unfold x_aald
  simp only
  rw [hT]
  simp only
  rw [n32_of (by omega), if_pos ⟨hd, g1, g2⟩, hr]
  rfl) kk
theorem X_as (hT : T[a]? = some (d, c, rr)) (hV : T[b]? = some (e, clN e, nn)) (hd : (d = 12 ∧ e = 5) ∨ (d = 13 ∧ e = 6)) (g1 : 0 ≤ x) (g2 : x < (c : Int)) (g3 : Nat.ble c 1000 = true) (kk : exL S r (st, L, T.set a (d, c, uf rr x.toNat (some b)), M) = some τ) : exL S ((83, k, w) :: r) (vR b :: vI x :: vR a :: st, L, T, M) = some τ := X_c (by
  have := Nat.le_of_ble_eq_true g3
  rw [ex_83]
  unfold x_aast
  simp only
  rw [hT]
  simp only
  rw [hV]
  simp only
  rw [n32_of (by omega), if_pos ⟨hd, g1, g2, trivial⟩]) kk
theorem X_len (hT : T[a]? = some (d, c, rr)) (hd : 9 ≤ d ∧ d < 15) (kk : exL S r (vI (c : Int) :: st, L, T, M) = some τ) : exL S ((190, k, w) :: r) (vR a :: st, L, T, M) = some τ := X_c (by
  rw [ex_190]
  unfold x_alen
  simp only
  rw [hT]
  simp only
  rw [if_pos hd]) kk
theorem X_lno (hj : a < 3 ∨ (11 ≤ a ∧ a < 19)) (kk : exL S r (vI ((roL S a).length : Int) :: st, L, h) = some τ) : exL S ((190, k, w) :: r) (vO a :: st, L, h) = some τ := X_c (by
  rw [ex_190]
  unfold x_alen
  simp only
  rw [if_pos hj]) kk
theorem X_gs0 (hj : 3 ≤ a ∧ a < 11) (kk : exL S r (vO (a + 8) :: st, L, h) = some τ) : exL S ((205, 0, w) :: r) (vO a :: st, L, h) = some τ := X_c (by
  rw [ex_205]
  unfold x_gstr
  simp only
  rw [if_pos hj, if_pos (by decide)]) kk
theorem X_gs1 (hj : 3 ≤ a ∧ a < 11) (kk : exL S r (vI 0 :: st, L, h) = some τ) : exL S ((205, 1, w) :: r) (vO a :: st, L, h) = some τ := X_c (by
  rw [ex_205]
  unfold x_gstr
  simp only
  rw [if_pos hj, if_neg (by decide)]) kk
theorem X_cp (hT : T[a]? = some (9, c, rr)) (hV : T[b]? = some (9, d, nn)) (g1 : 0 ≤ x ∧ x < 1000) (g2 : 0 ≤ y ∧ y < 1000) (g3 : 0 ≤ z ∧ z < 1000) (g4 : x + z ≤ (c : Int)) (g5 : y + z ≤ (d : Int)) (kk : exL S r ([], L, T, cpm M a b x y z) = some τ) : exL S ((201, k, w) :: r) ([vI z, vI y, vR b, vI x, vR a], L, T, M) = some τ := X_c (by
  rw [ex_201]
  unfold x_acp
  simp only
  rw [hT, hV]
  simp only
  rw [n32_of (by omega), n32_of (by omega), n32_of (by omega), if_pos ⟨trivial, trivial, g1.1, g2.1, g3.1, g4, g5⟩]) kk
theorem X_oi (kk : exL S r ([], L, h) = some τ) : exL S ((202, k, w) :: r) ([vR a], L, h) = some τ := X_c rfl kk
theorem X_new (kk : exL S r (vR T.length :: st, L, T ++ [(k.toNat, clN k.toNat, nor)], zm M T.length) = some τ) : exL S ((187, k, w) :: r) (st, L, T, M) = some τ := X_c rfl kk
theorem X_na (hk : 9 ≤ k.toNat ∧ k.toNat < 14) (g : 0 ≤ z ∧ z ≤ 1000) (kk : exL S r (vR T.length :: st, L, T ++ [(k.toNat, z.toNat, nor)], zm M T.length) = some τ) : exL S ((188, k, w) :: r) (vI z :: st, L, T, M) = some τ := X_c (by
  rw [ex_188]
  unfold x_newa
  simp only
  rw [n32_of (by omega), if_pos ⟨hk, g.1, g.2⟩]) kk
theorem X_mn (g : 0 ≤ z ∧ z ≤ 1000) (g2 : 0 ≤ y ∧ y ≤ 1000) (kk : exL S r (vR T.length :: st, L, T ++ (14, z.toNat, fun i => if i < z.toNat then some (T.length + 1 + i) else none) :: List.replicate z.toNat (9, y.toNat, nor), zm M T.length) = some τ) : exL S ((197, k, w) :: r) (vI y :: vI z :: st, L, T, M) = some τ := X_c (by
  rw [ex_197]
  unfold x_mna
  simp only
  rw [n32_of (by omega), n32_of (by omega), if_pos ⟨g.1, g.2, g2.1, g2.2⟩]) kk
end Xrows
/-! THE SHAPES: a State at b -/
def rSt (b : Nat) : Nat → Option Nat := uf (uf (uf (uf nor 0 (some (b + 1))) 1 (some (b + 4))) 2 (some (b + 23))) 3 (some (b + 26))
def rFl (b : Nat) : Nat → Option Nat := uf (uf nor 6 (some (b + 2))) 7 (some (b + 3))
def rBe (b : Nat) : Nat → Option Nat := uf (uf nor 0 (some (b + 5))) 4 (some (b + 6))
def rSl (b : Nat) : Nat → Option Nat := fun i => if i < 4 then some (b + 15 + 2 * i) else none
def rPa (b : Nat) : Nat → Option Nat := fun i => if i < 8 then some (b + 7 + i) else none
def rNo (b : Nat) : Nat → Option Nat := uf (uf nor 1 (some (b + 24))) 2 (some (b + 25))
def isSt (T : List Sh) (b : Nat) : Prop := T[b]? = some (6, 4, rSt b) ∧ T[b + 1]? = some (1, 9, rFl b) ∧ T[b + 2]? = some (9, 49, nor) ∧ T[b + 3]? = some (9, 49, nor) ∧ T[b + 4]? = some (0, 5, rBe b) ∧ T[b + 5]? = some (12, 4, rSl b) ∧ T[b + 6]? = some (14, 8, rPa b) ∧ (∀ i, i < 8 → T[b + 7 + i]? = some (9, 9, nor)) ∧ (∀ i, i < 4 → T[b + 15 + 2 * i]? = some (5, 1, uf nor 0 (some (b + 16 + 2 * i)))) ∧ (∀ i, i < 4 → T[b + 16 + 2 * i]? = some (9, 8, nor)) ∧ T[b + 23]? = some (3, 3, rNo b) ∧ T[b + 24]? = some (9, 8, nor) ∧ T[b + 25]? = some (9, 8, nor) ∧ T[b + 26]? = some (2, 3, nor)
section St
variable {T : List Sh} {b : Nat} {i : Nat}
theorem isSt.st (h : isSt T b) : T[b]? = some (6, 4, rSt b) := h.1
theorem isSt.fl (h : isSt T b) : T[b + 1]? = some (1, 9, rFl b) := h.2.1
theorem isSt.th (h : isSt T b) : T[b + 2]? = some (9, 49, nor) := h.2.2.1
theorem isSt.wy (h : isSt T b) : T[b + 3]? = some (9, 49, nor) := h.2.2.2.1
theorem isSt.be (h : isSt T b) : T[b + 4]? = some (0, 5, rBe b) := h.2.2.2.2.1
theorem isSt.sl (h : isSt T b) : T[b + 5]? = some (12, 4, rSl b) := h.2.2.2.2.2.1
theorem isSt.pa (h : isSt T b) : T[b + 6]? = some (14, 8, rPa b) := h.2.2.2.2.2.2.1
theorem isSt.ro (h : isSt T b) (hi : i < 8) : T[b + 7 + i]? = some (9, 9, nor) := h.2.2.2.2.2.2.2.1 i hi
theorem isSt.se (h : isSt T b) (hi : i < 4) : T[b + 15 + 2 * i]? = some (5, 1, uf nor 0 (some (b + 16 + 2 * i))) := h.2.2.2.2.2.2.2.2.1 i hi
theorem isSt.tr (h : isSt T b) (hi : i < 4) : T[b + 16 + 2 * i]? = some (9, 8, nor) := h.2.2.2.2.2.2.2.2.2.1 i hi
theorem isSt.no (h : isSt T b) : T[b + 23]? = some (3, 3, rNo b) := h.2.2.2.2.2.2.2.2.2.2.1
theorem isSt.wr (h : isSt T b) : T[b + 24]? = some (9, 8, nor) := h.2.2.2.2.2.2.2.2.2.2.2.1
theorem isSt.na (h : isSt T b) : T[b + 25]? = some (9, 8, nor) := h.2.2.2.2.2.2.2.2.2.2.2.2.1
theorem isSt.ni (h : isSt T b) : T[b + 26]? = some (2, 3, nor) := h.2.2.2.2.2.2.2.2.2.2.2.2.2
end St
theorem rcv_v {T : List Sh} {a c : Nat} {rr : Nat → Option Nat} {vs : List AV} (hT : T[a]? = some (c, clN c, rr)) (hc : c < 9) : rcv 1 c (vR a :: vs) T = true := by
  show isC c (vR a :: vs) T = true
  unfold isC
  simp only
  rw [hT]
  exact decide_eq_true ⟨rfl, rfl, hc⟩
/-! THE SHAPES: x, and the model -/
def rX : Nat → Option Nat := uf (uf (uf (uf (uf (uf (uf nor 0 (some 1)) 1 (some 28)) 2 (some 55)) 3 (some 56)) 4 (some 59)) 5 (some 60)) 6 (some 68)
def rSc : Nat → Option Nat := uf (uf nor 1 (some 57)) 2 (some 58)
def rM : Nat → Option Nat := uf (uf (uf (uf (uf (uf (uf (uf (uf (uf (uf nor 0 (some 77)) 1 (some 78)) 2 (some 79)) 4 (some 80)) 13 (some 81)) 14 (some 82)) 15 (some 83)) 16 (some 84)) 22 (some 85)) 23 (some 86)) 24 (some 87)
def rC1 : Nat → Option Nat := fun i => if i < 7 then some (61 + i) else none
def rC2 : Nat → Option Nat := fun i => if i < 7 then some (69 + i) else none
def isX (T : List Sh) : Prop := T[0]? = some (7, 9, rX) ∧ T[56]? = some (4, 7, rSc) ∧ T[57]? = some (10, 150, nor) ∧ T[58]? = some (9, 5, nor) ∧ T[59]? = some (9, 3, nor) ∧ T[60]? = some (14, 7, rC1) ∧ (∀ i, i < 7 → T[61 + i]? = some (9, 7, nor)) ∧ T[68]? = some (14, 7, rC2) ∧ (∀ i, i < 7 → T[69 + i]? = some (9, 7, nor)) ∧ isSt T 1 ∧ isSt T 28
def isM (T : List Sh) : Prop := T[76]? = some (8, 26, rM) ∧ T[77]? = some (9, 748, nor) ∧ T[78]? = some (11, 2, nor) ∧ T[79]? = some (9, 150, nor) ∧ T[80]? = some (9, 3, nor) ∧ T[81]? = some (9, 49, nor) ∧ T[82]? = some (9, 4, nor) ∧ T[83]? = some (9, 4, nor) ∧ T[84]? = some (9, 4, nor) ∧ T[85]? = some (9, 61, nor) ∧ T[86]? = some (9, 49, nor) ∧ T[87]? = some (9, 49, nor)
section XM
variable {T : List Sh} {i : Nat}
theorem isX.ob (h : isX T) : T[0]? = some (7, 9, rX) := h.1
theorem isX.sc (h : isX T) : T[56]? = some (4, 7, rSc) := h.2.1
theorem isX.by' (h : isX T) : T[57]? = some (10, 150, nor) := h.2.2.1
theorem isX.nu (h : isX T) : T[58]? = some (9, 5, nor) := h.2.2.2.1
theorem isX.re (h : isX T) : T[59]? = some (9, 3, nor) := h.2.2.2.2.1
theorem isX.c1 (h : isX T) : T[60]? = some (14, 7, rC1) := h.2.2.2.2.2.1
theorem isX.r1 (h : isX T) (hi : i < 7) : T[61 + i]? = some (9, 7, nor) := h.2.2.2.2.2.2.1 i hi
theorem isX.c2 (h : isX T) : T[68]? = some (14, 7, rC2) := h.2.2.2.2.2.2.2.1
theorem isX.r2 (h : isX T) (hi : i < 7) : T[69 + i]? = some (9, 7, nor) := h.2.2.2.2.2.2.2.2.1 i hi
theorem isX.s1 (h : isX T) : isSt T 1 := h.2.2.2.2.2.2.2.2.2.1
theorem isX.s2 (h : isX T) : isSt T 28 := h.2.2.2.2.2.2.2.2.2.2
theorem isM.ob (h : isM T) : T[76]? = some (8, 26, rM) := h.1
theorem isM.w (h : isM T) : T[77]? = some (9, 748, nor) := h.2.1
theorem isM.ke (h : isM T) : T[78]? = some (11, 2, nor) := h.2.2.1
theorem isM.te (h : isM T) : T[79]? = some (9, 150, nor) := h.2.2.2.1
theorem isM.re (h : isM T) : T[80]? = some (9, 3, nor) := h.2.2.2.2.1
theorem isM.fa (h : isM T) : T[81]? = some (9, 49, nor) := h.2.2.2.2.2.1
theorem isM.up (h : isM T) : T[82]? = some (9, 4, nor) := h.2.2.2.2.2.2.1
theorem isM.co (h : isM T) : T[83]? = some (9, 4, nor) := h.2.2.2.2.2.2.2.1
theorem isM.pa (h : isM T) : T[84]? = some (9, 4, nor) := h.2.2.2.2.2.2.2.2.1
theorem isM.wo (h : isM T) : T[85]? = some (9, 61, nor) := h.2.2.2.2.2.2.2.2.2.1
theorem isM.c1 (h : isM T) : T[86]? = some (9, 49, nor) := h.2.2.2.2.2.2.2.2.2.2.1
theorem isM.c2 (h : isM T) : T[87]? = some (9, 49, nor) := h.2.2.2.2.2.2.2.2.2.2.2
end XM
theorem rC1_at {i : Nat} (h : i < 7) : rC1 i = some (61 + i) := if_pos h
theorem rC2_at {i : Nat} (h : i < 7) : rC2 i = some (69 + i) := if_pos h
theorem rSl_at {b i : Nat} (h : i < 4) : rSl b i = some (b + 15 + 2 * i) := if_pos h
theorem rPa_at {b i : Nat} (h : i < 8) : rPa b i = some (b + 7 + i) := if_pos h
end
section
/-! SMALL METHODS -/
section Leaf
variable {S : List Int} {T : List Sh} {M : Nat → Int → Int} {b : Nat} {h : Hp}
theorem c_within {v lo hi : Int} (iv : I32 v) (il : I32 lo) (ih : I32 hi) : Cl S 103 [vI v, vI lo, vI hi] h (some (vI (if lo ≤ v ∧ v ≤ hi then 1 else 0)), h) := by
  refine ⟨_, rfl, ?_⟩
  refine Rn.clt rfl (X_ild rfl <| X_ild rfl <| X_nil) (by omega) (by omega) (fun hc => ?_) (fun hc => ?_)
  · rw [if_neg (by omega)]
    refine Rn.fal rfl (X_i <| X_nil) ?_
    refine Rn.rz rfl (X_nil) rfl (by first | exact Or.inl rfl | exact Or.inr rfl | omega)
  · refine Rn.cgt rfl (X_ild rfl <| X_ild rfl <| X_nil) (by omega) (by omega) (fun hc => ?_) (fun hc => ?_)
    · rw [if_neg (by omega)]
      refine Rn.fal rfl (X_i <| X_nil) ?_
      refine Rn.rz rfl (X_nil) rfl (by first | exact Or.inl rfl | exact Or.inr rfl | omega)
    · rw [if_pos (by omega)]
      refine Rn.jto rfl (X_i <| X_nil) ?_
      refine Rn.rz rfl (X_nil) rfl (by first | exact Or.inl rfl | exact Or.inr rfl | omega)
def sumT (M : Nat → Int → Int) (b : Nat) (t : Int) : Nat → Int
  | 0 => 0
  | n + 1 => sumT M b t n + M (b + 16 + 2 * n) t
theorem c_sum {t : Int} (hS : isSt T b) (h0 : 0 ≤ M (b + 4) 1) (h4 : M (b + 4) 1 ≤ 4) (t0 : 0 ≤ t) (t8 : t < 8) : Cl S 6 [vR (b + 4), vI t] (T, M) (some (vI (sumT M b t (M (b + 4) 1).toNat)), (T, M)) := by
  refine ⟨_, rfl, ?_⟩
  refine Rn.fal rfl (X_i <| X_ist rfl (L' := [_, _, _, _]) rfl <| X_i <| X_ist rfl (L' := [_, _, _, _]) rfl <| X_nil) ?_
  have loop : ∀ (k i : Nat), i + k = (M (b + 4) 1).toNat → Rn S 6 4 ([], [some (vR (b + 4)), some (vI t), some (vI (sumT M b t i)), some (vI (i : Int))], T, M) (some (vI (sumT M b t (M (b + 4) 1).toNat)), (T, M)) := by
    intro k
    induction k with
    | zero =>
      intro i hi
      refine Rn.cge rfl (X_ild rfl <| X_ald rfl <| X_gi 0 1 1 hS.be ⟨rfl, rfl, rfl⟩ (Or.inl rfl) <| X_nil) (by omega) (by omega) (fun hc => ?_) (fun hc => ?_)
      · have e : i = (M (b + 4) 1).toNat := by omega
        rw [e]
        refine Rn.ri rfl (X_ild rfl <| X_nil) rfl
      · exact absurd hc (by omega)
    | succ k ih =>
      intro i hi
      refine Rn.cge rfl (X_ild rfl <| X_ald rfl <| X_gi 0 1 1 hS.be ⟨rfl, rfl, rfl⟩ (Or.inl rfl) <| X_nil) (by omega) (by omega) (fun hc => ?_) (fun hc => ?_)
      · exact absurd hc (by omega)
      · refine Rn.jto rfl (X_ild rfl <| X_ald rfl <| X_gr 0 0 hS.be ⟨rfl, rfl⟩ rfl rfl <| X_ild rfl <| X_aa hS.sl (by decide) (by omega) (by omega) rfl (rSl_at (by omega)) <| X_gr 5 0 (hS.se (by omega)) ⟨rfl, rfl⟩ rfl rfl <| X_ild rfl <| X_ia (hS.tr (by omega)) (by omega) (by omega) rfl <| X_add <| X_ist rfl (L' := [_, _, _, _]) rfl <| X_inc rfl (L' := [_, _, _, _]) rfl <| X_nil) ?_
        exact ih (i + 1) (by omega)
  exact loop (M (b + 4) 1).toNat 0 (by omega)
end Leaf
end
section
/-! WRITES, AND THE SMALL METHODS OF FLOOR, NIGHT, SLEEPER, BEDS -/
theorem um_eq {M : Nat → Int → Int} {a : Nat} {i v : Int} : um M a i v a i = v := if_pos ⟨rfl, rfl⟩
theorem um_na {M : Nat → Int → Int} {a a' : Nat} {i j v : Int} (h : a' ≠ a) : um M a i v a' j = M a' j := if_neg (fun q => h q.1)
theorem um_ni {M : Nat → Int → Int} {a a' : Nat} {i j v : Int} (h : j ≠ i) : um M a i v a' j = M a' j := if_neg (fun q => h q.2)
section Mem
variable {S : List Int} {T : List Sh} {M : Nat → Int → Int} {b : Nat} {h : Hp}
theorem c_bhas {s : Int} (hS : isSt T b) (h0 : 0 ≤ M (b + 4) 1) (h4 : M (b + 4) 1 ≤ 4) (is : I32 s) : Cl S 3 [vR (b + 4), vI s] (T, M) (some (vI (if 0 ≤ s ∧ s ≤ M (b + 4) 1 - 1 then 1 else 0)), (T, M)) := by
  refine ⟨_, rfl, ?_⟩
  refine Rn.cal rfl (X_ild rfl <| X_i <| X_ald rfl <| X_gi 0 1 1 hS.be ⟨rfl, rfl, rfl⟩ (Or.inl rfl) <| X_i <| X_sub <| X_nil) (vs := [_, _, _]) (rest := []) rfl rfl rfl rfl (c_within is (by omega) (by omega)) ?_
  refine Rn.rz rfl (X_nil) rfl (by split <;> simp)
theorem c_fhas {c : Int} (hS : isSt T b) (hw : 1 ≤ M (b + 1) 0 ∧ M (b + 1) 0 ≤ 7) (hh : 1 ≤ M (b + 1) 1 ∧ M (b + 1) 1 ≤ 7) (ic : I32 c) : Cl S 16 [vR (b + 1), vI c] (T, M) (some (vI (if 0 ≤ c ∧ c ≤ M (b + 1) 0 * M (b + 1) 1 - 1 then 1 else 0)), (T, M)) := by
  have p1 : M (b + 1) 0 * M (b + 1) 1 ≤ 7 * 7 := Int.mul_le_mul hw.2 hh.2 (by omega) (by omega)
  have p0 : 0 ≤ M (b + 1) 0 * M (b + 1) 1 := Int.mul_nonneg (by omega) (by omega)
  refine ⟨_, rfl, ?_⟩
  refine Rn.cal rfl (X_ild rfl <| X_i <| X_ald rfl <| X_gi 1 0 0 hS.fl ⟨rfl, rfl, rfl⟩ (Or.inl rfl) <| X_ald rfl <| X_gi 1 1 1 hS.fl ⟨rfl, rfl, rfl⟩ (Or.inl rfl) <| X_mul <| X_i <| X_sub <| X_nil) (vs := [_, _, _]) (rest := []) rfl rfl rfl rfl (c_within ic (by omega) (by omega)) ?_
  refine Rn.rz rfl (X_nil) rfl (by split <;> simp)
theorem c_putSwitch {c : Int} (hS : isSt T b) : Cl S 17 [vR (b + 1), vI c] (T, M) (none, (T, um (um M (b + 1) 2 c) (b + 1) 8 (-1))) := by
  refine ⟨_, rfl, ?_⟩
  refine Rn.rv rfl (X_ald rfl <| X_ild rfl <| X_pi 1 2 2 hS.fl ⟨rfl, rfl, rfl⟩ (Or.inl rfl) <| X_ald rfl <| X_i <| X_pi 1 8 8 hS.fl ⟨rfl, rfl, rfl⟩ (Or.inl rfl) <| X_nil) rfl
theorem c_putBed {c : Int} (hS : isSt T b) : Cl S 18 [vR (b + 1), vI c] (T, M) (none, (T, um (um M (b + 1) 3 c) (b + 1) 8 (-1))) := by
  refine ⟨_, rfl, ?_⟩
  refine Rn.rv rfl (X_ald rfl <| X_ild rfl <| X_pi 1 3 3 hS.fl ⟨rfl, rfl, rfl⟩ (Or.inl rfl) <| X_ald rfl <| X_i <| X_pi 1 8 8 hS.fl ⟨rfl, rfl, rfl⟩ (Or.inl rfl) <| X_nil) rfl
theorem c_putThings {c n : Int} (hS : isSt T b) (c0 : 0 ≤ c) (c9 : c < 49) : Cl S 19 [vR (b + 1), vI c, vI n] (T, M) (none, (T, um (um M (b + 2) c n) (b + 1) 8 (-1))) := by
  refine ⟨_, rfl, ?_⟩
  refine Rn.rv rfl (X_ald rfl <| X_gr 1 6 hS.fl ⟨rfl, rfl⟩ rfl rfl <| X_ild rfl <| X_ild rfl <| X_is hS.th (by first | omega | (simp (disch := omega) only [um_eq, um_na, um_ni, Int.toNat_natCast]; omega)) (by first | omega | (simp (disch := omega) only [um_eq, um_na, um_ni, Int.toNat_natCast]; omega)) rfl <| X_ald rfl <| X_i <| X_pi 1 8 8 hS.fl ⟨rfl, rfl, rfl⟩ (Or.inl rfl) <| X_nil) rfl
theorem c_shineOn {c : Int} (hS : isSt T b) : Cl S 20 [vR (b + 1), vI c] (T, M) (none, (T, um (um M (b + 1) 4 c) (b + 1) 8 (-1))) := by
  refine ⟨_, rfl, ?_⟩
  refine Rn.rv rfl (X_ald rfl <| X_ild rfl <| X_pi 1 4 4 hS.fl ⟨rfl, rfl, rfl⟩ (Or.inl rfl) <| X_ald rfl <| X_i <| X_pi 1 8 8 hS.fl ⟨rfl, rfl, rfl⟩ (Or.inl rfl) <| X_nil) rfl
theorem c_endAt {t s u : Int} (hS : isSt T b) (hu : u = 0 ∨ u = 1) : Cl S 29 [vR (b + 26), vI t, vI s, vI u] (T, M) (none, (T, um (um (um M (b + 26) 0 t) (b + 26) 1 s) (b + 26) 2 u)) := by
  refine ⟨_, rfl, ?_⟩
  refine Rn.rv rfl (X_ald rfl <| X_ild rfl <| X_pi 2 0 0 hS.ni ⟨rfl, rfl, rfl⟩ (Or.inl rfl) <| X_ald rfl <| X_ild rfl <| X_pi 2 1 1 hS.ni ⟨rfl, rfl, rfl⟩ (Or.inl rfl) <| X_ald rfl <| X_ild rfl <| X_pi 2 2 2 hS.ni ⟨rfl, rfl, rfl⟩ (Or.inr ⟨rfl, (by first | omega | (simp (disch := omega) only [um_eq, um_na, um_ni, Int.toNat_natCast]; omega))⟩) <| X_nil) rfl
/-- the traits of one, as numbers that fit -/
abbrev TrOk (M : Nat → Int → Int) (a : Nat) : Prop := (0 ≤ M a 0 ∧ M a 0 ≤ 5) ∧ (0 ≤ M a 1 ∧ M a 1 ≤ 120) ∧ (0 ≤ M a 2 ∧ M a 2 ≤ 9) ∧ (0 ≤ M a 3 ∧ M a 3 ≤ 20) ∧ (0 ≤ M a 4 ∧ M a 4 ≤ 60) ∧ (-1 ≤ M a 5 ∧ M a 5 ≤ 120) ∧ (0 ≤ M a 6 ∧ M a 6 ≤ 100000) ∧ (0 ≤ M a 7 ∧ M a 7 ≤ 1000000000)
/-- is up anyhow: at his minute he reads no longer -/
abbrev upA (M : Nat → Int → Int) (a : Nat) : Prop := ¬ M a 5 = -1 ∧ M a 1 ≤ M a 5
theorem c_isUp {i : Nat} (hS : isSt T b) (hi : i < 4) (ht : TrOk M (b + 16 + 2 * i)) : Cl S 51 [vR (b + 15 + 2 * i)] (T, M) (some (vI (if upA M (b + 16 + 2 * i) then 1 else 0)), (T, M)) := by
  refine ⟨_, rfl, ?_⟩
  refine Rn.ceq rfl (X_ald rfl <| X_gr 5 0 (hS.se (by omega)) ⟨rfl, rfl⟩ rfl rfl <| X_i <| X_ia (hS.tr (by omega)) (by first | omega | (simp (disch := omega) only [um_eq, um_na, um_ni, Int.toNat_natCast]; omega)) (by first | omega | (simp (disch := omega) only [um_eq, um_na, um_ni, Int.toNat_natCast]; omega)) rfl <| X_i <| X_nil) (by first | omega | (simp (disch := omega) only [um_eq, um_na, um_ni, Int.toNat_natCast]; omega)) (by first | omega | (simp (disch := omega) only [um_eq, um_na, um_ni, Int.toNat_natCast]; omega)) (fun hc => ?_) (fun hc => ?_)
  · rw [if_neg (by omega)]
    refine Rn.fal rfl (X_i <| X_nil) ?_
    refine Rn.rz rfl (X_nil) rfl (by first | exact Or.inl rfl | exact Or.inr rfl | omega)
  · refine Rn.cgt rfl (X_ald rfl <| X_gr 5 0 (hS.se (by omega)) ⟨rfl, rfl⟩ rfl rfl <| X_i <| X_ia (hS.tr (by omega)) (by first | omega | (simp (disch := omega) only [um_eq, um_na, um_ni, Int.toNat_natCast]; omega)) (by first | omega | (simp (disch := omega) only [um_eq, um_na, um_ni, Int.toNat_natCast]; omega)) rfl <| X_ald rfl <| X_gr 5 0 (hS.se (by omega)) ⟨rfl, rfl⟩ rfl rfl <| X_i <| X_ia (hS.tr (by omega)) (by first | omega | (simp (disch := omega) only [um_eq, um_na, um_ni, Int.toNat_natCast]; omega)) (by first | omega | (simp (disch := omega) only [um_eq, um_na, um_ni, Int.toNat_natCast]; omega)) rfl <| X_nil) (by first | omega | (simp (disch := omega) only [um_eq, um_na, um_ni, Int.toNat_natCast]; omega)) (by first | omega | (simp (disch := omega) only [um_eq, um_na, um_ni, Int.toNat_natCast]; omega)) (fun hc => ?_) (fun hc => ?_)
    · rw [if_neg (by omega)]
      refine Rn.fal rfl (X_i <| X_nil) ?_
      refine Rn.rz rfl (X_nil) rfl (by first | exact Or.inl rfl | exact Or.inr rfl | omega)
    · rw [if_pos ⟨by omega, by omega⟩]
      refine Rn.jto rfl (X_i <| X_nil) ?_
      refine Rn.rz rfl (X_nil) rfl (by first | exact Or.inl rfl | exact Or.inr rfl | omega)
/-- what it costs one that the light went out in a minute -/
def lightC (M : Nat → Int → Int) (a : Nat) (t : Int) : Int := if t - M a 1 ≤ 0 then 3 * -(t - M a 1) else M a 2 * (t - M a 1)
theorem c_light {i : Nat} {t : Int} (hS : isSt T b) (hi : i < 4) (ht : TrOk M (b + 16 + 2 * i)) (t0 : 0 ≤ t) (t3 : t ≤ 300) : Cl S 52 [vR (b + 15 + 2 * i), vI t] (T, M) (some (vI (lightC M (b + 16 + 2 * i) t)), (T, M)) := by
  refine ⟨_, rfl, ?_⟩
  unfold lightC
  refine Rn.ile rfl (X_ild rfl <| X_ald rfl <| X_gr 5 0 (hS.se (by omega)) ⟨rfl, rfl⟩ rfl rfl <| X_i <| X_ia (hS.tr (by omega)) (by first | omega | (simp (disch := omega) only [um_eq, um_na, um_ni, Int.toNat_natCast]; omega)) (by first | omega | (simp (disch := omega) only [um_eq, um_na, um_ni, Int.toNat_natCast]; omega)) rfl <| X_sub <| X_ist rfl (L' := [_, _, _]) rfl <| X_ild rfl <| X_nil) (by first | omega | (simp (disch := omega) only [um_eq, um_na, um_ni, Int.toNat_natCast]; omega)) (fun hc => ?_) (fun hc => ?_)
  · rw [if_pos (by omega)]
    refine Rn.fal rfl (X_i <| X_ild rfl <| X_neg <| X_mul <| X_nil) ?_
    refine Rn.ri rfl (X_nil) rfl
  · rw [if_neg (by omega)]
    refine Rn.jto rfl (X_ald rfl <| X_gr 5 0 (hS.se (by omega)) ⟨rfl, rfl⟩ rfl rfl <| X_i <| X_ia (hS.tr (by omega)) (by first | omega | (simp (disch := omega) only [um_eq, um_na, um_ni, Int.toNat_natCast]; omega)) (by first | omega | (simp (disch := omega) only [um_eq, um_na, um_ni, Int.toNat_natCast]; omega)) rfl <| X_ild rfl <| X_mul <| X_nil) ?_
    refine Rn.ri rfl (X_nil) rfl
/-- how long one waits, by the least count -/
def waitC (M : Nat → Int → Int) (a : Nat) (l : Int) : Int :=
  if M a 0 = 1 then M a 4 + 5 * (M a 6 - l) else if M a 0 = 2 then 2 * (M a 4 + 5 * (M a 6 - l)) else if M a 0 = 3 then M a 4 / 2 else if M a 0 = 4 then 2 * (M a 4 + 5 * (M a 6 - l)) + 20 else if M a 0 = 5 then M a 4 / 2 + M a 1 / 4 else M a 4
theorem c_waits {i : Nat} {l : Int} (hS : isSt T b) (hi : i < 4) (ht : TrOk M (b + 16 + 2 * i)) : Cl S 50 [vR (b + 15 + 2 * i), vI l] (T, M) (some (vI (waitC M (b + 16 + 2 * i) l)), (T, M)) := by
  refine ⟨_, rfl, ?_⟩
  unfold waitC
  have h5 : M (b + 16 + 2 * i) 0 = 0 ∨ M (b + 16 + 2 * i) 0 = 1 ∨ M (b + 16 + 2 * i) 0 = 2 ∨ M (b + 16 + 2 * i) 0 = 3 ∨ M (b + 16 + 2 * i) 0 = 4 ∨ M (b + 16 + 2 * i) 0 = 5 := by omega
  rcases h5 with e | e | e | e | e | e
  · rw [if_neg (by omega), if_neg (by omega), if_neg (by omega), if_neg (by omega), if_neg (by omega)]
    refine Rn.swi (q' := 98) rfl (X_ald rfl <| X_gr 5 0 (hS.se (by omega)) ⟨rfl, rfl⟩ rfl rfl <| X_i <| X_ia (hS.tr (by omega)) (by first | omega | (simp (disch := omega) only [um_eq, um_na, um_ni, Int.toNat_natCast]; omega)) (by first | omega | (simp (disch := omega) only [um_eq, um_na, um_ni, Int.toNat_natCast]; omega)) rfl <| X_ist rfl (L' := [_, _, _, _, _, _]) rfl <| X_ild rfl <| X_i <| X_ald rfl <| X_gr 5 0 (hS.se (by omega)) ⟨rfl, rfl⟩ rfl rfl <| X_i <| X_ia (hS.tr (by omega)) (by first | omega | (simp (disch := omega) only [um_eq, um_na, um_ni, Int.toNat_natCast]; omega)) (by first | omega | (simp (disch := omega) only [um_eq, um_na, um_ni, Int.toNat_natCast]; omega)) rfl <| X_ild rfl <| X_sub <| X_mul <| X_add <| X_ist rfl (L' := [_, _, _, _, _, _]) rfl <| X_i <| X_ild rfl <| X_mul <| X_ist rfl (L' := [_, _, _, _, _, _]) rfl <| X_ild rfl <| X_i <| X_div (by first | omega | (simp (disch := omega) only [um_eq, um_na, um_ni, Int.toNat_natCast]; omega)) (by first | omega | (simp (disch := omega) only [um_eq, um_na, um_ni, Int.toNat_natCast]; omega)) <| X_ist rfl (L' := [_, _, _, _, _, _]) rfl <| X_ald rfl <| X_gr 5 0 (hS.se (by omega)) ⟨rfl, rfl⟩ rfl rfl <| X_i <| X_ia (hS.tr (by omega)) (by first | omega | (simp (disch := omega) only [um_eq, um_na, um_ni, Int.toNat_natCast]; omega)) (by first | omega | (simp (disch := omega) only [um_eq, um_na, um_ni, Int.toNat_natCast]; omega)) rfl <| X_nil) (by first | omega | (simp (disch := omega) only [um_eq, um_na, um_ni, Int.toNat_natCast]; omega)) (by first | rfl | (rw [e]; rfl)) ?_
    refine Rn.ri rfl (X_ild rfl <| X_nil) rfl
  · rw [if_pos e]
    refine Rn.swi (q' := 72) rfl (X_ald rfl <| X_gr 5 0 (hS.se (by omega)) ⟨rfl, rfl⟩ rfl rfl <| X_i <| X_ia (hS.tr (by omega)) (by first | omega | (simp (disch := omega) only [um_eq, um_na, um_ni, Int.toNat_natCast]; omega)) (by first | omega | (simp (disch := omega) only [um_eq, um_na, um_ni, Int.toNat_natCast]; omega)) rfl <| X_ist rfl (L' := [_, _, _, _, _, _]) rfl <| X_ild rfl <| X_i <| X_ald rfl <| X_gr 5 0 (hS.se (by omega)) ⟨rfl, rfl⟩ rfl rfl <| X_i <| X_ia (hS.tr (by omega)) (by first | omega | (simp (disch := omega) only [um_eq, um_na, um_ni, Int.toNat_natCast]; omega)) (by first | omega | (simp (disch := omega) only [um_eq, um_na, um_ni, Int.toNat_natCast]; omega)) rfl <| X_ild rfl <| X_sub <| X_mul <| X_add <| X_ist rfl (L' := [_, _, _, _, _, _]) rfl <| X_i <| X_ild rfl <| X_mul <| X_ist rfl (L' := [_, _, _, _, _, _]) rfl <| X_ild rfl <| X_i <| X_div (by first | omega | (simp (disch := omega) only [um_eq, um_na, um_ni, Int.toNat_natCast]; omega)) (by first | omega | (simp (disch := omega) only [um_eq, um_na, um_ni, Int.toNat_natCast]; omega)) <| X_ist rfl (L' := [_, _, _, _, _, _]) rfl <| X_ald rfl <| X_gr 5 0 (hS.se (by omega)) ⟨rfl, rfl⟩ rfl rfl <| X_i <| X_ia (hS.tr (by omega)) (by first | omega | (simp (disch := omega) only [um_eq, um_na, um_ni, Int.toNat_natCast]; omega)) (by first | omega | (simp (disch := omega) only [um_eq, um_na, um_ni, Int.toNat_natCast]; omega)) rfl <| X_nil) (by first | omega | (simp (disch := omega) only [um_eq, um_na, um_ni, Int.toNat_natCast]; omega)) (by first | rfl | (rw [e]; rfl)) ?_
    refine Rn.ri rfl (X_ild rfl <| X_nil) rfl
  · rw [if_neg (by omega), if_pos e]
    refine Rn.swi (q' := 74) rfl (X_ald rfl <| X_gr 5 0 (hS.se (by omega)) ⟨rfl, rfl⟩ rfl rfl <| X_i <| X_ia (hS.tr (by omega)) (by first | omega | (simp (disch := omega) only [um_eq, um_na, um_ni, Int.toNat_natCast]; omega)) (by first | omega | (simp (disch := omega) only [um_eq, um_na, um_ni, Int.toNat_natCast]; omega)) rfl <| X_ist rfl (L' := [_, _, _, _, _, _]) rfl <| X_ild rfl <| X_i <| X_ald rfl <| X_gr 5 0 (hS.se (by omega)) ⟨rfl, rfl⟩ rfl rfl <| X_i <| X_ia (hS.tr (by omega)) (by first | omega | (simp (disch := omega) only [um_eq, um_na, um_ni, Int.toNat_natCast]; omega)) (by first | omega | (simp (disch := omega) only [um_eq, um_na, um_ni, Int.toNat_natCast]; omega)) rfl <| X_ild rfl <| X_sub <| X_mul <| X_add <| X_ist rfl (L' := [_, _, _, _, _, _]) rfl <| X_i <| X_ild rfl <| X_mul <| X_ist rfl (L' := [_, _, _, _, _, _]) rfl <| X_ild rfl <| X_i <| X_div (by first | omega | (simp (disch := omega) only [um_eq, um_na, um_ni, Int.toNat_natCast]; omega)) (by first | omega | (simp (disch := omega) only [um_eq, um_na, um_ni, Int.toNat_natCast]; omega)) <| X_ist rfl (L' := [_, _, _, _, _, _]) rfl <| X_ald rfl <| X_gr 5 0 (hS.se (by omega)) ⟨rfl, rfl⟩ rfl rfl <| X_i <| X_ia (hS.tr (by omega)) (by first | omega | (simp (disch := omega) only [um_eq, um_na, um_ni, Int.toNat_natCast]; omega)) (by first | omega | (simp (disch := omega) only [um_eq, um_na, um_ni, Int.toNat_natCast]; omega)) rfl <| X_nil) (by first | omega | (simp (disch := omega) only [um_eq, um_na, um_ni, Int.toNat_natCast]; omega)) (by first | rfl | (rw [e]; rfl)) ?_
    refine Rn.ri rfl (X_ild rfl <| X_nil) rfl
  · rw [if_neg (by omega), if_neg (by omega), if_pos e]
    refine Rn.swi (q' := 77) rfl (X_ald rfl <| X_gr 5 0 (hS.se (by omega)) ⟨rfl, rfl⟩ rfl rfl <| X_i <| X_ia (hS.tr (by omega)) (by first | omega | (simp (disch := omega) only [um_eq, um_na, um_ni, Int.toNat_natCast]; omega)) (by first | omega | (simp (disch := omega) only [um_eq, um_na, um_ni, Int.toNat_natCast]; omega)) rfl <| X_ist rfl (L' := [_, _, _, _, _, _]) rfl <| X_ild rfl <| X_i <| X_ald rfl <| X_gr 5 0 (hS.se (by omega)) ⟨rfl, rfl⟩ rfl rfl <| X_i <| X_ia (hS.tr (by omega)) (by first | omega | (simp (disch := omega) only [um_eq, um_na, um_ni, Int.toNat_natCast]; omega)) (by first | omega | (simp (disch := omega) only [um_eq, um_na, um_ni, Int.toNat_natCast]; omega)) rfl <| X_ild rfl <| X_sub <| X_mul <| X_add <| X_ist rfl (L' := [_, _, _, _, _, _]) rfl <| X_i <| X_ild rfl <| X_mul <| X_ist rfl (L' := [_, _, _, _, _, _]) rfl <| X_ild rfl <| X_i <| X_div (by first | omega | (simp (disch := omega) only [um_eq, um_na, um_ni, Int.toNat_natCast]; omega)) (by first | omega | (simp (disch := omega) only [um_eq, um_na, um_ni, Int.toNat_natCast]; omega)) <| X_ist rfl (L' := [_, _, _, _, _, _]) rfl <| X_ald rfl <| X_gr 5 0 (hS.se (by omega)) ⟨rfl, rfl⟩ rfl rfl <| X_i <| X_ia (hS.tr (by omega)) (by first | omega | (simp (disch := omega) only [um_eq, um_na, um_ni, Int.toNat_natCast]; omega)) (by first | omega | (simp (disch := omega) only [um_eq, um_na, um_ni, Int.toNat_natCast]; omega)) rfl <| X_nil) (by first | omega | (simp (disch := omega) only [um_eq, um_na, um_ni, Int.toNat_natCast]; omega)) (by first | rfl | (rw [e]; rfl)) ?_
    refine Rn.ri rfl (X_ild rfl <| X_nil) rfl
  · rw [if_neg (by omega), if_neg (by omega), if_neg (by omega), if_pos e]
    refine Rn.swi (q' := 80) rfl (X_ald rfl <| X_gr 5 0 (hS.se (by omega)) ⟨rfl, rfl⟩ rfl rfl <| X_i <| X_ia (hS.tr (by omega)) (by first | omega | (simp (disch := omega) only [um_eq, um_na, um_ni, Int.toNat_natCast]; omega)) (by first | omega | (simp (disch := omega) only [um_eq, um_na, um_ni, Int.toNat_natCast]; omega)) rfl <| X_ist rfl (L' := [_, _, _, _, _, _]) rfl <| X_ild rfl <| X_i <| X_ald rfl <| X_gr 5 0 (hS.se (by omega)) ⟨rfl, rfl⟩ rfl rfl <| X_i <| X_ia (hS.tr (by omega)) (by first | omega | (simp (disch := omega) only [um_eq, um_na, um_ni, Int.toNat_natCast]; omega)) (by first | omega | (simp (disch := omega) only [um_eq, um_na, um_ni, Int.toNat_natCast]; omega)) rfl <| X_ild rfl <| X_sub <| X_mul <| X_add <| X_ist rfl (L' := [_, _, _, _, _, _]) rfl <| X_i <| X_ild rfl <| X_mul <| X_ist rfl (L' := [_, _, _, _, _, _]) rfl <| X_ild rfl <| X_i <| X_div (by first | omega | (simp (disch := omega) only [um_eq, um_na, um_ni, Int.toNat_natCast]; omega)) (by first | omega | (simp (disch := omega) only [um_eq, um_na, um_ni, Int.toNat_natCast]; omega)) <| X_ist rfl (L' := [_, _, _, _, _, _]) rfl <| X_ald rfl <| X_gr 5 0 (hS.se (by omega)) ⟨rfl, rfl⟩ rfl rfl <| X_i <| X_ia (hS.tr (by omega)) (by first | omega | (simp (disch := omega) only [um_eq, um_na, um_ni, Int.toNat_natCast]; omega)) (by first | omega | (simp (disch := omega) only [um_eq, um_na, um_ni, Int.toNat_natCast]; omega)) rfl <| X_nil) (by first | omega | (simp (disch := omega) only [um_eq, um_na, um_ni, Int.toNat_natCast]; omega)) (by first | rfl | (rw [e]; rfl)) ?_
    refine Rn.ri rfl (X_ild rfl <| X_i <| X_add <| X_nil) rfl
  · rw [if_neg (by omega), if_neg (by omega), if_neg (by omega), if_neg (by omega), if_pos e]
    refine Rn.swi (q' := 86) rfl (X_ald rfl <| X_gr 5 0 (hS.se (by omega)) ⟨rfl, rfl⟩ rfl rfl <| X_i <| X_ia (hS.tr (by omega)) (by first | omega | (simp (disch := omega) only [um_eq, um_na, um_ni, Int.toNat_natCast]; omega)) (by first | omega | (simp (disch := omega) only [um_eq, um_na, um_ni, Int.toNat_natCast]; omega)) rfl <| X_ist rfl (L' := [_, _, _, _, _, _]) rfl <| X_ild rfl <| X_i <| X_ald rfl <| X_gr 5 0 (hS.se (by omega)) ⟨rfl, rfl⟩ rfl rfl <| X_i <| X_ia (hS.tr (by omega)) (by first | omega | (simp (disch := omega) only [um_eq, um_na, um_ni, Int.toNat_natCast]; omega)) (by first | omega | (simp (disch := omega) only [um_eq, um_na, um_ni, Int.toNat_natCast]; omega)) rfl <| X_ild rfl <| X_sub <| X_mul <| X_add <| X_ist rfl (L' := [_, _, _, _, _, _]) rfl <| X_i <| X_ild rfl <| X_mul <| X_ist rfl (L' := [_, _, _, _, _, _]) rfl <| X_ild rfl <| X_i <| X_div (by first | omega | (simp (disch := omega) only [um_eq, um_na, um_ni, Int.toNat_natCast]; omega)) (by first | omega | (simp (disch := omega) only [um_eq, um_na, um_ni, Int.toNat_natCast]; omega)) <| X_ist rfl (L' := [_, _, _, _, _, _]) rfl <| X_ald rfl <| X_gr 5 0 (hS.se (by omega)) ⟨rfl, rfl⟩ rfl rfl <| X_i <| X_ia (hS.tr (by omega)) (by first | omega | (simp (disch := omega) only [um_eq, um_na, um_ni, Int.toNat_natCast]; omega)) (by first | omega | (simp (disch := omega) only [um_eq, um_na, um_ni, Int.toNat_natCast]; omega)) rfl <| X_nil) (by first | omega | (simp (disch := omega) only [um_eq, um_na, um_ni, Int.toNat_natCast]; omega)) (by first | rfl | (rw [e]; rfl)) ?_
    refine Rn.ri rfl (X_ild rfl <| X_ald rfl <| X_gr 5 0 (hS.se (by omega)) ⟨rfl, rfl⟩ rfl rfl <| X_i <| X_ia (hS.tr (by omega)) (by first | omega | (simp (disch := omega) only [um_eq, um_na, um_ni, Int.toNat_natCast]; omega)) (by first | omega | (simp (disch := omega) only [um_eq, um_na, um_ni, Int.toNat_natCast]; omega)) rfl <| X_i <| X_div (by first | omega | (simp (disch := omega) only [um_eq, um_na, um_ni, Int.toNat_natCast]; omega)) (by first | omega | (simp (disch := omega) only [um_eq, um_na, um_ni, Int.toNat_natCast]; omega)) <| X_add <| X_nil) rfl
/-- the least count -/
def lstC (M : Nat → Int → Int) (b : Nat) : Nat → Int
  | 0 => 1000000000
  | n + 1 => if M (b + 16 + 2 * n) 6 < lstC M b n then M (b + 16 + 2 * n) 6 else lstC M b n
theorem lstC_in {n : Nat} (hn : n ≤ 4) (ht : ∀ i, i < n → TrOk M (b + 16 + 2 * i)) : 0 ≤ lstC M b n ∧ lstC M b n ≤ 1000000000 := by
  induction n with
  | zero => unfold lstC; omega
  | succ n ih =>
    have h1 := ih (by omega) (fun i hi => ht i (by omega))
    have h2 := ht n (by omega)
    unfold lstC
    split <;> omega
theorem c_least (hS : isSt T b) (h0 : 0 ≤ M (b + 4) 1) (h4 : M (b + 4) 1 ≤ 4) (ht : ∀ i : Nat, (i : Int) < M (b + 4) 1 → TrOk M (b + 16 + 2 * i)) : Cl S 5 [vR (b + 4)] (T, M) (some (vI (lstC M b (M (b + 4) 1).toNat)), (T, M)) := by
  refine ⟨_, rfl, ?_⟩
  refine Rn.fal rfl (X_i <| X_ist rfl (L' := [_, _, _]) rfl <| X_i <| X_ist rfl (L' := [_, _, _]) rfl <| X_nil) ?_
  have loop : ∀ (k i : Nat), i + k = (M (b + 4) 1).toNat → Rn S 5 5 ([], [some (vR (b + 4)), some (vI (lstC M b i)), some (vI (i : Int))], T, M) (some (vI (lstC M b (M (b + 4) 1).toNat)), (T, M)) := by
    intro k
    induction k with
    | zero =>
      intro i hi
      refine Rn.cge rfl (X_ild rfl <| X_ald rfl <| X_gi 0 1 1 hS.be ⟨rfl, rfl, rfl⟩ (Or.inl rfl) <| X_nil) (by first | omega | (simp (disch := omega) only [um_eq, um_na, um_ni, Int.toNat_natCast]; omega)) (by first | omega | (simp (disch := omega) only [um_eq, um_na, um_ni, Int.toNat_natCast]; omega)) (fun hc => ?_) (fun hc => ?_)
      · have e : i = (M (b + 4) 1).toNat := by omega
        rw [e]
        refine Rn.ri rfl (X_ild rfl <| X_nil) rfl
      · exact absurd hc (by omega)
    | succ k ih =>
      intro i hi
      have l1 := lstC_in (M := M) (b := b) (n := i) (by omega) (fun j hj => ht j (by omega))
      have l2 := ht i (by omega)
      refine Rn.cge rfl (X_ild rfl <| X_ald rfl <| X_gi 0 1 1 hS.be ⟨rfl, rfl, rfl⟩ (Or.inl rfl) <| X_nil) (by first | omega | (simp (disch := omega) only [um_eq, um_na, um_ni, Int.toNat_natCast]; omega)) (by first | omega | (simp (disch := omega) only [um_eq, um_na, um_ni, Int.toNat_natCast]; omega)) (fun hc => ?_) (fun hc => ?_)
      · exact absurd hc (by omega)
      · refine Rn.jto rfl (X_ild rfl <| X_ald rfl <| X_gr 0 0 hS.be ⟨rfl, rfl⟩ rfl rfl <| X_ild rfl <| X_aa hS.sl (by decide) (by first | omega | (simp (disch := omega) only [um_eq, um_na, um_ni, Int.toNat_natCast]; omega)) (by first | omega | (simp (disch := omega) only [um_eq, um_na, um_ni, Int.toNat_natCast]; omega)) rfl (rSl_at (by omega)) <| X_gr 5 0 (hS.se (by omega)) ⟨rfl, rfl⟩ rfl rfl <| X_i <| X_ia (hS.tr (by omega)) (by first | omega | (simp (disch := omega) only [um_eq, um_na, um_ni, Int.toNat_natCast]; omega)) (by first | omega | (simp (disch := omega) only [um_eq, um_na, um_ni, Int.toNat_natCast]; omega)) rfl <| X_min (by first | omega | (simp (disch := omega) only [um_eq, um_na, um_ni, Int.toNat_natCast]; omega)) (by first | omega | (simp (disch := omega) only [um_eq, um_na, um_ni, Int.toNat_natCast]; omega)) rfl <| X_ist rfl (L' := [_, _, _]) rfl <| X_inc rfl (L' := [_, _, _]) rfl <| X_nil) ?_
        exact ih (i + 1) (by omega)
  exact loop (M (b + 4) 1).toNat 0 (by omega)
theorem c_felt {i : Nat} (hS : isSt T b) (h0 : 0 ≤ M (b + 4) 1) (h4 : M (b + 4) 1 ≤ 4) (hi : i < 4) : Cl S 7 [vR (b + 4), vI (i : Int)] (T, M) (some (vI (3 * M (b + 16 + 2 * i) 6 - sumT M b 6 (M (b + 4) 1).toNat)), (T, M)) := by
  refine ⟨_, rfl, ?_⟩
  refine Rn.cal rfl (X_i <| X_ald rfl <| X_gr 0 0 hS.be ⟨rfl, rfl⟩ rfl rfl <| X_ild rfl <| X_aa hS.sl (by decide) (by first | omega | (simp (disch := omega) only [um_eq, um_na, um_ni, Int.toNat_natCast]; omega)) (by first | omega | (simp (disch := omega) only [um_eq, um_na, um_ni, Int.toNat_natCast]; omega)) rfl (rSl_at (by omega)) <| X_gr 5 0 (hS.se (by omega)) ⟨rfl, rfl⟩ rfl rfl <| X_i <| X_ia (hS.tr (by omega)) (by first | omega | (simp (disch := omega) only [um_eq, um_na, um_ni, Int.toNat_natCast]; omega)) (by first | omega | (simp (disch := omega) only [um_eq, um_na, um_ni, Int.toNat_natCast]; omega)) rfl <| X_mul <| X_ald rfl <| X_i <| X_nil) (vs := [_, _]) (rest := [_]) rfl rfl rfl (rcv_v hS.be (by decide)) (c_sum hS h0 h4 (by omega) (by omega)) ?_
  refine Rn.ri rfl (X_sub <| X_nil) rfl
theorem c_bnew (hS : isSt T b) : Cl S 1 [vR (b + 4)] (T, M) (none, (T, um (um (um M (b + 4) 1 0) (b + 4) 2 0) (b + 4) 3 0)) := by
  refine ⟨_, rfl, ?_⟩
  refine Rn.rv rfl (X_ald rfl <| X_i <| X_pi 0 1 1 hS.be ⟨rfl, rfl, rfl⟩ (Or.inl rfl) <| X_ald rfl <| X_i <| X_pi 0 2 2 hS.be ⟨rfl, rfl, rfl⟩ (Or.inl rfl) <| X_ald rfl <| X_i <| X_pi 0 3 3 hS.be ⟨rfl, rfl, rfl⟩ (Or.inl rfl) <| X_nil) rfl
end Mem
end
section
/-! A NIGHT FORESEEN, AND WHAT IT COSTS -/
def setN (M : Nat → Int → Int) (b : Nat) (p : Int × Int × Int) : Nat → Int → Int := um (um (um M (b + 26) 0 p.1) (b + 26) 1 p.2.1) (b + 26) 2 p.2.2
theorem setN_ne {M : Nat → Int → Int} {b a : Nat} {p : Int × Int × Int} (h : a ≠ b + 26) : setN M b p a = M a := by
  funext i
  unfold setN
  rw [um_na h, um_na h, um_na h]
theorem setN_0 {M : Nat → Int → Int} {b : Nat} {p : Int × Int × Int} : setN M b p (b + 26) 0 = p.1 := by
  unfold setN
  rw [um_ni (by omega), um_ni (by omega), um_eq]
theorem setN_1 {M : Nat → Int → Int} {b : Nat} {p : Int × Int × Int} : setN M b p (b + 26) 1 = p.2.1 := by
  unfold setN
  rw [um_ni (by omega), um_eq]
theorem setN_2 {M : Nat → Int → Int} {b : Nat} {p : Int × Int × Int} : setN M b p (b + 26) 2 = p.2.2 := by
  unfold setN
  rw [um_eq]
theorem setN_setN {M : Nat → Int → Int} {b : Nat} {p q : Int × Int × Int} : setN (setN M b p) b q = setN M b q := by
  funext a i
  by_cases h : a = b + 26
  · subst h
    by_cases h0 : i = 0
    · subst h0; rw [setN_0, setN_0]
    · by_cases h1 : i = 1
      · subst h1; rw [setN_1, setN_1]
      · by_cases h2 : i = 2
        · subst h2; rw [setN_2, setN_2]
        · unfold setN
          rw [um_ni h2, um_ni h1, um_ni h0, um_ni h2, um_ni h1, um_ni h0, um_ni h2, um_ni h1, um_ni h0]
  · rw [setN_ne h, setN_ne h, setN_ne h]
theorem waitC_cg {M M' : Nat → Int → Int} {a : Nat} {l : Int} (h : M' a = M a) : waitC M' a l = waitC M a l := by
  unfold waitC
  rw [h]
theorem lightC_cg {M M' : Nat → Int → Int} {a : Nat} {l : Int} (h : M' a = M a) : lightC M' a l = lightC M a l := by
  unfold lightC
  rw [h]
theorem TrOk_cg {M M' : Nat → Int → Int} {a : Nat} (h : M' a = M a) (k : TrOk M a) : TrOk M' a := by
  unfold TrOk
  rw [h]
  exact k
theorem upA_cg {M M' : Nat → Int → Int} {a : Nat} (h : M' a = M a) : upA M' a = upA M a := by
  unfold upA
  rw [h]
theorem lstC_cg {M M' : Nat → Int → Int} {b n : Nat} (h : ∀ i, i < n → M' (b + 16 + 2 * i) = M (b + 16 + 2 * i)) : lstC M' b n = lstC M b n := by
  induction n with
  | zero => rfl
  | succ n ih =>
    unfold lstC
    rw [ih (fun i hi => h i (by omega)), h n (by omega)]
theorem waitC_in {M : Nat → Int → Int} {a : Nat} {l : Int} (ht : TrOk M a) (h0 : 0 ≤ l) (h1 : l ≤ M a 6) : 0 ≤ waitC M a l ∧ waitC M a l ≤ 2000000 := by
  unfold waitC
  split
  · omega
  · split
    · omega
    · split
      · omega
      · split
        · omega
        · split <;> omega
theorem lstC_le {M : Nat → Int → Int} {b n i : Nat} (h : i < n) (ht : ∀ i, i < n → M (b + 16 + 2 * i) 6 ≤ 1000000000) : lstC M b n ≤ M (b + 16 + 2 * i) 6 := by
  induction n with
  | zero => omega
  | succ n ih =>
    unfold lstC
    by_cases e : i = n
    · subst e
      split <;> omega
    · have := ih (by omega) (fun i hi => ht i (by omega))
      split <;> omega
/-- one's own minute by which he would put it out, in order: the minute, who, whether anyhow -/
def nightF (M : Nat → Int → Int) (b : Nat) (l : Int) : Nat → Int × Int × Int
  | 0 => (300, -1, 0)
  | n + 1 =>
    let p := nightF M b l n
    let p1 := if upA M (b + 16 + 2 * n) ∧ (M (b + 16 + 2 * n) 5 < p.1 ∨ (M (b + 16 + 2 * n) 5 = p.1 ∧ p.2.2 = 0)) then (M (b + 16 + 2 * n) 5, (n : Int), 1) else p
    if M (b + 16 + 2 * n) 1 + waitC M (b + 16 + 2 * n) l < p1.1 then (M (b + 16 + 2 * n) 1 + waitC M (b + 16 + 2 * n) l, (n : Int), 0) else p1
theorem nightF_in {M : Nat → Int → Int} {b n : Nat} {l : Int} (l0 : 0 ≤ l) (ht : ∀ i, i < n → TrOk M (b + 16 + 2 * i) ∧ l ≤ M (b + 16 + 2 * i) 6) : 0 ≤ (nightF M b l n).1 ∧ (nightF M b l n).1 ≤ 300 ∧ -1 ≤ (nightF M b l n).2.1 ∧ (nightF M b l n).2.1 < (n : Int) ∧ ((nightF M b l n).2.2 = 0 ∨ (nightF M b l n).2.2 = 1) ∧ ((nightF M b l n).2.1 = -1 → (nightF M b l n).2.2 = 0 ∧ (nightF M b l n).1 = 300) := by
  induction n with
  | zero => unfold nightF; simp
  | succ n ih =>
    have h1 := ih (fun i hi => ht i (by omega))
    have h2 := ht n (by omega)
    have h3 := waitC_in h2.1 l0 h2.2
    unfold nightF
    simp only
    have hc : ∀ q : Int × Int × Int, (0 ≤ q.1 ∧ q.1 ≤ 300 ∧ -1 ≤ q.2.1 ∧ q.2.1 < ((n + 1 : Nat) : Int) ∧ (q.2.2 = 0 ∨ q.2.2 = 1) ∧ (q.2.1 = -1 → q.2.2 = 0 ∧ q.1 = 300)) → (0 ≤ (if M (b + 16 + 2 * n) 1 + waitC M (b + 16 + 2 * n) l < q.1 then (M (b + 16 + 2 * n) 1 + waitC M (b + 16 + 2 * n) l, (n : Int), (0 : Int)) else q).1 ∧ (if M (b + 16 + 2 * n) 1 + waitC M (b + 16 + 2 * n) l < q.1 then (M (b + 16 + 2 * n) 1 + waitC M (b + 16 + 2 * n) l, (n : Int), (0 : Int)) else q).1 ≤ 300 ∧ -1 ≤ (if M (b + 16 + 2 * n) 1 + waitC M (b + 16 + 2 * n) l < q.1 then (M (b + 16 + 2 * n) 1 + waitC M (b + 16 + 2 * n) l, (n : Int), (0 : Int)) else q).2.1 ∧ (if M (b + 16 + 2 * n) 1 + waitC M (b + 16 + 2 * n) l < q.1 then (M (b + 16 + 2 * n) 1 + waitC M (b + 16 + 2 * n) l, (n : Int), (0 : Int)) else q).2.1 < ((n + 1 : Nat) : Int) ∧ ((if M (b + 16 + 2 * n) 1 + waitC M (b + 16 + 2 * n) l < q.1 then (M (b + 16 + 2 * n) 1 + waitC M (b + 16 + 2 * n) l, (n : Int), (0 : Int)) else q).2.2 = 0 ∨ (if M (b + 16 + 2 * n) 1 + waitC M (b + 16 + 2 * n) l < q.1 then (M (b + 16 + 2 * n) 1 + waitC M (b + 16 + 2 * n) l, (n : Int), (0 : Int)) else q).2.2 = 1) ∧ ((if M (b + 16 + 2 * n) 1 + waitC M (b + 16 + 2 * n) l < q.1 then (M (b + 16 + 2 * n) 1 + waitC M (b + 16 + 2 * n) l, (n : Int), (0 : Int)) else q).2.1 = -1 → (if M (b + 16 + 2 * n) 1 + waitC M (b + 16 + 2 * n) l < q.1 then (M (b + 16 + 2 * n) 1 + waitC M (b + 16 + 2 * n) l, (n : Int), (0 : Int)) else q).2.2 = 0 ∧ (if M (b + 16 + 2 * n) 1 + waitC M (b + 16 + 2 * n) l < q.1 then (M (b + 16 + 2 * n) 1 + waitC M (b + 16 + 2 * n) l, (n : Int), (0 : Int)) else q).1 = 300)) := by
      intro q hq
      by_cases hw : M (b + 16 + 2 * n) 1 + waitC M (b + 16 + 2 * n) l < q.1
      · rw [if_pos hw]
        refine ⟨by show 0 ≤ M (b + 16 + 2 * n) 1 + waitC M (b + 16 + 2 * n) l; omega, by show M (b + 16 + 2 * n) 1 + waitC M (b + 16 + 2 * n) l ≤ 300; omega, by show (-1 : Int) ≤ n; omega, by show (n : Int) < ((n + 1 : Nat) : Int); omega, Or.inl rfl, fun e => ?_⟩
        have e : (n : Int) = -1 := e
        omega
      · rw [if_neg hw]
        exact hq
    by_cases hu : upA M (b + 16 + 2 * n) ∧ (M (b + 16 + 2 * n) 5 < (nightF M b l n).1 ∨ (M (b + 16 + 2 * n) 5 = (nightF M b l n).1 ∧ (nightF M b l n).2.2 = 0))
    · rw [if_pos hu]
      refine hc _ ⟨by show 0 ≤ M (b + 16 + 2 * n) 5; omega, by show M (b + 16 + 2 * n) 5 ≤ 300; omega, by show (-1 : Int) ≤ n; omega, by show (n : Int) < ((n + 1 : Nat) : Int); omega, Or.inr rfl, fun e => ?_⟩
      have e : (n : Int) = -1 := e
      omega
    · rw [if_neg hu]
      exact hc _ ⟨h1.1, h1.2.1, h1.2.2.1, by omega, h1.2.2.2.2.1, h1.2.2.2.2.2⟩
section Night
variable {S : List Int} {T : List Sh} {M : Nat → Int → Int} {b : Nat} {h : Hp}
theorem c_bforesee (hS : isSt T b) (h0 : 0 ≤ M (b + 4) 1) (h4 : M (b + 4) 1 ≤ 4) (ht : ∀ i : Nat, (i : Int) < M (b + 4) 1 → TrOk M (b + 16 + 2 * i)) : Cl S 8 [vR (b + 4), vR (b + 26)] (T, M) (none, (T, setN M b (nightF M b (lstC M b (M (b + 4) 1).toNat) (M (b + 4) 1).toNat))) := by
  refine ⟨_, rfl, ?_⟩
  refine Rn.cal rfl (X_ald rfl <| X_i <| X_i <| X_i <| X_nil) (vs := [_, _, _, _]) (rest := []) rfl rfl rfl (rcv_v hS.ni (by decide)) (c_endAt hS (Or.inl rfl)) ?_
  have e0 : um (um (um M (b + 26) 0 300) (b + 26) 1 (-1)) (b + 26) 2 0 = setN M b (300, -1, 0) := rfl
  rw [e0]
  have hz : ∀ p, setN M b p (b + 4) = M (b + 4) := fun p => setN_ne (by omega)
  have ha : ∀ p i, i < 4 → setN M b p (b + 16 + 2 * i) = M (b + 16 + 2 * i) := fun p i hi => setN_ne (by omega)
  have el : lstC (setN M b (300, -1, 0)) b (M (b + 4) 1).toNat = lstC M b (M (b + 4) 1).toNat := lstC_cg (fun i hi => ha _ i (by omega))
  have cl := c_least (S := S) (M := setN M b (300, -1, 0)) hS (by rw [hz]; exact h0) (by rw [hz]; exact h4) (fun i hi => by rw [hz] at hi; exact TrOk_cg (ha _ i (by omega)) (ht i hi))
  rw [hz, el] at cl
  refine Rn.cal rfl (X_ald rfl <| X_nil) (vs := [_]) (rest := []) rfl rfl rfl (rcv_v hS.be (by decide)) (cl) ?_
  refine Rn.fal rfl (X_ist rfl (L' := [_, _, _, _, _, _, _]) rfl <| X_i <| X_ist rfl (L' := [_, _, _, _, _, _, _]) rfl <| X_nil) ?_
  have l0 := lstC_in (M := M) (b := b) (n := (M (b + 4) 1).toNat) (by omega) (fun i hi => ht i (by omega))
  generalize hl : lstC M b (M (b + 4) 1).toNat = l at *
  have hle : ∀ i : Nat, (i : Int) < M (b + 4) 1 → TrOk M (b + 16 + 2 * i) ∧ l ≤ M (b + 16 + 2 * i) 6 := fun i hi => ⟨ht i hi, by
    rw [← hl]
    exact lstC_le (by omega) (fun j hj => by have := ht j (by omega); omega)⟩
  have loop : ∀ (k i : Nat) (x4 x5 x6 : Option AV), i + k = (M (b + 4) 1).toNat → Rn S 8 16 ([], [some (vR (b + 4)), some (vR (b + 26)), some (vI l), some (vI (i : Int)), x4, x5, x6], T, setN M b (nightF M b l i)) (none, (T, setN M b (nightF M b l (M (b + 4) 1).toNat))) := by
    intro k
    induction k with
    | zero =>
      intro i x4 x5 x6 hi
      have e : i = (M (b + 4) 1).toNat := by omega
      refine Rn.cge rfl (X_ild rfl <| X_ald rfl <| X_gi 0 1 1 hS.be ⟨rfl, rfl, rfl⟩ (Or.inl rfl) <| X_nil) (by first | omega | (simp (disch := omega) only [um_eq, um_na, um_ni, Int.toNat_natCast]; omega)) (by rw [hz]; omega) (fun hc => ?_) (fun hc => ?_)
      · rw [e]
        refine Rn.rv rfl (X_nil) rfl
      · rw [hz] at hc
        exact absurd hc (by omega)
    | succ k ih =>
      intro i x4 x5 x6 hi
      have hi4 : i < 4 := by omega
      have hti := hle i (by omega)
      have hn := nightF_in (M := M) (b := b) (n := i) l0.1 (fun j hj => hle j (by omega))
      have hw := waitC_in hti.1 l0.1 hti.2
      have em : ∀ p, setN M b p (b + 16 + 2 * i) = M (b + 16 + 2 * i) := fun p => ha p i hi4
      refine Rn.cge rfl (X_ild rfl <| X_ald rfl <| X_gi 0 1 1 hS.be ⟨rfl, rfl, rfl⟩ (Or.inl rfl) <| X_nil) (by first | omega | (simp (disch := omega) only [um_eq, um_na, um_ni, Int.toNat_natCast]; omega)) (by rw [hz]; omega) (fun hc => ?_) (fun hc => ?_)
      · rw [hz] at hc
        exact absurd hc (by omega)
      · clear hc
        have cu := c_isUp (S := S) (M := setN M b (nightF M b l i)) hS hi4 (TrOk_cg (em _) hti.1)
        have eu : (if upA (setN M b (nightF M b l i)) (b + 16 + 2 * i) then (1 : Int) else 0) = if upA M (b + 16 + 2 * i) then 1 else 0 := by simp only [upA_cg (em (nightF M b l i))]
        rw [eu] at cu
        refine Rn.cal rfl (X_ald rfl <| X_gr 0 0 hS.be ⟨rfl, rfl⟩ rfl rfl <| X_ild rfl <| X_aa hS.sl (by decide) (by first | omega | (simp (disch := omega) only [um_eq, um_na, um_ni, Int.toNat_natCast]; omega)) (by first | omega | (simp (disch := omega) only [um_eq, um_na, um_ni, Int.toNat_natCast]; omega)) rfl (rSl_at (by omega)) <| X_ast rfl (L' := [_, _, _, _, _, _, _]) rfl <| X_ald rfl <| X_gr 5 0 (hS.se (by omega)) ⟨rfl, rfl⟩ rfl rfl <| X_i <| X_ia (hS.tr (by omega)) (by first | omega | (simp (disch := omega) only [um_eq, um_na, um_ni, Int.toNat_natCast]; omega)) (by first | omega | (simp (disch := omega) only [um_eq, um_na, um_ni, Int.toNat_natCast]; omega)) rfl <| X_ist rfl (L' := [_, _, _, _, _, _, _]) rfl <| X_ald rfl <| X_nil) (vs := [_]) (rest := []) rfl rfl rfl (rcv_v (hS.se (by omega)) (by decide)) (cu) ?_
        have e5 : setN M b (nightF M b l i) (b + 16 + 2 * i) 5 = M (b + 16 + 2 * i) 5 := by rw [em]
        show Rn S 8 46 ([vI (if upA M (b + 16 + 2 * i) then 1 else 0)], [some (vR (b + 4)), some (vR (b + 26)), some (vI l), some (vI (i : Int)), some (vR (b + 15 + 2 * i)), some (vI (setN M b (nightF M b l i) (b + 16 + 2 * i) 5)), x6], T, setN M b (nightF M b l i)) _
        rw [e5]
        -- the second half, from any night that the first leaves
        have tail : ∀ p1 : Int × Int × Int, (0 ≤ p1.1 ∧ p1.1 ≤ 300) → nightF M b l (i + 1) = (if M (b + 16 + 2 * i) 1 + waitC M (b + 16 + 2 * i) l < p1.1 then (M (b + 16 + 2 * i) 1 + waitC M (b + 16 + 2 * i) l, (i : Int), 0) else p1) → Rn S 8 82 ([], [some (vR (b + 4)), some (vR (b + 26)), some (vI l), some (vI (i : Int)), some (vR (b + 15 + 2 * i)), some (vI (M (b + 16 + 2 * i) 5)), x6], T, setN M b p1) (none, (T, setN M b (nightF M b l (M (b + 4) 1).toNat))) := by
          intro p1 hp1 hf
          have cw := c_waits (S := S) (M := setN M b p1) (l := l) hS hi4 (TrOk_cg (em _) hti.1)
          rw [waitC_cg (em p1)] at cw
          refine Rn.cal rfl (X_ald rfl <| X_gr 5 0 (hS.se (by omega)) ⟨rfl, rfl⟩ rfl rfl <| X_i <| X_ia (hS.tr (by omega)) (by first | omega | (simp (disch := omega) only [um_eq, um_na, um_ni, Int.toNat_natCast]; omega)) (by first | omega | (simp (disch := omega) only [um_eq, um_na, um_ni, Int.toNat_natCast]; omega)) rfl <| X_ald rfl <| X_ild rfl <| X_nil) (vs := [_, _]) (rest := [_]) rfl rfl rfl (rcv_v (hS.se (by omega)) (by decide)) (cw) ?_
          have e1 : setN M b p1 (b + 16 + 2 * i) 1 = M (b + 16 + 2 * i) 1 := by rw [em]
          show Rn S 8 95 ([vI (waitC M (b + 16 + 2 * i) l), vI (setN M b p1 (b + 16 + 2 * i) 1)], _, T, setN M b p1) _
          rw [e1]
          refine Rn.cge rfl (X_add <| X_ist rfl (L' := [_, _, _, _, _, _, _]) rfl <| X_ild rfl <| X_ald rfl <| X_gi 2 0 0 hS.ni ⟨rfl, rfl, rfl⟩ (Or.inl rfl) <| X_nil) (by omega) (by rw [setN_0]; omega) (fun hc => ?_) (fun hc => ?_)
          · rw [setN_0] at hc
            rw [if_neg (by omega)] at hf
            refine Rn.jto rfl (X_inc rfl (L' := [_, _, _, _, _, _, _]) rfl <| X_nil) ?_
            rw [← hf]
            exact ih (i + 1) _ _ _ (by omega)
          · rw [setN_0] at hc
            rw [if_pos (by omega)] at hf
            refine Rn.cal rfl (X_ald rfl <| X_ild rfl <| X_ild rfl <| X_i <| X_nil) (vs := [_, _, _, _]) (rest := []) rfl rfl rfl (rcv_v hS.ni (by decide)) (c_endAt hS (Or.inl rfl)) ?_
            refine Rn.jto rfl (X_inc rfl (L' := [_, _, _, _, _, _, _]) rfl <| X_nil) ?_
            have e9 : um (um (um (setN M b p1) (b + 26) 0 (M (b + 16 + 2 * i) 1 + waitC M (b + 16 + 2 * i) l)) (b + 26) 1 (i : Int)) (b + 26) 2 0 = setN M b (nightF M b l (i + 1)) := by
              rw [hf]
              exact setN_setN (p := p1) (q := (_, _, 0))
            show Rn S 8 16 ([], _, T, um (um (um (setN M b p1) (b + 26) 0 (M (b + 16 + 2 * i) 1 + waitC M (b + 16 + 2 * i) l)) (b + 26) 1 (i : Int)) (b + 26) 2 0) _
            rw [e9]
            exact ih (i + 1) _ _ _ (by omega)
        by_cases hu : upA M (b + 16 + 2 * i)
        · rw [if_pos hu]
          refine Rn.ieq rfl (X_nil) (by first | omega | (simp (disch := omega) only [um_eq, um_na, um_ni, Int.toNat_natCast]; omega)) (fun hc => ?_) (fun hc => ?_)
          · exact absurd hc (by omega)
          · clear hc
            have up : (M (b + 16 + 2 * i) 5 < (nightF M b l i).1 ∨ (M (b + 16 + 2 * i) 5 = (nightF M b l i).1 ∧ (nightF M b l i).2.2 = 0)) → Rn S 8 74 ([], [some (vR (b + 4)), some (vR (b + 26)), some (vI l), some (vI (i : Int)), some (vR (b + 15 + 2 * i)), some (vI (M (b + 16 + 2 * i) 5)), x6], T, setN M b (nightF M b l i)) (none, (T, setN M b (nightF M b l (M (b + 4) 1).toNat))) := by
              intro hc
              refine Rn.cal rfl (X_ald rfl <| X_ild rfl <| X_ild rfl <| X_i <| X_nil) (vs := [_, _, _, _]) (rest := []) rfl rfl rfl (rcv_v hS.ni (by decide)) (c_endAt hS (Or.inr rfl)) ?_
              have e9 : um (um (um (setN M b (nightF M b l i)) (b + 26) 0 (M (b + 16 + 2 * i) 5)) (b + 26) 1 (i : Int)) (b + 26) 2 1 = setN M b (M (b + 16 + 2 * i) 5, (i : Int), 1) := setN_setN (p := nightF M b l i) (q := (_, _, 1))
              show Rn S 8 82 ([], _, T, um (um (um (setN M b (nightF M b l i)) (b + 26) 0 (M (b + 16 + 2 * i) 5)) (b + 26) 1 (i : Int)) (b + 26) 2 1) _
              rw [e9]
              refine tail _ (by simp only; omega) ?_
              rw [nightF]
              try simp only
              rw [if_pos (c := upA M (b + 16 + 2 * i) ∧ _) ⟨hu, hc⟩]
            have nup : ¬ (M (b + 16 + 2 * i) 5 < (nightF M b l i).1 ∨ (M (b + 16 + 2 * i) 5 = (nightF M b l i).1 ∧ (nightF M b l i).2.2 = 0)) → Rn S 8 82 ([], [some (vR (b + 4)), some (vR (b + 26)), some (vI l), some (vI (i : Int)), some (vR (b + 15 + 2 * i)), some (vI (M (b + 16 + 2 * i) 5)), x6], T, setN M b (nightF M b l i)) (none, (T, setN M b (nightF M b l (M (b + 4) 1).toNat))) := by
              intro hc
              refine tail _ ⟨hn.1, hn.2.1⟩ ?_
              rw [nightF]
              try simp only
              rw [if_neg (c := upA M (b + 16 + 2 * i) ∧ _) (fun q => hc q.2)]
            refine Rn.clt rfl (X_ild rfl <| X_ald rfl <| X_gi 2 0 0 hS.ni ⟨rfl, rfl, rfl⟩ (Or.inl rfl) <| X_nil) (by omega) (by rw [setN_0]; omega) (fun hc => ?_) (fun hc => ?_)
            · rw [setN_0] at hc
              exact up (Or.inl hc)
            · rw [setN_0] at hc
              have hc0 := hc
              refine Rn.cne rfl (X_ild rfl <| X_ald rfl <| X_gi 2 0 0 hS.ni ⟨rfl, rfl, rfl⟩ (Or.inl rfl) <| X_nil) (by omega) (by rw [setN_0]; omega) (fun hc => ?_) (fun hc => ?_)
              · rw [setN_0] at hc
                exact nup (by omega)
              · rw [setN_0] at hc
                have hc1 := hc
                refine Rn.ine rfl (X_ald rfl <| X_gi 2 2 2 hS.ni ⟨rfl, rfl, rfl⟩ (Or.inr rfl) <| X_nil) (by rw [setN_2]; omega) (fun hc => ?_) (fun hc => ?_)
                · rw [setN_2] at hc
                  exact nup (by omega)
                · rw [setN_2] at hc
                  exact up (Or.inr ⟨by omega, hc⟩)
        · rw [if_neg hu]
          refine Rn.ieq rfl (X_nil) (by first | omega | (simp (disch := omega) only [um_eq, um_na, um_ni, Int.toNat_natCast]; omega)) (fun hc => ?_) (fun hc => ?_)
          · refine tail _ ⟨hn.1, hn.2.1⟩ ?_
            rw [nightF]
            try simp only
            rw [if_neg (c := upA M (b + 16 + 2 * i) ∧ _) (fun q => hu q.1)]
          · exact absurd rfl hc
  exact loop (M (b + 4) 1).toNat 0 _ _ _ (by omega)
end Night
end
section
/-! COPIES, NEW ROOMS -/
theorem um_fn {M : Nat → Int → Int} {a a' : Nat} {i v : Int} (h : a' ≠ a) : um M a i v a' = M a' := funext (fun _ => um_na h)
theorem cpm_fn {M : Nat → Int → Int} {a d a' : Nat} {x y n : Int} (h : a' ≠ d) : cpm M a d x y n a' = M a' := funext (fun _ => if_neg (fun q => h q.1))
theorem cpm_in {M : Nat → Int → Int} {a d : Nat} {n k : Int} (h0 : 0 ≤ k) (h1 : k < n) : cpm M a d 0 0 n d k = M a k := by
  unfold cpm
  rw [if_pos ⟨rfl, h0, by omega⟩]
  congr 1
  omega
def fillM (M : Nat → Int → Int) (a : Nat) (n v : Int) : Nat → Int → Int := fun a' i => if a' = a ∧ 0 ≤ i ∧ i < n then v else M a' i
theorem fillM_fn {M : Nat → Int → Int} {a a' : Nat} {n v : Int} (h : a' ≠ a) : fillM M a n v a' = M a' := funext (fun _ => if_neg (fun q => h q.1))
theorem fillM_in {M : Nat → Int → Int} {a : Nat} {n v k : Int} (h0 : 0 ≤ k) (h1 : k < n) : fillM M a n v a k = v := if_pos ⟨rfl, h0, h1⟩
theorem fillM_0 {M : Nat → Int → Int} {a : Nat} {v : Int} : fillM M a 0 v = M := by
  funext a' i
  unfold fillM
  rw [if_neg (by omega)]
theorem fillM_s {M : Nat → Int → Int} {a i : Nat} {v : Int} : um (fillM M a i v) a i v = fillM M a ((i + 1 : Nat) : Int) v := by
  funext a' k
  unfold um fillM
  by_cases h1 : a' = a ∧ k = (i : Int)
  · rw [if_pos h1, if_pos ⟨h1.1, by omega, by omega⟩]
  · rw [if_neg h1]
    by_cases h2 : a' = a ∧ 0 ≤ k ∧ k < (i : Int)
    · rw [if_pos h2, if_pos ⟨h2.1, by omega, by omega⟩]
    · rw [if_neg h2, if_neg (fun q => h1 ⟨q.1, by
        by_cases e : k = (i : Int)
        · exact e
        · exact absurd ⟨q.1, q.2.1, by omega⟩ h2⟩)]
section Copy
variable {S : List Int} {T : List Sh} {M : Nat → Int → Int} {b o : Nat} {h : Hp}
theorem c_fill {a n : Nat} {v : Int} (hA : T[a]? = some (9, n, nor)) (hn : n ≤ 1000) : Cl S 203 [vR a, vI v] (T, M) (none, (T, fillM M a (n : Int) v)) := by
  have hb : Nat.ble n 1000 = true := Nat.ble_eq_true_of_le hn
  refine ⟨_, rfl, ?_⟩
  refine Rn.fal rfl (X_i <| X_ist rfl (L' := [_, _, _, _]) rfl <| X_ald rfl <| X_len hA (by decide) <| X_ist rfl (L' := [_, _, _, _]) rfl <| X_nil) ?_
  have loop : ∀ (k i : Nat), i + k = n → Rn S 203 5 ([], [some (vR a), some (vI v), some (vI (i : Int)), some (vI (n : Int))], T, fillM M a i v) (none, (T, fillM M a (n : Int) v)) := by
    intro k
    induction k with
    | zero =>
      intro i hi
      have e : i = n := by omega
      refine Rn.cge rfl (X_ild rfl <| X_ild rfl <| X_nil) (by first | omega | (simp (disch := omega) only [um_eq, um_na, um_ni, Int.toNat_natCast]; omega)) (by first | omega | (simp (disch := omega) only [um_eq, um_na, um_ni, Int.toNat_natCast]; omega)) (fun hc => ?_) (fun hc => ?_)
      · rw [e]
        refine Rn.rv rfl (X_nil) rfl
      · exact absurd hc (by omega)
    | succ k ih =>
      intro i hi
      refine Rn.cge rfl (X_ild rfl <| X_ild rfl <| X_nil) (by first | omega | (simp (disch := omega) only [um_eq, um_na, um_ni, Int.toNat_natCast]; omega)) (by first | omega | (simp (disch := omega) only [um_eq, um_na, um_ni, Int.toNat_natCast]; omega)) (fun hc => ?_) (fun hc => ?_)
      · exact absurd hc (by omega)
      · refine Rn.jto rfl (X_ald rfl <| X_ild rfl <| X_ild rfl <| X_is hA (by omega) (by omega) hb <| X_inc rfl (L' := [_, _, _, _]) rfl <| X_nil) ?_
        rw [fillM_s]
        exact ih (i + 1) (by omega)
  have e0 := loop n 0 (by omega)
  have e1 : fillM M a ((0 : Nat) : Int) v = M := fillM_0
  rw [e1] at e0
  exact e0
/-- a room anew: what it has behind layOut -/
def LayP (M M' : Nat → Int → Int) (b : Nat) (w h : Int) : Prop := M' (b + 1) 0 = w ∧ M' (b + 1) 1 = h ∧ M' (b + 1) 2 = 0 ∧ M' (b + 1) 3 = w * h - 1 ∧ M' (b + 1) 4 = 0 ∧ M' (b + 1) 5 = 0 ∧ M' (b + 1) 8 = -1 ∧ (∀ c, 0 ≤ c → c < 49 → M' (b + 2) c = 0) ∧ (∀ a, a ≠ b + 1 → a ≠ b + 2 → M' a = M a)
theorem c_layOut {w h : Int} (hS : isSt T b) : ∃ M', Cl S 14 [vR (b + 1), vI w, vI h] (T, M) (none, (T, M')) ∧ LayP M M' b w h := by
  refine ⟨um (fillM (um (um (um (um (um (um M (b + 1) 0 w) (b + 1) 1 h) (b + 1) 2 0) (b + 1) 3 (w * h - 1)) (b + 1) 4 0) (b + 1) 5 0) (b + 2) 49 0) (b + 1) 8 (-1), ⟨_, rfl, ?_⟩, ?_⟩
  · refine Rn.cal rfl (X_ald rfl <| X_ild rfl <| X_pi 1 0 0 hS.fl ⟨rfl, rfl, rfl⟩ (Or.inl rfl) <| X_ald rfl <| X_ild rfl <| X_pi 1 1 1 hS.fl ⟨rfl, rfl, rfl⟩ (Or.inl rfl) <| X_ald rfl <| X_i <| X_pi 1 2 2 hS.fl ⟨rfl, rfl, rfl⟩ (Or.inl rfl) <| X_ald rfl <| X_ald rfl <| X_gi 1 0 0 hS.fl ⟨rfl, rfl, rfl⟩ (Or.inl rfl) <| X_ald rfl <| X_gi 1 1 1 hS.fl ⟨rfl, rfl, rfl⟩ (Or.inl rfl) <| X_mul <| X_i <| X_sub <| X_pi 1 3 3 hS.fl ⟨rfl, rfl, rfl⟩ (Or.inl rfl) <| X_ald rfl <| X_i <| X_pi 1 4 4 hS.fl ⟨rfl, rfl, rfl⟩ (Or.inl rfl) <| X_ald rfl <| X_i <| X_pi 1 5 5 hS.fl ⟨rfl, rfl, rfl⟩ (Or.inl rfl) <| X_ald rfl <| X_gr 1 6 hS.fl ⟨rfl, rfl⟩ rfl rfl <| X_i <| X_nil) (vs := [_, _]) (rest := []) rfl rfl rfl rfl (c_fill hS.th (by decide)) ?_
    have e : um (um (um (um M (b + 1) 0 w) (b + 1) 1 h) (b + 1) 2 0) (b + 1) 3 (um (um (um M (b + 1) 0 w) (b + 1) 1 h) (b + 1) 2 0 (b + 1) 0 * um (um (um M (b + 1) 0 w) (b + 1) 1 h) (b + 1) 2 0 (b + 1) 1 - 1) = um (um (um (um M (b + 1) 0 w) (b + 1) 1 h) (b + 1) 2 0) (b + 1) 3 (w * h - 1) := by
      simp (disch := omega) only [um_eq, um_ni]
    rw [e]
    refine Rn.rv rfl (X_ald rfl <| X_i <| X_pi 1 8 8 hS.fl ⟨rfl, rfl, rfl⟩ (Or.inl rfl) <| X_nil) rfl
  · have f2 : ∀ c, fillM (um (um (um (um (um (um M (b + 1) 0 w) (b + 1) 1 h) (b + 1) 2 0) (b + 1) 3 (w * h - 1)) (b + 1) 4 0) (b + 1) 5 0) (b + 2) 49 0 (b + 1) c = (um (um (um (um (um (um M (b + 1) 0 w) (b + 1) 1 h) (b + 1) 2 0) (b + 1) 3 (w * h - 1)) (b + 1) 4 0) (b + 1) 5 0) (b + 1) c := fun c => by rw [fillM_fn (by omega)]
    refine ⟨?_, ?_, ?_, ?_, ?_, ?_, um_eq, fun c c0 c1 => ?_, fun a a1 a2 => ?_⟩
    · rw [um_ni (by omega), f2]; simp (disch := omega) only [um_eq, um_ni]
    · rw [um_ni (by omega), f2]; simp (disch := omega) only [um_eq, um_ni]
    · rw [um_ni (by omega), f2]; simp (disch := omega) only [um_eq, um_ni]
    · rw [um_ni (by omega), f2]; simp (disch := omega) only [um_eq, um_ni]
    · rw [um_ni (by omega), f2]; simp (disch := omega) only [um_eq, um_ni]
    · rw [um_ni (by omega), f2]; simp (disch := omega) only [um_eq, um_ni]
    · rw [um_na (by omega), fillM_in c0 c1]
    · rw [um_fn a1, fillM_fn a2, um_fn a1, um_fn a1, um_fn a1, um_fn a1, um_fn a1, um_fn a1]
/-- State.startAnew -/
def NewP (M M' : Nat → Int → Int) (b : Nat) (w h : Int) : Prop := LayP M M' b w h ∧ True
theorem c_startAnew {w h : Int} (hS : isSt T b) : ∃ M', Cl S 54 [vR b, vI w, vI h] (T, M) (none, (T, M')) ∧ (M' (b + 1) 0 = w ∧ M' (b + 1) 1 = h ∧ M' (b + 1) 2 = 0 ∧ M' (b + 1) 3 = w * h - 1 ∧ M' (b + 1) 4 = 0 ∧ M' (b + 1) 5 = 0 ∧ M' (b + 1) 8 = -1 ∧ (∀ c, 0 ≤ c → c < 49 → M' (b + 2) c = 0)) ∧ (M' (b + 4) 1 = 0 ∧ M' (b + 4) 2 = 0 ∧ M' (b + 4) 3 = 0) ∧ M' (b + 23) 0 = 0 ∧ (∀ a, a ≠ b + 1 → a ≠ b + 2 → a ≠ b + 4 → a ≠ b + 23 → M' a = M a) := by
  obtain ⟨M1, c1, p1, p2, p3, p4, p5, p6, p7, p8, p9⟩ := c_layOut (S := S) (T := T) (M := M) (b := b) (w := w) (h := h) hS
  refine ⟨um (um (um (um M1 (b + 4) 1 0) (b + 4) 2 0) (b + 4) 3 0) (b + 23) 0 0, ⟨_, rfl, ?_⟩, ?_, ?_, um_eq, ?_⟩
  · refine Rn.cal rfl (X_ald rfl <| X_gr 6 0 hS.st ⟨rfl, rfl⟩ rfl rfl <| X_ild rfl <| X_ild rfl <| X_nil) (vs := [_, _, _]) (rest := []) rfl rfl rfl (rcv_v hS.fl (by decide)) (c1) ?_
    refine Rn.cal rfl (X_ald rfl <| X_gr 6 1 hS.st ⟨rfl, rfl⟩ rfl rfl <| X_nil) (vs := [_]) (rest := []) rfl rfl rfl (rcv_v hS.be (by decide)) (c_bnew hS) ?_
    refine Rn.rv rfl (X_ald rfl <| X_gr 6 2 hS.st ⟨rfl, rfl⟩ rfl rfl <| X_i <| X_pi 3 0 0 hS.no ⟨rfl, rfl, rfl⟩ (Or.inl rfl) <| X_nil) rfl
  · simp (disch := omega) only [um_na]
    exact ⟨p1, p2, p3, p4, p5, p6, p7, p8⟩
  · simp (disch := omega) only [um_eq, um_na, um_ni]
    exact ⟨trivial, trivial, trivial⟩
  · intro a a1 a2 a3 a4
    rw [um_fn a4, um_fn a3, um_fn a3, um_fn a3]
    exact p9 a a1 a2
end Copy
end
section
/-! COPIES OF A STATE -/
section State
variable {S : List Int} {T : List Sh} {M : Nat → Int → Int} {b o : Nat} {h : Hp}
abbrev Apart (b o : Nat) : Prop := o + 27 ≤ b ∨ b + 27 ≤ o
/-- the end of a method without an answer, the heap under another name -/
theorem Rn.eqv {m pc : Nat} {σ : St} {r r' : Option AV × Hp} (h : Rn S m pc σ r) (e : r = r') : Rn S m pc σ r' := e ▸ h
theorem c_fcopy (hS : isSt T b) (hO : isSt T o) (hp : Apart b o) : ∃ M', Cl S 15 [vR (b + 1), vR (o + 1)] (T, M) (none, (T, M')) ∧ (M' (b + 1) 0 = M (o + 1) 0 ∧ M' (b + 1) 1 = M (o + 1) 1 ∧ M' (b + 1) 2 = M (o + 1) 2 ∧ M' (b + 1) 3 = M (o + 1) 3 ∧ M' (b + 1) 4 = M (o + 1) 4 ∧ M' (b + 1) 5 = M (o + 1) 5 ∧ M' (b + 1) 8 = M (o + 1) 8) ∧ (∀ c, 0 ≤ c → c < 49 → M' (b + 2) c = M (o + 2) c) ∧ (∀ a, a ≠ b + 1 → a ≠ b + 2 → M' a = M a) := by
  have n1 : o + 1 ≠ b + 1 := by omega
  have n2 : o + 1 ≠ b + 2 := by omega
  have n3 : o + 2 ≠ b + 1 := by omega
  have n4 : b + 1 ≠ b + 2 := by omega
  refine ⟨um (cpm (um (um (um (um (um (um M (b + 1) 0 (M (o + 1) 0)) (b + 1) 1 (M (o + 1) 1)) (b + 1) 2 (M (o + 1) 2)) (b + 1) 3 (M (o + 1) 3)) (b + 1) 4 (M (o + 1) 4)) (b + 1) 5 (M (o + 1) 5)) (o + 2) (b + 2) 0 0 49) (b + 1) 8 (M (o + 1) 8), ⟨_, rfl, ?_⟩, ?_, ?_, ?_⟩
  · obtain ⟨N, hN, eN⟩ : ∃ N, Rn S 15 0 ([], [some (vR (b + 1)), some (vR (o + 1))], T, M) (none, (T, N)) ∧ N = um (cpm (um (um (um (um (um (um M (b + 1) 0 (M (o + 1) 0)) (b + 1) 1 (M (o + 1) 1)) (b + 1) 2 (M (o + 1) 2)) (b + 1) 3 (M (o + 1) 3)) (b + 1) 4 (M (o + 1) 4)) (b + 1) 5 (M (o + 1) 5)) (o + 2) (b + 2) 0 0 49) (b + 1) 8 (M (o + 1) 8) := ⟨_, (Rn.rv rfl (X_ald rfl <| X_ald rfl <| X_gi 1 0 0 hO.fl ⟨rfl, rfl, rfl⟩ (Or.inl rfl) <| X_pi 1 0 0 hS.fl ⟨rfl, rfl, rfl⟩ (Or.inl rfl) <| X_ald rfl <| X_ald rfl <| X_gi 1 1 1 hO.fl ⟨rfl, rfl, rfl⟩ (Or.inl rfl) <| X_pi 1 1 1 hS.fl ⟨rfl, rfl, rfl⟩ (Or.inl rfl) <| X_ald rfl <| X_ald rfl <| X_gi 1 2 2 hO.fl ⟨rfl, rfl, rfl⟩ (Or.inl rfl) <| X_pi 1 2 2 hS.fl ⟨rfl, rfl, rfl⟩ (Or.inl rfl) <| X_ald rfl <| X_ald rfl <| X_gi 1 3 3 hO.fl ⟨rfl, rfl, rfl⟩ (Or.inl rfl) <| X_pi 1 3 3 hS.fl ⟨rfl, rfl, rfl⟩ (Or.inl rfl) <| X_ald rfl <| X_ald rfl <| X_gi 1 4 4 hO.fl ⟨rfl, rfl, rfl⟩ (Or.inl rfl) <| X_pi 1 4 4 hS.fl ⟨rfl, rfl, rfl⟩ (Or.inl rfl) <| X_ald rfl <| X_ald rfl <| X_gi 1 5 5 hO.fl ⟨rfl, rfl, rfl⟩ (Or.inl rfl) <| X_pi 1 5 5 hS.fl ⟨rfl, rfl, rfl⟩ (Or.inl rfl) <| X_ald rfl <| X_gr 1 6 hO.fl ⟨rfl, rfl⟩ rfl rfl <| X_i <| X_ald rfl <| X_gr 1 6 hS.fl ⟨rfl, rfl⟩ rfl rfl <| X_i <| X_i <| X_cp hO.th hS.th (by first | omega | (simp (disch := omega) only [um_eq, um_na, um_ni, Int.toNat_natCast]; omega)) (by first | omega | (simp (disch := omega) only [um_eq, um_na, um_ni, Int.toNat_natCast]; omega)) (by first | omega | (simp (disch := omega) only [um_eq, um_na, um_ni, Int.toNat_natCast]; omega)) (by first | omega | (simp (disch := omega) only [um_eq, um_na, um_ni, Int.toNat_natCast]; omega)) (by first | omega | (simp (disch := omega) only [um_eq, um_na, um_ni, Int.toNat_natCast]; omega)) <| X_ald rfl <| X_ald rfl <| X_gi 1 8 8 hO.fl ⟨rfl, rfl, rfl⟩ (Or.inl rfl) <| X_pi 1 8 8 hS.fl ⟨rfl, rfl, rfl⟩ (Or.inl rfl) <| X_nil) rfl), by simp (disch := omega) only [um_na, cpm_fn, ne_eq]⟩
    rw [← eN]
    exact hN
  · simp (disch := omega) only [um_eq, um_ni, cpm_fn, ne_eq, and_self]
  · intro c c0 c1
    rw [um_na n4.symm, cpm_in c0 c1]
    simp (disch := omega) only [um_na]
  · intro a a1 a2
    rw [um_fn a1, cpm_fn a2, um_fn a1, um_fn a1, um_fn a1, um_fn a1, um_fn a1, um_fn a1]
theorem c_ncopy (hS : isSt T b) (hO : isSt T o) (hp : Apart b o) : ∃ M', Cl S 31 [vR (b + 23), vR (o + 23)] (T, M) (none, (T, M')) ∧ M' (b + 23) 0 = M (o + 23) 0 ∧ (∀ c, 0 ≤ c → c < 8 → M' (b + 24) c = M (o + 24) c ∧ M' (b + 25) c = M (o + 25) c) ∧ (∀ a, a ≠ b + 23 → a ≠ b + 24 → a ≠ b + 25 → M' a = M a) := by
  refine ⟨cpm (cpm (um M (b + 23) 0 (M (o + 23) 0)) (o + 24) (b + 24) 0 0 8) (o + 25) (b + 25) 0 0 8, ⟨_, rfl, ?_⟩, ?_, ?_, ?_⟩
  · refine Rn.rv rfl (X_ald rfl <| X_ald rfl <| X_gi 3 0 0 hO.no ⟨rfl, rfl, rfl⟩ (Or.inl rfl) <| X_pi 3 0 0 hS.no ⟨rfl, rfl, rfl⟩ (Or.inl rfl) <| X_ald rfl <| X_gr 3 1 hO.no ⟨rfl, rfl⟩ rfl rfl <| X_i <| X_ald rfl <| X_gr 3 1 hS.no ⟨rfl, rfl⟩ rfl rfl <| X_i <| X_i <| X_cp hO.wr hS.wr (by first | omega | (simp (disch := omega) only [um_eq, um_na, um_ni, Int.toNat_natCast]; omega)) (by first | omega | (simp (disch := omega) only [um_eq, um_na, um_ni, Int.toNat_natCast]; omega)) (by first | omega | (simp (disch := omega) only [um_eq, um_na, um_ni, Int.toNat_natCast]; omega)) (by first | omega | (simp (disch := omega) only [um_eq, um_na, um_ni, Int.toNat_natCast]; omega)) (by first | omega | (simp (disch := omega) only [um_eq, um_na, um_ni, Int.toNat_natCast]; omega)) <| X_ald rfl <| X_gr 3 2 hO.no ⟨rfl, rfl⟩ rfl rfl <| X_i <| X_ald rfl <| X_gr 3 2 hS.no ⟨rfl, rfl⟩ rfl rfl <| X_i <| X_i <| X_cp hO.na hS.na (by first | omega | (simp (disch := omega) only [um_eq, um_na, um_ni, Int.toNat_natCast]; omega)) (by first | omega | (simp (disch := omega) only [um_eq, um_na, um_ni, Int.toNat_natCast]; omega)) (by first | omega | (simp (disch := omega) only [um_eq, um_na, um_ni, Int.toNat_natCast]; omega)) (by first | omega | (simp (disch := omega) only [um_eq, um_na, um_ni, Int.toNat_natCast]; omega)) (by first | omega | (simp (disch := omega) only [um_eq, um_na, um_ni, Int.toNat_natCast]; omega)) <| X_nil) rfl
  · simp (disch := omega) only [um_eq, cpm_fn, ne_eq]
  · intro c c0 c1
    constructor
    · rw [cpm_fn (by omega), cpm_in c0 c1, um_na (by omega)]
    · rw [cpm_in c0 c1, cpm_fn (by omega), um_na (by omega)]
  · intro a a1 a2 a3
    rw [cpm_fn a3, cpm_fn a2, um_fn a1]
/-- Beds.copyFrom -/
theorem c_bcopy (hS : isSt T b) (hO : isSt T o) (hp : Apart b o) : ∃ M', Cl S 2 [vR (b + 4), vR (o + 4)] (T, M) (none, (T, M')) ∧ (M' (b + 4) 1 = M (o + 4) 1 ∧ M' (b + 4) 2 = M (o + 4) 2 ∧ M' (b + 4) 3 = M (o + 4) 3) ∧ (∀ i, i < 4 → ∀ k, 0 ≤ k → k < 8 → M' (b + 16 + 2 * i) k = M (o + 16 + 2 * i) k) ∧ (∀ i, i < 8 → ∀ k, 0 ≤ k → k < 9 → M' (b + 7 + i) k = M (o + 7 + i) k) ∧ (∀ a, a ≠ b + 4 → (∀ i, i < 4 → a ≠ b + 16 + 2 * i) → (∀ i, i < 8 → a ≠ b + 7 + i) → M' a = M a) := by
  have l2 : ∀ (k i : Nat) (N : Nat → Int → Int), i + k = 8 → ∃ N', Rn S 2 64 ([], [some (vR (b + 4)), some (vR (o + 4)), some (vI (i : Int))], T, N) (none, (T, N')) ∧ (∀ j, i ≤ j → j < 8 → ∀ c, 0 ≤ c → c < 9 → N' (b + 7 + j) c = N (o + 7 + j) c) ∧ (∀ a, (∀ j, i ≤ j → j < 8 → a ≠ b + 7 + j) → N' a = N a) := by
    intro k
    induction k with
    | zero =>
      intro i N hi
      refine ⟨N, ?_, fun j h1 h2 => by omega, fun a _ => rfl⟩
      refine Rn.cge rfl (X_ild rfl <| X_i <| X_nil) (by first | omega | (simp (disch := omega) only [um_eq, um_na, um_ni, Int.toNat_natCast]; omega)) (by first | omega | (simp (disch := omega) only [um_eq, um_na, um_ni, Int.toNat_natCast]; omega)) (fun hc => ?_) (fun hc => ?_)
      · refine Rn.rv rfl (X_nil) rfl
      · exact absurd hc (by omega)
    | succ k ih =>
      intro i N hi
      obtain ⟨N', r1, r2, r3⟩ := ih (i + 1) (cpm N (o + 7 + i) (b + 7 + i) 0 0 9) (by omega)
      refine ⟨N', ?_, fun j h1 h2 c c0 c1 => ?_, fun a ha => ?_⟩
      · refine Rn.cge rfl (X_ild rfl <| X_i <| X_nil) (by first | omega | (simp (disch := omega) only [um_eq, um_na, um_ni, Int.toNat_natCast]; omega)) (by first | omega | (simp (disch := omega) only [um_eq, um_na, um_ni, Int.toNat_natCast]; omega)) (fun hc => ?_) (fun hc => ?_)
        · exact absurd hc (by omega)
        · refine Rn.jto rfl (X_ald rfl <| X_gr 0 4 hO.be ⟨rfl, rfl⟩ rfl rfl <| X_ild rfl <| X_aa hO.pa (by decide) (by first | omega | (simp (disch := omega) only [um_eq, um_na, um_ni, Int.toNat_natCast]; omega)) (by first | omega | (simp (disch := omega) only [um_eq, um_na, um_ni, Int.toNat_natCast]; omega)) rfl (rPa_at (by omega)) <| X_i <| X_ald rfl <| X_gr 0 4 hS.be ⟨rfl, rfl⟩ rfl rfl <| X_ild rfl <| X_aa hS.pa (by decide) (by first | omega | (simp (disch := omega) only [um_eq, um_na, um_ni, Int.toNat_natCast]; omega)) (by first | omega | (simp (disch := omega) only [um_eq, um_na, um_ni, Int.toNat_natCast]; omega)) rfl (rPa_at (by omega)) <| X_i <| X_i <| X_cp (hO.ro (by omega)) (hS.ro (by omega)) (by first | omega | (simp (disch := omega) only [um_eq, um_na, um_ni, Int.toNat_natCast]; omega)) (by first | omega | (simp (disch := omega) only [um_eq, um_na, um_ni, Int.toNat_natCast]; omega)) (by first | omega | (simp (disch := omega) only [um_eq, um_na, um_ni, Int.toNat_natCast]; omega)) (by first | omega | (simp (disch := omega) only [um_eq, um_na, um_ni, Int.toNat_natCast]; omega)) (by first | omega | (simp (disch := omega) only [um_eq, um_na, um_ni, Int.toNat_natCast]; omega)) <| X_inc rfl (L' := [_, _, _]) rfl <| X_nil) ?_
          exact r1
      · by_cases e : j = i
        · subst e
          rw [r3 _ (fun j2 h3 h4 => by omega), cpm_in c0 c1]
        · rw [r2 j (by omega) h2 c c0 c1, cpm_fn (by omega)]
      · rw [r3 a (fun j h1 h2 => ha j (by omega) h2), cpm_fn (ha i (by omega) (by omega))]
  have l1 : ∀ (k i : Nat) (N : Nat → Int → Int), i + k = 4 → ∃ N', Rn S 2 26 ([], [some (vR (b + 4)), some (vR (o + 4)), some (vI (i : Int))], T, N) (none, (T, N')) ∧ (∀ j, i ≤ j → j < 4 → ∀ c, 0 ≤ c → c < 8 → N' (b + 16 + 2 * j) c = N (o + 16 + 2 * j) c) ∧ (∀ j, j < 8 → ∀ c, 0 ≤ c → c < 9 → N' (b + 7 + j) c = N (o + 7 + j) c) ∧ (∀ a, (∀ j, i ≤ j → j < 4 → a ≠ b + 16 + 2 * j) → (∀ j, j < 8 → a ≠ b + 7 + j) → N' a = N a) := by
    intro k
    induction k with
    | zero =>
      intro i N hi
      obtain ⟨N', r1, r2, r3⟩ := l2 8 0 N (by omega)
      refine ⟨N', ?_, fun j h1 h2 => by omega, fun j h1 c c0 c1 => r2 j (by omega) h1 c c0 c1, fun a _ ha => r3 a (fun j _ h2 => ha j h2)⟩
      refine Rn.cge rfl (X_ild rfl <| X_i <| X_nil) (by first | omega | (simp (disch := omega) only [um_eq, um_na, um_ni, Int.toNat_natCast]; omega)) (by first | omega | (simp (disch := omega) only [um_eq, um_na, um_ni, Int.toNat_natCast]; omega)) (fun hc => ?_) (fun hc => ?_)
      · refine Rn.fal rfl (X_i <| X_ist rfl (L' := [_, _, _]) rfl <| X_nil) ?_
        exact r1
      · exact absurd hc (by omega)
    | succ k ih =>
      intro i N hi
      obtain ⟨N', r1, r2, r4, r3⟩ := ih (i + 1) (cpm N (o + 16 + 2 * i) (b + 16 + 2 * i) 0 0 8) (by omega)
      refine ⟨N', ?_, fun j h1 h2 c c0 c1 => ?_, fun j h1 c c0 c1 => ?_, fun a ha hb => ?_⟩
      · refine Rn.cge rfl (X_ild rfl <| X_i <| X_nil) (by first | omega | (simp (disch := omega) only [um_eq, um_na, um_ni, Int.toNat_natCast]; omega)) (by first | omega | (simp (disch := omega) only [um_eq, um_na, um_ni, Int.toNat_natCast]; omega)) (fun hc => ?_) (fun hc => ?_)
        · exact absurd hc (by omega)
        · refine Rn.jto rfl (X_ald rfl <| X_gr 0 0 hO.be ⟨rfl, rfl⟩ rfl rfl <| X_ild rfl <| X_aa hO.sl (by decide) (by first | omega | (simp (disch := omega) only [um_eq, um_na, um_ni, Int.toNat_natCast]; omega)) (by first | omega | (simp (disch := omega) only [um_eq, um_na, um_ni, Int.toNat_natCast]; omega)) rfl (rSl_at (by omega)) <| X_gr 5 0 (hO.se (by omega)) ⟨rfl, rfl⟩ rfl rfl <| X_i <| X_ald rfl <| X_gr 0 0 hS.be ⟨rfl, rfl⟩ rfl rfl <| X_ild rfl <| X_aa hS.sl (by decide) (by first | omega | (simp (disch := omega) only [um_eq, um_na, um_ni, Int.toNat_natCast]; omega)) (by first | omega | (simp (disch := omega) only [um_eq, um_na, um_ni, Int.toNat_natCast]; omega)) rfl (rSl_at (by omega)) <| X_gr 5 0 (hS.se (by omega)) ⟨rfl, rfl⟩ rfl rfl <| X_i <| X_i <| X_cp (hO.tr (by omega)) (hS.tr (by omega)) (by first | omega | (simp (disch := omega) only [um_eq, um_na, um_ni, Int.toNat_natCast]; omega)) (by first | omega | (simp (disch := omega) only [um_eq, um_na, um_ni, Int.toNat_natCast]; omega)) (by first | omega | (simp (disch := omega) only [um_eq, um_na, um_ni, Int.toNat_natCast]; omega)) (by first | omega | (simp (disch := omega) only [um_eq, um_na, um_ni, Int.toNat_natCast]; omega)) (by first | omega | (simp (disch := omega) only [um_eq, um_na, um_ni, Int.toNat_natCast]; omega)) <| X_inc rfl (L' := [_, _, _]) rfl <| X_nil) ?_
          exact r1
      · by_cases e : j = i
        · subst e
          rw [r3 _ (fun j2 h3 h4 => by omega) (fun j2 h3 => by omega), cpm_in c0 c1]
        · rw [r2 j (by omega) h2 c c0 c1, cpm_fn (by omega)]
      · rw [r4 j h1 c c0 c1, cpm_fn (by omega)]
      · rw [r3 a (fun j h1 h2 => ha j (by omega) h2) hb, cpm_fn (ha i (by omega) (by omega))]
  obtain ⟨N', r1, r2, r4, r3⟩ := l1 4 0 (um (um (um M (b + 4) 1 (M (o + 4) 1)) (b + 4) 2 (M (o + 4) 2)) (b + 4) 3 (M (o + 4) 3)) (by omega)
  have n4 : o + 4 ≠ b + 4 := by omega
  have e1 : um M (b + 4) 1 (M (o + 4) 1) (o + 4) 2 = M (o + 4) 2 := um_na n4
  have e2 : um (um M (b + 4) 1 (M (o + 4) 1)) (b + 4) 2 (M (o + 4) 2) (o + 4) 3 = M (o + 4) 3 := by rw [um_na n4, um_na n4]
  refine ⟨N', ⟨_, rfl, ?_⟩, ?_, fun i hi k k0 k1 => ?_, fun i hi k k0 k1 => ?_, fun a a1 a2 a3 => ?_⟩
  · refine Rn.fal rfl (X_ald rfl <| X_ald rfl <| X_gi 0 1 1 hO.be ⟨rfl, rfl, rfl⟩ (Or.inl rfl) <| X_pi 0 1 1 hS.be ⟨rfl, rfl, rfl⟩ (Or.inl rfl) <| X_ald rfl <| X_ald rfl <| X_gi 0 2 2 hO.be ⟨rfl, rfl, rfl⟩ (Or.inl rfl) <| X_pi 0 2 2 hS.be ⟨rfl, rfl, rfl⟩ (Or.inl rfl) <| X_ald rfl <| X_ald rfl <| X_gi 0 3 3 hO.be ⟨rfl, rfl, rfl⟩ (Or.inl rfl) <| X_pi 0 3 3 hS.be ⟨rfl, rfl, rfl⟩ (Or.inl rfl) <| X_i <| X_ist rfl (L' := [_, _, _]) rfl <| X_nil) ?_
    rw [e1, e2]
    exact r1
  · rw [r3 (b + 4) (fun j _ _ => by omega) (fun j _ => by omega)]
    simp (disch := omega) only [um_eq, um_ni, and_self]
  · rw [r2 i (by omega) hi k k0 k1]
    simp (disch := omega) only [um_na]
  · rw [r4 i hi k k0 k1]
    simp (disch := omega) only [um_na]
  · rw [r3 a (fun j _ h2 => a2 j h2) a3, um_fn a1, um_fn a1, um_fn a1]
/-- a copy of the state at o lies at b; nothing else has changed -/
def CpSt (M M' : Nat → Int → Int) (o b : Nat) : Prop :=
  (M' (b + 1) 0 = M (o + 1) 0 ∧ M' (b + 1) 1 = M (o + 1) 1 ∧ M' (b + 1) 2 = M (o + 1) 2 ∧ M' (b + 1) 3 = M (o + 1) 3 ∧ M' (b + 1) 4 = M (o + 1) 4 ∧ M' (b + 1) 5 = M (o + 1) 5 ∧ M' (b + 1) 8 = M (o + 1) 8) ∧ (∀ c, 0 ≤ c → c < 49 → M' (b + 2) c = M (o + 2) c) ∧
  (M' (b + 4) 1 = M (o + 4) 1 ∧ M' (b + 4) 2 = M (o + 4) 2 ∧ M' (b + 4) 3 = M (o + 4) 3) ∧ (∀ i, i < 4 → ∀ k, 0 ≤ k → k < 8 → M' (b + 16 + 2 * i) k = M (o + 16 + 2 * i) k) ∧ (∀ i, i < 8 → ∀ k, 0 ≤ k → k < 9 → M' (b + 7 + i) k = M (o + 7 + i) k) ∧
  M' (b + 23) 0 = M (o + 23) 0 ∧ (∀ c, 0 ≤ c → c < 8 → M' (b + 24) c = M (o + 24) c ∧ M' (b + 25) c = M (o + 25) c) ∧ (∀ a, a < b ∨ b + 27 ≤ a → M' a = M a)
theorem c_scopy (hS : isSt T b) (hO : isSt T o) (hp : Apart b o) : ∃ M', Cl S 55 [vR b, vR o] (T, M) (none, (T, M')) ∧ CpSt M M' o b := by
  obtain ⟨M1, c1, p1, p2, p3⟩ := c_fcopy (S := S) (M := M) hS hO hp
  obtain ⟨M2, c2, q1, q2, q4, q3⟩ := c_bcopy (S := S) (M := M1) hS hO hp
  obtain ⟨M3, c3, s1, s2, s3⟩ := c_ncopy (S := S) (M := M2) hS hO hp
  have f1 : ∀ k : Nat, 3 ≤ k → k < 27 → M1 (o + k) = M (o + k) := fun k h1 h2 => p3 (o + k) (by omega) (by omega)
  refine ⟨M3, ⟨_, rfl, ?_⟩, ?_⟩
  · refine Rn.cal rfl (X_ald rfl <| X_gr 6 0 hS.st ⟨rfl, rfl⟩ rfl rfl <| X_ald rfl <| X_gr 6 0 hO.st ⟨rfl, rfl⟩ rfl rfl <| X_nil) (vs := [_, _]) (rest := []) rfl rfl rfl (rcv_v hS.fl (by decide)) (c1) ?_
    refine Rn.cal rfl (X_ald rfl <| X_gr 6 1 hS.st ⟨rfl, rfl⟩ rfl rfl <| X_ald rfl <| X_gr 6 1 hO.st ⟨rfl, rfl⟩ rfl rfl <| X_nil) (vs := [_, _]) (rest := []) rfl rfl rfl (rcv_v hS.be (by decide)) (c2) ?_
    refine Rn.cal rfl (X_ald rfl <| X_gr 6 2 hS.st ⟨rfl, rfl⟩ rfl rfl <| X_ald rfl <| X_gr 6 2 hO.st ⟨rfl, rfl⟩ rfl rfl <| X_nil) (vs := [_, _]) (rest := []) rfl rfl rfl (rcv_v hS.no (by decide)) (c3) ?_
    refine Rn.rv rfl (X_nil) rfl
  · have g : ∀ a, (a = b + 1 ∨ a = b + 2) → M3 a = M1 a := fun a ha => by
      rw [s3 a (by omega) (by omega) (by omega), q3 a (by omega) (fun i hi => by omega) (fun i hi => by omega)]
    refine ⟨?_, fun c c0 c1 => ?_, ?_, fun i hi k k0 k1 => ?_, fun i hi k k0 k1 => ?_, ?_, fun c c0 c1 => ?_, fun a ha => ?_⟩
    · rw [g _ (Or.inl rfl)]
      exact p1
    · rw [g _ (Or.inr rfl)]
      exact p2 c c0 c1
    · rw [s3 (b + 4) (by omega) (by omega) (by omega), ← p3 (o + 4) (by omega) (by omega)]
      exact q1
    · rw [s3 (b + 16 + 2 * i) (by omega) (by omega) (by omega), q2 i hi k k0 k1, p3 _ (by omega) (by omega)]
    · rw [s3 (b + 7 + i) (by omega) (by omega) (by omega), q4 i hi k k0 k1, p3 _ (by omega) (by omega)]
    · rw [s1, q3 (o + 23) (by omega) (fun i hi => by omega) (fun i hi => by omega), p3 _ (by omega) (by omega)]
    · have h1 := s2 c c0 c1
      rw [q3 (o + 24) (by omega) (fun i hi => by omega) (fun i hi => by omega), q3 (o + 25) (by omega) (fun i hi => by omega) (fun i hi => by omega), p3 _ (by omega) (by omega), p3 _ (by omega) (by omega)] at h1
      exact h1
    · rw [s3 a (by omega) (by omega) (by omega), q3 a (by omega) (fun i hi => by omega) (fun i hi => by omega), p3 a (by omega) (by omega)]
end State
end
section
/-! WHO COMES, NIGHTS REMEMBERED AND FORGOTTEN, ERRANDS AND COSTS -/
section Beds
variable {S : List Int} {T : List Sh} {M : Nat → Int → Int} {b : Nat} {h : Hp}
/-- Beds.welcome -/
theorem c_welcome {k r t c p : Int} (hS : isSt T b) (h0 : 0 ≤ M (b + 4) 1) (h4 : M (b + 4) 1 < 4) : ∃ M', Cl S 4 [vR (b + 4), vI k, vI r, vI t, vI c, vI p] (T, M) (some (vI (M (b + 4) 1)), (T, M')) ∧ M' (b + 4) 1 = M (b + 4) 1 + 1 ∧ (∀ j, j ≠ 1 → M' (b + 4) j = M (b + 4) j) ∧ (M' (b + 16 + 2 * (M (b + 4) 1).toNat) 0 = k ∧ M' (b + 16 + 2 * (M (b + 4) 1).toNat) 1 = r ∧ M' (b + 16 + 2 * (M (b + 4) 1).toNat) 2 = t ∧ M' (b + 16 + 2 * (M (b + 4) 1).toNat) 3 = c ∧ M' (b + 16 + 2 * (M (b + 4) 1).toNat) 4 = p ∧ M' (b + 16 + 2 * (M (b + 4) 1).toNat) 5 = -1 ∧ M' (b + 16 + 2 * (M (b + 4) 1).toNat) 6 = 0 ∧ M' (b + 16 + 2 * (M (b + 4) 1).toNat) 7 = 0) ∧ (∀ a, a ≠ b + 4 → a ≠ b + 16 + 2 * (M (b + 4) 1).toNat → M' a = M a) := by
  generalize ha : b + 16 + 2 * (M (b + 4) 1).toNat = a
  have n4 : b + 4 ≠ a := by omega
  refine ⟨um (um (um (um (um (um (um (um (um M a 0 k) a 1 r) a 2 t) a 3 c) a 4 p) a 5 (-1)) a 6 0) a 7 0) (b + 4) 1 (M (b + 4) 1 + 1), ⟨_, rfl, ?_⟩, um_eq, fun j hj => ?_, ?_, fun a' a1 a2 => ?_⟩
  · obtain ⟨z, N, hN, ez, eN⟩ : ∃ z N, Rn S 4 0 ([], [some (vR (b + 4)), some (vI k), some (vI r), some (vI t), some (vI c), some (vI p), none], T, M) (some (vI z), (T, N)) ∧ z = M (b + 4) 1 ∧ N = um (um (um (um (um (um (um (um (um M a 0 k) a 1 r) a 2 t) a 3 c) a 4 p) a 5 (-1)) a 6 0) a 7 0) (b + 4) 1 (M (b + 4) 1 + 1) := by
      subst ha
      refine ⟨_, _, (Rn.ri rfl (X_ald rfl <| X_gr 0 0 hS.be ⟨rfl, rfl⟩ rfl rfl <| X_ald rfl <| X_gi 0 1 1 hS.be ⟨rfl, rfl, rfl⟩ (Or.inl rfl) <| X_aa hS.sl (by decide) (by first | omega | (simp (disch := omega) only [um_eq, um_na, um_ni, Int.toNat_natCast]; omega)) (by first | omega | (simp (disch := omega) only [um_eq, um_na, um_ni, Int.toNat_natCast]; omega)) rfl (rSl_at (by omega)) <| X_gr 5 0 (hS.se (by omega)) ⟨rfl, rfl⟩ rfl rfl <| X_ast rfl (L' := [_, _, _, _, _, _, _]) rfl <| X_ald rfl <| X_i <| X_ild rfl <| X_is (hS.tr (by omega)) (by first | omega | (simp (disch := omega) only [um_eq, um_na, um_ni, Int.toNat_natCast]; omega)) (by first | omega | (simp (disch := omega) only [um_eq, um_na, um_ni, Int.toNat_natCast]; omega)) rfl <| X_ald rfl <| X_i <| X_ild rfl <| X_is (hS.tr (by omega)) (by first | omega | (simp (disch := omega) only [um_eq, um_na, um_ni, Int.toNat_natCast]; omega)) (by first | omega | (simp (disch := omega) only [um_eq, um_na, um_ni, Int.toNat_natCast]; omega)) rfl <| X_ald rfl <| X_i <| X_ild rfl <| X_is (hS.tr (by omega)) (by first | omega | (simp (disch := omega) only [um_eq, um_na, um_ni, Int.toNat_natCast]; omega)) (by first | omega | (simp (disch := omega) only [um_eq, um_na, um_ni, Int.toNat_natCast]; omega)) rfl <| X_ald rfl <| X_i <| X_ild rfl <| X_is (hS.tr (by omega)) (by first | omega | (simp (disch := omega) only [um_eq, um_na, um_ni, Int.toNat_natCast]; omega)) (by first | omega | (simp (disch := omega) only [um_eq, um_na, um_ni, Int.toNat_natCast]; omega)) rfl <| X_ald rfl <| X_i <| X_ild rfl <| X_is (hS.tr (by omega)) (by first | omega | (simp (disch := omega) only [um_eq, um_na, um_ni, Int.toNat_natCast]; omega)) (by first | omega | (simp (disch := omega) only [um_eq, um_na, um_ni, Int.toNat_natCast]; omega)) rfl <| X_ald rfl <| X_i <| X_i <| X_is (hS.tr (by omega)) (by first | omega | (simp (disch := omega) only [um_eq, um_na, um_ni, Int.toNat_natCast]; omega)) (by first | omega | (simp (disch := omega) only [um_eq, um_na, um_ni, Int.toNat_natCast]; omega)) rfl <| X_ald rfl <| X_i <| X_i <| X_is (hS.tr (by omega)) (by first | omega | (simp (disch := omega) only [um_eq, um_na, um_ni, Int.toNat_natCast]; omega)) (by first | omega | (simp (disch := omega) only [um_eq, um_na, um_ni, Int.toNat_natCast]; omega)) rfl <| X_ald rfl <| X_i <| X_i <| X_is (hS.tr (by omega)) (by first | omega | (simp (disch := omega) only [um_eq, um_na, um_ni, Int.toNat_natCast]; omega)) (by first | omega | (simp (disch := omega) only [um_eq, um_na, um_ni, Int.toNat_natCast]; omega)) rfl <| X_ald rfl <| X_dupr <| X_gi 0 1 1 hS.be ⟨rfl, rfl, rfl⟩ (Or.inl rfl) <| X_i <| X_add <| X_pi 0 1 1 hS.be ⟨rfl, rfl, rfl⟩ (Or.inl rfl) <| X_ald rfl <| X_gi 0 1 1 hS.be ⟨rfl, rfl, rfl⟩ (Or.inl rfl) <| X_i <| X_sub <| X_nil) rfl), ?_, ?_⟩
      · simp (disch := omega) only [um_eq, um_na, ne_eq]
        omega
      · simp (disch := omega) only [um_na, ne_eq]
    rw [ez, eN] at hN
    exact hN
  · rw [um_ni hj]
    simp (disch := omega) only [um_na, ne_eq]
  · simp (disch := omega) only [um_eq, um_na, um_ni, ne_eq, and_self]
  · rw [um_fn a1, um_fn a2, um_fn a2, um_fn a2, um_fn a2, um_fn a2, um_fn a2, um_fn a2, um_fn a2]
/-- Beds.rememberNight: the row of this night keeps how many there are, COUNT and PAID of each -/
theorem c_remember (hS : isSt T b) (h0 : 0 ≤ M (b + 4) 1) (h4 : M (b + 4) 1 ≤ 4) (hn : 0 ≤ M (b + 4) 2 ∧ M (b + 4) 2 ≤ 100000) (hu : 0 ≤ M (b + 4) 3 ∧ M (b + 4) 3 ≤ 8) : ∃ M', Cl S 9 [vR (b + 4)] (T, M) (none, (T, M')) ∧ (M' (b + 4) 1 = M (b + 4) 1 ∧ M' (b + 4) 2 = M (b + 4) 2 + 1 ∧ M' (b + 4) 3 = (if 8 < M (b + 4) 3 + 1 then 8 else M (b + 4) 3 + 1)) ∧ (M' (b + 7 + (M (b + 4) 2 % 8).toNat) 0 = M (b + 4) 1 ∧ ∀ i : Nat, (i : Int) < M (b + 4) 1 → M' (b + 7 + (M (b + 4) 2 % 8).toNat) (1 + 2 * i) = M (b + 16 + 2 * i) 6 ∧ M' (b + 7 + (M (b + 4) 2 % 8).toNat) (2 + 2 * i) = M (b + 16 + 2 * i) 7) ∧ (∀ a, a ≠ b + 4 → a ≠ b + 7 + (M (b + 4) 2 % 8).toNat → M' a = M a) := by
  generalize hr : (M (b + 4) 2 % 8).toNat = rw
  have hrw : rw < 8 := by omega
  have fin : ∀ N : Nat → Int → Int, N (b + 4) = M (b + 4) → Rn S 9 74 ([], [some (vR (b + 4)), some (vR (b + 7 + rw)), some (vI (M (b + 4) 1))], T, N) (none, (T, um (um N (b + 4) 2 (M (b + 4) 2 + 1)) (b + 4) 3 (if 8 < M (b + 4) 3 + 1 then 8 else M (b + 4) 3 + 1))) := by
    intro N hN
    have e2 : N (b + 4) 2 = M (b + 4) 2 := by rw [hN]
    have e3 : N (b + 4) 3 = M (b + 4) 3 := by rw [hN]
    obtain ⟨N', g1, g2⟩ : ∃ N', Rn S 9 74 ([], [some (vR (b + 4)), some (vR (b + 7 + rw)), some (vI (M (b + 4) 1))], T, N) (none, (T, N')) ∧ N' = um (um N (b + 4) 2 (M (b + 4) 2 + 1)) (b + 4) 3 (if 8 < M (b + 4) 3 + 1 then 8 else M (b + 4) 3 + 1) := by
      refine ⟨_, (Rn.rv rfl (X_ald rfl <| X_dupr <| X_gi 0 2 2 hS.be ⟨rfl, rfl, rfl⟩ (Or.inl rfl) <| X_i <| X_add <| X_pi 0 2 2 hS.be ⟨rfl, rfl, rfl⟩ (Or.inl rfl) <| X_ald rfl <| X_ald rfl <| X_gi 0 3 3 hS.be ⟨rfl, rfl, rfl⟩ (Or.inl rfl) <| X_i <| X_add <| X_i <| X_min (by first | omega | (simp (disch := omega) only [um_eq, um_na, um_ni, Int.toNat_natCast]; omega)) (by first | omega | (simp (disch := omega) only [um_eq, um_na, um_ni, Int.toNat_natCast]; omega)) rfl <| X_pi 0 3 3 hS.be ⟨rfl, rfl, rfl⟩ (Or.inl rfl) <| X_nil) rfl), ?_⟩
      simp (disch := omega) only [um_ni, e2, e3]
    rw [← g2]
    exact g1
  have loop : ∀ (k i : Nat) (N : Nat → Int → Int), i + k = (M (b + 4) 1).toNat → (∀ a, a ≠ b + 7 + rw → N a = M a) → ∃ N', Rn S 9 22 ([], [some (vR (b + 4)), some (vR (b + 7 + rw)), some (vI (i : Int))], T, N) (none, (T, um (um N' (b + 4) 2 (M (b + 4) 2 + 1)) (b + 4) 3 (if 8 < M (b + 4) 3 + 1 then 8 else M (b + 4) 3 + 1))) ∧ (∀ a, a ≠ b + 7 + rw → N' a = M a) ∧ (∀ j : Int, j < 1 + 2 * i → N' (b + 7 + rw) j = N (b + 7 + rw) j) ∧ (∀ j : Nat, i ≤ j → (j : Int) < M (b + 4) 1 → N' (b + 7 + rw) (1 + 2 * j) = M (b + 16 + 2 * j) 6 ∧ N' (b + 7 + rw) (2 + 2 * j) = M (b + 16 + 2 * j) 7) := by
    intro k
    induction k with
    | zero =>
      intro i N hi hN
      have e1 : N (b + 4) = M (b + 4) := hN _ (by omega)
      have e9 : M (b + 4) 1 = (i : Int) := by omega
      refine ⟨N, ?_, hN, fun _ _ => rfl, fun j h1 h2 => by omega⟩
      have f := fin N e1
      rw [e9] at f
      refine Rn.cge rfl (X_ild rfl <| X_ald rfl <| X_gi 0 1 1 hS.be ⟨rfl, rfl, rfl⟩ (Or.inl rfl) <| X_nil) (by first | omega | (simp (disch := omega) only [um_eq, um_na, um_ni, Int.toNat_natCast]; omega)) (by rw [e1]; omega) (fun hc => ?_) (fun hc => ?_)
      · exact f
      · rw [e1] at hc
        exact absurd hc (by omega)
    | succ k ih =>
      intro i N hi hN
      have e1 : N (b + 4) = M (b + 4) := hN _ (by omega)
      have e6 : N (b + 16 + 2 * i) = M (b + 16 + 2 * i) := hN _ (by omega)
      obtain ⟨N', r1, r2, r3, r4⟩ := ih (i + 1) (um (um N (b + 7 + rw) (1 + 2 * i) (M (b + 16 + 2 * i) 6)) (b + 7 + rw) (2 + 2 * i) (M (b + 16 + 2 * i) 7)) (by omega) (fun a ha => by rw [um_fn ha, um_fn ha, hN a ha])
      refine ⟨N', ?_, r2, fun j hj => ?_, fun j h1 h2 => ?_⟩
      · refine Rn.cge rfl (X_ild rfl <| X_ald rfl <| X_gi 0 1 1 hS.be ⟨rfl, rfl, rfl⟩ (Or.inl rfl) <| X_nil) (by first | omega | (simp (disch := omega) only [um_eq, um_na, um_ni, Int.toNat_natCast]; omega)) (by rw [e1]; omega) (fun hc => ?_) (fun hc => ?_)
        · rw [e1] at hc
          exact absurd hc (by omega)
        · clear hc
          refine Rn.jto rfl (X_ald rfl <| X_i <| X_i <| X_ild rfl <| X_mul <| X_add <| X_ald rfl <| X_gr 0 0 hS.be ⟨rfl, rfl⟩ rfl rfl <| X_ild rfl <| X_aa hS.sl (by decide) (by first | omega | (simp (disch := omega) only [um_eq, um_na, um_ni, Int.toNat_natCast]; omega)) (by first | omega | (simp (disch := omega) only [um_eq, um_na, um_ni, Int.toNat_natCast]; omega)) rfl (rSl_at (by omega)) <| X_gr 5 0 (hS.se (by omega)) ⟨rfl, rfl⟩ rfl rfl <| X_i <| X_ia (hS.tr (by omega)) (by first | omega | (simp (disch := omega) only [um_eq, um_na, um_ni, Int.toNat_natCast]; omega)) (by first | omega | (simp (disch := omega) only [um_eq, um_na, um_ni, Int.toNat_natCast]; omega)) rfl <| X_is (hS.ro (by omega)) (by first | omega | (simp (disch := omega) only [um_eq, um_na, um_ni, Int.toNat_natCast]; omega)) (by first | omega | (simp (disch := omega) only [um_eq, um_na, um_ni, Int.toNat_natCast]; omega)) rfl <| X_ald rfl <| X_i <| X_i <| X_ild rfl <| X_mul <| X_add <| X_ald rfl <| X_gr 0 0 hS.be ⟨rfl, rfl⟩ rfl rfl <| X_ild rfl <| X_aa hS.sl (by decide) (by first | omega | (simp (disch := omega) only [um_eq, um_na, um_ni, Int.toNat_natCast]; omega)) (by first | omega | (simp (disch := omega) only [um_eq, um_na, um_ni, Int.toNat_natCast]; omega)) rfl (rSl_at (by omega)) <| X_gr 5 0 (hS.se (by omega)) ⟨rfl, rfl⟩ rfl rfl <| X_i <| X_ia (hS.tr (by omega)) (by first | omega | (simp (disch := omega) only [um_eq, um_na, um_ni, Int.toNat_natCast]; omega)) (by first | omega | (simp (disch := omega) only [um_eq, um_na, um_ni, Int.toNat_natCast]; omega)) rfl <| X_is (hS.ro (by omega)) (by first | omega | (simp (disch := omega) only [um_eq, um_na, um_ni, Int.toNat_natCast]; omega)) (by first | omega | (simp (disch := omega) only [um_eq, um_na, um_ni, Int.toNat_natCast]; omega)) rfl <| X_inc rfl (L' := [_, _, _]) rfl <| X_nil) ?_
          have e7 : um N (b + 7 + rw) (1 + 2 * (i : Int)) (N (b + 16 + 2 * i) 6) (b + 16 + 2 * i) 7 = M (b + 16 + 2 * i) 7 := by rw [um_na (by omega), e6]
          show Rn S 9 22 ([], _, T, um (um N (b + 7 + rw) (1 + 2 * (i : Int)) (N (b + 16 + 2 * i) 6)) (b + 7 + rw) (2 + 2 * (i : Int)) (um N (b + 7 + rw) (1 + 2 * (i : Int)) (N (b + 16 + 2 * i) 6) (b + 16 + 2 * i) 7)) _
          rw [e7, e6]
          exact r1
      · rw [r3 j (by omega), um_ni (by omega), um_ni (by omega)]
      · by_cases e : j = i
        · subst e
          rw [r3 _ (by omega), r3 _ (by omega), um_ni (by omega), um_eq, um_eq]
          exact ⟨rfl, rfl⟩
        · exact r4 j (by omega) h2
  obtain ⟨N', r1, r2, r3, r4⟩ := loop (M (b + 4) 1).toNat 0 (um M (b + 7 + rw) 0 (M (b + 4) 1)) (by omega) (fun a ha => um_fn ha)
  refine ⟨um (um N' (b + 4) 2 (M (b + 4) 2 + 1)) (b + 4) 3 (if 8 < M (b + 4) 3 + 1 then 8 else M (b + 4) 3 + 1), ⟨_, rfl, ?_⟩, ?_, ?_, fun a a1 a2 => ?_⟩
  · have hr8 : (M (b + 4) 2 % 8).toNat = rw := hr
    refine Rn.fal rfl (X_ald rfl <| X_gr 0 4 hS.be ⟨rfl, rfl⟩ rfl rfl <| X_ald rfl <| X_gi 0 2 2 hS.be ⟨rfl, rfl, rfl⟩ (Or.inl rfl) <| X_i <| X_rem (by first | omega | (simp (disch := omega) only [um_eq, um_na, um_ni, Int.toNat_natCast]; omega)) (by first | omega | (simp (disch := omega) only [um_eq, um_na, um_ni, Int.toNat_natCast]; omega)) <| X_aa hS.pa (by decide) (by first | omega | (simp (disch := omega) only [um_eq, um_na, um_ni, Int.toNat_natCast]; omega)) (by first | omega | (simp (disch := omega) only [um_eq, um_na, um_ni, Int.toNat_natCast]; omega)) rfl (rPa_at (by omega)) <| X_ast rfl (L' := [_, _, _]) rfl <| X_ald rfl <| X_i <| X_ald rfl <| X_gi 0 1 1 hS.be ⟨rfl, rfl, rfl⟩ (Or.inl rfl) <| X_is (hS.ro (by omega)) (by first | omega | (simp (disch := omega) only [um_eq, um_na, um_ni, Int.toNat_natCast]; omega)) (by first | omega | (simp (disch := omega) only [um_eq, um_na, um_ni, Int.toNat_natCast]; omega)) rfl <| X_i <| X_ist rfl (L' := [_, _, _]) rfl <| X_nil) ?_
    show Rn S 9 22 ([], [some (vR (b + 4)), some (vR (b + 7 + (M (b + 4) 2 % 8).toNat)), some (vI 0)], T, um M (b + 7 + (M (b + 4) 2 % 8).toNat) 0 (M (b + 4) 1)) _
    rw [hr8]
    exact r1
  · refine ⟨?_, ?_, um_eq⟩
    · rw [um_ni (by omega), um_ni (by omega), r2 _ (by omega)]
    · rw [um_ni (by omega), um_eq]
  · refine ⟨?_, fun i hi => ?_⟩
    · rw [um_na (by omega), um_na (by omega), r3 0 (by omega), um_eq]
    · rw [um_na (by omega), um_na (by omega), um_na (by omega), um_na (by omega)]
      exact r4 i (by omega) hi
  · rw [um_fn a1, um_fn a1, r2 a a2]
end Beds
end
section
/-! WAYS, PURELY: least sums over walks -/
abbrev Big : Int := 1000000000
section Dist
variable {n : Nat} {A : Nat → Nat → Prop} {q : Nat → Int} {e : Nat}
/-- a walk of k steps from a to e, and what it costs -/
def Wk (n : Nat) (A : Nat → Nat → Prop) (q : Nat → Int) (e : Nat) : Nat → Nat → Int → Prop
  | 0, a, c => a = e ∧ c = 0
  | k + 1, a, c => ∃ d, d < n ∧ A a d ∧ Wk n A q e k d (c - q d)
theorem Wk_ge (hq : ∀ d, d < n → 2 ≤ q d) : ∀ (k a : Nat) (c : Int), Wk n A q e k a c → 2 * (k : Int) ≤ c
  | 0, a, c, h => by
    obtain ⟨-, rfl⟩ := h
    omega
  | k + 1, a, c, h => by
    obtain ⟨d, hd, -, h2⟩ := h
    have := Wk_ge hq k d _ h2
    have := hq d hd
    omega
/-- numbers that are costs of walks, or none is known -/
def Rl (n : Nat) (A : Nat → Nat → Prop) (q : Nat → Int) (e : Nat) (D : Nat → Int) : Prop := D e = 0 ∧ ∀ a, a < n → D a ≤ Big ∧ (D a = Big ∨ ∃ k, Wk n A q e k a (D a))
def Fx (n : Nat) (A : Nat → Nat → Prop) (q : Nat → Int) (D : Nat → Int) : Prop := ∀ a d, a < n → d < n → A a d → D a ≤ q d + D d
theorem Rl_ge (hq : ∀ d, d < n → 2 ≤ q d) {D : Nat → Int} (h : Rl n A q e D) {a : Nat} (ha : a < n) : 0 ≤ D a := by
  rcases (h.2 a ha).2 with h1 | ⟨k, h1⟩
  · rw [h1]; decide
  · have := Wk_ge hq k a _ h1
    omega
theorem Fx_le {D : Nat → Int} (h0 : D e = 0) (hf : Fx n A q D) : ∀ (k a : Nat) (c : Int), a < n → Wk n A q e k a c → D a ≤ c
  | 0, a, c, _, h => by
    obtain ⟨rfl, rfl⟩ := h
    omega
  | k + 1, a, c, ha, h => by
    obtain ⟨d, hd, hA, h2⟩ := h
    have h3 := Fx_le h0 hf k d _ hd h2
    have h4 := hf a d ha hd hA
    omega
/-- what cannot be made less is least of all that walks cost -/
theorem Fx_least {D E : Nat → Int} (hD : Rl n A q e D) (hf : Fx n A q D) (hE : Rl n A q e E) {a : Nat} (ha : a < n) : D a ≤ E a := by
  rcases (hE.2 a ha).2 with h1 | ⟨k, h1⟩
  · rw [h1]; exact (hD.2 a ha).1
  · exact Fx_le hD.1 hf k a _ ha h1
theorem Fx_uniq {D E : Nat → Int} (hD : Rl n A q e D) (hf : Fx n A q D) (hE : Rl n A q e E) (hg : Fx n A q E) {a : Nat} (ha : a < n) : D a = E a := by
  have := Fx_least hD hf hE ha
  have := Fx_least hE hg hD ha
  omega
def upD (D : Nat → Int) (a : Nat) (v : Int) : Nat → Int := fun x => if x = a then v else D x
theorem Rl_up (hq : ∀ d, d < n → 2 ≤ q d) {D : Nat → Int} (h : Rl n A q e D) {a d : Nat} (ha : a < n) (hd : d < n) (hA : A a d) (hl : q d + D d < D a) : Rl n A q e (upD D a (q d + D d)) := by
  have h1 := (h.2 a ha).1
  have h2 := Rl_ge hq h hd
  have h3 := hq d hd
  refine ⟨?_, fun x hx => ?_⟩
  · unfold upD
    rw [if_neg (fun z => ?_)]
    · exact h.1
    · rw [← z, h.1] at hl
      omega
  · unfold upD
    by_cases hxa : x = a
    · rw [if_pos hxa]
      refine ⟨by omega, Or.inr ?_⟩
      rcases (h.2 d hd).2 with h4 | ⟨k, h4⟩
      · omega
      · refine ⟨k + 1, d, hd, by rw [hxa]; exact hA, ?_⟩
        have : q d + D d - q d = D d := by omega
        rw [this]
        exact h4
    · rw [if_neg hxa]
      exact h.2 x hx
def sumD (D : Nat → Int) : Nat → Int
  | 0 => 0
  | m + 1 => sumD D m + D m
theorem sumD_ge {D : Nat → Int} : ∀ m : Nat, (∀ a, a < m → 0 ≤ D a) → 0 ≤ sumD D m
  | 0, _ => by unfold sumD; omega
  | m + 1, h => by
    have := sumD_ge m (fun a ha => h a (by omega))
    have := h m (by omega)
    unfold sumD
    omega
theorem sumD_up {D : Nat → Int} {a : Nat} {v : Int} : ∀ m : Nat, sumD (upD D a v) m = sumD D m + (if a < m then v - D a else 0)
  | 0 => by unfold sumD; simp
  | m + 1 => by
    unfold sumD
    rw [sumD_up m]
    unfold upD
    by_cases h1 : m = a
    · subst h1
      rw [if_pos rfl, if_neg (by omega), if_pos (by omega)]
      omega
    · rw [if_neg h1]
      by_cases h2 : a < m
      · rw [if_pos h2, if_pos (by omega)]; omega
      · rw [if_neg h2, if_neg (by omega)]; omega
theorem Fx_ex0 (hq : ∀ d, d < n → 2 ≤ q d) : ∀ (N : Nat) (D : Nat → Int), Rl n A q e D → sumD D n ≤ (N : Int) → ∃ E, Rl n A q e E ∧ Fx n A q E
  | N, D, h, hs => by
    by_cases hf : Fx n A q D
    · exact ⟨D, h, hf⟩
    · have : ∃ a d, a < n ∧ d < n ∧ A a d ∧ q d + D d < D a := by
        apply Classical.byContradiction
        intro hn
        exact hf (fun a d ha hd hA => Int.not_lt.mp (fun hl => hn ⟨a, d, ha, hd, hA, hl⟩))
      obtain ⟨a, d, ha, hd, hA, hl⟩ := this
      have h2 := Rl_up hq h ha hd hA hl
      have h3 : sumD (upD D a (q d + D d)) n = sumD D n + (q d + D d - D a) := by rw [sumD_up, if_pos ha]
      have h4 := sumD_ge (D := upD D a (q d + D d)) n (fun x hx => Rl_ge hq h2 hx)
      match N, hs with
      | 0, hs => exact absurd h4 (by omega)
      | N + 1, hs => exact Fx_ex0 hq N _ h2 (by omega)
def ini0 (e : Nat) : Nat → Int := fun x => if x = e then 0 else Big
theorem Rl_ini : Rl n A q e (ini0 e) := by
  refine ⟨if_pos rfl, fun a ha => ?_⟩
  unfold ini0
  by_cases h : a = e
  · rw [if_pos h]
    exact ⟨by decide, Or.inr ⟨0, h, rfl⟩⟩
  · rw [if_neg h]
    exact ⟨Int.le_refl _, Or.inl rfl⟩
theorem Fx_ex (hq : ∀ d, d < n → 2 ≤ q d) : ∃ E, Rl n A q e E ∧ Fx n A q E := by
  have h := sumD_ge (D := ini0 e) n (fun a ha => Rl_ge hq (A := A) (q := q) (Rl_ini (e := e)) ha)
  exact Fx_ex0 hq (sumD (ini0 e) n).toNat (ini0 e) Rl_ini (by omega)
-- how many are not settled yet
def cnt (p : Nat → Bool) : Nat → Nat
  | 0 => 0
  | m + 1 => cnt p m + (if p m then 1 else 0)
theorem cnt_le {p p' : Nat → Bool} : ∀ m : Nat, (∀ a, a < m → p' a = true → p a = true) → cnt p' m ≤ cnt p m
  | 0, _ => Nat.le_refl _
  | m + 1, h => by
    have h1 := cnt_le m (fun a ha => h a (by omega))
    have h2 := h m (by omega)
    unfold cnt
    cases h3 : p' m with
    | false => simp only [Bool.false_eq_true, if_false]; omega
    | true => rw [h2 h3]; omega
theorem cnt_lt {p p' : Nat → Bool} {c : Nat} : ∀ m : Nat, (∀ a, a < m → p' a = true → p a = true) → c < m → p c = true → p' c = false → cnt p' m < cnt p m
  | 0, _, hc, _, _ => by omega
  | m + 1, h, hc, h1, h2 => by
    unfold cnt
    by_cases e : c = m
    · subst e
      have := cnt_le c (fun a ha => h a (by omega))
      rw [h1, h2]
      simp only [if_true, Bool.false_eq_true, if_false]
      omega
    · have h4 := cnt_lt m (fun a ha => h a (by omega)) (by omega) h1 h2
      have h5 := h m (by omega)
      cases h6 : p' m with
      | false => simp only [Bool.false_eq_true, if_false]; omega
      | true => rw [h5 h6]; omega
theorem cnt_all {p : Nat → Bool} : ∀ m : Nat, cnt p m ≤ m
  | 0 => Nat.le_refl _
  | m + 1 => by
    have := cnt_all (p := p) m
    unfold cnt
    split <;> omega
theorem cnt_one {p : Nat → Bool} {c : Nat} : ∀ m : Nat, c < m → p c = false → cnt p m < m
  | 0, h, _ => by omega
  | m + 1, h, h1 => by
    unfold cnt
    by_cases e : c = m
    · subst e
      have := cnt_all (p := p) c
      rw [h1]
      simp only [Bool.false_eq_true, if_false]
      omega
    · have := cnt_one m (by omega) h1
      split <;> omega
theorem cnt_zero {p : Nat → Bool} : ∀ m : Nat, cnt p m = 0 → ∀ a, a < m → p a = false
  | 0, _, a, ha => by omega
  | m + 1, h, a, ha => by
    unfold cnt at h
    by_cases e : a = m
    · subst e
      cases h3 : p a with
      | false => rfl
      | true => rw [h3] at h; simp at h
    · exact cnt_zero m (by omega) a (by omega)
theorem least_of {p : Nat → Bool} {f : Nat → Int} : ∀ m : Nat, (∃ c, c < m ∧ p c = true) → ∃ c, c < m ∧ p c = true ∧ ∀ a, a < m → p a = true → f c ≤ f a
  | 0, ⟨c, hc, _⟩ => by omega
  | m + 1, ⟨c, hc, hp⟩ => by
    by_cases h1 : ∃ c, c < m ∧ p c = true
    · obtain ⟨d, d1, d2, d3⟩ := least_of (p := p) (f := f) m h1
      by_cases h2 : p m = true ∧ f m < f d
      · refine ⟨m, by omega, h2.1, fun a ha pa => ?_⟩
        by_cases e : a = m
        · rw [e]; omega
        · have := d3 a (by omega) pa
          omega
      · refine ⟨d, by omega, d2, fun a ha pa => ?_⟩
        by_cases e : a = m
        · subst e
          have : ¬ f a < f d := fun z => h2 ⟨pa, z⟩
          omega
        · exact d3 a (by omega) pa
    · have e : c = m := by
        apply Classical.byContradiction
        intro z
        exact h1 ⟨c, by omega, hp⟩
      subst e
      refine ⟨c, by omega, hp, fun a ha pa => ?_⟩
      by_cases e : a = c
      · rw [e]; omega
      · exact absurd ⟨a, by omega, pa⟩ h1
abbrev uns (D E : Nat → Int) : Nat → Bool := fun a => decide (D a ≠ E a)
/-- a round over all cells settles one more, if there is one -/
theorem round_less (hq : ∀ d, d < n → 2 ≤ q d) {D D' E : Nat → Int} (hE : Rl n A q e E) (hf : Fx n A q E) (hD : Rl n A q e D) (hD' : Rl n A q e D') (hle : ∀ a, a < n → D' a ≤ D a) (hs : ∀ c d, c < n → d < n → A c d → D' c ≤ q d + D d) : cnt (uns D' E) n < cnt (uns D E) n ∨ cnt (uns D E) n = 0 := by
  by_cases h0 : ∃ c, c < n ∧ uns D E c = true
  · left
    obtain ⟨c, c1, c2, c3⟩ := least_of (p := uns D E) (f := E) n h0
    have c2' : D c ≠ E c := of_decide_eq_true c2
    have g1 := Fx_least hE hf hD c1
    have g2 := Fx_least hE hf hD' c1
    have mono : ∀ a, a < n → uns D' E a = true → uns D E a = true := by
      intro a ha h1
      have h1 : D' a ≠ E a := of_decide_eq_true h1
      have h2 := hle a ha
      have h3 := Fx_least hE hf hD' ha
      exact decide_eq_true (by omega)
    refine cnt_lt n mono c1 c2 (decide_eq_false (fun hn => hn ?_))
    -- c is settled in the round: its first step on a least walk goes to a settled one
    have gB := (hD.2 c c1).1
    rcases (hE.2 c c1).2 with h4 | ⟨k, h4⟩
    · omega
    · match k, h4 with
      | 0, h4 =>
        obtain ⟨rfl, h5⟩ := h4
        have := hD.1
        omega
      | k + 1, h4 =>
        obtain ⟨d, hd, hA, h5⟩ := h4
        have h6 := Fx_le hE.1 hf k d _ hd h5
        have h7 := hq d hd
        have h8 : D d = E d := by
          apply Classical.byContradiction
          intro z
          have := c3 d hd (decide_eq_true z)
          omega
        have h9 := hs c d c1 hd hA
        omega
  · right
    have : ∀ m, m ≤ n → cnt (uns D E) m = 0 := by
      intro m
      induction m with
      | zero => intro _; rfl
      | succ m ih =>
        intro hm
        unfold cnt
        rw [ih (by omega)]
        cases h1 : uns D E m with
        | false => rfl
        | true => exact absurd ⟨m, by omega, h1⟩ h0
    exact this n (Nat.le_refl _)
-- from the other end: numbers by which one comes from s
/-- a walk from s to a -/
def Rf (n : Nat) (A : Nat → Nat → Prop) (q : Nat → Int) (s : Nat) (F : Nat → Int) : Prop := F s = 0 ∧ ∀ a, a < n → F a ≤ Big ∧ (F a = Big ∨ ∃ k, Wk n A q a k s (F a))
def Ff (n : Nat) (A : Nat → Nat → Prop) (q : Nat → Int) (F : Nat → Int) : Prop := ∀ a d, a < n → d < n → F a < Big → A a d → F d ≤ F a + q d
theorem Wk_app {s a d : Nat} {c : Int} (hd : d < n) (hA : A a d) : ∀ (k x : Nat) (c : Int), Wk n A q a k x c → Wk n A q d (k + 1) x (c + q d)
  | 0, x, c, h => by
    obtain ⟨rfl, rfl⟩ := h
    exact ⟨d, hd, hA, rfl, by omega⟩
  | k + 1, x, c, h => by
    obtain ⟨y, hy, hxy, h2⟩ := h
    refine ⟨y, hy, hxy, ?_⟩
    have := Wk_app (s := s) (c := c) hd hA k y _ h2
    have e : c + q d - q y = c - q y + q d := by omega
    rw [e]
    exact this
theorem Ff_le (hq : ∀ d, d < n → 2 ≤ q d) {F : Nat → Int} (hF : Ff n A q F) : ∀ (k a : Nat) (c : Int), a < n → F a + c < Big → Wk n A q e k a c → F e ≤ F a + c
  | 0, a, c, _, _, h => by
    obtain ⟨rfl, rfl⟩ := h
    omega
  | k + 1, a, c, ha, hb, h => by
    obtain ⟨d, hd, hA, h2⟩ := h
    have h3 := Wk_ge hq k d _ h2
    have h4 := hq d hd
    have h5 := hF a d ha hd (by omega) hA
    have h6 := Ff_le hq hF k d _ hd (by omega) h2
    omega
/-- the two ways to reckon come to the same -/
theorem two_ways (hq : ∀ d, d < n → 2 ≤ q d) {s : Nat} {D F : Nat → Int} (hs : s < n) (he : e < n) (hD : Rl n A q e D) (hf : Fx n A q D) (hR : Rf n A q s F) (hF : Ff n A q F) : D s = F e := by
  have h1 : F e ≤ D s := by
    rcases (hD.2 s hs).2 with h1 | ⟨k, h1⟩
    · rw [h1]; exact (hR.2 e he).1
    · by_cases hb : D s < Big
      · have := Ff_le hq hF k s _ hs (by rw [hR.1]; omega) h1
        rw [hR.1] at this
        omega
      · have := (hR.2 e he).1
        have := (hD.2 s hs).1
        omega
  have h2 : D s ≤ F e := by
    rcases (hR.2 e he).2 with h2 | ⟨k, h2⟩
    · rw [h2]; exact (hD.2 s hs).1
    · exact Fx_le hD.1 hf k s _ hs h2
  omega
end Dist
end
section
/-! THE FLOOR MEASURES WAYS -/
theorem cell_in {x y w h : Int} (x0 : 0 ≤ x) (x1 : x < w) (y0 : 0 ≤ y) (y1 : y < h) : 0 ≤ x + w * y ∧ x + w * y < w * h := by
  have h1 : 0 ≤ w * y := Int.mul_nonneg (by omega) y0
  have h2 : w * (y + 1) ≤ w * h := Int.mul_le_mul_of_nonneg_left (by omega) (by omega)
  rw [Int.mul_add, Int.mul_one] at h2
  omega
theorem I32_and (x y : Int) : I32 (o_and x y) := by
  unfold o_and
  have h := i32_toInt (Int32.ofInt x &&& Int32.ofInt y).toInt
  rw [Int32.ofInt_toInt] at h
  rw [h]
  exact ⟨n32_lo _, n32_hi _⟩
/-- what a step to a cell costs, by moon, things and the cell's column -/
def qI (M : Nat → Int → Int) (b : Nat) (x y : Int) : Int := 2 + (if o_and (o_shr (M (b + 1) 4) x) 1 = 1 then 0 else M (b + 2) (x + M (b + 1) 0 * y))
/-- a floor whose numbers fit -/
def FlOk (M : Nat → Int → Int) (b : Nat) : Prop := (1 ≤ M (b + 1) 0 ∧ M (b + 1) 0 ≤ 7) ∧ (1 ≤ M (b + 1) 1 ∧ M (b + 1) 1 ≤ 7) ∧ (0 ≤ M (b + 1) 2 ∧ M (b + 1) 2 < M (b + 1) 0 * M (b + 1) 1) ∧ (0 ≤ M (b + 1) 3 ∧ M (b + 1) 3 < M (b + 1) 0 * M (b + 1) 1) ∧ (0 ≤ M (b + 1) 4 ∧ M (b + 1) 4 ≤ 127) ∧ (0 ≤ M (b + 1) 5 ∧ M (b + 1) 5 ≤ 1) ∧ (∀ c, 0 ≤ c → c < 49 → 0 ≤ M (b + 2) c ∧ M (b + 2) c ≤ 9)
theorem FlOk.n {M : Nat → Int → Int} {b : Nat} (h : FlOk M b) : 1 ≤ M (b + 1) 0 * M (b + 1) 1 ∧ M (b + 1) 0 * M (b + 1) 1 ≤ 49 := by
  obtain ⟨h1, h2, -⟩ := h
  have p1 : M (b + 1) 0 * M (b + 1) 1 ≤ 7 * 7 := Int.mul_le_mul h1.2 h2.2 (by omega) (by omega)
  have p0 : 1 * 1 ≤ M (b + 1) 0 * M (b + 1) 1 := Int.mul_le_mul h1.1 h2.1 (by omega) (by omega)
  omega
section Way
variable {S : List Int} {T : List Sh} {M : Nat → Int → Int} {b : Nat} {h : Hp}
theorem qI_in {x y : Int} (hf : FlOk M b) (x0 : 0 ≤ x) (x1 : x < M (b + 1) 0) (y0 : 0 ≤ y) (y1 : y < M (b + 1) 1) : 2 ≤ qI M b x y ∧ qI M b x y ≤ 11 := by
  have h1 := cell_in x0 x1 y0 y1
  have h2 := hf.n
  have h3 := hf.2.2.2.2.2.2 _ h1.1 (by omega)
  unfold qI
  split <;> omega
theorem c_wayOver {x y : Int} (hS : isSt T b) (hf : FlOk M b) (x0 : 0 ≤ x) (x1 : x < M (b + 1) 0) (y0 : 0 ≤ y) (y1 : y < M (b + 1) 1) : Cl S 26 [vR (b + 1), vI x, vI y] (T, M) (some (vI (qI M b x y + M (b + 3) (x + M (b + 1) 0 * y))), (T, M)) := by
  have h1 := cell_in x0 x1 y0 y1
  have h2 := hf.n
  have h3 := hf.2.2.2.2.2.2 _ h1.1 (by omega)
  have ia := I32_and (o_shr (M (b + 1) 4) x) 1
  refine ⟨_, rfl, ?_⟩
  unfold qI
  refine Rn.cne rfl (X_ild rfl <| X_ald rfl <| X_gi 1 0 0 hS.fl ⟨rfl, rfl, rfl⟩ (Or.inl rfl) <| X_ild rfl <| X_mul <| X_add <| X_ist rfl (L' := [_, _, _, _, _]) rfl <| X_ald rfl <| X_gi 1 4 4 hS.fl ⟨rfl, rfl, rfl⟩ (Or.inl rfl) <| X_ild rfl <| X_shr <| X_i <| X_and <| X_i <| X_nil) (by first | omega | (simp (disch := omega) only [um_eq, um_na, um_ni, Int.toNat_natCast]; omega)) (by first | omega | (simp (disch := omega) only [um_eq, um_na, um_ni, Int.toNat_natCast]; omega)) (fun hc => ?_) (fun hc => ?_)
  · rw [if_neg hc]
    refine Rn.fal rfl (X_i <| X_nil) ?_
    refine Rn.ieq rfl (X_ist rfl (L' := [_, _, _, _, _]) rfl <| X_i <| X_ild rfl <| X_nil) (by first | omega | (simp (disch := omega) only [um_eq, um_na, um_ni, Int.toNat_natCast]; omega)) (fun hc => ?_) (fun hc => ?_)
    · refine Rn.fal rfl (X_ald rfl <| X_gr 1 6 hS.fl ⟨rfl, rfl⟩ rfl rfl <| X_ild rfl <| X_ia hS.th (by first | omega | (simp (disch := omega) only [um_eq, um_na, um_ni, Int.toNat_natCast]; omega)) (by first | omega | (simp (disch := omega) only [um_eq, um_na, um_ni, Int.toNat_natCast]; omega)) rfl <| X_nil) ?_
      refine Rn.ri rfl (X_add <| X_ald rfl <| X_gr 1 7 hS.fl ⟨rfl, rfl⟩ rfl rfl <| X_ild rfl <| X_ia hS.wy (by first | omega | (simp (disch := omega) only [um_eq, um_na, um_ni, Int.toNat_natCast]; omega)) (by first | omega | (simp (disch := omega) only [um_eq, um_na, um_ni, Int.toNat_natCast]; omega)) rfl <| X_add <| X_nil) rfl
    · exact absurd rfl hc
  · rw [if_pos hc]
    refine Rn.jto rfl (X_i <| X_nil) ?_
    refine Rn.ieq rfl (X_ist rfl (L' := [_, _, _, _, _]) rfl <| X_i <| X_ild rfl <| X_nil) (by first | omega | (simp (disch := omega) only [um_eq, um_na, um_ni, Int.toNat_natCast]; omega)) (fun hc => ?_) (fun hc => ?_)
    · exact absurd hc (by omega)
    · refine Rn.jto rfl (X_i <| X_nil) ?_
      refine Rn.ri rfl (X_add <| X_ald rfl <| X_gr 1 7 hS.fl ⟨rfl, rfl⟩ rfl rfl <| X_ild rfl <| X_ia hS.wy (by first | omega | (simp (disch := omega) only [um_eq, um_na, um_ni, Int.toNat_natCast]; omega)) (by first | omega | (simp (disch := omega) only [um_eq, um_na, um_ni, Int.toNat_natCast]; omega)) rfl <| X_add <| X_nil) rfl
/-- the way of a cell, made less over one neighbour, where there is one -/
def minIf (p : Prop) [Decidable p] (v o : Int) : Int := if p then (if o < v then o else v) else v
theorem minIf_le {p : Prop} [Decidable p] {v o : Int} : minIf p v o ≤ v ∧ (p → minIf p v o ≤ o) ∧ (minIf p v o = v ∨ (p ∧ minIf p v o = o)) := by
  unfold minIf
  by_cases h : p
  · rw [if_pos h]
    split
    · exact ⟨by omega, fun _ => Int.le_refl _, Or.inr ⟨h, rfl⟩⟩
    · exact ⟨Int.le_refl _, fun _ => by omega, Or.inl rfl⟩
  · rw [if_neg h]
    exact ⟨Int.le_refl _, fun q => absurd q h, Or.inl rfl⟩
def shV (M : Nat → Int → Int) (b : Nat) (x y : Int) : Int :=
  minIf (y < M (b + 1) 1 - 1) (minIf (0 < y) (minIf (x < M (b + 1) 0 - 1) (minIf (0 < x) (M (b + 3) (x + M (b + 1) 0 * y))
    (qI M b (x - 1) y + M (b + 3) (x - 1 + M (b + 1) 0 * y))) (qI M b (x + 1) y + M (b + 3) (x + 1 + M (b + 1) 0 * y)))
    (qI M b x (y - 1) + M (b + 3) (x + M (b + 1) 0 * (y - 1)))) (qI M b x (y + 1) + M (b + 3) (x + M (b + 1) 0 * (y + 1)))
/-- the ways that stand are numbers -/
def WyOk (M : Nat → Int → Int) (b : Nat) : Prop := ∀ c, 0 ≤ c → c < 49 → 0 ≤ M (b + 3) c ∧ M (b + 3) c ≤ Big
theorem c_shorten {x y : Int} (hS : isSt T b) (hf : FlOk M b) (hw : WyOk M b) (x0 : 0 ≤ x) (x1 : x < M (b + 1) 0) (y0 : 0 ≤ y) (y1 : y < M (b + 1) 1) : Cl S 25 [vR (b + 1), vI x, vI y] (T, M) (some (vI (if shV M b x y < M (b + 3) (x + M (b + 1) 0 * y) then 1 else 0)), (T, um M (b + 3) (x + M (b + 1) 0 * y) (shV M b x y))) := by
  have h1 := cell_in x0 x1 y0 y1
  have h2 := hf.n
  obtain ⟨hW, hH, -⟩ := id hf
  have h3 := hw _ h1.1 (by omega)
  -- a neighbour's number fits
  have nb : ∀ u v : Int, 0 ≤ u → u < M (b + 1) 0 → 0 ≤ v → v < M (b + 1) 1 → 0 ≤ qI M b u v + M (b + 3) (u + M (b + 1) 0 * v) ∧ qI M b u v + M (b + 3) (u + M (b + 1) 0 * v) ≤ 1000000011 := by
    intro u v u0 u1 v0 v1
    have g1 := cell_in u0 u1 v0 v1
    have g2 := hw _ g1.1 (by omega)
    have g3 := qI_in hf u0 u1 v0 v1
    have g4 : (Big : Int) = 1000000000 := rfl
    omega
  have mi : ∀ (p : Prop) [Decidable p] (v o : Int), 0 ≤ v → v ≤ 1000000000 → (p → 0 ≤ o) → 0 ≤ minIf p v o ∧ minIf p v o ≤ 1000000000 := by
    intro p _ v o v0 v1 o0
    have g := minIf_le (p := p) (v := v) (o := o)
    rcases g.2.2 with e | ⟨hp, e⟩
    · omega
    · have := o0 hp
      omega
  have h3' : 0 ≤ M (b + 3) (x + M (b + 1) 0 * y) ∧ M (b + 3) (x + M (b + 1) 0 * y) ≤ 1000000000 := h3
  refine ⟨_, rfl, ?_⟩
  -- the end, with the least number known
  have k105 : ∀ v : Int, 0 ≤ v → v ≤ 1000000000 → ∀ x5 : Option AV, Rn S 25 105 ([], [some (vR (b + 1)), some (vI x), some (vI y), some (vI (x + M (b + 1) 0 * y)), some (vI v), x5], T, M) (some (vI (if v < M (b + 3) (x + M (b + 1) 0 * y) then 1 else 0)), (T, um M (b + 3) (x + M (b + 1) 0 * y) v)) := by
    intro v v0 v1 x5
    refine Rn.cge rfl (X_ild rfl <| X_ald rfl <| X_gr 1 7 hS.fl ⟨rfl, rfl⟩ rfl rfl <| X_ild rfl <| X_ia hS.wy (by first | omega | (simp (disch := omega) only [um_eq, um_na, um_ni, Int.toNat_natCast]; omega)) (by first | omega | (simp (disch := omega) only [um_eq, um_na, um_ni, Int.toNat_natCast]; omega)) rfl <| X_nil) (by first | omega | (simp (disch := omega) only [um_eq, um_na, um_ni, Int.toNat_natCast]; omega)) (by first | omega | (simp (disch := omega) only [um_eq, um_na, um_ni, Int.toNat_natCast]; omega)) (fun hc => ?_) (fun hc => ?_)
    · rw [if_neg (by omega)]
      refine Rn.fal rfl (X_i <| X_nil) ?_
      refine Rn.rz rfl (X_ist rfl (L' := [_, _, _, _, _, _]) rfl <| X_ald rfl <| X_gr 1 7 hS.fl ⟨rfl, rfl⟩ rfl rfl <| X_ild rfl <| X_ild rfl <| X_is hS.wy (by first | omega | (simp (disch := omega) only [um_eq, um_na, um_ni, Int.toNat_natCast]; omega)) (by first | omega | (simp (disch := omega) only [um_eq, um_na, um_ni, Int.toNat_natCast]; omega)) rfl <| X_ild rfl <| X_nil) rfl (by first | exact Or.inl rfl | exact Or.inr rfl | omega)
    · rw [if_pos (by omega)]
      refine Rn.jto rfl (X_i <| X_nil) ?_
      refine Rn.rz rfl (X_ist rfl (L' := [_, _, _, _, _, _]) rfl <| X_ald rfl <| X_gr 1 7 hS.fl ⟨rfl, rfl⟩ rfl rfl <| X_ild rfl <| X_ild rfl <| X_is hS.wy (by first | omega | (simp (disch := omega) only [um_eq, um_na, um_ni, Int.toNat_natCast]; omega)) (by first | omega | (simp (disch := omega) only [um_eq, um_na, um_ni, Int.toNat_natCast]; omega)) rfl <| X_ild rfl <| X_nil) rfl (by first | exact Or.inl rfl | exact Or.inr rfl | omega)
  have k80 : ∀ v : Int, 0 ≤ v → v ≤ 1000000000 → ∀ x5 : Option AV, Rn S 25 80 ([], [some (vR (b + 1)), some (vI x), some (vI y), some (vI (x + M (b + 1) 0 * y)), some (vI v), x5], T, M) (some (vI (if minIf (y < M (b + 1) 1 - 1) v (qI M b x (y + 1) + M (b + 3) (x + M (b + 1) 0 * (y + 1))) < M (b + 3) (x + M (b + 1) 0 * y) then 1 else 0)), (T, um M (b + 3) (x + M (b + 1) 0 * y) (minIf (y < M (b + 1) 1 - 1) v (qI M b x (y + 1) + M (b + 3) (x + M (b + 1) 0 * (y + 1)))))) := by
    intro v v0 v1 x5
    by_cases hp : y < M (b + 1) 1 - 1
    · have g := nb x (y + 1) x0 x1 (by omega) (by omega)
      have e : minIf (y < M (b + 1) 1 - 1) v (qI M b x (y + 1) + M (b + 3) (x + M (b + 1) 0 * (y + 1))) = if qI M b x (y + 1) + M (b + 3) (x + M (b + 1) 0 * (y + 1)) < v then qI M b x (y + 1) + M (b + 3) (x + M (b + 1) 0 * (y + 1)) else v := if_pos hp
      rw [e]
      refine Rn.cge rfl (X_ild rfl <| X_ald rfl <| X_gi 1 1 1 hS.fl ⟨rfl, rfl, rfl⟩ (Or.inl rfl) <| X_i <| X_sub <| X_nil) (by first | omega | (simp (disch := omega) only [um_eq, um_na, um_ni, Int.toNat_natCast]; omega)) (by first | omega | (simp (disch := omega) only [um_eq, um_na, um_ni, Int.toNat_natCast]; omega)) (fun hc => ?_) (fun hc => ?_)
      · exact absurd hc (by omega)
      · refine Rn.cal rfl (X_ild rfl <| X_ald rfl <| X_ild rfl <| X_ild rfl <| X_i <| X_add <| X_nil) (vs := [_, _, _]) (rest := [_]) rfl rfl rfl (rcv_v hS.fl (by decide)) (c_wayOver hS hf x0 x1 (by omega) (by omega)) ?_
        refine Rn.fal rfl (X_min (by first | omega | (simp (disch := omega) only [um_eq, um_na, um_ni, Int.toNat_natCast]; omega)) (by first | omega | (simp (disch := omega) only [um_eq, um_na, um_ni, Int.toNat_natCast]; omega)) rfl <| X_ist rfl (L' := [_, _, _, _, _, _]) rfl <| X_nil) ?_
        exact k105 _ (by split <;> omega) (by split <;> omega) _
    · have e : minIf (y < M (b + 1) 1 - 1) v (qI M b x (y + 1) + M (b + 3) (x + M (b + 1) 0 * (y + 1))) = v := if_neg hp
      rw [e]
      refine Rn.cge rfl (X_ild rfl <| X_ald rfl <| X_gi 1 1 1 hS.fl ⟨rfl, rfl, rfl⟩ (Or.inl rfl) <| X_i <| X_sub <| X_nil) (by first | omega | (simp (disch := omega) only [um_eq, um_na, um_ni, Int.toNat_natCast]; omega)) (by first | omega | (simp (disch := omega) only [um_eq, um_na, um_ni, Int.toNat_natCast]; omega)) (fun hc => ?_) (fun hc => ?_)
      · exact k105 v v0 v1 _
      · exact absurd hc (by omega)
  have k61 : ∀ v : Int, 0 ≤ v → v ≤ 1000000000 → ∀ x5 : Option AV, Rn S 25 61 ([], [some (vR (b + 1)), some (vI x), some (vI y), some (vI (x + M (b + 1) 0 * y)), some (vI v), x5], T, M) (some (vI (if minIf (y < M (b + 1) 1 - 1) (minIf (0 < y) v (qI M b x (y - 1) + M (b + 3) (x + M (b + 1) 0 * (y - 1)))) (qI M b x (y + 1) + M (b + 3) (x + M (b + 1) 0 * (y + 1))) < M (b + 3) (x + M (b + 1) 0 * y) then 1 else 0)), (T, um M (b + 3) (x + M (b + 1) 0 * y) (minIf (y < M (b + 1) 1 - 1) (minIf (0 < y) v (qI M b x (y - 1) + M (b + 3) (x + M (b + 1) 0 * (y - 1)))) (qI M b x (y + 1) + M (b + 3) (x + M (b + 1) 0 * (y + 1)))))) := by
    intro v v0 v1 x5
    have gm := mi (0 < y) v (qI M b x (y - 1) + M (b + 3) (x + M (b + 1) 0 * (y - 1))) v0 v1 (fun hp => (nb x (y - 1) x0 x1 (by omega) (by omega)).1)
    by_cases hp : 0 < y
    · have g := nb x (y - 1) x0 x1 (by omega) (by omega)
      have e : minIf (0 < y) v (qI M b x (y - 1) + M (b + 3) (x + M (b + 1) 0 * (y - 1))) = if qI M b x (y - 1) + M (b + 3) (x + M (b + 1) 0 * (y - 1)) < v then qI M b x (y - 1) + M (b + 3) (x + M (b + 1) 0 * (y - 1)) else v := if_pos hp
      refine Rn.ile rfl (X_ild rfl <| X_nil) (by first | omega | (simp (disch := omega) only [um_eq, um_na, um_ni, Int.toNat_natCast]; omega)) (fun hc => ?_) (fun hc => ?_)
      · exact absurd hc (by omega)
      · refine Rn.cal rfl (X_ild rfl <| X_ald rfl <| X_ild rfl <| X_ild rfl <| X_i <| X_sub <| X_nil) (vs := [_, _, _]) (rest := [_]) rfl rfl rfl (rcv_v hS.fl (by decide)) (c_wayOver hS hf x0 x1 (by omega) (by omega)) ?_
        refine Rn.fal rfl (X_min (by first | omega | (simp (disch := omega) only [um_eq, um_na, um_ni, Int.toNat_natCast]; omega)) (by first | omega | (simp (disch := omega) only [um_eq, um_na, um_ni, Int.toNat_natCast]; omega)) rfl <| X_ist rfl (L' := [_, _, _, _, _, _]) rfl <| X_nil) ?_
        rw [← e]
        exact k80 _ gm.1 gm.2 _
    · have e : minIf (0 < y) v (qI M b x (y - 1) + M (b + 3) (x + M (b + 1) 0 * (y - 1))) = v := if_neg hp
      rw [e]
      refine Rn.ile rfl (X_ild rfl <| X_nil) (by first | omega | (simp (disch := omega) only [um_eq, um_na, um_ni, Int.toNat_natCast]; omega)) (fun hc => ?_) (fun hc => ?_)
      · exact k80 v v0 v1 _
      · exact absurd hc (by omega)
  have k36 : ∀ v : Int, 0 ≤ v → v ≤ 1000000000 → ∀ x5 : Option AV, Rn S 25 36 ([], [some (vR (b + 1)), some (vI x), some (vI y), some (vI (x + M (b + 1) 0 * y)), some (vI v), x5], T, M) (some (vI (if minIf (y < M (b + 1) 1 - 1) (minIf (0 < y) (minIf (x < M (b + 1) 0 - 1) v (qI M b (x + 1) y + M (b + 3) (x + 1 + M (b + 1) 0 * y))) (qI M b x (y - 1) + M (b + 3) (x + M (b + 1) 0 * (y - 1)))) (qI M b x (y + 1) + M (b + 3) (x + M (b + 1) 0 * (y + 1))) < M (b + 3) (x + M (b + 1) 0 * y) then 1 else 0)), (T, um M (b + 3) (x + M (b + 1) 0 * y) (minIf (y < M (b + 1) 1 - 1) (minIf (0 < y) (minIf (x < M (b + 1) 0 - 1) v (qI M b (x + 1) y + M (b + 3) (x + 1 + M (b + 1) 0 * y))) (qI M b x (y - 1) + M (b + 3) (x + M (b + 1) 0 * (y - 1)))) (qI M b x (y + 1) + M (b + 3) (x + M (b + 1) 0 * (y + 1)))))) := by
    intro v v0 v1 x5
    have gm := mi (x < M (b + 1) 0 - 1) v (qI M b (x + 1) y + M (b + 3) (x + 1 + M (b + 1) 0 * y)) v0 v1 (fun hp => (nb (x + 1) y (by omega) (by omega) y0 y1).1)
    by_cases hp : x < M (b + 1) 0 - 1
    · have g := nb (x + 1) y (by omega) (by omega) y0 y1
      have e : minIf (x < M (b + 1) 0 - 1) v (qI M b (x + 1) y + M (b + 3) (x + 1 + M (b + 1) 0 * y)) = if qI M b (x + 1) y + M (b + 3) (x + 1 + M (b + 1) 0 * y) < v then qI M b (x + 1) y + M (b + 3) (x + 1 + M (b + 1) 0 * y) else v := if_pos hp
      refine Rn.cge rfl (X_ild rfl <| X_ald rfl <| X_gi 1 0 0 hS.fl ⟨rfl, rfl, rfl⟩ (Or.inl rfl) <| X_i <| X_sub <| X_nil) (by first | omega | (simp (disch := omega) only [um_eq, um_na, um_ni, Int.toNat_natCast]; omega)) (by first | omega | (simp (disch := omega) only [um_eq, um_na, um_ni, Int.toNat_natCast]; omega)) (fun hc => ?_) (fun hc => ?_)
      · exact absurd hc (by omega)
      · refine Rn.cal rfl (X_ild rfl <| X_ald rfl <| X_ild rfl <| X_i <| X_add <| X_ild rfl <| X_nil) (vs := [_, _, _]) (rest := [_]) rfl rfl rfl (rcv_v hS.fl (by decide)) (c_wayOver hS hf (by omega) (by omega) y0 y1) ?_
        refine Rn.fal rfl (X_min (by first | omega | (simp (disch := omega) only [um_eq, um_na, um_ni, Int.toNat_natCast]; omega)) (by first | omega | (simp (disch := omega) only [um_eq, um_na, um_ni, Int.toNat_natCast]; omega)) rfl <| X_ist rfl (L' := [_, _, _, _, _, _]) rfl <| X_nil) ?_
        rw [← e]
        exact k61 _ gm.1 gm.2 _
    · have e : minIf (x < M (b + 1) 0 - 1) v (qI M b (x + 1) y + M (b + 3) (x + 1 + M (b + 1) 0 * y)) = v := if_neg hp
      rw [e]
      refine Rn.cge rfl (X_ild rfl <| X_ald rfl <| X_gi 1 0 0 hS.fl ⟨rfl, rfl, rfl⟩ (Or.inl rfl) <| X_i <| X_sub <| X_nil) (by first | omega | (simp (disch := omega) only [um_eq, um_na, um_ni, Int.toNat_natCast]; omega)) (by first | omega | (simp (disch := omega) only [um_eq, um_na, um_ni, Int.toNat_natCast]; omega)) (fun hc => ?_) (fun hc => ?_)
      · exact k61 v v0 v1 _
      · exact absurd hc (by omega)
  unfold shV
  have gm := mi (0 < x) (M (b + 3) (x + M (b + 1) 0 * y)) (qI M b (x - 1) y + M (b + 3) (x - 1 + M (b + 1) 0 * y)) h3'.1 h3'.2 (fun hp => (nb (x - 1) y (by omega) (by omega) y0 y1).1)
  by_cases hp : 0 < x
  · have g := nb (x - 1) y (by omega) (by omega) y0 y1
    have e : minIf (0 < x) (M (b + 3) (x + M (b + 1) 0 * y)) (qI M b (x - 1) y + M (b + 3) (x - 1 + M (b + 1) 0 * y)) = if qI M b (x - 1) y + M (b + 3) (x - 1 + M (b + 1) 0 * y) < M (b + 3) (x + M (b + 1) 0 * y) then qI M b (x - 1) y + M (b + 3) (x - 1 + M (b + 1) 0 * y) else M (b + 3) (x + M (b + 1) 0 * y) := if_pos hp
    refine Rn.ile rfl (X_ild rfl <| X_ald rfl <| X_gi 1 0 0 hS.fl ⟨rfl, rfl, rfl⟩ (Or.inl rfl) <| X_ild rfl <| X_mul <| X_add <| X_ist rfl (L' := [_, _, _, _, _, _]) rfl <| X_ald rfl <| X_gr 1 7 hS.fl ⟨rfl, rfl⟩ rfl rfl <| X_ild rfl <| X_ia hS.wy (by first | omega | (simp (disch := omega) only [um_eq, um_na, um_ni, Int.toNat_natCast]; omega)) (by first | omega | (simp (disch := omega) only [um_eq, um_na, um_ni, Int.toNat_natCast]; omega)) rfl <| X_ist rfl (L' := [_, _, _, _, _, _]) rfl <| X_ild rfl <| X_nil) (by first | omega | (simp (disch := omega) only [um_eq, um_na, um_ni, Int.toNat_natCast]; omega)) (fun hc => ?_) (fun hc => ?_)
    · exact absurd hc (by omega)
    · refine Rn.cal rfl (X_ild rfl <| X_ald rfl <| X_ild rfl <| X_i <| X_sub <| X_ild rfl <| X_nil) (vs := [_, _, _]) (rest := [_]) rfl rfl rfl (rcv_v hS.fl (by decide)) (c_wayOver hS hf (by omega) (by omega) y0 y1) ?_
      refine Rn.fal rfl (X_min (by first | omega | (simp (disch := omega) only [um_eq, um_na, um_ni, Int.toNat_natCast]; omega)) (by first | omega | (simp (disch := omega) only [um_eq, um_na, um_ni, Int.toNat_natCast]; omega)) rfl <| X_ist rfl (L' := [_, _, _, _, _, _]) rfl <| X_nil) ?_
      rw [← e]
      exact k36 _ gm.1 gm.2 _
  · have e : minIf (0 < x) (M (b + 3) (x + M (b + 1) 0 * y)) (qI M b (x - 1) y + M (b + 3) (x - 1 + M (b + 1) 0 * y)) = M (b + 3) (x + M (b + 1) 0 * y) := if_neg hp
    rw [e]
    refine Rn.ile rfl (X_ild rfl <| X_ald rfl <| X_gi 1 0 0 hS.fl ⟨rfl, rfl, rfl⟩ (Or.inl rfl) <| X_ild rfl <| X_mul <| X_add <| X_ist rfl (L' := [_, _, _, _, _, _]) rfl <| X_ald rfl <| X_gr 1 7 hS.fl ⟨rfl, rfl⟩ rfl rfl <| X_ild rfl <| X_ia hS.wy (by first | omega | (simp (disch := omega) only [um_eq, um_na, um_ni, Int.toNat_natCast]; omega)) (by first | omega | (simp (disch := omega) only [um_eq, um_na, um_ni, Int.toNat_natCast]; omega)) rfl <| X_ist rfl (L' := [_, _, _, _, _, _]) rfl <| X_ild rfl <| X_nil) (by first | omega | (simp (disch := omega) only [um_eq, um_na, um_ni, Int.toNat_natCast]; omega)) (fun hc => ?_) (fun hc => ?_)
    · exact k36 _ h3'.1 h3'.2 _
    · exact absurd hc (by omega)
end Way
end
section
/-! measureWaysTo: the ways from all cells, least -/
/-- two cells of a room w wide lie beside one another -/
def AdjC (w a d : Nat) : Prop := (a / w = d / w ∧ (a % w + 1 = d % w ∨ d % w + 1 = a % w)) ∨ (a % w = d % w ∧ (a / w + 1 = d / w ∨ d / w + 1 = a / w))
/-- what a step to cell a costs -/
def qN (M : Nat → Int → Int) (b w : Nat) (a : Nat) : Int := qI M b ((a % w : Nat) : Int) ((a / w : Nat) : Int)
theorem qI_cg {M N : Nat → Int → Int} {b : Nat} {x y : Int} (h1 : N (b + 1) = M (b + 1)) (h2 : N (b + 2) = M (b + 2)) : qI N b x y = qI M b x y := by
  unfold qI
  rw [h1, h2]
theorem idx_mod {w x y : Nat} (h : x < w) : (x + w * y) % w = x := by rw [Nat.add_mul_mod_self_left, Nat.mod_eq_of_lt h]
theorem idx_div {w x y : Nat} (h : x < w) : (x + w * y) / w = y := by rw [Nat.add_mul_div_left _ _ (by omega), Nat.div_eq_of_lt h, Nat.zero_add]
theorem idx_of {w a : Nat} : a = a % w + w * (a / w) := (Nat.mod_add_div a w).symm
theorem or01 {s v : Int} (hs : s = 0 ∨ s = 1) (hv : v = 0 ∨ v = 1) : o_or s v = if s = 0 ∧ v = 0 then 0 else 1 := by
  rcases hs with rfl | rfl <;> rcases hv with rfl | rfl <;> decide
section Measure
variable {S : List Int} {T : List Sh} {M : Nat → Int → Int} {b : Nat} {h : Hp}
/-- the least over the neighbours is no more than any neighbour's -/
theorem shV_le {N : Nat → Int → Int} {w x y d hh : Nat} (e0 : N (b + 1) 0 = (w : Int)) (e1 : N (b + 1) 1 = (hh : Int)) (hx : x < w) (hd : d < w * hh) (hA : AdjC w (x + w * y) d) : shV N b x y ≤ qN N b w d + N (b + 3) (d : Int) := by
  unfold AdjC at hA
  rw [idx_mod hx, idx_div hx] at hA
  have hw : 0 < w := by omega
  have du : d % w < w := Nat.mod_lt _ hw
  have dv : d / w < hh := Nat.div_lt_of_lt_mul hd
  have di : (d : Int) = ((d % w : Nat) : Int) + N (b + 1) 0 * ((d / w : Nat) : Int) := by
    rw [e0]
    have := idx_of (w := w) (a := d)
    exact_mod_cast this
  rw [di]
  unfold qN shV
  generalize hv0 : N (b + 3) ((x : Int) + N (b + 1) 0 * (y : Int)) = v0
  generalize hm1 : minIf (0 < (x : Int)) v0 (qI N b ((x : Int) - 1) y + N (b + 3) ((x : Int) - 1 + N (b + 1) 0 * (y : Int))) = m1
  generalize hm2 : minIf ((x : Int) < N (b + 1) 0 - 1) m1 (qI N b ((x : Int) + 1) y + N (b + 3) ((x : Int) + 1 + N (b + 1) 0 * (y : Int))) = m2
  generalize hm3 : minIf (0 < (y : Int)) m2 (qI N b x ((y : Int) - 1) + N (b + 3) ((x : Int) + N (b + 1) 0 * ((y : Int) - 1))) = m3
  have g1 := minIf_le (p := 0 < (x : Int)) (v := v0) (o := qI N b ((x : Int) - 1) y + N (b + 3) ((x : Int) - 1 + N (b + 1) 0 * (y : Int)))
  have g2 := minIf_le (p := (x : Int) < N (b + 1) 0 - 1) (v := m1) (o := qI N b ((x : Int) + 1) y + N (b + 3) ((x : Int) + 1 + N (b + 1) 0 * (y : Int)))
  have g3 := minIf_le (p := 0 < (y : Int)) (v := m2) (o := qI N b x ((y : Int) - 1) + N (b + 3) ((x : Int) + N (b + 1) 0 * ((y : Int) - 1)))
  have g4 := minIf_le (p := (y : Int) < N (b + 1) 1 - 1) (v := m3) (o := qI N b x ((y : Int) + 1) + N (b + 3) ((x : Int) + N (b + 1) 0 * ((y : Int) + 1)))
  rw [hm1] at g1
  rw [hm2] at g2
  rw [hm3] at g3
  have l4 := g4.1
  have l3 := g3.1
  have l2 := g2.1
  rcases hA with ⟨h1, h2 | h2⟩ | ⟨h1, h2 | h2⟩
  · have ex : ((d % w : Nat) : Int) = (x : Int) + 1 := by omega
    have ey : ((d / w : Nat) : Int) = (y : Int) := by omega
    rw [ex, ey]
    have := g2.2.1 (by rw [e0]; omega)
    omega
  · have ex : ((d % w : Nat) : Int) = (x : Int) - 1 := by omega
    have ey : ((d / w : Nat) : Int) = (y : Int) := by omega
    rw [ex, ey]
    have := g1.2.1 (by omega)
    omega
  · have ex : ((d % w : Nat) : Int) = (x : Int) := by omega
    have ey : ((d / w : Nat) : Int) = (y : Int) + 1 := by omega
    rw [ex, ey]
    exact g4.2.1 (by rw [e1]; omega)
  · have ex : ((d % w : Nat) : Int) = (x : Int) := by omega
    have ey : ((d / w : Nat) : Int) = (y : Int) - 1 := by omega
    have hy0 : 0 < y := by rw [← h2]; exact Nat.succ_pos _
    rw [ex, ey]
    have := g3.2.1 (by exact_mod_cast hy0)
    omega
/-- it is the way that stood, or that over a neighbour -/
theorem shV_at {N : Nat → Int → Int} {w x y hh : Nat} (e0 : N (b + 1) 0 = (w : Int)) (e1 : N (b + 1) 1 = (hh : Int)) (hx : x < w) (hy : y < hh) : shV N b x y = N (b + 3) ((x + w * y : Nat) : Int) ∨ ∃ d, d < w * hh ∧ AdjC w (x + w * y) d ∧ shV N b x y = qN N b w d + N (b + 3) (d : Int) := by
  have hw : 0 < w := by omega
  have ecell : ((x + w * y : Nat) : Int) = (x : Int) + N (b + 1) 0 * (y : Int) := by rw [e0]; exact_mod_cast rfl
  have cand : ∀ u v : Nat, u < w → v < hh → ((y = v ∧ (x + 1 = u ∨ u + 1 = x)) ∨ (x = u ∧ (y + 1 = v ∨ v + 1 = y))) → ∀ z : Int, z = qI N b u v + N (b + 3) ((u : Int) + N (b + 1) 0 * (v : Int)) → ∃ d, d < w * hh ∧ AdjC w (x + w * y) d ∧ z = qN N b w d + N (b + 3) (d : Int) := by
    intro u v hu hv hA z hz
    refine ⟨u + w * v, ?_, ?_, ?_⟩
    · have : w * (v + 1) ≤ w * hh := Nat.mul_le_mul_left w hv
      rw [Nat.mul_add, Nat.mul_one] at this
      omega
    · unfold AdjC
      rw [idx_mod hx, idx_div hx, idx_mod hu, idx_div hu]
      exact hA
    · unfold qN
      rw [idx_mod hu, idx_div hu, hz, e0]
      have : ((u + w * v : Nat) : Int) = (u : Int) + (w : Int) * (v : Int) := by exact_mod_cast rfl
      rw [this]
  rw [ecell]
  unfold shV
  generalize hv0 : N (b + 3) ((x : Int) + N (b + 1) 0 * (y : Int)) = v0
  generalize hm1 : minIf (0 < (x : Int)) v0 (qI N b ((x : Int) - 1) y + N (b + 3) ((x : Int) - 1 + N (b + 1) 0 * (y : Int))) = m1
  generalize hm2 : minIf ((x : Int) < N (b + 1) 0 - 1) m1 (qI N b ((x : Int) + 1) y + N (b + 3) ((x : Int) + 1 + N (b + 1) 0 * (y : Int))) = m2
  generalize hm3 : minIf (0 < (y : Int)) m2 (qI N b x ((y : Int) - 1) + N (b + 3) ((x : Int) + N (b + 1) 0 * ((y : Int) - 1))) = m3
  have g1 := minIf_le (p := 0 < (x : Int)) (v := v0) (o := qI N b ((x : Int) - 1) y + N (b + 3) ((x : Int) - 1 + N (b + 1) 0 * (y : Int)))
  have g2 := minIf_le (p := (x : Int) < N (b + 1) 0 - 1) (v := m1) (o := qI N b ((x : Int) + 1) y + N (b + 3) ((x : Int) + 1 + N (b + 1) 0 * (y : Int)))
  have g3 := minIf_le (p := 0 < (y : Int)) (v := m2) (o := qI N b x ((y : Int) - 1) + N (b + 3) ((x : Int) + N (b + 1) 0 * ((y : Int) - 1)))
  have g4 := minIf_le (p := (y : Int) < N (b + 1) 1 - 1) (v := m3) (o := qI N b x ((y : Int) + 1) + N (b + 3) ((x : Int) + N (b + 1) 0 * ((y : Int) + 1)))
  rw [hm1] at g1
  rw [hm2] at g2
  rw [hm3] at g3
  have c1 : (x : Int) - 1 = ((x - 1 : Nat) : Int) ∨ x = 0 := by omega
  have c3 : (y : Int) - 1 = ((y - 1 : Nat) : Int) ∨ y = 0 := by omega
  have c2 : (x : Int) + 1 = ((x + 1 : Nat) : Int) := by omega
  have c4 : (y : Int) + 1 = ((y + 1 : Nat) : Int) := by omega
  rcases g4.2.2 with e | ⟨hp, e⟩
  · rw [e]
    rcases g3.2.2 with e | ⟨hp, e⟩
    · rw [e]
      rcases g2.2.2 with e | ⟨hp, e⟩
      · rw [e]
        rcases g1.2.2 with e | ⟨hp, e⟩
        · exact Or.inl e
        · right
          rcases c1 with c1 | c1
          · rw [c1] at e
            exact cand (x - 1) y (by omega) hy (Or.inl ⟨rfl, Or.inr (by omega)⟩) _ e
          · omega
      · right
        rw [c2] at e
        exact cand (x + 1) y (by rw [e0] at hp; omega) hy (Or.inl ⟨rfl, Or.inl rfl⟩) _ e
    · right
      rcases c3 with c3 | c3
      · rw [c3] at e
        exact cand x (y - 1) hx (by omega) (Or.inr ⟨rfl, Or.inr (by omega)⟩) _ e
      · omega
  · right
    rw [c4] at e
    exact cand x (y + 1) hx (by rw [e1] at hp; omega) (Or.inr ⟨rfl, Or.inl rfl⟩) _ e
/-- what Floor.measureWaysTo leaves: the least ways from all cells to e -/
def IsW (M : Nat → Int → Int) (b w hh e : Nat) (D : Nat → Int) : Prop := Rl (w * hh) (AdjC w) (qN M b w) e D ∧ Fx (w * hh) (AdjC w) (qN M b w) D
theorem qN_ge {w hh : Nat} (hf : FlOk M b) (e0 : M (b + 1) 0 = (w : Int)) (e1 : M (b + 1) 1 = (hh : Int)) : ∀ d, d < w * hh → 2 ≤ qN M b w d ∧ qN M b w d ≤ 11 := by
  intro d hd
  have hw : 0 < w := by have := hf.1; omega
  have du : d % w < w := Nat.mod_lt _ hw
  have dv : d / w < hh := Nat.div_lt_of_lt_mul hd
  exact qI_in hf (Int.natCast_nonneg _) (by rw [e0]; exact_mod_cast du) (Int.natCast_nonneg _) (by rw [e1]; exact_mod_cast dv)
theorem Rl_put {n : Nat} {A : Nat → Nat → Prop} {q : Nat → Int} {e : Nat} (hq : ∀ d, d < n → 2 ≤ q d) {D : Nat → Int} (h : Rl n A q e D) {a : Nat} {v : Int} (ha : a < n) (hv : v = D a ∨ ∃ d, d < n ∧ A a d ∧ v = q d + D d) (hle : v ≤ D a) : Rl n A q e (upD D a v) := by
  rcases hv with hv | ⟨d, hd, hA, hv⟩
  · have : upD D a v = D := by
      funext x
      unfold upD
      split
      · rename_i e; rw [e, hv]
      · rfl
    rw [this]
    exact h
  · by_cases hl : v < D a
    · rw [hv] at hl ⊢
      exact Rl_up hq h ha hd hA hl
    · have : upD D a v = D := by
        funext x
        unfold upD
        split
        · rename_i e; rw [e]; omega
        · rfl
      rw [this]
      exact h
theorem c_measure {w hh e : Nat} (hS : isSt T b) (hf : FlOk M b) (e0 : M (b + 1) 0 = (w : Int)) (e1 : M (b + 1) 1 = (hh : Int)) (he : e < w * hh) : ∃ M', Cl S 24 [vR (b + 1), vI (e : Int)] (T, M) (none, (T, M')) ∧ (∀ a, a ≠ b + 3 → M' a = M a) ∧ IsW M b w hh e (fun a => M' (b + 3) (a : Int)) := by
  have hq := qN_ge hf e0 e1
  have hq2 : ∀ d, d < w * hh → 2 ≤ qN M b w d := fun d hd => (hq d hd).1
  have hn := hf.n
  have enn : M (b + 1) 0 * M (b + 1) 1 = ((w * hh : Nat) : Int) := by rw [e0, e1]; exact_mod_cast rfl
  have hn49 : w * hh ≤ 49 := by rw [enn] at hn; omega
  have hw0 : 0 < w := by have := hf.1; omega
  obtain ⟨E, hE, hEf⟩ := Fx_ex (n := w * hh) (A := AdjC w) (q := qN M b w) (e := e) hq2
  -- memories that differ from M in the ways alone
  have cgF : ∀ N : Nat → Int → Int, (∀ a, a ≠ b + 3 → N a = M a) → FlOk N b := by
    intro N hN
    have h1 : N (b + 1) = M (b + 1) := hN _ (by omega)
    have h2 : N (b + 2) = M (b + 2) := hN _ (by omega)
    unfold FlOk
    rw [h1, h2]
    exact hf
  have cgq : ∀ N : Nat → Int → Int, (∀ a, a ≠ b + 3 → N a = M a) → qN N b w = qN M b w := by
    intro N hN
    funext a
    exact qI_cg (hN _ (by omega)) (hN _ (by omega))
  -- one cell in a round
  have cell : ∀ (N : Nat → Int → Int) (D0 : Nat → Int) (x y : Nat), (∀ a, a ≠ b + 3 → N a = M a) → (∀ c, 0 ≤ c → c < 49 → 0 ≤ N (b + 3) c ∧ N (b + 3) c ≤ Big) → x < w → y < hh → Rl (w * hh) (AdjC w) (qN M b w) e (fun a => N (b + 3) (a : Int)) → (∀ a, a < w * hh → N (b + 3) (a : Int) ≤ D0 a) → (∀ c, c < x + w * y → ∀ d, d < w * hh → AdjC w c d → N (b + 3) (c : Int) ≤ qN M b w d + D0 d) →
      (∀ a, a ≠ b + 3 → um N (b + 3) ((x : Int) + N (b + 1) 0 * (y : Int)) (shV N b x y) a = M a) ∧ (∀ c, 0 ≤ c → c < 49 → 0 ≤ um N (b + 3) ((x : Int) + N (b + 1) 0 * (y : Int)) (shV N b x y) (b + 3) c ∧ um N (b + 3) ((x : Int) + N (b + 1) 0 * (y : Int)) (shV N b x y) (b + 3) c ≤ Big) ∧ Rl (w * hh) (AdjC w) (qN M b w) e (fun a => um N (b + 3) ((x : Int) + N (b + 1) 0 * (y : Int)) (shV N b x y) (b + 3) (a : Int)) ∧ (∀ a, a < w * hh → um N (b + 3) ((x : Int) + N (b + 1) 0 * (y : Int)) (shV N b x y) (b + 3) (a : Int) ≤ D0 a) ∧ (∀ c, c < x + 1 + w * y → ∀ d, d < w * hh → AdjC w c d → um N (b + 3) ((x : Int) + N (b + 1) 0 * (y : Int)) (shV N b x y) (b + 3) (c : Int) ≤ qN M b w d + D0 d) := by
    intro N D0 x y hN hW hx hy hR hle hs
    have f0 : N (b + 1) 0 = (w : Int) := by rw [hN _ (by omega)]; exact e0
    have f1 : N (b + 1) 1 = (hh : Int) := by rw [hN _ (by omega)]; exact e1
    have ec : (x : Int) + N (b + 1) 0 * (y : Int) = ((x + w * y : Nat) : Int) := by rw [f0]; exact_mod_cast rfl
    have hc : x + w * y < w * hh := by
      have : w * (y + 1) ≤ w * hh := Nat.mul_le_mul_left w hy
      rw [Nat.mul_add, Nat.mul_one] at this
      omega
    rw [ec]
    have g1 := shV_at (b := b) f0 f1 hx hy
    have g2 : ∀ d, d < w * hh → AdjC w (x + w * y) d → shV N b x y ≤ qN M b w d + N (b + 3) (d : Int) := fun d hd hA => by
      have := shV_le (b := b) f0 f1 hx hd hA
      rw [cgq N hN] at this
      exact this
    rw [cgq N hN] at g1
    have g3 : shV N b x y ≤ N (b + 3) ((x + w * y : Nat) : Int) := by
      rw [← ec]
      unfold shV
      exact Int.le_trans minIf_le.1 (Int.le_trans minIf_le.1 (Int.le_trans minIf_le.1 minIf_le.1))
    have eU : (fun a : Nat => um N (b + 3) ((x + w * y : Nat) : Int) (shV N b x y) (b + 3) (a : Int)) = upD (fun a : Nat => N (b + 3) (a : Int)) (x + w * y) (shV N b x y) := by
      funext a
      unfold upD
      by_cases ea : a = x + w * y
      · rw [if_pos ea, ea, um_eq]
      · rw [if_neg ea, um_ni (by omega)]
    have hR' := Rl_put hq2 hR hc g1 g3
    have hv0 : 0 ≤ shV N b x y := by
      have := Rl_ge hq2 hR' hc
      unfold upD at this
      rw [if_pos rfl] at this
      exact this
    refine ⟨fun a ha => by rw [um_fn ha]; exact hN a ha, fun c c0 c1 => ?_, by rw [eU]; exact hR', fun a ha => ?_, fun c hcc d hd hA => ?_⟩
    · by_cases ea : c = ((x + w * y : Nat) : Int)
      · rw [ea, um_eq]
        have := hW ((x + w * y : Nat) : Int) (by omega) (by omega)
        omega
      · rw [um_ni ea]
        exact hW c c0 c1
    · by_cases ea : a = x + w * y
      · rw [ea, um_eq]
        have := hle (x + w * y) hc
        omega
      · rw [um_ni (by omega)]
        exact hle a ha
    · by_cases ea : c = x + w * y
      · subst ea
        rw [um_eq]
        have := g2 d hd hA
        have := hle d hd
        omega
      · rw [um_ni (by omega)]
        exact hs c (by omega) d hd hA
  -- a whole round, as the machine does it: from cell i on
  let Inv : (Nat → Int) → Nat → (Nat → Int → Int) → Int → Prop := fun D0 i N s => (∀ a, a ≠ b + 3 → N a = M a) ∧ (∀ c, 0 ≤ c → c < 49 → 0 ≤ N (b + 3) c ∧ N (b + 3) c ≤ Big) ∧ Rl (w * hh) (AdjC w) (qN M b w) e (fun a => N (b + 3) (a : Int)) ∧ (∀ a, a < w * hh → N (b + 3) (a : Int) ≤ D0 a) ∧ (∀ c, c < i → ∀ d, d < w * hh → AdjC w c d → N (b + 3) (c : Int) ≤ qN M b w d + D0 d) ∧ (s = 0 ∨ s = 1) ∧ (s = 0 → ∀ a, a < w * hh → N (b + 3) (a : Int) = D0 a)
  let Post : (Nat → Int → Int) → Prop := fun M' => (∀ a, a ≠ b + 3 → M' a = M a) ∧ IsW M b w hh e (fun a => M' (b + 3) (a : Int))
  have inner : ∀ (D0 : Nat → Int) (rd y : Nat), y < hh → (∀ N s, Inv D0 (w + w * y) N s → ∃ M', Rn S 24 84 ([], [some (vR (b + 1)), some (vI (e : Int)), some (vI ((w * hh : Nat) : Int)), some (vI s), some (vI (rd : Int)), some (vI (y : Int)), some (vI (w : Int))], T, N) (none, (T, M')) ∧ Post M') →
      ∀ (k x : Nat) (N : Nat → Int → Int) (s : Int), x + k = w → Inv D0 (x + w * y) N s → ∃ M', Rn S 24 58 ([], [some (vR (b + 1)), some (vI (e : Int)), some (vI ((w * hh : Nat) : Int)), some (vI s), some (vI (rd : Int)), some (vI (y : Int)), some (vI (x : Int))], T, N) (none, (T, M')) ∧ Post M' := by
    intro D0 rd y hy K k
    have hH := hf.2.1
    have hWd := hf.1
    rw [e1] at hH
    rw [e0] at hWd
    induction k with
    | zero =>
      intro x N s hx hI
      have ex : x = w := by omega
      subst ex
      obtain ⟨M', r1, r2⟩ := K N s hI
      refine ⟨M', ?_, r2⟩
      have f0 : N (b + 1) 0 = (x : Int) := by rw [hI.1 _ (by omega)]; exact e0
      refine Rn.cge rfl (X_ild rfl <| X_ald rfl <| X_gi 1 0 0 hS.fl ⟨rfl, rfl, rfl⟩ (Or.inl rfl) <| X_nil) (by first | omega | (simp (disch := omega) only [um_eq, um_na, um_ni, Int.toNat_natCast]; omega)) (by rw [f0]; omega) (fun hc => ?_) (fun hc => ?_)
      · exact r1
      · rw [f0] at hc
        exact absurd hc (by omega)
    | succ k ih =>
      intro x N s hx hI
      obtain ⟨i1, i2, i3, i4, i5, i6, i7⟩ := id hI
      have hxw : x < w := by omega
      have f0 : N (b + 1) 0 = (w : Int) := by rw [i1 _ (by omega)]; exact e0
      have f1 : N (b + 1) 1 = (hh : Int) := by rw [i1 _ (by omega)]; exact e1
      obtain ⟨j1, j2, j3, j4, j5⟩ := cell N D0 x y i1 i2 hxw hy i3 i4 i5
      have cs := c_shorten (S := S) (M := N) (x := (x : Int)) (y := (y : Int)) hS (cgF N i1) i2 (by omega) (by rw [f0]; omega) (by omega) (by rw [f1]; omega)
      have ec : (x : Int) + N (b + 1) 0 * (y : Int) = ((x + w * y : Nat) : Int) := by rw [f0]; exact_mod_cast rfl
      have g3 : shV N b x y ≤ N (b + 3) ((x : Int) + N (b + 1) 0 * (y : Int)) := by
        unfold shV
        exact Int.le_trans minIf_le.1 (Int.le_trans minIf_le.1 (Int.le_trans minIf_le.1 minIf_le.1))
      generalize hfl : (if shV N b x y < N (b + 3) ((x : Int) + N (b + 1) 0 * (y : Int)) then (1 : Int) else 0) = fl at cs
      have hfl01 : fl = 0 ∨ fl = 1 := by rw [← hfl]; split <;> simp
      have hI' : Inv D0 (x + 1 + w * y) (um N (b + 3) ((x : Int) + N (b + 1) 0 * (y : Int)) (shV N b x y)) (o_or s fl) := by
        refine ⟨j1, j2, j3, j4, j5, ?_, ?_⟩
        · rw [or01 i6 hfl01]
          split <;> simp
        · rw [or01 i6 hfl01]
          intro h0
          have h1 : s = 0 ∧ fl = 0 := by
            by_cases h : s = 0 ∧ fl = 0
            · exact h
            · rw [if_neg h] at h0
              cases h0
          have h2 : shV N b x y = N (b + 3) ((x : Int) + N (b + 1) 0 * (y : Int)) := by
            have h3 := h1.2
            rw [← hfl] at h3
            by_cases h4 : shV N b x y < N (b + 3) ((x : Int) + N (b + 1) 0 * (y : Int))
            · rw [if_pos h4] at h3
              cases h3
            · omega
          intro a ha
          rw [ec] at h2 ⊢
          by_cases ea : (a : Int) = ((x + w * y : Nat) : Int)
          · rw [ea, um_eq, h2, ← ea]
            exact i7 h1.1 a ha
          · rw [um_ni ea]
            exact i7 h1.1 a ha
      obtain ⟨M', r1, r2⟩ := ih (x + 1) _ _ (by omega) hI'
      refine ⟨M', ?_, r2⟩
      refine Rn.cge rfl (X_ild rfl <| X_ald rfl <| X_gi 1 0 0 hS.fl ⟨rfl, rfl, rfl⟩ (Or.inl rfl) <| X_nil) (by first | omega | (simp (disch := omega) only [um_eq, um_na, um_ni, Int.toNat_natCast]; omega)) (by rw [f0]; omega) (fun hc => ?_) (fun hc => ?_)
      · rw [f0] at hc
        exact absurd hc (by omega)
      · refine Rn.cal rfl (X_ild rfl <| X_ald rfl <| X_ild rfl <| X_ild rfl <| X_nil) (vs := [_, _, _]) (rest := [_]) rfl rfl rfl (rcv_v hS.fl (by decide)) (cs) ?_
        refine Rn.jto rfl (X_or <| X_ist rfl (L' := [_, _, _, _, _, _, _]) rfl <| X_inc rfl (L' := [_, _, _, _, _, _, _]) rfl <| X_nil) ?_
        exact r1
  have mid : ∀ (D0 : Nat → Int) (rd : Nat), (∀ N s x6, Inv D0 (w * hh) N s → ∃ M', Rn S 24 90 ([], [some (vR (b + 1)), some (vI (e : Int)), some (vI ((w * hh : Nat) : Int)), some (vI s), some (vI (rd : Int)), some (vI (hh : Int)), x6], T, N) (none, (T, M')) ∧ Post M') →
      ∀ (k y : Nat) (N : Nat → Int → Int) (s : Int) (x6 : Option AV), y + k = hh → Inv D0 (w * y) N s → ∃ M', Rn S 24 46 ([], [some (vR (b + 1)), some (vI (e : Int)), some (vI ((w * hh : Nat) : Int)), some (vI s), some (vI (rd : Int)), some (vI (y : Int)), x6], T, N) (none, (T, M')) ∧ Post M' := by
    intro D0 rd K k
    have hH := hf.2.1
    rw [e1] at hH
    induction k with
    | zero =>
      intro y N s x6 hy hI
      have ey : y = hh := by omega
      subst ey
      obtain ⟨M', r1, r2⟩ := K N s x6 hI
      refine ⟨M', ?_, r2⟩
      have f1 : N (b + 1) 1 = (y : Int) := by rw [hI.1 _ (by omega)]; exact e1
      refine Rn.cge rfl (X_ild rfl <| X_ald rfl <| X_gi 1 1 1 hS.fl ⟨rfl, rfl, rfl⟩ (Or.inl rfl) <| X_nil) (by first | omega | (simp (disch := omega) only [um_eq, um_na, um_ni, Int.toNat_natCast]; omega)) (by rw [f1]; omega) (fun hc => ?_) (fun hc => ?_)
      · exact r1
      · rw [f1] at hc
        exact absurd hc (by omega)
    | succ k ih =>
      intro y N s x6 hy hI
      have f1 : N (b + 1) 1 = (hh : Int) := by rw [hI.1 _ (by omega)]; exact e1
      have K2 : ∀ N s, Inv D0 (w + w * y) N s → ∃ M', Rn S 24 84 ([], [some (vR (b + 1)), some (vI (e : Int)), some (vI ((w * hh : Nat) : Int)), some (vI s), some (vI (rd : Int)), some (vI (y : Int)), some (vI (w : Int))], T, N) (none, (T, M')) ∧ Post M' := by
        intro N s hI
        have ei : w + w * y = w * (y + 1) := by rw [Nat.mul_add, Nat.mul_one, Nat.add_comm]
        rw [ei] at hI
        obtain ⟨M', r1, r2⟩ := ih (y + 1) N s _ (by omega) hI
        refine ⟨M', ?_, r2⟩
        refine Rn.jto rfl (X_inc rfl (L' := [_, _, _, _, _, _, _]) rfl <| X_nil) ?_
        exact r1
      obtain ⟨M', r1, r2⟩ := inner D0 rd y (by omega) K2 w 0 N s (by omega) (by rw [Nat.zero_add]; exact hI)
      refine ⟨M', ?_, r2⟩
      refine Rn.cge rfl (X_ild rfl <| X_ald rfl <| X_gi 1 1 1 hS.fl ⟨rfl, rfl, rfl⟩ (Or.inl rfl) <| X_nil) (by first | omega | (simp (disch := omega) only [um_eq, um_na, um_ni, Int.toNat_natCast]; omega)) (by rw [f1]; omega) (fun hc => ?_) (fun hc => ?_)
      · rw [f1] at hc
        exact absurd hc (by omega)
      · refine Rn.fal rfl (X_i <| X_ist rfl (L' := [_, _, _, _, _, _, _]) rfl <| X_nil) ?_
        exact r1
  -- the rounds
  have fin : ∀ (N : Nat → Int → Int), (∀ a, a ≠ b + 3 → N a = M a) → Rl (w * hh) (AdjC w) (qN M b w) e (fun a => N (b + 3) (a : Int)) → Fx (w * hh) (AdjC w) (qN M b w) (fun a => N (b + 3) (a : Int)) → ∀ L, ∃ M', Rn S 24 96 ([], L, T, N) (none, (T, M')) ∧ Post M' := by
    intro N hN hR hF L
    refine ⟨N, ?_, hN, hR, hF⟩
    exact Rn.rv rfl X_nil rfl
  have rounds : ∀ (k rd : Nat) (N : Nat → Int → Int) (s : Int) (x5 x6 : Option AV), rd + k = w * hh → (∀ a, a ≠ b + 3 → N a = M a) → (∀ c, 0 ≤ c → c < 49 → 0 ≤ N (b + 3) c ∧ N (b + 3) c ≤ Big) → Rl (w * hh) (AdjC w) (qN M b w) e (fun a => N (b + 3) (a : Int)) → (s = 0 ∨ s = 1) → (s = 0 → Fx (w * hh) (AdjC w) (qN M b w) (fun a => N (b + 3) (a : Int))) → cnt (uns (fun a => N (b + 3) (a : Int)) E) (w * hh) ≤ w * hh - 1 - rd →
      ∃ M', Rn S 24 31 ([], [some (vR (b + 1)), some (vI (e : Int)), some (vI ((w * hh : Nat) : Int)), some (vI s), some (vI (rd : Int)), x5, x6], T, N) (none, (T, M')) ∧ Post M' := by
    intro k
    induction k with
    | zero =>
      intro rd N s x5 x6 hk hN hW hR hs hF hc0
      have hz : cnt (uns (fun a => N (b + 3) (a : Int)) E) (w * hh) = 0 := by omega
      have hall := cnt_zero _ hz
      have hF2 : Fx (w * hh) (AdjC w) (qN M b w) (fun a => N (b + 3) (a : Int)) := by
        intro a d ha hd hA
        have q1 : N (b + 3) (a : Int) = E a := Decidable.of_not_not (of_decide_eq_false (hall a ha))
        have q2 : N (b + 3) (d : Int) = E d := Decidable.of_not_not (of_decide_eq_false (hall d hd))
        show N (b + 3) (a : Int) ≤ qN M b w d + N (b + 3) (d : Int)
        rw [q1, q2]
        exact hEf a d ha hd hA
      obtain ⟨M', r1, r2⟩ := fin N hN hR hF2 _
      refine ⟨M', ?_, r2⟩
      refine Rn.cge rfl (X_ild rfl <| X_ild rfl <| X_nil) (by first | omega | (simp (disch := omega) only [um_eq, um_na, um_ni, Int.toNat_natCast]; omega)) (by first | omega | (simp (disch := omega) only [um_eq, um_na, um_ni, Int.toNat_natCast]; omega)) (fun hc => ?_) (fun hc => ?_)
      · exact r1
      · exact absurd hc (by omega)
    | succ k ih =>
      intro rd N s x5 x6 hk hN hW hR hs hF hc0
      rcases hs with hs | hs
      · obtain ⟨M', r1, r2⟩ := fin N hN hR (hF hs) _
        refine ⟨M', ?_, r2⟩
        refine Rn.cge rfl (X_ild rfl <| X_ild rfl <| X_nil) (by first | omega | (simp (disch := omega) only [um_eq, um_na, um_ni, Int.toNat_natCast]; omega)) (by first | omega | (simp (disch := omega) only [um_eq, um_na, um_ni, Int.toNat_natCast]; omega)) (fun hc => ?_) (fun hc => ?_)
        · exact absurd hc (by omega)
        · refine Rn.ieq rfl (X_ild rfl <| X_nil) (by first | omega | (simp (disch := omega) only [um_eq, um_na, um_ni, Int.toNat_natCast]; omega)) (fun hc => ?_) (fun hc => ?_)
          · exact r1
          · exact absurd hs hc
      · have K : ∀ N' s' x6, Inv (fun a => N (b + 3) (a : Int)) (w * hh) N' s' → ∃ M', Rn S 24 90 ([], [some (vR (b + 1)), some (vI (e : Int)), some (vI ((w * hh : Nat) : Int)), some (vI s'), some (vI (rd : Int)), some (vI (hh : Int)), x6], T, N') (none, (T, M')) ∧ Post M' := by
          intro N' s' x6 hI
          obtain ⟨i1, i2, i3, i4, i5, i6, i7⟩ := hI
          have hless := round_less hq2 hE hEf hR i3 i4 (fun c d h1 h2 h3 => i5 c h1 d h2 h3)
          have hcn : cnt (uns (fun a => N' (b + 3) (a : Int)) E) (w * hh) ≤ w * hh - 1 - (rd + 1) := by
            rcases hless with h1 | h1
            · omega
            · have hall := cnt_zero _ h1
              have : cnt (uns (fun a => N' (b + 3) (a : Int)) E) (w * hh) ≤ cnt (uns (fun a => N (b + 3) (a : Int)) E) (w * hh) := cnt_le _ (fun a ha h2 => by
                have q1 : N (b + 3) (a : Int) = E a := Decidable.of_not_not (of_decide_eq_false (hall a ha))
                have q2 : N' (b + 3) (a : Int) ≤ N (b + 3) (a : Int) := i4 a ha
                have q3 : E a ≤ N' (b + 3) (a : Int) := Fx_least hE hEf i3 ha
                have q4 : N' (b + 3) (a : Int) ≠ E a := of_decide_eq_true h2
                omega)
              omega
          have hfx : s' = 0 → Fx (w * hh) (AdjC w) (qN M b w) (fun a => N' (b + 3) (a : Int)) := by
            intro h0 a d ha hd hA
            have q1 := i7 h0 d hd
            have q2 := i5 a ha d hd hA
            show N' (b + 3) (a : Int) ≤ qN M b w d + N' (b + 3) (d : Int)
            rw [q1]
            exact q2
          obtain ⟨M', r1, r2⟩ := ih (rd + 1) N' s' _ x6 (by omega) i1 i2 i3 i6 hfx hcn
          refine ⟨M', ?_, r2⟩
          refine Rn.jto rfl (X_inc rfl (L' := [_, _, _, _, _, _, _]) rfl <| X_nil) ?_
          exact r1
        obtain ⟨M', r1, r2⟩ := mid (fun a => N (b + 3) (a : Int)) rd K hh 0 N 0 x6 (by omega) ⟨hN, hW, hR, fun a _ => Int.le_refl _, fun c hc => absurd hc (by rw [Nat.mul_zero]; omega), Or.inl rfl, fun _ a _ => rfl⟩
        refine ⟨M', ?_, r2⟩
        refine Rn.cge rfl (X_ild rfl <| X_ild rfl <| X_nil) (by first | omega | (simp (disch := omega) only [um_eq, um_na, um_ni, Int.toNat_natCast]; omega)) (by first | omega | (simp (disch := omega) only [um_eq, um_na, um_ni, Int.toNat_natCast]; omega)) (fun hc => ?_) (fun hc => ?_)
        · exact absurd hc (by omega)
        · refine Rn.ieq rfl (X_ild rfl <| X_nil) (by first | omega | (simp (disch := omega) only [um_eq, um_na, um_ni, Int.toNat_natCast]; omega)) (fun hc => ?_) (fun hc => ?_)
          · exact absurd hc (by omega)
          · refine Rn.fal rfl (X_i <| X_ist rfl (L' := [_, _, _, _, _, _, _]) rfl <| X_i <| X_ist rfl (L' := [_, _, _, _, _, _, _]) rfl <| X_nil) ?_
            exact r1
  have hw3 : ∀ a, a ≠ b + 3 → um (fillM M (b + 3) 49 Big) (b + 3) (e : Int) 0 a = M a := fun a ha => by rw [um_fn ha, fillM_fn ha]
  have hD : ∀ a : Nat, a < 49 → um (fillM M (b + 3) 49 Big) (b + 3) (e : Int) 0 (b + 3) (a : Int) = ini0 e a := by
    intro a ha
    unfold ini0
    by_cases ea : a = e
    · rw [if_pos ea, ea, um_eq]
    · rw [if_neg ea, um_ni (by omega), fillM_in (by omega) (by omega)]
  have hR0 : Rl (w * hh) (AdjC w) (qN M b w) e (fun a => um (fillM M (b + 3) 49 Big) (b + 3) (e : Int) 0 (b + 3) (a : Int)) := by
    have hi := Rl_ini (n := w * hh) (A := AdjC w) (q := qN M b w) (e := e)
    refine ⟨um_eq, fun a ha => ?_⟩
    have := hi.2 a ha
    rw [← hD a (by omega)] at this
    exact this
  obtain ⟨M', r1, r2, r3⟩ := rounds (w * hh) 0 (um (fillM M (b + 3) 49 Big) (b + 3) (e : Int) 0) 1 none none (by omega) hw3 (fun c c0 c1 => by
      obtain ⟨a, ha⟩ : ∃ a : Nat, c = (a : Int) := ⟨c.toNat, by omega⟩
      rw [ha, hD a (by omega)]
      unfold ini0
      split
      · exact ⟨by decide, by decide⟩
      · exact ⟨by decide, Int.le_refl _⟩) hR0 (Or.inr rfl) (fun h0 => by cases h0) (by
      have := cnt_one (p := uns (fun a => um (fillM M (b + 3) 49 Big) (b + 3) (e : Int) 0 (b + 3) (a : Int)) E) (w * hh) he (decide_eq_false (fun hn => hn (by
        show um (fillM M (b + 3) 49 Big) (b + 3) (e : Int) 0 (b + 3) (e : Int) = E e
        rw [um_eq, hE.1])))
      omega)
  refine ⟨M', ⟨_, rfl, ?_⟩, r2, r3⟩
  refine Rn.cal rfl (X_ald rfl <| X_gi 1 0 0 hS.fl ⟨rfl, rfl, rfl⟩ (Or.inl rfl) <| X_ald rfl <| X_gi 1 1 1 hS.fl ⟨rfl, rfl, rfl⟩ (Or.inl rfl) <| X_mul <| X_ist rfl (L' := [_, _, _, _, _, _, _]) rfl <| X_ald rfl <| X_gr 1 7 hS.fl ⟨rfl, rfl⟩ rfl rfl <| X_i <| X_nil) (vs := [_, _]) (rest := []) rfl rfl rfl rfl (c_fill hS.wy (by decide)) ?_
  refine Rn.fal rfl (X_ald rfl <| X_gr 1 7 hS.fl ⟨rfl, rfl⟩ rfl rfl <| X_ild rfl <| X_i <| X_is hS.wy (by first | omega | (simp (disch := omega) only [um_eq, um_na, um_ni, Int.toNat_natCast]; omega)) (by first | omega | (simp (disch := omega) only [um_eq, um_na, um_ni, Int.toNat_natCast]; omega)) rfl <| X_i <| X_ist rfl (L' := [_, _, _, _, _, _, _]) rfl <| X_i <| X_ist rfl (L' := [_, _, _, _, _, _, _]) rfl <| X_nil) ?_
  show Rn S 24 31 ([], [some (vR (b + 1)), some (vI (e : Int)), some (vI (M (b + 1) 0 * M (b + 1) 1)), some (vI 1), some (vI 0), none, none], T, um (fillM M (b + 3) 49 1000000000) (b + 3) (e : Int) 0) _
  rw [enn]
  exact r1
end Measure
end
section
/-! THE WALK FROM BED TO SWITCH, ERRANDS, COSTS, A NIGHT FORESEEN IN A STATE -/
section Walk
variable {S : List Int} {T : List Sh} {M : Nat → Int → Int} {b : Nat} {h : Hp}
/-- the way from cell s to cell e is v -/
def WayIs (M : Nat → Int → Int) (b s e : Nat) (v : Int) : Prop := ∃ D, IsW M b (M (b + 1) 0).toNat (M (b + 1) 1).toNat e D ∧ D s = v
theorem FlOk.wh (hf : FlOk M b) : M (b + 1) 0 = (((M (b + 1) 0).toNat : Nat) : Int) ∧ M (b + 1) 1 = (((M (b + 1) 1).toNat : Nat) : Int) := by
  have h1 := hf.1
  have h2 := hf.2.1
  omega
theorem FlOk.nn (hf : FlOk M b) : (((M (b + 1) 0).toNat * (M (b + 1) 1).toNat : Nat) : Int) = M (b + 1) 0 * M (b + 1) 1 := by
  have h := hf.wh
  rw [Int.natCast_mul, ← h.1, ← h.2]
theorem WayIs.uniq {s e : Nat} {v v' : Int} (hf : FlOk M b) (hs : (s : Int) < M (b + 1) 0 * M (b + 1) 1) (h : WayIs M b s e v) (h' : WayIs M b s e v') : v = v' := by
  obtain ⟨D, ⟨d1, d2⟩, rfl⟩ := h
  obtain ⟨E, ⟨e1, e2⟩, rfl⟩ := h'
  have hn := hf.nn
  exact Fx_uniq d1 d2 e1 e2 (by omega)
def md (w a e : Nat) : Nat := (a % w - e % w) + (e % w - a % w) + (a / w - e / w) + (e / w - a / w)
theorem md_0 {w a e : Nat} (h : md w a e = 0) : a = e := by
  unfold md at h
  have h1 : a % w = e % w := by omega
  have h2 : a / w = e / w := by omega
  rw [idx_of (w := w) (a := a), idx_of (w := w) (a := e), h1, h2]
/-- no way is longer than eleven a step along the rows -/
theorem IsW_le {w hh e : Nat} {D : Nat → Int} (hw : 0 < w) (he : e < w * hh) (hq : ∀ d, d < w * hh → 2 ≤ qN M b w d ∧ qN M b w d ≤ 11) (h : IsW M b w hh e D) : ∀ (k a : Nat), a < w * hh → md w a e = k → D a ≤ 11 * (k : Int) := by
  intro k
  induction k with
  | zero =>
    intro a ha hm
    have := md_0 hm
    subst this
    rw [h.1.1]
    omega
  | succ k ih =>
    intro a ha hm
    have ax : a % w < w := Nat.mod_lt _ hw
    have ay : a / w < hh := Nat.div_lt_of_lt_mul ha
    have exx : e % w < w := Nat.mod_lt _ hw
    have ey : e / w < hh := Nat.div_lt_of_lt_mul he
    have step : ∀ u v : Nat, u < w → v < hh → AdjC w a (u + w * v) → md w (u + w * v) e = k → D a ≤ 11 * ((k + 1 : Nat) : Int) := by
      intro u v hu hv hA hmd
      have hd : u + w * v < w * hh := by
        have : w * (v + 1) ≤ w * hh := Nat.mul_le_mul_left w hv
        rw [Nat.mul_add, Nat.mul_one] at this
        omega
      have h1 := ih (u + w * v) hd hmd
      have h2 := h.2 a (u + w * v) ha hd hA
      have h3 := (hq (u + w * v) hd).2
      omega
    unfold md at hm
    generalize ha1 : a % w = x at *
    generalize ha2 : a / w = y at *
    generalize he1 : e % w = x' at *
    generalize he2 : e / w = y' at *
    have adj : ∀ u v : Nat, u < w → ((y = v ∧ (x + 1 = u ∨ u + 1 = x)) ∨ (x = u ∧ (y + 1 = v ∨ v + 1 = y))) → AdjC w a (u + w * v) := by
      intro u v hu hA
      unfold AdjC
      rw [ha1, ha2, idx_mod hu, idx_div hu]
      exact hA
    have mdv : ∀ u v : Nat, u < w → md w (u + w * v) e = (u - x') + (x' - u) + (v - y') + (y' - v) := by
      intro u v hu
      unfold md
      rw [idx_mod hu, idx_div hu, he1, he2]
    by_cases c1 : x < x'
    · exact step (x + 1) y (by omega) ay (adj _ _ (by omega) (Or.inl ⟨rfl, Or.inl rfl⟩)) (by rw [mdv _ _ (by omega)]; omega)
    · by_cases c2 : x' < x
      · exact step (x - 1) y (by omega) ay (adj _ _ (by omega) (Or.inl ⟨rfl, Or.inr (by omega)⟩)) (by rw [mdv _ _ (by omega)]; omega)
      · by_cases c3 : y < y'
        · exact step x (y + 1) ax (by omega) (adj _ _ ax (Or.inr ⟨rfl, Or.inl rfl⟩)) (by rw [mdv _ _ ax]; omega)
        · exact step x (y - 1) ax (by omega) (adj _ _ ax (Or.inr ⟨rfl, Or.inr (by omega)⟩)) (by rw [mdv _ _ ax]; omega)
theorem WayIs.le {s e : Nat} {v : Int} (hf : FlOk M b) (hs : (s : Int) < M (b + 1) 0 * M (b + 1) 1) (he : (e : Int) < M (b + 1) 0 * M (b + 1) 1) (h : WayIs M b s e v) : 0 ≤ v ∧ v ≤ 200 := by
  obtain ⟨D, hD, rfl⟩ := h
  have hn := hf.nn
  have hwh := hf.wh
  have h1 := hf.1
  have h2 := hf.2.1
  have hq := qN_ge hf hwh.1 hwh.2
  refine ⟨Rl_ge (fun d hd => (hq d hd).1) hD.1 (by omega), ?_⟩
  have h3 := IsW_le (by omega) (by omega) hq hD _ s (by omega) rfl
  have hw : 0 < (M (b + 1) 0).toNat := by omega
  have a1 : s % (M (b + 1) 0).toNat < (M (b + 1) 0).toNat := Nat.mod_lt _ hw
  have a2 : e % (M (b + 1) 0).toNat < (M (b + 1) 0).toNat := Nat.mod_lt _ hw
  have a3 : s / (M (b + 1) 0).toNat < (M (b + 1) 1).toNat := Nat.div_lt_of_lt_mul (by omega)
  have a4 : e / (M (b + 1) 0).toNat < (M (b + 1) 1).toNat := Nat.div_lt_of_lt_mul (by omega)
  have h4 : md (M (b + 1) 0).toNat s e ≤ 12 := by
    unfold md
    generalize s % (M (b + 1) 0).toNat = u1 at a1 ⊢
    generalize e % (M (b + 1) 0).toNat = u2 at a2 ⊢
    generalize s / (M (b + 1) 0).toNat = u3 at a3 ⊢
    generalize e / (M (b + 1) 0).toNat = u4 at a4 ⊢
    omega
  omega
theorem IsW_cg {N : Nat → Int → Int} {w hh e : Nat} {D : Nat → Int} (h0 : N (b + 1) 0 = M (b + 1) 0) (h4 : N (b + 1) 4 = M (b + 1) 4) (h2 : N (b + 2) = M (b + 2)) : IsW N b w hh e D = IsW M b w hh e D := by
  have : qN N b w = qN M b w := by
    funext a
    unfold qN qI
    rw [h0, h4, h2]
  unfold IsW
  rw [this]
theorem WayIs_cg {N : Nat → Int → Int} {s e : Nat} {v : Int} (h0 : N (b + 1) 0 = M (b + 1) 0) (h1 : N (b + 1) 1 = M (b + 1) 1) (h4 : N (b + 1) 4 = M (b + 1) 4) (h2 : N (b + 2) = M (b + 2)) : WayIs N b s e v = WayIs M b s e v := by
  unfold WayIs
  rw [h0, h1]
  simp only [IsW_cg h0 h4 h2]
/-- the walk that is kept is unknown, or as it should be -/
def WalkOk (M : Nat → Int → Int) (b : Nat) : Prop := M (b + 1) 8 = -1 ∨ ∃ v, WayIs M b (M (b + 1) 3).toNat (M (b + 1) 2).toNat v ∧ M (b + 1) 8 = 2 * v
theorem c_mwalk (hS : isSt T b) (hf : FlOk M b) (hk : WalkOk M b) : ∃ M', Cl S 21 [vR (b + 1)] (T, M) (none, (T, M')) ∧ (∀ a, a ≠ b + 1 → a ≠ b + 3 → M' a = M a) ∧ (∀ k, k ≠ 8 → M' (b + 1) k = M (b + 1) k) ∧ ∃ v, WayIs M b (M (b + 1) 3).toNat (M (b + 1) 2).toNat v ∧ M' (b + 1) 8 = 2 * v := by
  have hwh := hf.wh
  have hn := hf.nn
  have hn2 := hf.n
  have hsw := hf.2.2.1
  have hbd := hf.2.2.2.1
  by_cases h8 : M (b + 1) 8 = -1
  · obtain ⟨M1, c1, p1, p2⟩ := c_measure (S := S) (M := M) (e := (M (b + 1) 2).toNat) hS hf hwh.1 hwh.2 (by omega)
    have es : ((M (b + 1) 2).toNat : Int) = M (b + 1) 2 := by omega
    have eb : ((M (b + 1) 3).toNat : Int) = M (b + 1) 3 := by omega
    rw [es] at c1
    have f1 : M1 (b + 1) = M (b + 1) := p1 _ (by omega)
    have hb49 : M1 (b + 3) (M (b + 1) 3) = M1 (b + 3) ((M (b + 1) 3).toNat : Int) := by rw [eb]
    refine ⟨um M1 (b + 1) 8 (2 * M1 (b + 3) (M (b + 1) 3)), ⟨_, rfl, ?_⟩, fun a a1 a3 => by rw [um_fn a1]; exact p1 a a3, fun k hk => by rw [um_ni hk, f1], M1 (b + 3) (M (b + 1) 3), ⟨_, p2, ?_⟩, um_eq⟩
    · have e3 : M1 (b + 1) 3 = M (b + 1) 3 := by rw [f1]
      refine Rn.cne rfl (X_ald rfl <| X_gi 1 8 8 hS.fl ⟨rfl, rfl, rfl⟩ (Or.inl rfl) <| X_i <| X_nil) (by first | omega | (simp (disch := omega) only [um_eq, um_na, um_ni, Int.toNat_natCast]; omega)) (by first | omega | (simp (disch := omega) only [um_eq, um_na, um_ni, Int.toNat_natCast]; omega)) (fun hc => ?_) (fun hc => ?_)
      · exact absurd h8 hc
      · refine Rn.cal rfl (X_ald rfl <| X_ald rfl <| X_gi 1 2 2 hS.fl ⟨rfl, rfl, rfl⟩ (Or.inl rfl) <| X_nil) (vs := [_, _]) (rest := []) rfl rfl rfl (rcv_v hS.fl (by decide)) (c1) ?_
        obtain ⟨N, g1, g2⟩ : ∃ N, Rn S 21 16 ([], [some (vR (b + 1))], T, M1) (none, (T, N)) ∧ N = um M1 (b + 1) 8 (2 * M1 (b + 3) (M (b + 1) 3)) := by
          refine ⟨_, Rn.fal rfl (X_ald rfl <| X_i <| X_ald rfl <| X_gr 1 7 hS.fl ⟨rfl, rfl⟩ rfl rfl <| X_ald rfl <| X_gi 1 3 3 hS.fl ⟨rfl, rfl, rfl⟩ (Or.inl rfl) <| X_ia hS.wy (by rw [e3]; omega) (by rw [e3]; omega) rfl <| X_mul <| X_pi 1 8 8 hS.fl ⟨rfl, rfl, rfl⟩ (Or.inl rfl) <| X_nil) (Rn.rv rfl (X_nil) rfl), ?_⟩
          rw [e3]
        rw [← g2]
        exact g1
    · show M1 (b + 3) ((M (b + 1) 3).toNat : Int) = _
      rw [eb]
  · rcases hk with hk | ⟨v, v1, v2⟩
    · exact absurd hk h8
    · have v3 := v1.le hf (by omega) (by omega)
      refine ⟨M, ⟨_, rfl, ?_⟩, fun _ _ _ => rfl, fun _ _ => rfl, v, v1, v2⟩
      refine Rn.cne rfl (X_ald rfl <| X_gi 1 8 8 hS.fl ⟨rfl, rfl, rfl⟩ (Or.inl rfl) <| X_i <| X_nil) (by first | omega | (simp (disch := omega) only [um_eq, um_na, um_ni, Int.toNat_natCast]; omega)) (by first | omega | (simp (disch := omega) only [um_eq, um_na, um_ni, Int.toNat_natCast]; omega)) (fun hc => ?_) (fun hc => ?_)
      · refine Rn.rv rfl (X_nil) rfl
      · exact absurd hc h8
theorem c_errandOf {s : Nat} {u : Int} (hS : isSt T b) (hs : s < 4) (hu : u = 0 ∨ u = 1) : Cl S 60 [vR b, vI (s : Int), vI u] (T, M) (some (vI ((if u = 0 then M (b + 16 + 2 * s) 3 else 0) + M (b + 1) 8)), (T, M)) := by
  refine ⟨_, rfl, ?_⟩
  refine Rn.ieq rfl (X_ild rfl <| X_nil) (by first | omega | (simp (disch := omega) only [um_eq, um_na, um_ni, Int.toNat_natCast]; omega)) (fun hc => ?_) (fun hc => ?_)
  · rw [if_pos hc]
    refine Rn.fal rfl (X_ald rfl <| X_gr 6 1 hS.st ⟨rfl, rfl⟩ rfl rfl <| X_gr 0 0 hS.be ⟨rfl, rfl⟩ rfl rfl <| X_ild rfl <| X_aa hS.sl (by decide) (by first | omega | (simp (disch := omega) only [um_eq, um_na, um_ni, Int.toNat_natCast]; omega)) (by first | omega | (simp (disch := omega) only [um_eq, um_na, um_ni, Int.toNat_natCast]; omega)) rfl (rSl_at (by omega)) <| X_gr 5 0 (hS.se (by omega)) ⟨rfl, rfl⟩ rfl rfl <| X_i <| X_ia (hS.tr (by omega)) (by first | omega | (simp (disch := omega) only [um_eq, um_na, um_ni, Int.toNat_natCast]; omega)) (by first | omega | (simp (disch := omega) only [um_eq, um_na, um_ni, Int.toNat_natCast]; omega)) rfl <| X_nil) ?_
    refine Rn.ri rfl (X_ist rfl (L' := [_, _, _, _]) rfl <| X_ild rfl <| X_ald rfl <| X_gr 6 0 hS.st ⟨rfl, rfl⟩ rfl rfl <| X_gi 1 8 8 hS.fl ⟨rfl, rfl, rfl⟩ (Or.inl rfl) <| X_add <| X_nil) rfl
  · rw [if_neg hc]
    refine Rn.jto rfl (X_i <| X_nil) ?_
    refine Rn.ri rfl (X_ist rfl (L' := [_, _, _, _]) rfl <| X_ild rfl <| X_ald rfl <| X_gr 6 0 hS.st ⟨rfl, rfl⟩ rfl rfl <| X_gi 1 8 8 hS.fl ⟨rfl, rfl, rfl⟩ (Or.inl rfl) <| X_add <| X_nil) rfl
/-- what getting up costs in the night foreseen -/
def errV (M : Nat → Int → Int) (b : Nat) : Int := if M (b + 26) 1 = -1 then 0 else (if M (b + 26) 2 = 0 then M (b + 16 + 2 * (M (b + 26) 1).toNat) 3 else 0) + M (b + 1) 8
def NiOk (M : Nat → Int → Int) (b : Nat) : Prop := (0 ≤ M (b + 26) 0 ∧ M (b + 26) 0 ≤ 300) ∧ (-1 ≤ M (b + 26) 1 ∧ M (b + 26) 1 < 4) ∧ (M (b + 26) 2 = 0 ∨ M (b + 26) 2 = 1)
theorem c_errand (hS : isSt T b) (hN : NiOk M b) : Cl S 59 [vR b] (T, M) (some (vI (errV M b)), (T, M)) := by
  obtain ⟨n1, n2, n3⟩ := hN
  refine ⟨_, rfl, ?_⟩
  unfold errV
  refine Rn.cne rfl (X_ald rfl <| X_gr 6 3 hS.st ⟨rfl, rfl⟩ rfl rfl <| X_gi 2 1 1 hS.ni ⟨rfl, rfl, rfl⟩ (Or.inl rfl) <| X_i <| X_nil) (by first | omega | (simp (disch := omega) only [um_eq, um_na, um_ni, Int.toNat_natCast]; omega)) (by first | omega | (simp (disch := omega) only [um_eq, um_na, um_ni, Int.toNat_natCast]; omega)) (fun hc => ?_) (fun hc => ?_)
  · rw [if_neg hc]
    have es : ((M (b + 26) 1).toNat : Int) = M (b + 26) 1 := by omega
    have ce := c_errandOf (S := S) (M := M) (s := (M (b + 26) 1).toNat) hS (by omega) n3
    rw [es] at ce
    refine Rn.cal rfl (X_ald rfl <| X_ald rfl <| X_gr 6 3 hS.st ⟨rfl, rfl⟩ rfl rfl <| X_gi 2 1 1 hS.ni ⟨rfl, rfl, rfl⟩ (Or.inl rfl) <| X_ald rfl <| X_gr 6 3 hS.st ⟨rfl, rfl⟩ rfl rfl <| X_gi 2 2 2 hS.ni ⟨rfl, rfl, rfl⟩ (Or.inr rfl) <| X_nil) (vs := [_, _, _]) (rest := []) rfl rfl rfl (rcv_v hS.st (by decide)) (ce) ?_
    refine Rn.ri rfl (X_nil) rfl
  · rw [if_pos hc]
    refine Rn.jto rfl (X_i <| X_nil) ?_
    refine Rn.ri rfl (X_nil) rfl
def costV (M : Nat → Int → Int) (b s : Nat) : Int := if M (b + 26) 1 = (s : Int) ∧ M (b + 1) 5 = 0 then lightC M (b + 16 + 2 * s) (M (b + 26) 0) + errV M b else lightC M (b + 16 + 2 * s) (M (b + 26) 0)
theorem c_cost {s : Nat} (hS : isSt T b) (hN : NiOk M b) (hs : s < 4) (ht : TrOk M (b + 16 + 2 * s)) (hc5 : 0 ≤ M (b + 1) 5 ∧ M (b + 1) 5 ≤ 1) : Cl S 58 [vR b, vI (s : Int)] (T, M) (some (vI (costV M b s)), (T, M)) := by
  obtain ⟨n1, n2, n3⟩ := id hN
  refine ⟨_, rfl, ?_⟩
  unfold costV
  refine Rn.cal rfl (X_ald rfl <| X_gr 6 1 hS.st ⟨rfl, rfl⟩ rfl rfl <| X_gr 0 0 hS.be ⟨rfl, rfl⟩ rfl rfl <| X_ild rfl <| X_aa hS.sl (by decide) (by first | omega | (simp (disch := omega) only [um_eq, um_na, um_ni, Int.toNat_natCast]; omega)) (by first | omega | (simp (disch := omega) only [um_eq, um_na, um_ni, Int.toNat_natCast]; omega)) rfl (rSl_at (by omega)) <| X_ald rfl <| X_gr 6 3 hS.st ⟨rfl, rfl⟩ rfl rfl <| X_gi 2 0 0 hS.ni ⟨rfl, rfl, rfl⟩ (Or.inl rfl) <| X_nil) (vs := [_, _]) (rest := []) rfl rfl rfl (rcv_v (hS.se (by omega)) (by decide)) (c_light hS hs ht n1.1 n1.2) ?_
  refine Rn.cne rfl (X_ist rfl (L' := [_, _, _, _]) rfl <| X_ald rfl <| X_gr 6 3 hS.st ⟨rfl, rfl⟩ rfl rfl <| X_gi 2 1 1 hS.ni ⟨rfl, rfl, rfl⟩ (Or.inl rfl) <| X_ild rfl <| X_nil) (by first | omega | (simp (disch := omega) only [um_eq, um_na, um_ni, Int.toNat_natCast]; omega)) (by first | omega | (simp (disch := omega) only [um_eq, um_na, um_ni, Int.toNat_natCast]; omega)) (fun hc => ?_) (fun hc => ?_)
  · rw [if_neg (fun z => hc z.1)]
    refine Rn.fal rfl (X_i <| X_nil) ?_
    refine Rn.ieq rfl (X_ist rfl (L' := [_, _, _, _]) rfl <| X_ild rfl <| X_nil) (by first | omega | (simp (disch := omega) only [um_eq, um_na, um_ni, Int.toNat_natCast]; omega)) (fun hc => ?_) (fun hc => ?_)
    · refine Rn.fal rfl (X_ild rfl <| X_nil) ?_
      refine Rn.ri rfl (X_nil) rfl
    · exact absurd rfl hc
  · have hc1 := hc
    refine Rn.ine rfl (X_ald rfl <| X_gr 6 0 hS.st ⟨rfl, rfl⟩ rfl rfl <| X_gi 1 5 5 hS.fl ⟨rfl, rfl, rfl⟩ (Or.inl rfl) <| X_nil) (by first | omega | (simp (disch := omega) only [um_eq, um_na, um_ni, Int.toNat_natCast]; omega)) (fun hc => ?_) (fun hc => ?_)
    · rw [if_neg (fun z => hc z.2)]
      refine Rn.fal rfl (X_i <| X_nil) ?_
      refine Rn.ieq rfl (X_ist rfl (L' := [_, _, _, _]) rfl <| X_ild rfl <| X_nil) (by first | omega | (simp (disch := omega) only [um_eq, um_na, um_ni, Int.toNat_natCast]; omega)) (fun hc => ?_) (fun hc => ?_)
      · refine Rn.fal rfl (X_ild rfl <| X_nil) ?_
        refine Rn.ri rfl (X_nil) rfl
      · exact absurd rfl hc
    · rw [if_pos ⟨hc1, hc⟩]
      refine Rn.jto rfl (X_i <| X_nil) ?_
      refine Rn.ieq rfl (X_ist rfl (L' := [_, _, _, _]) rfl <| X_ild rfl <| X_nil) (by first | omega | (simp (disch := omega) only [um_eq, um_na, um_ni, Int.toNat_natCast]; omega)) (fun hc => ?_) (fun hc => ?_)
      · exact absurd hc (by omega)
      · refine Rn.cal rfl (X_ild rfl <| X_ald rfl <| X_nil) (vs := [_]) (rest := [_]) rfl rfl rfl (rcv_v hS.st (by decide)) (c_errand hS hN) ?_
        refine Rn.jto rfl (X_add <| X_nil) ?_
        refine Rn.ri rfl (X_nil) rfl
end Walk
end
section
/-! A NIGHT GOES BY -/
section Spend
variable {S : List Int} {T : List Sh} {M : Nat → Int → Int} {b : Nat} {h : Hp}
/-- beds whose numbers fit -/
def BeOk (M : Nat → Int → Int) (b : Nat) : Prop := (0 ≤ M (b + 4) 1 ∧ M (b + 4) 1 ≤ 4) ∧ (0 ≤ M (b + 4) 2 ∧ M (b + 4) 2 ≤ 100000) ∧ (0 ≤ M (b + 4) 3 ∧ M (b + 4) 3 ≤ 8) ∧ ∀ i : Nat, (i : Int) < M (b + 4) 1 → TrOk M (b + 16 + 2 * i)
theorem nightF_cg {M' : Nat → Int → Int} {l : Int} {n : Nat} (h : ∀ i, i < n → M' (b + 16 + 2 * i) = M (b + 16 + 2 * i)) : nightF M' b l n = nightF M b l n := by
  induction n with
  | zero => rfl
  | succ n ih =>
    unfold nightF
    simp only [ih (fun i hi => h i (by omega)), upA_cg (h n (by omega)), waitC_cg (h n (by omega)), h n (by omega)]
/-- how this night ends -/
abbrev nightV (M : Nat → Int → Int) (b : Nat) : Int × Int × Int := nightF M b (lstC M b (M (b + 4) 1).toNat) (M (b + 4) 1).toNat
theorem nightV_in (hb : BeOk M b) : 0 ≤ (nightV M b).1 ∧ (nightV M b).1 ≤ 300 ∧ -1 ≤ (nightV M b).2.1 ∧ (nightV M b).2.1 < M (b + 4) 1 ∧ ((nightV M b).2.2 = 0 ∨ (nightV M b).2.2 = 1) ∧ ((nightV M b).2.1 = -1 → (nightV M b).2.2 = 0 ∧ (nightV M b).1 = 300) := by
  obtain ⟨b1, -, -, b4⟩ := hb
  have l0 := lstC_in (M := M) (b := b) (n := (M (b + 4) 1).toNat) (by omega) (fun i hi => b4 i (by omega))
  have h1 := nightF_in (M := M) (b := b) (n := (M (b + 4) 1).toNat) l0.1 (fun i hi => ⟨b4 i (by omega), lstC_le hi (fun j hj => by have := b4 j (by omega); omega)⟩)
  refine ⟨h1.1, h1.2.1, h1.2.2.1, ?_, h1.2.2.2.2⟩
  have h9 : (nightV M b).2.1 < (((M (b + 4) 1).toNat : Nat) : Int) := h1.2.2.2.1
  omega
theorem c_foresee (hS : isSt T b) (hf : FlOk M b) (hk : WalkOk M b) (hb : BeOk M b) : ∃ M', Cl S 56 [vR b] (T, M) (none, (T, M')) ∧ (∀ a, a ≠ b + 1 → a ≠ b + 3 → a ≠ b + 26 → M' a = M a) ∧ (∀ k, k ≠ 8 → M' (b + 1) k = M (b + 1) k) ∧ (∃ v, WayIs M b (M (b + 1) 3).toNat (M (b + 1) 2).toNat v ∧ M' (b + 1) 8 = 2 * v) ∧ (M' (b + 26) 0 = (nightV M b).1 ∧ M' (b + 26) 1 = (nightV M b).2.1 ∧ M' (b + 26) 2 = (nightV M b).2.2) := by
  obtain ⟨b1, -, -, b4⟩ := hb
  obtain ⟨M1, c1, p1, p2, v, p3, p4⟩ := c_mwalk (S := S) hS hf hk
  have f4 : M1 (b + 4) = M (b + 4) := p1 _ (by omega) (by omega)
  have ft : ∀ i, i < 4 → M1 (b + 16 + 2 * i) = M (b + 16 + 2 * i) := fun i hi => p1 _ (by omega) (by omega)
  have c2 := c_bforesee (S := S) (M := M1) hS (by rw [f4]; exact b1.1) (by rw [f4]; exact b1.2) (fun i hi => by rw [f4] at hi; exact TrOk_cg (ft i (by omega)) (b4 i hi))
  have e1 : lstC M1 b (M (b + 4) 1).toNat = lstC M b (M (b + 4) 1).toNat := lstC_cg (fun i hi => ft i (by omega))
  rw [f4, e1, nightF_cg (fun i hi => ft i (by omega))] at c2
  refine ⟨setN M1 b (nightV M b), ⟨_, rfl, ?_⟩, fun a a1 a3 a6 => ?_, fun k hk => ?_, ⟨v, p3, ?_⟩, setN_0, setN_1, setN_2⟩
  · refine Rn.cal rfl (X_ald rfl <| X_gr 6 0 hS.st ⟨rfl, rfl⟩ rfl rfl <| X_nil) (vs := [_]) (rest := []) rfl rfl rfl (rcv_v hS.fl (by decide)) (c1) ?_
    refine Rn.cal rfl (X_ald rfl <| X_gr 6 1 hS.st ⟨rfl, rfl⟩ rfl rfl <| X_ald rfl <| X_gr 6 3 hS.st ⟨rfl, rfl⟩ rfl rfl <| X_nil) (vs := [_, _]) (rest := []) rfl rfl rfl (rcv_v hS.be (by decide)) (c2) ?_
    refine Rn.rv rfl (X_nil) rfl
  · rw [setN_ne a6]
    exact p1 a a1 a3
  · rw [setN_ne (by omega)]
    exact p2 k hk
  · rw [setN_ne (by omega)]
    exact p4
/-- what a night that ends so costs one, with a walk of wk -/
def nCost (M : Nat → Int → Int) (b : Nat) (p : Int × Int × Int) (wk : Int) (s : Nat) : Int := if p.2.1 = (s : Int) ∧ M (b + 1) 5 = 0 then lightC M (b + 16 + 2 * s) p.1 + ((if p.2.2 = 0 then M (b + 16 + 2 * s) 3 else 0) + wk) else lightC M (b + 16 + 2 * s) p.1
theorem costV_n {N : Nat → Int → Int} {p : Int × Int × Int} {wk : Int} {s : Nat} (h0 : N (b + 26) 0 = p.1) (h1 : N (b + 26) 1 = p.2.1) (h2 : N (b + 26) 2 = p.2.2) (h5 : N (b + 1) 5 = M (b + 1) 5) (h8 : N (b + 1) 8 = wk) (ht : N (b + 16 + 2 * s) = M (b + 16 + 2 * s)) : costV N b s = nCost M b p wk s := by
  unfold costV nCost errV
  rw [h0, h1, h2, h5, h8, lightC_cg ht]
  by_cases c : p.2.1 = (s : Int) ∧ M (b + 1) 5 = 0
  · rw [if_pos c, if_pos c, if_neg (by omega)]
    have : p.2.1.toNat = s := by omega
    rw [this, ht]
  · rw [if_neg c, if_neg c]
/-- what one night leaves at b -/
def SpendP (M M' : Nat → Int → Int) (b : Nat) (v : Int) (p : Int × Int × Int) : Prop := ((∀ k, k ≠ 8 → M' (b + 1) k = M (b + 1) k) ∧ M' (b + 1) 8 = 2 * v) ∧ (M' (b + 26) 0 = p.1 ∧ M' (b + 26) 1 = p.2.1 ∧ M' (b + 26) 2 = p.2.2) ∧
    (M' (b + 4) 1 = M (b + 4) 1 ∧ M' (b + 4) 2 = M (b + 4) 2 + 1 ∧ M' (b + 4) 3 = (if 8 < M (b + 4) 3 + 1 then 8 else M (b + 4) 3 + 1)) ∧
    (M' (b + 7 + (M (b + 4) 2 % 8).toNat) 0 = M (b + 4) 1 ∧ ∀ i : Nat, (i : Int) < M (b + 4) 1 → M' (b + 7 + (M (b + 4) 2 % 8).toNat) (1 + 2 * i) = M (b + 16 + 2 * i) 6 ∧ M' (b + 7 + (M (b + 4) 2 % 8).toNat) (2 + 2 * i) = M (b + 16 + 2 * i) 7) ∧
    (∀ i : Nat, (i : Int) < M (b + 4) 1 → (∀ k, k ≠ 6 → k ≠ 7 → M' (b + 16 + 2 * i) k = M (b + 16 + 2 * i) k) ∧ M' (b + 16 + 2 * i) 6 = M (b + 16 + 2 * i) 6 + (if p.2.1 = (i : Int) then 1 else 0) ∧ M' (b + 16 + 2 * i) 7 = M (b + 16 + 2 * i) 7 + nCost M b p (2 * v) i) ∧
    (∀ a, a ≠ b + 1 → a ≠ b + 3 → a ≠ b + 4 → a ≠ b + 26 → a ≠ b + 7 + (M (b + 4) 2 % 8).toNat → (∀ i : Nat, (i : Int) < M (b + 4) 1 → a ≠ b + 16 + 2 * i) → M' a = M a)
theorem c_spend (hS : isSt T b) (hf : FlOk M b) (hk : WalkOk M b) (hb : BeOk M b) : ∃ M' v, Cl S 57 [vR b] (T, M) (some (vI (nightV M b).2.1), (T, M')) ∧ WayIs M b (M (b + 1) 3).toNat (M (b + 1) 2).toNat v ∧ SpendP M M' b v (nightV M b) := by
  obtain ⟨b1, b2, b3, b4⟩ := id hb
  have hnv := nightV_in hb
  have hf5 := hf.2.2.2.2.2.1
  obtain ⟨M1, c1, p1, p2, ⟨v, p3, p4⟩, p5, p6, p7⟩ := c_foresee (S := S) hS hf hk hb
  have f4 : M1 (b + 4) = M (b + 4) := p1 _ (by omega) (by omega) (by omega)
  have ft : ∀ i, i < 4 → M1 (b + 16 + 2 * i) = M (b + 16 + 2 * i) := fun i hi => p1 _ (by omega) (by omega) (by omega)
  obtain ⟨M2, c2, q1, q2, q3⟩ := c_remember (S := S) (M := M1) hS (by rw [f4]; exact b1.1) (by rw [f4]; exact b1.2) (by rw [f4]; exact b2) (by rw [f4]; exact b3)
  rw [f4] at q1 q2 q3
  unfold SpendP
  generalize hr : (M (b + 4) 2 % 8).toNat = rw at q2 q3 ⊢
  have hrw : rw < 8 := by omega
  have gt : ∀ i, i < 4 → M2 (b + 16 + 2 * i) = M (b + 16 + 2 * i) := fun i hi => by rw [q3 _ (by omega) (by omega), ft i hi]
  have g1 : M2 (b + 1) = M1 (b + 1) := q3 _ (by omega) (by omega)
  have g26 : M2 (b + 26) = M1 (b + 26) := q3 _ (by omega) (by omega)
  have gp0 : M2 (b + 26) 0 = (nightV M b).1 := by rw [g26]; exact p5
  have gp1 : M2 (b + 26) 1 = (nightV M b).2.1 := by rw [g26]; exact p6
  have gp2 : M2 (b + 26) 2 = (nightV M b).2.2 := by rw [g26]; exact p7
  have g5 : M2 (b + 1) 5 = M (b + 1) 5 := by rw [g1]; exact p2 5 (by omega)
  have g8 : M2 (b + 1) 8 = 2 * v := by rw [g1]; exact p4
  generalize hp : nightV M b = p at *
  -- each pays
  have loop : ∀ (k i : Nat) (N : Nat → Int → Int), i + k = (M (b + 4) 1).toNat → (∀ a, (∀ j, j < i → a ≠ b + 16 + 2 * j) → N a = M2 a) → (∀ j, j < i → (∀ c, c ≠ 7 → N (b + 16 + 2 * j) c = M (b + 16 + 2 * j) c) ∧ N (b + 16 + 2 * j) 7 = M (b + 16 + 2 * j) 7 + nCost M b p (2 * v) j) →
      ∃ N', (∀ r, Rn S 57 53 ([], [some (vR b), some (vI (M (b + 4) 1))], T, N') r → Rn S 57 13 ([], [some (vR b), some (vI (i : Int))], T, N) r) ∧ (∀ a, (∀ j : Nat, (j : Int) < M (b + 4) 1 → a ≠ b + 16 + 2 * j) → N' a = M2 a) ∧ (∀ j : Nat, (j : Int) < M (b + 4) 1 → (∀ c, c ≠ 7 → N' (b + 16 + 2 * j) c = M (b + 16 + 2 * j) c) ∧ N' (b + 16 + 2 * j) 7 = M (b + 16 + 2 * j) 7 + nCost M b p (2 * v) j) := by
    intro k
    induction k with
    | zero =>
      intro i N hi hN hT
      have e4 : N (b + 4) 1 = M (b + 4) 1 := by rw [hN _ (fun j hj => by omega)]; exact q1.1
      have ei : M (b + 4) 1 = (i : Int) := by omega
      refine ⟨N, fun r hr => ?_, fun a ha => hN a (fun j hj => ha j (by omega)), fun j hj => hT j (by omega)⟩
      rw [ei] at hr
      refine Rn.cge rfl (X_ild rfl <| X_ald rfl <| X_gr 6 1 hS.st ⟨rfl, rfl⟩ rfl rfl <| X_gi 0 1 1 hS.be ⟨rfl, rfl, rfl⟩ (Or.inl rfl) <| X_nil) (by first | omega | (simp (disch := omega) only [um_eq, um_na, um_ni, Int.toNat_natCast]; omega)) (by rw [e4]; omega) (fun hc => ?_) (fun hc => ?_)
      · exact hr
      · rw [e4] at hc
        exact absurd hc (by omega)
    | succ k ih =>
      intro i N hi hN hT
      have hi4 : i < 4 := by omega
      have e4 : N (b + 4) 1 = M (b + 4) 1 := by rw [hN _ (fun j hj => by omega)]; exact q1.1
      have et : N (b + 16 + 2 * i) = M (b + 16 + 2 * i) := by rw [hN _ (fun j hj => by omega), gt i hi4]
      have n26 : N (b + 26) = M2 (b + 26) := hN _ (fun j hj => by omega)
      have n1 : N (b + 1) = M2 (b + 1) := hN _ (fun j hj => by omega)
      have cc := c_cost (S := S) (M := N) (s := i) hS (by unfold NiOk; rw [n26, gp0, gp1, gp2]; exact ⟨⟨hnv.1, hnv.2.1⟩, ⟨hnv.2.2.1, by omega⟩, hnv.2.2.2.2.1⟩) hi4 (TrOk_cg et (b4 i (by omega))) (by rw [n1, g5]; exact hf5)
      have ecv : costV N b i = nCost M b p (2 * v) i := costV_n (by rw [n26, gp0]) (by rw [n26, gp1]) (by rw [n26, gp2]) (by rw [n1, g5]) (by rw [n1, g8]) et
      rw [ecv] at cc
      obtain ⟨N', r1, r2, r3⟩ := ih (i + 1) (um N (b + 16 + 2 * i) 7 (M (b + 16 + 2 * i) 7 + nCost M b p (2 * v) i)) (by omega) (fun a ha => by
          rw [um_fn (ha i (by omega))]
          exact hN a (fun j hj => ha j (by omega))) (fun j hj => by
          by_cases ej : j = i
          · subst ej
            exact ⟨fun c hc => by rw [um_ni hc, et], um_eq⟩
          · rw [um_fn (by omega)]
            exact hT j (by omega))
      refine ⟨N', fun r hr => ?_, r2, r3⟩
      have e7 : N (b + 16 + 2 * i) 7 = M (b + 16 + 2 * i) 7 := by rw [et]
      refine Rn.cge rfl (X_ild rfl <| X_ald rfl <| X_gr 6 1 hS.st ⟨rfl, rfl⟩ rfl rfl <| X_gi 0 1 1 hS.be ⟨rfl, rfl, rfl⟩ (Or.inl rfl) <| X_nil) (by first | omega | (simp (disch := omega) only [um_eq, um_na, um_ni, Int.toNat_natCast]; omega)) (by rw [e4]; omega) (fun hc => ?_) (fun hc => ?_)
      · rw [e4] at hc
        exact absurd hc (by omega)
      · refine Rn.cal rfl (X_ald rfl <| X_gr 6 1 hS.st ⟨rfl, rfl⟩ rfl rfl <| X_gr 0 0 hS.be ⟨rfl, rfl⟩ rfl rfl <| X_ild rfl <| X_aa hS.sl (by decide) (by first | omega | (simp (disch := omega) only [um_eq, um_na, um_ni, Int.toNat_natCast]; omega)) (by first | omega | (simp (disch := omega) only [um_eq, um_na, um_ni, Int.toNat_natCast]; omega)) rfl (rSl_at (by omega)) <| X_gr 5 0 (hS.se (by omega)) ⟨rfl, rfl⟩ rfl rfl <| X_i <| X_du2 <| X_ia (hS.tr (by omega)) (by first | omega | (simp (disch := omega) only [um_eq, um_na, um_ni, Int.toNat_natCast]; omega)) (by first | omega | (simp (disch := omega) only [um_eq, um_na, um_ni, Int.toNat_natCast]; omega)) rfl <| X_ald rfl <| X_ild rfl <| X_nil) (vs := [_, _]) (rest := [_, _, _]) rfl rfl rfl (rcv_v hS.st (by decide)) (cc) ?_
        show Rn S 57 45 ([vI (nCost M b p (2 * v) i), vI (N (b + 16 + 2 * i) 7), vI 7, vR (b + 16 + 2 * i)], [some (vR b), some (vI (i : Int))], T, N) r
        rw [e7]
        refine Rn.jto rfl (X_add <| X_is (hS.tr (by omega)) (by first | omega | (simp (disch := omega) only [um_eq, um_na, um_ni, Int.toNat_natCast]; omega)) (by first | omega | (simp (disch := omega) only [um_eq, um_na, um_ni, Int.toNat_natCast]; omega)) rfl <| X_inc rfl (L' := [_, _]) rfl <| X_nil) ?_
        exact r1 r hr
  obtain ⟨N, r1, r2, r3⟩ := loop (M (b + 4) 1).toNat 0 M2 (by omega) (fun a _ => rfl) (fun j hj => by omega)
  have n26 : N (b + 26) = M2 (b + 26) := r2 _ (fun j hj => by omega)
  have np1 : N (b + 26) 1 = p.2.1 := by rw [n26, gp1]
  have start : ∀ r, Rn S 57 53 ([], [some (vR b), some (vI (M (b + 4) 1))], T, N) r → Cl S 57 [vR b] (T, M) r := by
    intro r hr
    refine ⟨_, rfl, ?_⟩
    refine Rn.cal rfl (X_ald rfl <| X_nil) (vs := [_]) (rest := []) rfl rfl rfl (rcv_v hS.st (by decide)) (c1) ?_
    refine Rn.cal rfl (X_ald rfl <| X_gr 6 1 hS.st ⟨rfl, rfl⟩ rfl rfl <| X_nil) (vs := [_]) (rest := []) rfl rfl rfl (rcv_v hS.be (by decide)) (c2) ?_
    refine Rn.fal rfl (X_i <| X_ist rfl (L' := [_, _]) rfl <| X_nil) ?_
    exact r1 r hr
  -- who put it out counts one more
  have fin : ∀ M' : Nat → Int → Int, Cl S 57 [vR b] (T, M) (some (vI p.2.1), (T, M')) → (∀ a, (∀ i : Nat, (i : Int) < M (b + 4) 1 → a ≠ b + 16 + 2 * i) → M' a = N a) → (∀ i : Nat, (i : Int) < M (b + 4) 1 → (∀ k, k ≠ 6 → M' (b + 16 + 2 * i) k = N (b + 16 + 2 * i) k) ∧ M' (b + 16 + 2 * i) 6 = N (b + 16 + 2 * i) 6 + (if p.2.1 = (i : Int) then 1 else 0)) → ∃ M' v, Cl S 57 [vR b] (T, M) (some (vI p.2.1), (T, M')) ∧ WayIs M b (M (b + 1) 3).toNat (M (b + 1) 2).toNat v ∧ ((∀ k, k ≠ 8 → M' (b + 1) k = M (b + 1) k) ∧ M' (b + 1) 8 = 2 * v) ∧ (M' (b + 26) 0 = p.1 ∧ M' (b + 26) 1 = p.2.1 ∧ M' (b + 26) 2 = p.2.2) ∧
    (M' (b + 4) 1 = M (b + 4) 1 ∧ M' (b + 4) 2 = M (b + 4) 2 + 1 ∧ M' (b + 4) 3 = (if 8 < M (b + 4) 3 + 1 then 8 else M (b + 4) 3 + 1)) ∧
    (M' (b + 7 + rw) 0 = M (b + 4) 1 ∧ ∀ i : Nat, (i : Int) < M (b + 4) 1 → M' (b + 7 + rw) (1 + 2 * i) = M (b + 16 + 2 * i) 6 ∧ M' (b + 7 + rw) (2 + 2 * i) = M (b + 16 + 2 * i) 7) ∧
    (∀ i : Nat, (i : Int) < M (b + 4) 1 → (∀ k, k ≠ 6 → k ≠ 7 → M' (b + 16 + 2 * i) k = M (b + 16 + 2 * i) k) ∧ M' (b + 16 + 2 * i) 6 = M (b + 16 + 2 * i) 6 + (if p.2.1 = (i : Int) then 1 else 0) ∧ M' (b + 16 + 2 * i) 7 = M (b + 16 + 2 * i) 7 + nCost M b p (2 * v) i) ∧
    (∀ a, a ≠ b + 1 → a ≠ b + 3 → a ≠ b + 4 → a ≠ b + 26 → a ≠ b + 7 + rw → (∀ i : Nat, (i : Int) < M (b + 4) 1 → a ≠ b + 16 + 2 * i) → M' a = M a) := by
    intro M' hC h1 h2
    have k1 : M' (b + 1) = M2 (b + 1) := by rw [h1 _ (fun i hi => by omega), r2 _ (fun i hi => by omega)]
    have k26 : M' (b + 26) = M2 (b + 26) := by rw [h1 _ (fun i hi => by omega), r2 _ (fun i hi => by omega)]
    have k4 : M' (b + 4) = M2 (b + 4) := by rw [h1 _ (fun i hi => by omega), r2 _ (fun i hi => by omega)]
    have kr : M' (b + 7 + rw) = M2 (b + 7 + rw) := by rw [h1 _ (fun i hi => by omega), r2 _ (fun i hi => by omega)]
    refine ⟨M', v, hC, p3, ⟨fun k hk => by rw [k1, g1]; exact p2 k hk, by rw [k1]; exact g8⟩, ⟨by rw [k26]; exact gp0, by rw [k26]; exact gp1, by rw [k26]; exact gp2⟩, by rw [k4]; exact q1, ⟨by rw [kr]; exact q2.1, fun i hi => ?_⟩, fun i hi => ⟨fun k k6 k7 => ?_, ?_, ?_⟩, fun a a1 a3 a4 a6 ar at' => ?_⟩
    · rw [kr]
      have := q2.2 i hi
      rw [ft i (by omega)] at this
      exact this
    · rw [(h2 i hi).1 k k6, (r3 i hi).1 k k7]
    · rw [(h2 i hi).2, (r3 i hi).1 6 (by omega)]
    · rw [(h2 i hi).1 7 (by omega), (r3 i hi).2]
    · rw [h1 a at', r2 a at', q3 a a4 ar, p1 a a1 a3 a6]
  by_cases hwho : p.2.1 = -1
  · refine fin N (start _ ?_) (fun a _ => rfl) (fun i hi => ⟨fun k _ => rfl, ?_⟩)
    · refine Rn.ceq rfl (X_ald rfl <| X_gr 6 3 hS.st ⟨rfl, rfl⟩ rfl rfl <| X_gi 2 1 1 hS.ni ⟨rfl, rfl, rfl⟩ (Or.inl rfl) <| X_i <| X_nil) (by rw [np1]; omega) (by first | omega | (simp (disch := omega) only [um_eq, um_na, um_ni, Int.toNat_natCast]; omega)) (fun hc => ?_) (fun hc => ?_)
      · rw [← np1]
        refine Rn.ri rfl (X_ald rfl <| X_gr 6 3 hS.st ⟨rfl, rfl⟩ rfl rfl <| X_gi 2 1 1 hS.ni ⟨rfl, rfl, rfl⟩ (Or.inl rfl) <| X_nil) rfl
      · rw [np1] at hc
        exact absurd hwho hc
    · rw [if_neg (by omega)]
      omega
  · obtain ⟨j, hj⟩ : ∃ j : Nat, p.2.1 = (j : Int) := ⟨p.2.1.toNat, by omega⟩
    have hj4 : j < 4 := by omega
    have hjm : (j : Int) < M (b + 4) 1 := by omega
    have npj : N (b + 26) 1 = (j : Int) := by rw [np1, hj]
    refine fin (um N (b + 16 + 2 * j) 6 (N (b + 16 + 2 * j) 6 + 1)) (start _ ?_) (fun a ha => um_fn (ha j hjm)) (fun i hi => ?_)
    · refine Rn.ceq rfl (X_ald rfl <| X_gr 6 3 hS.st ⟨rfl, rfl⟩ rfl rfl <| X_gi 2 1 1 hS.ni ⟨rfl, rfl, rfl⟩ (Or.inl rfl) <| X_i <| X_nil) (by rw [np1]; omega) (by first | omega | (simp (disch := omega) only [um_eq, um_na, um_ni, Int.toNat_natCast]; omega)) (fun hc => ?_) (fun hc => ?_)
      · rw [np1] at hc
        exact absurd hc hwho
      · clear hc
        refine Rn.fal rfl (X_ald rfl <| X_gr 6 1 hS.st ⟨rfl, rfl⟩ rfl rfl <| X_gr 0 0 hS.be ⟨rfl, rfl⟩ rfl rfl <| X_ald rfl <| X_gr 6 3 hS.st ⟨rfl, rfl⟩ rfl rfl <| X_gi 2 1 1 hS.ni ⟨rfl, rfl, rfl⟩ (Or.inl rfl) <| X_aa hS.sl (by decide) (by rw [npj]; omega) (by rw [npj]; omega) rfl (b := b + 15 + 2 * j) (by rw [npj]; exact rSl_at hj4) <| X_gr 5 0 (hS.se hj4) ⟨rfl, rfl⟩ rfl rfl <| X_i <| X_du2 <| X_ia (hS.tr hj4) (by omega) (by omega) rfl <| X_i <| X_add <| X_is (hS.tr hj4) (by omega) (by omega) rfl <| X_nil) ?_
        have en : um N (b + 16 + 2 * j) 6 (N (b + 16 + 2 * j) 6 + 1) (b + 26) 1 = p.2.1 := by rw [um_na (by omega), np1]
        rw [← en]
        refine Rn.ri rfl (X_ald rfl <| X_gr 6 3 hS.st ⟨rfl, rfl⟩ rfl rfl <| X_gi 2 1 1 hS.ni ⟨rfl, rfl, rfl⟩ (Or.inl rfl) <| X_nil) rfl
    · by_cases ei : i = j
      · subst ei
        rw [if_pos hj]
        exact ⟨fun k hk => um_ni hk, um_eq⟩
      · rw [if_neg (by omega), um_fn (by omega)]
        exact ⟨fun k _ => rfl, by omega⟩
end Spend
end
section
/-! THE MODEL'S SMALL METHODS -/
section Mleaf
variable {S : List Int} {T : List Sh} {M : Nat → Int → Int} {h : Hp}
theorem c_in {v lo hi : Int} (iv : I64 v) (il : I64 lo) (ih : I64 hi) : Cl S 116 [vL v, vL lo, vL hi] h (some (vI (if lo ≤ v ∧ v ≤ hi then 1 else 0)), h) := by
  refine ⟨_, rfl, ?_⟩
  refine Rn.llt rfl (X_lld rfl <| X_lld rfl <| X_lcm (by first | omega | (simp (disch := omega) only [um_eq, um_na, um_ni, Int.toNat_natCast]; omega)) (by first | omega | (simp (disch := omega) only [um_eq, um_na, um_ni, Int.toNat_natCast]; omega)) <| X_nil) (fun hc => ?_) (fun hc => ?_)
  · rw [if_neg (by omega)]
    refine Rn.fal rfl (X_i <| X_nil) ?_
    refine Rn.rz rfl (X_nil) rfl (by first | exact Or.inl rfl | exact Or.inr rfl | omega)
  · refine Rn.lgt rfl (X_lld rfl <| X_lld rfl <| X_lcm (by first | omega | (simp (disch := omega) only [um_eq, um_na, um_ni, Int.toNat_natCast]; omega)) (by first | omega | (simp (disch := omega) only [um_eq, um_na, um_ni, Int.toNat_natCast]; omega)) <| X_nil) (fun hc => ?_) (fun hc => ?_)
    · rw [if_neg (by omega)]
      refine Rn.fal rfl (X_i <| X_nil) ?_
      refine Rn.rz rfl (X_nil) rfl (by first | exact Or.inl rfl | exact Or.inr rfl | omega)
    · rw [if_pos (by omega)]
      refine Rn.jto rfl (X_i <| X_nil) ?_
      refine Rn.rz rfl (X_nil) rfl (by first | exact Or.inl rfl | exact Or.inr rfl | omega)
theorem c_mhas {s k : Int} : Cl S 117 [vI s, vI k] h (some (vI (if o_and (o_shr s k) 1 = 1 then 1 else 0)), h) := by
  have ia := I32_and (o_shr s k) 1
  refine ⟨_, rfl, ?_⟩
  refine Rn.cne rfl (X_ild rfl <| X_ild rfl <| X_shr <| X_i <| X_and <| X_i <| X_nil) (by first | omega | (simp (disch := omega) only [um_eq, um_na, um_ni, Int.toNat_natCast]; omega)) (by first | omega | (simp (disch := omega) only [um_eq, um_na, um_ni, Int.toNat_natCast]; omega)) (fun hc => ?_) (fun hc => ?_)
  · rw [if_neg hc]
    refine Rn.fal rfl (X_i <| X_nil) ?_
    refine Rn.rz rfl (X_nil) rfl (by first | exact Or.inl rfl | exact Or.inr rfl | omega)
  · rw [if_pos hc]
    refine Rn.jto rfl (X_i <| X_nil) ?_
    refine Rn.rz rfl (X_nil) rfl (by first | exact Or.inl rfl | exact Or.inr rfl | omega)
theorem c_more {x y : Int} (ix : I32 x) (iy : I32 y) : Cl S 118 [vI x, vI y] h (some (vI (if x ≤ y then y else x)), h) := by
  refine ⟨_, rfl, ?_⟩
  refine Rn.cle rfl (X_ild rfl <| X_ild rfl <| X_nil) (by first | omega | (simp (disch := omega) only [um_eq, um_na, um_ni, Int.toNat_natCast]; omega)) (by first | omega | (simp (disch := omega) only [um_eq, um_na, um_ni, Int.toNat_natCast]; omega)) (fun hc => ?_) (fun hc => ?_)
  · rw [if_pos hc]
    refine Rn.fal rfl (X_ild rfl <| X_nil) ?_
    refine Rn.ri rfl (X_nil) rfl
  · rw [if_neg (by omega)]
    refine Rn.jto rfl (X_ild rfl <| X_nil) ?_
    refine Rn.ri rfl (X_nil) rfl
/-- met: what was refused is counted -/
theorem c_met {v : Int} (hM : isM T) (hv : v = -2 ∨ v = -3 ∨ v = -4) : Cl S 119 [vR 76, vI v] (T, M) (some (vI v), (T, um M 80 (-2 - v) (M 80 (-2 - v) + 1))) := by
  have k18 : Rn S 119 18 ([], [some (vR 76), some (vI v)], T, M) (some (vI v), (T, um M 80 (-2 - v) (M 80 (-2 - v) + 1))) := by
    refine Rn.fal rfl (X_ald rfl <| X_gr 8 4 hM.ob ⟨rfl, rfl⟩ rfl rfl <| X_i <| X_ild rfl <| X_sub <| X_du2 <| X_ia hM.re (by first | omega | (simp (disch := omega) only [um_eq, um_na, um_ni, Int.toNat_natCast]; omega)) (by first | omega | (simp (disch := omega) only [um_eq, um_na, um_ni, Int.toNat_natCast]; omega)) rfl <| X_i <| X_add <| X_is hM.re (by first | omega | (simp (disch := omega) only [um_eq, um_na, um_ni, Int.toNat_natCast]; omega)) (by first | omega | (simp (disch := omega) only [um_eq, um_na, um_ni, Int.toNat_natCast]; omega)) rfl <| X_nil) ?_
    refine Rn.ri rfl (X_ild rfl <| X_nil) rfl
  refine ⟨_, rfl, ?_⟩
  refine Rn.ceq rfl (X_ild rfl <| X_i <| X_nil) (by first | omega | (simp (disch := omega) only [um_eq, um_na, um_ni, Int.toNat_natCast]; omega)) (by first | omega | (simp (disch := omega) only [um_eq, um_na, um_ni, Int.toNat_natCast]; omega)) (fun hc => ?_) (fun hc => ?_)
  · exact k18
  · refine Rn.ceq rfl (X_ild rfl <| X_i <| X_nil) (by first | omega | (simp (disch := omega) only [um_eq, um_na, um_ni, Int.toNat_natCast]; omega)) (by first | omega | (simp (disch := omega) only [um_eq, um_na, um_ni, Int.toNat_natCast]; omega)) (fun hc => ?_) (fun hc => ?_)
    · exact k18
    · refine Rn.cne rfl (X_ild rfl <| X_i <| X_nil) (by first | omega | (simp (disch := omega) only [um_eq, um_na, um_ni, Int.toNat_natCast]; omega)) (by first | omega | (simp (disch := omega) only [um_eq, um_na, um_ni, Int.toNat_natCast]; omega)) (fun hc => ?_) (fun hc => ?_)
      · exact absurd hc (by omega)
      · exact k18
theorem c_mbad (hM : isM T) : Cl S 120 [vR 76] (T, M) (some (vI (-2)), (T, um M 80 0 (M 80 0 + 1))) := by
  have c := c_met (S := S) (M := M) (v := -2) hM (Or.inl rfl)
  refine ⟨_, rfl, ?_⟩
  refine Rn.cal rfl (X_ald rfl <| X_i <| X_nil) (vs := [_, _]) (rest := []) rfl rfl rfl (rcv_v hM.ob (by decide)) (c) ?_
  refine Rn.ri rfl (X_nil) rfl
theorem c_mbadAs {v : Int} (hM : isM T) : Cl S 121 [vR 76, vI v] (T, M) (some (vI v), (T, um M 80 0 (M 80 0 + 1))) := by
  refine ⟨_, rfl, ?_⟩
  refine Rn.ri rfl (X_ald rfl <| X_gr 8 4 hM.ob ⟨rfl, rfl⟩ rfl rfl <| X_i <| X_du2 <| X_ia hM.re (by first | omega | (simp (disch := omega) only [um_eq, um_na, um_ni, Int.toNat_natCast]; omega)) (by first | omega | (simp (disch := omega) only [um_eq, um_na, um_ni, Int.toNat_natCast]; omega)) rfl <| X_i <| X_add <| X_is hM.re (by first | omega | (simp (disch := omega) only [um_eq, um_na, um_ni, Int.toNat_natCast]; omega)) (by first | omega | (simp (disch := omega) only [um_eq, um_na, um_ni, Int.toNat_natCast]; omega)) rfl <| X_ild rfl <| X_nil) rfl
theorem c_becomes {a v : Int} (hM : isM T) (a0 : 0 ≤ a) (a1 : a < 748) : Cl S 129 [vR 76, vI a, vI v] (T, M) (some (vI (M 77 a)), (T, um M 77 a v)) := by
  refine ⟨_, rfl, ?_⟩
  refine Rn.ri rfl (X_ald rfl <| X_gr 8 0 hM.ob ⟨rfl, rfl⟩ rfl rfl <| X_ild rfl <| X_ia hM.w (by first | omega | (simp (disch := omega) only [um_eq, um_na, um_ni, Int.toNat_natCast]; omega)) (by first | omega | (simp (disch := omega) only [um_eq, um_na, um_ni, Int.toNat_natCast]; omega)) rfl <| X_ist rfl (L' := [_, _, _, _]) rfl <| X_ald rfl <| X_gr 8 0 hM.ob ⟨rfl, rfl⟩ rfl rfl <| X_ild rfl <| X_ild rfl <| X_is hM.w (by first | omega | (simp (disch := omega) only [um_eq, um_na, um_ni, Int.toNat_natCast]; omega)) (by first | omega | (simp (disch := omega) only [um_eq, um_na, um_ni, Int.toNat_natCast]; omega)) rfl <| X_ild rfl <| X_nil) rfl
theorem c_isCell {r c : Int} (hM : isM T) (r0 : 0 ≤ r) (r1 : r < 600) (hw : 1 ≤ M 77 r ∧ M 77 r ≤ 7) (hh : 1 ≤ M 77 (r + 1) ∧ M 77 (r + 1) ≤ 7) (ic : I32 c) : Cl S 124 [vR 76, vI r, vI c] (T, M) (some (vI (if 0 ≤ c ∧ c ≤ M 77 r * M 77 (r + 1) - 1 then 1 else 0)), (T, M)) := by
  have p1 : M 77 r * M 77 (r + 1) ≤ 7 * 7 := Int.mul_le_mul hw.2 hh.2 (by omega) (by omega)
  have p0 : 0 ≤ M 77 r * M 77 (r + 1) := Int.mul_nonneg (by omega) (by omega)
  have e0 : M 77 (r + 0) = M 77 r := by rw [Int.add_zero]
  refine ⟨_, rfl, ?_⟩
  have ci := c_in (S := S) (h := (T, M)) (v := c) (lo := 0) (hi := M 77 r * M 77 (r + 1) - 1) (by omega) (by omega) (by omega)
  rw [← e0] at ci ⊢
  refine Rn.cal rfl (X_ild rfl <| X_i2l (by first | omega | (simp (disch := omega) only [um_eq, um_na, um_ni, Int.toNat_natCast]; omega)) <| X_l <| X_ald rfl <| X_gr 8 0 hM.ob ⟨rfl, rfl⟩ rfl rfl <| X_ild rfl <| X_i <| X_add <| X_ia hM.w (by first | omega | (simp (disch := omega) only [um_eq, um_na, um_ni, Int.toNat_natCast]; omega)) (by first | omega | (simp (disch := omega) only [um_eq, um_na, um_ni, Int.toNat_natCast]; omega)) rfl <| X_ald rfl <| X_gr 8 0 hM.ob ⟨rfl, rfl⟩ rfl rfl <| X_ild rfl <| X_i <| X_add <| X_ia hM.w (by first | omega | (simp (disch := omega) only [um_eq, um_na, um_ni, Int.toNat_natCast]; omega)) (by first | omega | (simp (disch := omega) only [um_eq, um_na, um_ni, Int.toNat_natCast]; omega)) rfl <| X_mul <| X_i <| X_sub <| X_i2l (by rw [e0]; omega) <| X_nil) (vs := [_, _, _]) (rest := []) rfl rfl rfl rfl (ci) ?_
  refine Rn.rz rfl (X_nil) rfl (by split <;> simp)
theorem c_isOne {s : Int} (hM : isM T) (h6 : 0 ≤ M 77 6 ∧ M 77 6 ≤ 4) (is : I32 s) : Cl S 125 [vR 76, vI s] (T, M) (some (vI (if 0 ≤ s ∧ s ≤ M 77 6 - 1 then 1 else 0)), (T, M)) := by
  refine ⟨_, rfl, ?_⟩
  refine Rn.cal rfl (X_ild rfl <| X_i2l (by first | omega | (simp (disch := omega) only [um_eq, um_na, um_ni, Int.toNat_natCast]; omega)) <| X_l <| X_ald rfl <| X_gr 8 0 hM.ob ⟨rfl, rfl⟩ rfl rfl <| X_i <| X_ia hM.w (by first | omega | (simp (disch := omega) only [um_eq, um_na, um_ni, Int.toNat_natCast]; omega)) (by first | omega | (simp (disch := omega) only [um_eq, um_na, um_ni, Int.toNat_natCast]; omega)) rfl <| X_i <| X_sub <| X_i2l (by first | omega | (simp (disch := omega) only [um_eq, um_na, um_ni, Int.toNat_natCast]; omega)) <| X_nil) (vs := [_, _, _]) (rest := []) rfl rfl rfl rfl (c_in (by omega) (by omega) (by omega)) ?_
  refine Rn.rz rfl (X_nil) rfl (by split <;> simp)
def mostV (k : Int) : Int := if k = 0 then 5 else if k = 1 ∨ k = 5 then 120 else if k = 2 then 9 else if k = 3 then 20 else 60
theorem c_most {k : Int} (ik : I32 k) : Cl S 126 [vI k] h (some (vI (mostV k)), h) := by
  refine ⟨_, rfl, ?_⟩
  unfold mostV
  refine Rn.ine rfl (X_ild rfl <| X_nil) (by first | omega | (simp (disch := omega) only [um_eq, um_na, um_ni, Int.toNat_natCast]; omega)) (fun hc => ?_) (fun hc => ?_)
  · rw [if_neg hc]
    refine Rn.ceq rfl (X_ild rfl <| X_i <| X_nil) (by first | omega | (simp (disch := omega) only [um_eq, um_na, um_ni, Int.toNat_natCast]; omega)) (by first | omega | (simp (disch := omega) only [um_eq, um_na, um_ni, Int.toNat_natCast]; omega)) (fun hc => ?_) (fun hc => ?_)
    · rw [if_pos (Or.inl hc)]
      refine Rn.jto rfl (X_i <| X_nil) ?_
      refine Rn.ri rfl (X_nil) rfl
    · have hc1 := hc
      refine Rn.cne rfl (X_ild rfl <| X_i <| X_nil) (by first | omega | (simp (disch := omega) only [um_eq, um_na, um_ni, Int.toNat_natCast]; omega)) (by first | omega | (simp (disch := omega) only [um_eq, um_na, um_ni, Int.toNat_natCast]; omega)) (fun hc => ?_) (fun hc => ?_)
      · rw [if_neg (by omega)]
        refine Rn.cne rfl (X_ild rfl <| X_i <| X_nil) (by first | omega | (simp (disch := omega) only [um_eq, um_na, um_ni, Int.toNat_natCast]; omega)) (by first | omega | (simp (disch := omega) only [um_eq, um_na, um_ni, Int.toNat_natCast]; omega)) (fun hc => ?_) (fun hc => ?_)
        · rw [if_neg hc]
          refine Rn.cne rfl (X_ild rfl <| X_i <| X_nil) (by first | omega | (simp (disch := omega) only [um_eq, um_na, um_ni, Int.toNat_natCast]; omega)) (by first | omega | (simp (disch := omega) only [um_eq, um_na, um_ni, Int.toNat_natCast]; omega)) (fun hc => ?_) (fun hc => ?_)
          · rw [if_neg hc]
            refine Rn.fal rfl (X_i <| X_nil) ?_
            refine Rn.ri rfl (X_nil) rfl
          · rw [if_pos hc]
            refine Rn.jto rfl (X_i <| X_nil) ?_
            refine Rn.ri rfl (X_nil) rfl
        · rw [if_pos hc]
          refine Rn.jto rfl (X_i <| X_nil) ?_
          refine Rn.ri rfl (X_nil) rfl
      · rw [if_pos (Or.inr hc)]
        refine Rn.jto rfl (X_i <| X_nil) ?_
        refine Rn.ri rfl (X_nil) rfl
  · rw [if_pos hc]
    refine Rn.jto rfl (X_i <| X_nil) ?_
    refine Rn.ri rfl (X_nil) rfl
/-- a stretch of w is copied -/
theorem c_mcopy {x y : Int} (hM : isM T) (x0 : 0 ≤ x) (x1 : x + 187 ≤ 748) (y0 : 0 ≤ y) (y1 : y + 187 ≤ 748) (hxy : x + 187 ≤ y ∨ y + 187 ≤ x) : ∃ M', Cl S 122 [vR 76, vI x, vI y] (T, M) (none, (T, M')) ∧ (∀ k, 0 ≤ k → k < 187 → M' 77 (y + k) = M 77 (x + k)) ∧ (∀ k, k < y ∨ y + 187 ≤ k → M' 77 k = M 77 k) ∧ (∀ a, a ≠ 77 → M' a = M a) := by
  have loop : ∀ (j i : Nat) (N : Nat → Int → Int), i + j = 187 → ∃ N', Rn S 122 2 ([], [some (vR 76), some (vI x), some (vI y), some (vI (i : Int))], T, N) (none, (T, N')) ∧ (∀ k, (i : Int) ≤ k → k < 187 → N' 77 (y + k) = N 77 (x + k)) ∧ (∀ k, k < y + i ∨ y + 187 ≤ k → N' 77 k = N 77 k) ∧ (∀ a, a ≠ 77 → N' a = N a) := by
    intro j
    induction j with
    | zero =>
      intro i N hi
      refine ⟨N, ?_, fun k h1 h2 => by omega, fun k _ => rfl, fun a _ => rfl⟩
      refine Rn.cge rfl (X_ild rfl <| X_i <| X_nil) (by first | omega | (simp (disch := omega) only [um_eq, um_na, um_ni, Int.toNat_natCast]; omega)) (by first | omega | (simp (disch := omega) only [um_eq, um_na, um_ni, Int.toNat_natCast]; omega)) (fun hc => ?_) (fun hc => ?_)
      · refine Rn.rv rfl (X_nil) rfl
      · exact absurd hc (by omega)
    | succ j ih =>
      intro i N hi
      obtain ⟨N', r1, r2, r3, r4⟩ := ih (i + 1) (um N 77 (y + i) (N 77 (x + i))) (by omega)
      refine ⟨N', ?_, fun k h1 h2 => ?_, fun k hk => ?_, fun a ha => ?_⟩
      · refine Rn.cge rfl (X_ild rfl <| X_i <| X_nil) (by first | omega | (simp (disch := omega) only [um_eq, um_na, um_ni, Int.toNat_natCast]; omega)) (by first | omega | (simp (disch := omega) only [um_eq, um_na, um_ni, Int.toNat_natCast]; omega)) (fun hc => ?_) (fun hc => ?_)
        · exact absurd hc (by omega)
        · refine Rn.jto rfl (X_ald rfl <| X_gr 8 0 hM.ob ⟨rfl, rfl⟩ rfl rfl <| X_ild rfl <| X_ild rfl <| X_add <| X_ald rfl <| X_gr 8 0 hM.ob ⟨rfl, rfl⟩ rfl rfl <| X_ild rfl <| X_ild rfl <| X_add <| X_ia hM.w (by first | omega | (simp (disch := omega) only [um_eq, um_na, um_ni, Int.toNat_natCast]; omega)) (by first | omega | (simp (disch := omega) only [um_eq, um_na, um_ni, Int.toNat_natCast]; omega)) rfl <| X_is hM.w (by first | omega | (simp (disch := omega) only [um_eq, um_na, um_ni, Int.toNat_natCast]; omega)) (by first | omega | (simp (disch := omega) only [um_eq, um_na, um_ni, Int.toNat_natCast]; omega)) rfl <| X_inc rfl (L' := [_, _, _, _]) rfl <| X_nil) ?_
          exact r1
      · by_cases e : k = (i : Int)
        · rw [e, r3 _ (by omega), um_eq]
        · rw [r2 k (by omega) h2, um_ni (by omega)]
      · rw [r3 k (by omega), um_ni (by omega)]
      · rw [r4 a ha, um_fn ha]
  obtain ⟨N', r1, r2, r3, r4⟩ := loop 187 0 M (by omega)
  refine ⟨N', ⟨_, rfl, ?_⟩, fun k h1 h2 => r2 k (by omega) h2, fun k hk => r3 k (by omega), r4⟩
  refine Rn.fal rfl (X_i <| X_ist rfl (L' := [_, _, _, _]) rfl <| X_nil) ?_
  exact r1
/-- a room anew in w -/
theorem c_begins {r w hh : Int} (hM : isM T) (r0 : 0 ≤ r) (r1 : r + 187 ≤ 748) : ∃ M', Cl S 123 [vR 76, vI r, vI w, vI hh] (T, M) (none, (T, M')) ∧ (M' 77 r = w ∧ M' 77 (r + 1) = hh ∧ M' 77 (r + 3) = w * hh - 1 ∧ ∀ k, 0 ≤ k → k < 187 → k ≠ 0 → k ≠ 1 → k ≠ 3 → M' 77 (r + k) = 0) ∧ (∀ k, k < r ∨ r + 187 ≤ k → M' 77 k = M 77 k) ∧ (∀ a, a ≠ 77 → M' a = M a) := by
  have loop : ∀ (j i : Nat) (N : Nat → Int → Int), i + j = 187 → ∃ N', (∀ q, Rn S 123 27 ([], [some (vR 76), some (vI r), some (vI w), some (vI hh), some (vI 187)], T, N') q → Rn S 123 3 ([], [some (vR 76), some (vI r), some (vI w), some (vI hh), some (vI (i : Int))], T, N) q) ∧ (∀ k, (i : Int) ≤ k → k < 187 → N' 77 (r + k) = 0) ∧ (∀ k, k < r + i ∨ r + 187 ≤ k → N' 77 k = N 77 k) ∧ (∀ a, a ≠ 77 → N' a = N a) := by
    intro j
    induction j with
    | zero =>
      intro i N hi
      have ei : i = 187 := by omega
      subst ei
      refine ⟨N, fun q hq => ?_, fun k h1 h2 => by omega, fun k _ => rfl, fun a _ => rfl⟩
      refine Rn.cge rfl (X_ild rfl <| X_i <| X_nil) (by first | omega | (simp (disch := omega) only [um_eq, um_na, um_ni, Int.toNat_natCast]; omega)) (by first | omega | (simp (disch := omega) only [um_eq, um_na, um_ni, Int.toNat_natCast]; omega)) (fun hc => ?_) (fun hc => ?_)
      · exact hq
      · exact absurd hc (by omega)
    | succ j ih =>
      intro i N hi
      obtain ⟨N', r1', r2, r3, r4⟩ := ih (i + 1) (um N 77 (r + i) 0) (by omega)
      refine ⟨N', fun q hq => ?_, fun k h1 h2 => ?_, fun k hk => ?_, fun a ha => ?_⟩
      · refine Rn.cge rfl (X_ild rfl <| X_i <| X_nil) (by first | omega | (simp (disch := omega) only [um_eq, um_na, um_ni, Int.toNat_natCast]; omega)) (by first | omega | (simp (disch := omega) only [um_eq, um_na, um_ni, Int.toNat_natCast]; omega)) (fun hc => ?_) (fun hc => ?_)
        · exact absurd hc (by omega)
        · refine Rn.jto rfl (X_ald rfl <| X_gr 8 0 hM.ob ⟨rfl, rfl⟩ rfl rfl <| X_ild rfl <| X_ild rfl <| X_add <| X_i <| X_is hM.w (by first | omega | (simp (disch := omega) only [um_eq, um_na, um_ni, Int.toNat_natCast]; omega)) (by first | omega | (simp (disch := omega) only [um_eq, um_na, um_ni, Int.toNat_natCast]; omega)) rfl <| X_inc rfl (L' := [_, _, _, _, _]) rfl <| X_nil) ?_
          exact r1' q hq
      · by_cases e : k = (i : Int)
        · rw [e, r3 _ (by omega), um_eq]
        · rw [r2 k (by omega) h2]
      · rw [r3 k (by omega), um_ni (by omega)]
      · rw [r4 a ha, um_fn ha]
  obtain ⟨N', r1', r2, r3, r4⟩ := loop 187 0 M (by omega)
  have e0 : r + 0 = r := Int.add_zero r
  refine ⟨um (um (um N' 77 (r + 0) w) 77 (r + 1) hh) 77 (r + 3) (w * hh - 1), ⟨_, rfl, ?_⟩, ⟨?_, ?_, um_eq, fun k k0 k1 n0 n1 n3 => ?_⟩, fun k hk => ?_, fun a ha => ?_⟩
  · refine Rn.fal rfl (X_i <| X_ist rfl (L' := [_, _, _, _, _]) rfl <| X_nil) ?_
    refine r1' _ ?_
    refine Rn.rv rfl (X_ald rfl <| X_gr 8 0 hM.ob ⟨rfl, rfl⟩ rfl rfl <| X_ild rfl <| X_i <| X_add <| X_ild rfl <| X_is hM.w (by first | omega | (simp (disch := omega) only [um_eq, um_na, um_ni, Int.toNat_natCast]; omega)) (by first | omega | (simp (disch := omega) only [um_eq, um_na, um_ni, Int.toNat_natCast]; omega)) rfl <| X_ald rfl <| X_gr 8 0 hM.ob ⟨rfl, rfl⟩ rfl rfl <| X_ild rfl <| X_i <| X_add <| X_ild rfl <| X_is hM.w (by first | omega | (simp (disch := omega) only [um_eq, um_na, um_ni, Int.toNat_natCast]; omega)) (by first | omega | (simp (disch := omega) only [um_eq, um_na, um_ni, Int.toNat_natCast]; omega)) rfl <| X_ald rfl <| X_gr 8 0 hM.ob ⟨rfl, rfl⟩ rfl rfl <| X_ild rfl <| X_i <| X_add <| X_ild rfl <| X_ild rfl <| X_mul <| X_i <| X_sub <| X_is hM.w (by first | omega | (simp (disch := omega) only [um_eq, um_na, um_ni, Int.toNat_natCast]; omega)) (by first | omega | (simp (disch := omega) only [um_eq, um_na, um_ni, Int.toNat_natCast]; omega)) rfl <| X_nil) rfl
  · rw [um_ni (by omega), um_ni (by omega), e0, um_eq]
  · rw [um_ni (by omega), um_eq]
  · rw [um_ni (by omega), um_ni (by omega), um_ni (by omega)]
    exact r2 k (by omega) k1
  · rw [um_ni (by omega), um_ni (by omega), um_ni (by omega)]
    exact r3 k (by omega)
  · rw [um_fn ha, um_fn ha, um_fn ha, r4 a ha]
end Mleaf
end
section
/-! THE MODEL'S SLEEPERS, SEEN AS THE CLASS HAS THEM -/
/-- the model's working numbers as traits of sleepers at 16 + 2 i -/
def V (M : Nat → Int → Int) : Nat → Int → Int := fun a k => if k = 5 then M 82 (((a - 16) / 2 : Nat) : Int) else if k = 6 then M 83 (((a - 16) / 2 : Nat) : Int) else if k = 7 then M 84 (((a - 16) / 2 : Nat) : Int) else M 77 (59 + 4 * k + (((a - 16) / 2 : Nat) : Int))
section Mwaits
variable {S : List Int} {T : List Sh} {M : Nat → Int → Int} {h : Hp}
theorem V_ix (i : Nat) : (0 + 16 + 2 * i - 16) / 2 = i := by omega
theorem V_5 (i : Nat) : V M (0 + 16 + 2 * i) 5 = M 82 (i : Int) := by
  unfold V
  rw [if_pos rfl, V_ix]
theorem V_6 (i : Nat) : V M (0 + 16 + 2 * i) 6 = M 83 (i : Int) := by
  unfold V
  rw [if_neg (by omega), if_pos rfl, V_ix]
theorem V_7 (i : Nat) : V M (0 + 16 + 2 * i) 7 = M 84 (i : Int) := by
  unfold V
  rw [if_neg (by omega), if_neg (by omega), if_pos rfl, V_ix]
theorem V_k (i : Nat) (k : Int) (h : k < 5) : V M (0 + 16 + 2 * i) k = M 77 (59 + 4 * k + (i : Int)) := by
  unfold V
  rw [if_neg (by omega), if_neg (by omega), if_neg (by omega), V_ix]
theorem V_0 (i : Nat) : V M (0 + 16 + 2 * i) 0 = M 77 (59 + (i : Int)) := V_k i 0 (by omega)
theorem V_1 (i : Nat) : V M (0 + 16 + 2 * i) 1 = M 77 (63 + (i : Int)) := V_k i 1 (by omega)
theorem V_2 (i : Nat) : V M (0 + 16 + 2 * i) 2 = M 77 (67 + (i : Int)) := V_k i 2 (by omega)
theorem V_3 (i : Nat) : V M (0 + 16 + 2 * i) 3 = M 77 (71 + (i : Int)) := V_k i 3 (by omega)
theorem V_4 (i : Nat) : V M (0 + 16 + 2 * i) 4 = M 77 (75 + (i : Int)) := V_k i 4 (by omega)
/-- what the model reckons with is in range -/
def MoOk (M : Nat → Int → Int) : Prop := (0 ≤ M 77 6 ∧ M 77 6 ≤ 4) ∧ ∀ i : Nat, (i : Int) < M 77 6 → TrOk (V M) (0 + 16 + 2 * i)
theorem c_mwaits {s : Nat} (hM : isM T) (hm : MoOk M) (hs : (s : Int) < M 77 6) : Cl S 157 [vR 76, vI (s : Int)] (T, M) (some (vI (waitC (V M) (0 + 16 + 2 * s) (lstC (V M) 0 (M 77 6).toNat))), (T, M)) := by
  obtain ⟨m1, m2⟩ := hm
  have l0 := lstC_in (M := V M) (b := 0) (n := (M 77 6).toNat) (by omega) (fun i hi => m2 i (by omega))
  have hts := m2 s hs
  unfold TrOk at hts
  rw [V_0, V_1, V_2, V_3, V_4, V_5, V_6, V_7] at hts
  -- behind the loop, with the least known
  have tail : ∀ (l : Int) (x3 x4 : Option AV), Rn S 157 43 ([], [some (vR 76), some (vI (s : Int)), some (vI l), x3, x4], T, M) (some (vI (waitC (V M) (0 + 16 + 2 * s) l)), (T, M)) := by
    intro l x3 x4
    unfold waitC
    rw [V_0, V_1, V_4, V_6]
    have h5 : M 77 (59 + s) = 0 ∨ M 77 (59 + s) = 1 ∨ M 77 (59 + s) = 2 ∨ M 77 (59 + s) = 3 ∨ M 77 (59 + s) = 4 ∨ M 77 (59 + s) = 5 := by omega
    rcases h5 with e | e | e | e | e | e
    · rw [if_neg (by omega), if_neg (by omega), if_neg (by omega), if_neg (by omega), if_neg (by omega)]
      refine Rn.swi (q' := 148) rfl (X_ald rfl <| X_gr 8 0 hM.ob ⟨rfl, rfl⟩ rfl rfl <| X_i <| X_ild rfl <| X_add <| X_ia hM.w (by first | omega | (simp (disch := omega) only [um_eq, um_na, um_ni, Int.toNat_natCast]; omega)) (by first | omega | (simp (disch := omega) only [um_eq, um_na, um_ni, Int.toNat_natCast]; omega)) rfl <| X_ist rfl (L' := [_, _, _, _, _]) rfl <| X_ild rfl <| X_i <| X_ald rfl <| X_gr 8 15 hM.ob ⟨rfl, rfl⟩ rfl rfl <| X_ild rfl <| X_ia hM.co (by first | omega | (simp (disch := omega) only [um_eq, um_na, um_ni, Int.toNat_natCast]; omega)) (by first | omega | (simp (disch := omega) only [um_eq, um_na, um_ni, Int.toNat_natCast]; omega)) rfl <| X_ild rfl <| X_sub <| X_mul <| X_add <| X_ist rfl (L' := [_, _, _, _, _]) rfl <| X_ald rfl <| X_gr 8 0 hM.ob ⟨rfl, rfl⟩ rfl rfl <| X_i <| X_ild rfl <| X_add <| X_ia hM.w (by first | omega | (simp (disch := omega) only [um_eq, um_na, um_ni, Int.toNat_natCast]; omega)) (by first | omega | (simp (disch := omega) only [um_eq, um_na, um_ni, Int.toNat_natCast]; omega)) rfl <| X_nil) (by first | omega | (simp (disch := omega) only [um_eq, um_na, um_ni, Int.toNat_natCast]; omega)) (by first | rfl | (rw [e]; rfl)) ?_
      refine Rn.ri rfl (X_ild rfl <| X_nil) rfl
    · rw [if_pos e]
      refine Rn.swi (q' := 112) rfl (X_ald rfl <| X_gr 8 0 hM.ob ⟨rfl, rfl⟩ rfl rfl <| X_i <| X_ild rfl <| X_add <| X_ia hM.w (by first | omega | (simp (disch := omega) only [um_eq, um_na, um_ni, Int.toNat_natCast]; omega)) (by first | omega | (simp (disch := omega) only [um_eq, um_na, um_ni, Int.toNat_natCast]; omega)) rfl <| X_ist rfl (L' := [_, _, _, _, _]) rfl <| X_ild rfl <| X_i <| X_ald rfl <| X_gr 8 15 hM.ob ⟨rfl, rfl⟩ rfl rfl <| X_ild rfl <| X_ia hM.co (by first | omega | (simp (disch := omega) only [um_eq, um_na, um_ni, Int.toNat_natCast]; omega)) (by first | omega | (simp (disch := omega) only [um_eq, um_na, um_ni, Int.toNat_natCast]; omega)) rfl <| X_ild rfl <| X_sub <| X_mul <| X_add <| X_ist rfl (L' := [_, _, _, _, _]) rfl <| X_ald rfl <| X_gr 8 0 hM.ob ⟨rfl, rfl⟩ rfl rfl <| X_i <| X_ild rfl <| X_add <| X_ia hM.w (by first | omega | (simp (disch := omega) only [um_eq, um_na, um_ni, Int.toNat_natCast]; omega)) (by first | omega | (simp (disch := omega) only [um_eq, um_na, um_ni, Int.toNat_natCast]; omega)) rfl <| X_nil) (by first | omega | (simp (disch := omega) only [um_eq, um_na, um_ni, Int.toNat_natCast]; omega)) (by first | rfl | (rw [e]; rfl)) ?_
      refine Rn.ri rfl (X_ild rfl <| X_nil) rfl
    · rw [if_neg (by omega), if_pos e]
      refine Rn.swi (q' := 115) rfl (X_ald rfl <| X_gr 8 0 hM.ob ⟨rfl, rfl⟩ rfl rfl <| X_i <| X_ild rfl <| X_add <| X_ia hM.w (by first | omega | (simp (disch := omega) only [um_eq, um_na, um_ni, Int.toNat_natCast]; omega)) (by first | omega | (simp (disch := omega) only [um_eq, um_na, um_ni, Int.toNat_natCast]; omega)) rfl <| X_ist rfl (L' := [_, _, _, _, _]) rfl <| X_ild rfl <| X_i <| X_ald rfl <| X_gr 8 15 hM.ob ⟨rfl, rfl⟩ rfl rfl <| X_ild rfl <| X_ia hM.co (by first | omega | (simp (disch := omega) only [um_eq, um_na, um_ni, Int.toNat_natCast]; omega)) (by first | omega | (simp (disch := omega) only [um_eq, um_na, um_ni, Int.toNat_natCast]; omega)) rfl <| X_ild rfl <| X_sub <| X_mul <| X_add <| X_ist rfl (L' := [_, _, _, _, _]) rfl <| X_ald rfl <| X_gr 8 0 hM.ob ⟨rfl, rfl⟩ rfl rfl <| X_i <| X_ild rfl <| X_add <| X_ia hM.w (by first | omega | (simp (disch := omega) only [um_eq, um_na, um_ni, Int.toNat_natCast]; omega)) (by first | omega | (simp (disch := omega) only [um_eq, um_na, um_ni, Int.toNat_natCast]; omega)) rfl <| X_nil) (by first | omega | (simp (disch := omega) only [um_eq, um_na, um_ni, Int.toNat_natCast]; omega)) (by first | rfl | (rw [e]; rfl)) ?_
      refine Rn.ri rfl (X_i <| X_ild rfl <| X_mul <| X_nil) rfl
    · rw [if_neg (by omega), if_neg (by omega), if_pos e]
      refine Rn.swi (q' := 120) rfl (X_ald rfl <| X_gr 8 0 hM.ob ⟨rfl, rfl⟩ rfl rfl <| X_i <| X_ild rfl <| X_add <| X_ia hM.w (by first | omega | (simp (disch := omega) only [um_eq, um_na, um_ni, Int.toNat_natCast]; omega)) (by first | omega | (simp (disch := omega) only [um_eq, um_na, um_ni, Int.toNat_natCast]; omega)) rfl <| X_ist rfl (L' := [_, _, _, _, _]) rfl <| X_ild rfl <| X_i <| X_ald rfl <| X_gr 8 15 hM.ob ⟨rfl, rfl⟩ rfl rfl <| X_ild rfl <| X_ia hM.co (by first | omega | (simp (disch := omega) only [um_eq, um_na, um_ni, Int.toNat_natCast]; omega)) (by first | omega | (simp (disch := omega) only [um_eq, um_na, um_ni, Int.toNat_natCast]; omega)) rfl <| X_ild rfl <| X_sub <| X_mul <| X_add <| X_ist rfl (L' := [_, _, _, _, _]) rfl <| X_ald rfl <| X_gr 8 0 hM.ob ⟨rfl, rfl⟩ rfl rfl <| X_i <| X_ild rfl <| X_add <| X_ia hM.w (by first | omega | (simp (disch := omega) only [um_eq, um_na, um_ni, Int.toNat_natCast]; omega)) (by first | omega | (simp (disch := omega) only [um_eq, um_na, um_ni, Int.toNat_natCast]; omega)) rfl <| X_nil) (by first | omega | (simp (disch := omega) only [um_eq, um_na, um_ni, Int.toNat_natCast]; omega)) (by first | rfl | (rw [e]; rfl)) ?_
      refine Rn.ri rfl (X_ild rfl <| X_i <| X_div (by first | omega | (simp (disch := omega) only [um_eq, um_na, um_ni, Int.toNat_natCast]; omega)) (by first | omega | (simp (disch := omega) only [um_eq, um_na, um_ni, Int.toNat_natCast]; omega)) <| X_nil) rfl
    · rw [if_neg (by omega), if_neg (by omega), if_neg (by omega), if_pos e, Int.add_comm]
      refine Rn.swi (q' := 124) rfl (X_ald rfl <| X_gr 8 0 hM.ob ⟨rfl, rfl⟩ rfl rfl <| X_i <| X_ild rfl <| X_add <| X_ia hM.w (by first | omega | (simp (disch := omega) only [um_eq, um_na, um_ni, Int.toNat_natCast]; omega)) (by first | omega | (simp (disch := omega) only [um_eq, um_na, um_ni, Int.toNat_natCast]; omega)) rfl <| X_ist rfl (L' := [_, _, _, _, _]) rfl <| X_ild rfl <| X_i <| X_ald rfl <| X_gr 8 15 hM.ob ⟨rfl, rfl⟩ rfl rfl <| X_ild rfl <| X_ia hM.co (by first | omega | (simp (disch := omega) only [um_eq, um_na, um_ni, Int.toNat_natCast]; omega)) (by first | omega | (simp (disch := omega) only [um_eq, um_na, um_ni, Int.toNat_natCast]; omega)) rfl <| X_ild rfl <| X_sub <| X_mul <| X_add <| X_ist rfl (L' := [_, _, _, _, _]) rfl <| X_ald rfl <| X_gr 8 0 hM.ob ⟨rfl, rfl⟩ rfl rfl <| X_i <| X_ild rfl <| X_add <| X_ia hM.w (by first | omega | (simp (disch := omega) only [um_eq, um_na, um_ni, Int.toNat_natCast]; omega)) (by first | omega | (simp (disch := omega) only [um_eq, um_na, um_ni, Int.toNat_natCast]; omega)) rfl <| X_nil) (by first | omega | (simp (disch := omega) only [um_eq, um_na, um_ni, Int.toNat_natCast]; omega)) (by first | rfl | (rw [e]; rfl)) ?_
      refine Rn.ri rfl (X_i <| X_i <| X_ild rfl <| X_mul <| X_add <| X_nil) rfl
    · rw [if_neg (by omega), if_neg (by omega), if_neg (by omega), if_neg (by omega), if_pos e]
      refine Rn.swi (q' := 132) rfl (X_ald rfl <| X_gr 8 0 hM.ob ⟨rfl, rfl⟩ rfl rfl <| X_i <| X_ild rfl <| X_add <| X_ia hM.w (by first | omega | (simp (disch := omega) only [um_eq, um_na, um_ni, Int.toNat_natCast]; omega)) (by first | omega | (simp (disch := omega) only [um_eq, um_na, um_ni, Int.toNat_natCast]; omega)) rfl <| X_ist rfl (L' := [_, _, _, _, _]) rfl <| X_ild rfl <| X_i <| X_ald rfl <| X_gr 8 15 hM.ob ⟨rfl, rfl⟩ rfl rfl <| X_ild rfl <| X_ia hM.co (by first | omega | (simp (disch := omega) only [um_eq, um_na, um_ni, Int.toNat_natCast]; omega)) (by first | omega | (simp (disch := omega) only [um_eq, um_na, um_ni, Int.toNat_natCast]; omega)) rfl <| X_ild rfl <| X_sub <| X_mul <| X_add <| X_ist rfl (L' := [_, _, _, _, _]) rfl <| X_ald rfl <| X_gr 8 0 hM.ob ⟨rfl, rfl⟩ rfl rfl <| X_i <| X_ild rfl <| X_add <| X_ia hM.w (by first | omega | (simp (disch := omega) only [um_eq, um_na, um_ni, Int.toNat_natCast]; omega)) (by first | omega | (simp (disch := omega) only [um_eq, um_na, um_ni, Int.toNat_natCast]; omega)) rfl <| X_nil) (by first | omega | (simp (disch := omega) only [um_eq, um_na, um_ni, Int.toNat_natCast]; omega)) (by first | rfl | (rw [e]; rfl)) ?_
      refine Rn.ri rfl (X_ild rfl <| X_i <| X_div (by first | omega | (simp (disch := omega) only [um_eq, um_na, um_ni, Int.toNat_natCast]; omega)) (by first | omega | (simp (disch := omega) only [um_eq, um_na, um_ni, Int.toNat_natCast]; omega)) <| X_ald rfl <| X_gr 8 0 hM.ob ⟨rfl, rfl⟩ rfl rfl <| X_i <| X_ild rfl <| X_add <| X_ia hM.w (by first | omega | (simp (disch := omega) only [um_eq, um_na, um_ni, Int.toNat_natCast]; omega)) (by first | omega | (simp (disch := omega) only [um_eq, um_na, um_ni, Int.toNat_natCast]; omega)) rfl <| X_i <| X_div (by first | omega | (simp (disch := omega) only [um_eq, um_na, um_ni, Int.toNat_natCast]; omega)) (by first | omega | (simp (disch := omega) only [um_eq, um_na, um_ni, Int.toNat_natCast]; omega)) <| X_add <| X_nil) rfl
  refine ⟨_, rfl, ?_⟩
  refine Rn.fal rfl (X_i <| X_ist rfl (L' := [_, _, _, _, _]) rfl <| X_i <| X_ist rfl (L' := [_, _, _, _, _]) rfl <| X_nil) ?_
  have loop : ∀ (k i : Nat) (x4 : Option AV), i + k = (M 77 6).toNat → Rn S 157 5 ([], [some (vR 76), some (vI (s : Int)), some (vI (lstC (V M) 0 i)), some (vI (i : Int)), x4], T, M) (some (vI (waitC (V M) (0 + 16 + 2 * s) (lstC (V M) 0 (M 77 6).toNat))), (T, M)) := by
    intro k
    induction k with
    | zero =>
      intro i x4 hi
      have e : i = (M 77 6).toNat := by omega
      refine Rn.cge rfl (X_ild rfl <| X_ald rfl <| X_gr 8 0 hM.ob ⟨rfl, rfl⟩ rfl rfl <| X_i <| X_ia hM.w (by first | omega | (simp (disch := omega) only [um_eq, um_na, um_ni, Int.toNat_natCast]; omega)) (by first | omega | (simp (disch := omega) only [um_eq, um_na, um_ni, Int.toNat_natCast]; omega)) rfl <| X_nil) (by first | omega | (simp (disch := omega) only [um_eq, um_na, um_ni, Int.toNat_natCast]; omega)) (by first | omega | (simp (disch := omega) only [um_eq, um_na, um_ni, Int.toNat_natCast]; omega)) (fun hc => ?_) (fun hc => ?_)
      · rw [e]
        exact tail _ _ _
      · exact absurd hc (by omega)
    | succ k ih =>
      intro i x4 hi
      have l1 := lstC_in (M := V M) (b := 0) (n := i) (by omega) (fun j hj => m2 j (by omega))
      have l2 := m2 i (by omega)
      unfold TrOk at l2
      rw [V_0, V_1, V_2, V_3, V_4, V_5, V_6, V_7] at l2
      have el : lstC (V M) 0 (i + 1) = if M 83 (i : Int) < lstC (V M) 0 i then M 83 (i : Int) else lstC (V M) 0 i := by
        rw [lstC, V_6]
      refine Rn.cge rfl (X_ild rfl <| X_ald rfl <| X_gr 8 0 hM.ob ⟨rfl, rfl⟩ rfl rfl <| X_i <| X_ia hM.w (by first | omega | (simp (disch := omega) only [um_eq, um_na, um_ni, Int.toNat_natCast]; omega)) (by first | omega | (simp (disch := omega) only [um_eq, um_na, um_ni, Int.toNat_natCast]; omega)) rfl <| X_nil) (by first | omega | (simp (disch := omega) only [um_eq, um_na, um_ni, Int.toNat_natCast]; omega)) (by first | omega | (simp (disch := omega) only [um_eq, um_na, um_ni, Int.toNat_natCast]; omega)) (fun hc => ?_) (fun hc => ?_)
      · exact absurd hc (by omega)
      · have hc0 := hc
        refine Rn.cge rfl (X_ald rfl <| X_gr 8 15 hM.ob ⟨rfl, rfl⟩ rfl rfl <| X_ild rfl <| X_ia hM.co (by first | omega | (simp (disch := omega) only [um_eq, um_na, um_ni, Int.toNat_natCast]; omega)) (by first | omega | (simp (disch := omega) only [um_eq, um_na, um_ni, Int.toNat_natCast]; omega)) rfl <| X_ild rfl <| X_nil) (by first | omega | (simp (disch := omega) only [um_eq, um_na, um_ni, Int.toNat_natCast]; omega)) (by first | omega | (simp (disch := omega) only [um_eq, um_na, um_ni, Int.toNat_natCast]; omega)) (fun hc => ?_) (fun hc => ?_)
        · rw [if_neg (by omega)] at el
          refine Rn.fal rfl (X_ild rfl <| X_nil) ?_
          refine Rn.jto rfl (X_ist rfl (L' := [_, _, _, _, _]) rfl <| X_inc rfl (L' := [_, _, _, _, _]) rfl <| X_nil) ?_
          rw [← el]
          exact ih (i + 1) _ (by omega)
        · rw [if_pos (by omega)] at el
          refine Rn.jto rfl (X_ald rfl <| X_gr 8 15 hM.ob ⟨rfl, rfl⟩ rfl rfl <| X_ild rfl <| X_ia hM.co (by first | omega | (simp (disch := omega) only [um_eq, um_na, um_ni, Int.toNat_natCast]; omega)) (by first | omega | (simp (disch := omega) only [um_eq, um_na, um_ni, Int.toNat_natCast]; omega)) rfl <| X_nil) ?_
          refine Rn.jto rfl (X_ist rfl (L' := [_, _, _, _, _]) rfl <| X_inc rfl (L' := [_, _, _, _, _]) rfl <| X_nil) ?_
          rw [← el]
          exact ih (i + 1) _ (by omega)
  exact loop (M 77 6).toNat 0 _ (by omega)
end Mwaits
end
section
/-! THE MODEL'S NIGHT, MINUTE BY MINUTE -/
theorem V_fn {M N : Nat → Int → Int} (h77 : N 77 = M 77) (h82 : N 82 = M 82) (h83 : N 83 = M 83) (h84 : N 84 = M 84) : V N = V M := by
  funext a k
  unfold V
  rw [h77, h82, h83, h84]
def setG (M : Nat → Int → Int) (p : Int × Int × Int) : Nat → Int → Int := um (um (um M 76 19 p.1) 76 20 p.2.1) 76 21 p.2.2
theorem setG_ne {M : Nat → Int → Int} {a : Nat} {p : Int × Int × Int} (h : a ≠ 76) : setG M p a = M a := by
  unfold setG
  rw [um_fn h, um_fn h, um_fn h]
theorem setG_k {M : Nat → Int → Int} {p : Int × Int × Int} {k : Int} (h1 : k ≠ 19) (h2 : k ≠ 20) (h3 : k ≠ 21) : setG M p 76 k = M 76 k := by
  unfold setG
  rw [um_ni h3, um_ni h2, um_ni h1]
theorem setG_19 {M : Nat → Int → Int} {p : Int × Int × Int} : setG M p 76 19 = p.1 := by
  unfold setG
  rw [um_ni (by omega), um_ni (by omega), um_eq]
theorem setG_20 {M : Nat → Int → Int} {p : Int × Int × Int} : setG M p 76 20 = p.2.1 := by
  unfold setG
  rw [um_ni (by omega), um_eq]
theorem setG_21 {M : Nat → Int → Int} {p : Int × Int × Int} : setG M p 76 21 = p.2.2 := um_eq
theorem setG_w19 {M : Nat → Int → Int} {m w a m' : Int} : um (setG M (m, w, a)) 76 19 m' = setG M (m', w, a) := by
  funext x k
  by_cases hx : x = 76
  · subst hx
    by_cases h1 : k = 19
    · subst h1; rw [um_eq, setG_19]
    · rw [um_ni h1]
      unfold setG
      by_cases h3 : k = 21
      · subst h3; rw [um_eq, um_eq]
      · rw [um_ni h3, um_ni h3]
        by_cases h2 : k = 20
        · subst h2; rw [um_eq, um_eq]
        · rw [um_ni h2, um_ni h2, um_ni h1, um_ni h1]
  · rw [um_na hx, setG_ne hx, setG_ne hx]
theorem setG_w20 {M : Nat → Int → Int} {m w a w' : Int} : um (setG M (m, w, a)) 76 20 w' = setG M (m, w', a) := by
  funext x k
  by_cases hx : x = 76
  · subst hx
    by_cases h1 : k = 20
    · subst h1; rw [um_eq, setG_20]
    · rw [um_ni h1]
      unfold setG
      by_cases h3 : k = 21
      · subst h3; rw [um_eq, um_eq]
      · rw [um_ni h3, um_ni h3, um_ni h1, um_ni h1]
  · rw [um_na hx, setG_ne hx, setG_ne hx]
theorem setG_w21 {M : Nat → Int → Int} {m w a a' : Int} : um (setG M (m, w, a)) 76 21 a' = setG M (m, w, a') := by
  funext x k
  by_cases hx : x = 76
  · subst hx
    by_cases h1 : k = 21
    · subst h1; rw [um_eq, setG_21]
    · rw [um_ni h1]
      unfold setG
      rw [um_ni h1, um_ni h1]
  · rw [um_na hx, setG_ne hx, setG_ne hx]
/-- the first from j on, below n, of which c holds; i0, if none -/
def Fst (c : Nat → Prop) (j n : Nat) (i0 v : Int) : Prop := (∃ s, j ≤ s ∧ s < n ∧ c s ∧ (∀ x, j ≤ x → x < s → ¬ c x) ∧ v = (s : Int)) ∨ ((∀ x, j ≤ x → x < n → ¬ c x) ∧ v = i0)
theorem Fst_n {c : Nat → Prop} {n : Nat} {i0 : Int} : Fst c n n i0 i0 := Or.inr ⟨fun x h1 h2 => by omega, rfl⟩
theorem Fst_y {c : Nat → Prop} {j n : Nat} {i0 v : Int} (h : Fst c (j + 1) n i0 v) (hj : j < n) (hc : c j) : Fst c j n i0 (j : Int) := Or.inl ⟨j, Nat.le_refl _, hj, hc, fun x h1 h2 => by omega, rfl⟩
theorem Fst_no {c : Nat → Prop} {j n : Nat} {i0 v : Int} (h : Fst c (j + 1) n i0 v) (hc : ¬ c j) : Fst c j n i0 v := by
  rcases h with ⟨s, h1, h2, h3, h4, h5⟩ | ⟨h1, h2⟩
  · refine Or.inl ⟨s, by omega, h2, h3, fun x x1 x2 => ?_, h5⟩
    by_cases e : x = j
    · rw [e]; exact hc
    · exact h4 x (by omega) x2
  · refine Or.inr ⟨fun x x1 x2 => ?_, h2⟩
    by_cases e : x = j
    · rw [e]; exact hc
    · exact h1 x (by omega) x2
section NF
variable {M : Nat → Int → Int} {b : Nat} {l : Int}
abbrev wV (M : Nat → Int → Int) (b : Nat) (l : Int) (s : Nat) : Int := M (b + 16 + 2 * s) 1 + waitC M (b + 16 + 2 * s) l
abbrev uP (M : Nat → Int → Int) (b : Nat) (t : Int) (s : Nat) : Prop := upA M (b + 16 + 2 * s) ∧ M (b + 16 + 2 * s) 5 = t
/-- how the night's end is known -/
theorem nightF_is (l0 : 0 ≤ l) : ∀ n : Nat, (∀ i, i < n → TrOk M (b + 16 + 2 * i) ∧ l ≤ M (b + 16 + 2 * i) 6) → (∀ s, s < n → (nightF M b l n).1 ≤ wV M b l s) ∧ (∀ s, s < n → upA M (b + 16 + 2 * s) → (nightF M b l n).1 ≤ M (b + 16 + 2 * s) 5) ∧ (nightF M b l n = (300, -1, 0) ∨ ((nightF M b l n).1 < 300 ∧ (((nightF M b l n).2.2 = 1 ∧ Fst (uP M b (nightF M b l n).1) 0 n (-1) (nightF M b l n).2.1 ∧ ∃ s, s < n ∧ uP M b (nightF M b l n).1 s) ∨ ((nightF M b l n).2.2 = 0 ∧ (∀ x, x < n → ¬ uP M b (nightF M b l n).1 x) ∧ Fst (fun s => wV M b l s = (nightF M b l n).1) 0 n (-1) (nightF M b l n).2.1 ∧ ∃ s, s < n ∧ wV M b l s = (nightF M b l n).1)))) := by
  intro n
  induction n with
  | zero => intro _; exact ⟨fun s hs => by omega, fun s hs => by omega, Or.inl rfl⟩
  | succ n ih =>
    intro ht
    obtain ⟨i1, i2, i3⟩ := ih (fun i hi => ht i (by omega))
    have hn := nightF_in (M := M) (b := b) (n := n) l0 (fun i hi => ht i (by omega))
    have htn := ht n (by omega)
    have hw := waitC_in htn.1 l0 htn.2
    have e0 : nightF M b l (n + 1) = if M (b + 16 + 2 * n) 1 + waitC M (b + 16 + 2 * n) l < (if upA M (b + 16 + 2 * n) ∧ (M (b + 16 + 2 * n) 5 < (nightF M b l n).1 ∨ (M (b + 16 + 2 * n) 5 = (nightF M b l n).1 ∧ (nightF M b l n).2.2 = 0)) then (M (b + 16 + 2 * n) 5, (n : Int), (1 : Int)) else nightF M b l n).1 then (M (b + 16 + 2 * n) 1 + waitC M (b + 16 + 2 * n) l, (n : Int), (0 : Int)) else (if upA M (b + 16 + 2 * n) ∧ (M (b + 16 + 2 * n) 5 < (nightF M b l n).1 ∨ (M (b + 16 + 2 * n) 5 = (nightF M b l n).1 ∧ (nightF M b l n).2.2 = 0)) then (M (b + 16 + 2 * n) 5, (n : Int), (1 : Int)) else nightF M b l n) := rfl
    rw [e0]
    generalize hp : nightF M b l n = p at *
    have hwn : wV M b l n = M (b + 16 + 2 * n) 1 + waitC M (b + 16 + 2 * n) l := rfl
    by_cases hu : upA M (b + 16 + 2 * n) ∧ (M (b + 16 + 2 * n) 5 < p.1 ∨ (M (b + 16 + 2 * n) 5 = p.1 ∧ p.2.2 = 0))
    · rw [if_pos hu]
      simp only
      have hU : M (b + 16 + 2 * n) 5 ≤ p.1 := by omega
      -- nobody before n is up at that minute
      have nob : ∀ x, x < n → ¬ uP M b (M (b + 16 + 2 * n) 5) x := by
        intro x hx hq
        have h1 := i2 x hx hq.1
        have h2 := hq.2
        rcases hu.2 with h3 | h3
        · omega
        · rcases i3 with h4 | ⟨h4, ⟨h5, -⟩ | ⟨-, h5, -⟩⟩
          · rw [h4] at h3
            have : M (b + 16 + 2 * n) 5 = 300 := h3.1
            omega
          · omega
          · exact h5 x hx ⟨hq.1, by omega⟩
      by_cases hw2 : M (b + 16 + 2 * n) 1 + waitC M (b + 16 + 2 * n) l < M (b + 16 + 2 * n) 5
      · rw [if_pos hw2]
        simp only
        refine ⟨fun s hs => ?_, fun s hs hup => ?_, Or.inr ⟨by omega, Or.inr ⟨trivial, fun x hx hq => ?_, Or.inl ⟨n, by omega, by omega, rfl, fun x _ hx => ?_, rfl⟩, n, by omega, rfl⟩⟩⟩
        · by_cases e : s = n
          · subst e; exact Int.le_refl _
          · have := i1 s (by omega); omega
        · by_cases e : s = n
          · subst e; omega
          · have := i2 s (by omega) hup; omega
        · by_cases e : x = n
          · subst e
            have := hq.2
            omega
          · have := i2 x (by omega) hq.1
            have := hq.2
            omega
        · have := i1 x hx
          omega
      · rw [if_neg hw2]
        simp only
        refine ⟨fun s hs => ?_, fun s hs hup => ?_, Or.inr ⟨by omega, Or.inl ⟨trivial, Or.inl ⟨n, by omega, by omega, ⟨hu.1, rfl⟩, fun x _ hx => nob x hx, rfl⟩, n, by omega, hu.1, rfl⟩⟩⟩
        · by_cases e : s = n
          · subst e; rw [hwn]; omega
          · have := i1 s (by omega); omega
        · by_cases e : s = n
          · subst e; exact Int.le_refl _
          · have := i2 s (by omega) hup; omega
    · rw [if_neg hu]
      have hnu : upA M (b + 16 + 2 * n) → p.1 ≤ M (b + 16 + 2 * n) 5 ∧ (M (b + 16 + 2 * n) 5 = p.1 → p.2.2 ≠ 0) := by
        intro h1
        refine ⟨?_, fun h2 h3 => hu ⟨h1, Or.inr ⟨h2, h3⟩⟩⟩
        have : ¬ M (b + 16 + 2 * n) 5 < p.1 := fun h2 => hu ⟨h1, Or.inl h2⟩
        omega
      by_cases hw2 : M (b + 16 + 2 * n) 1 + waitC M (b + 16 + 2 * n) l < p.1
      · rw [if_pos hw2]
        simp only
        refine ⟨fun s hs => ?_, fun s hs hup => ?_, Or.inr ⟨by omega, Or.inr ⟨trivial, fun x hx hq => ?_, Or.inl ⟨n, by omega, by omega, rfl, fun x _ hx => ?_, rfl⟩, n, by omega, rfl⟩⟩⟩
        · by_cases e : s = n
          · subst e; exact Int.le_refl _
          · have := i1 s (by omega); omega
        · by_cases e : s = n
          · subst e
            have := (hnu hup).1
            omega
          · have := i2 s (by omega) hup; omega
        · by_cases e : x = n
          · subst e
            have := (hnu hq.1).1
            have := hq.2
            omega
          · have := i2 x (by omega) hq.1
            have := hq.2
            omega
        · have := i1 x hx
          omega
      · rw [if_neg hw2]
        refine ⟨fun s hs => ?_, fun s hs hup => ?_, ?_⟩
        · by_cases e : s = n
          · subst e; rw [hwn]; omega
          · exact i1 s (by omega)
        · by_cases e : s = n
          · subst e
            exact (hnu hup).1
          · exact i2 s (by omega) hup
        · rcases i3 with h4 | ⟨h4, h5⟩
          · exact Or.inl h4
          · refine Or.inr ⟨h4, ?_⟩
            rcases h5 with ⟨h5, h6, s, h7, h8⟩ | ⟨h5, h6, h7, s, h8, h9⟩
            · refine Or.inl ⟨h5, ?_, s, by omega, h8⟩
              rcases h6 with ⟨s', g1, g2, g3, g4, g5⟩ | ⟨g1, -⟩
              · exact Or.inl ⟨s', g1, by omega, g3, g4, g5⟩
              · exact absurd h8 (g1 s (by omega) h7)
            · refine Or.inr ⟨h5, fun x hx hq => ?_, ?_, s, by omega, h9⟩
              · by_cases e : x = n
                · subst e
                  exact (hnu hq.1).2 hq.2 h5
                · exact h6 x (by omega) hq
              · rcases h7 with ⟨s', g1, g2, g3, g4, g5⟩ | ⟨g1, -⟩
                · exact Or.inl ⟨s', g1, by omega, g3, g4, g5⟩
                · exact absurd h9 (g1 s (by omega) h8)
end NF
end
section
/-! goNight -/
section Go
variable {S : List Int} {T : List Sh} {M : Nat → Int → Int} {h : Hp}
/-- the model's night's end -/
abbrev mNight (M : Nat → Int → Int) : Int × Int × Int := nightF (V M) 0 (lstC (V M) 0 (M 77 6).toNat) (M 77 6).toNat
theorem c_goNight (hM : isM T) (hm : MoOk M) : Cl S 158 [vR 76] (T, M) (none, (T, setG M (mNight M))) := by
  obtain ⟨m1, m2⟩ := id hm
  have l0 := lstC_in (M := V M) (b := 0) (n := (M 77 6).toNat) (by omega) (fun i hi => m2 i (by omega))
  generalize hl : lstC (V M) 0 (M 77 6).toNat = l at l0
  obtain ⟨n, hn⟩ : ∃ n : Nat, M 77 6 = (n : Int) := ⟨(M 77 6).toNat, by omega⟩
  have htn : (M 77 6).toNat = n := by omega
  have ht : ∀ i, i < n → TrOk (V M) (0 + 16 + 2 * i) ∧ l ≤ V M (0 + 16 + 2 * i) 6 := fun i hi => ⟨m2 i (by omega), by
    rw [← hl]
    exact lstC_le (by omega) (fun j hj => by have := m2 j (by omega); omega)⟩
  have hni := nightF_in (M := V M) (b := 0) (n := n) l0.1 ht
  obtain ⟨f1, f2, f3⟩ := nightF_is (M := V M) (b := 0) l0.1 n ht
  have eN : mNight M = nightF (V M) 0 l n := by
    show nightF (V M) 0 (lstC (V M) 0 (M 77 6).toNat) (M 77 6).toNat = _
    rw [hl, htn]
  rw [eN]
  generalize hp : nightF (V M) 0 l n = p at *
  have g77 : ∀ x, setG M x 77 = M 77 := fun x => setG_ne (by decide)
  have g82 : ∀ x, setG M x 82 = M 82 := fun x => setG_ne (by decide)
  have gV : ∀ x, V (setG M x) = V M := fun x => V_fn (setG_ne (by decide)) (setG_ne (by decide)) (setG_ne (by decide)) (setG_ne (by decide))
  have h6 : ∀ x, setG M x 77 6 = (n : Int) := fun x => by rw [g77, hn]
  -- one's waiting, in any memory that differs in the night's numbers alone
  have cw : ∀ (x : Int × Int × Int) (s : Nat), s < n → Cl S 157 [vR 76, vI (s : Int)] (T, setG M x) (some (vI (waitC (V M) (0 + 16 + 2 * s) l)), (T, setG M x)) := by
    intro x s hs
    have c := c_mwaits (S := S) (M := setG M x) (s := s) hM (by unfold MoOk; rw [gV, g77]; exact hm) (by rw [h6]; omega)
    rw [gV, h6] at c
    have e1 : ((n : Int)).toNat = (M 77 6).toNat := by omega
    rw [e1, hl] at c
    exact c
  have rd : ∀ s, s < n → (0 ≤ M 77 (63 + (s : Int)) ∧ M 77 (63 + (s : Int)) ≤ 120) ∧ (-1 ≤ M 82 (s : Int) ∧ M 82 (s : Int) ≤ 120) ∧ (0 ≤ waitC (V M) (0 + 16 + 2 * s) l ∧ waitC (V M) (0 + 16 + 2 * s) l ≤ 2000000) := by
    intro s hs
    have h1 := ht s hs
    have h2 := waitC_in h1.1 l0.1 h1.2
    have h3 := h1.1
    unfold TrOk at h3
    rw [V_0, V_1, V_2, V_3, V_4, V_5, V_6, V_7] at h3
    exact ⟨h3.2.1, h3.2.2.2.2.2.1, h2⟩
  -- the first loop of a minute: who has waited
  have loop1 : ∀ (t : Nat), t < 300 → ∀ (j : Nat) (w : Int) (x3 : Option AV) (r : Option AV × Hp), j ≤ n → (-1 ≤ w ∧ w ≤ 4) → Fst (fun s => wV (V M) 0 l s ≤ (t : Int)) j n (-1) w → (∀ w', (-1 ≤ w' ∧ w' ≤ 4) → Fst (fun s => wV (V M) 0 l s ≤ (t : Int)) 0 n (-1) w' → Rn S 158 85 ([], [some (vR 76), some (vI (t : Int)), some (vI (-1)), x3], T, setG M (300, w', 0)) r) → Rn S 158 44 ([], [some (vR 76), some (vI (t : Int)), some (vI ((j : Int) - 1)), x3], T, setG M (300, w, 0)) r := by
    intro t ht3 j
    induction j with
    | zero =>
      intro w x3 r hj hw hF K
      refine Rn.ilt rfl (X_ild rfl <| X_nil) (by first | omega | (simp (disch := omega) only [um_eq, um_na, um_ni, Int.toNat_natCast]; omega)) (fun hc => ?_) (fun hc => ?_)
      · exact K w hw hF
      · exact absurd hc (by omega)
    | succ j ih =>
      intro w x3 r hj hw hF K
      obtain ⟨r1, r2, r3⟩ := rd j (by omega)
      have ej : ((j + 1 : Nat) : Int) - 1 = (j : Int) := by omega
      rw [ej]
      refine Rn.ilt rfl (X_ild rfl <| X_nil) (by first | omega | (simp (disch := omega) only [um_eq, um_na, um_ni, Int.toNat_natCast]; omega)) (fun hc => ?_) (fun hc => ?_)
      · exact absurd hc (by omega)
      · clear hc
        have e63 : setG M (300, w, 0) 77 (63 + (j : Int)) = M 77 (63 + (j : Int)) := by rw [g77]
        refine Rn.cal rfl (X_ald rfl <| X_ald rfl <| X_gr 8 0 hM.ob ⟨rfl, rfl⟩ rfl rfl <| X_i <| X_ild rfl <| X_add <| X_ia hM.w (by first | omega | (simp (disch := omega) only [um_eq, um_na, um_ni, Int.toNat_natCast]; omega)) (by first | omega | (simp (disch := omega) only [um_eq, um_na, um_ni, Int.toNat_natCast]; omega)) rfl <| X_ald rfl <| X_ild rfl <| X_nil) (vs := [_, _]) (rest := [_, _]) rfl rfl rfl (rcv_v hM.ob (by decide)) (cw (300, w, 0) j (by omega)) ?_
        show Rn S 158 63 ([vI (waitC (V M) (0 + 16 + 2 * j) l), vI (setG M (300, w, 0) 77 (63 + (j : Int))), vR 76], _, T, setG M (300, w, 0)) r
        rw [e63]
        have ew : wV (V M) 0 l j = M 77 (63 + (j : Int)) + waitC (V M) (0 + 16 + 2 * j) l := by
          show V M (0 + 16 + 2 * j) 1 + _ = _
          rw [V_1]
        refine Rn.cgt rfl (X_add <| X_ild rfl <| X_nil) (by first | omega | (simp (disch := omega) only [um_eq, um_na, um_ni, Int.toNat_natCast]; omega)) (by first | omega | (simp (disch := omega) only [um_eq, um_na, um_ni, Int.toNat_natCast]; omega)) (fun hc => ?_) (fun hc => ?_)
        · refine Rn.fal rfl (X_ald rfl <| X_gi 8 20 20 hM.ob ⟨rfl, rfl, rfl⟩ (Or.inl rfl) <| X_nil) ?_
          rw [setG_20]
          refine Rn.jto rfl (X_pi 8 20 20 hM.ob ⟨rfl, rfl, rfl⟩ (Or.inl rfl) <| X_inc rfl (L' := [_, _, _, _]) rfl <| X_nil) ?_
          rw [setG_w20]
          exact ih w x3 r (by omega) hw (Fst_no hF (by rw [ew]; omega)) K
        · refine Rn.jto rfl (X_ild rfl <| X_nil) ?_
          refine Rn.jto rfl (X_pi 8 20 20 hM.ob ⟨rfl, rfl, rfl⟩ (Or.inl rfl) <| X_inc rfl (L' := [_, _, _, _]) rfl <| X_nil) ?_
          rw [setG_w20]
          exact ih (j : Int) x3 r (by omega) (by omega) (Fst_y hF (by omega) (by rw [ew]; omega)) K
  -- the second one: who is up anyhow
  have loop2 : ∀ (t : Nat), t < 300 → ∀ (j : Nat) (w0 w a : Int) (x3 : Option AV) (r : Option AV × Hp), j ≤ n → (-1 ≤ w ∧ w ≤ 4) → (a = 0 ∨ a = 1) → Fst (uP (V M) 0 (t : Int)) j n w0 w → (a = 1 ↔ ∃ s, j ≤ s ∧ s < n ∧ uP (V M) 0 (t : Int) s) → (∀ w' a' x3', (-1 ≤ w' ∧ w' ≤ 4) → (a' = 0 ∨ a' = 1) → Fst (uP (V M) 0 (t : Int)) 0 n w0 w' → (a' = 1 ↔ ∃ s, 0 ≤ s ∧ s < n ∧ uP (V M) 0 (t : Int) s) → Rn S 158 166 ([], [some (vR 76), some (vI (t : Int)), some (vI (-1)), x3'], T, setG M (300, w', a')) r) → Rn S 158 95 ([], [some (vR 76), some (vI (t : Int)), some (vI ((j : Int) - 1)), x3], T, setG M (300, w, a)) r := by
    intro t ht3 j
    induction j with
    | zero =>
      intro w0 w a x3 r hj hw ha hF hA K
      refine Rn.ilt rfl (X_ild rfl <| X_nil) (by first | omega | (simp (disch := omega) only [um_eq, um_na, um_ni, Int.toNat_natCast]; omega)) (fun hc => ?_) (fun hc => ?_)
      · exact K w a _ hw ha hF hA
      · exact absurd hc (by omega)
    | succ j ih =>
      intro w0 w a x3 r hj hw ha hF hA K
      obtain ⟨r1, r2, r3⟩ := rd j (by omega)
      have ej : ((j + 1 : Nat) : Int) - 1 = (j : Int) := by omega
      rw [ej]
      have e82 : ∀ x, setG M x 82 (j : Int) = M 82 (j : Int) := fun x => by rw [g82]
      have e63 : ∀ x, setG M x 77 (63 + (j : Int)) = M 77 (63 + (j : Int)) := fun x => by rw [g77]
      have eu : uP (V M) 0 (t : Int) j ↔ (M 82 (j : Int) = (t : Int) ∧ M 77 (63 + (j : Int)) ≤ (t : Int)) := by
        show (¬ V M (0 + 16 + 2 * j) 5 = -1 ∧ V M (0 + 16 + 2 * j) 1 ≤ V M (0 + 16 + 2 * j) 5) ∧ V M (0 + 16 + 2 * j) 5 = (t : Int) ↔ _
        rw [V_5, V_1]
        omega
      have no : ¬ uP (V M) 0 (t : Int) j → Rn S 158 126 ([], [some (vR 76), some (vI (t : Int)), some (vI (j : Int)), x3], T, setG M (300, w, a)) r := by
        intro hnu
        refine Rn.fal rfl (X_i <| X_nil) ?_
        refine Rn.ieq rfl (X_ist rfl (L' := [_, _, _, _]) rfl <| X_ald rfl <| X_ild rfl <| X_nil) (by first | omega | (simp (disch := omega) only [um_eq, um_na, um_ni, Int.toNat_natCast]; omega)) (fun hc => ?_) (fun hc => ?_)
        · refine Rn.fal rfl (X_ald rfl <| X_gi 8 20 20 hM.ob ⟨rfl, rfl, rfl⟩ (Or.inl rfl) <| X_nil) ?_
          rw [setG_20]
          refine Rn.ieq rfl (X_pi 8 20 20 hM.ob ⟨rfl, rfl, rfl⟩ (Or.inl rfl) <| X_ald rfl <| X_ild rfl <| X_nil) (by first | omega | (simp (disch := omega) only [um_eq, um_na, um_ni, Int.toNat_natCast]; omega)) (fun hc => ?_) (fun hc => ?_)
          · rw [setG_w20]
            refine Rn.fal rfl (X_ald rfl <| X_gi 8 21 21 hM.ob ⟨rfl, rfl, rfl⟩ (Or.inl rfl) <| X_nil) ?_
            rw [setG_21]
            refine Rn.jto rfl (X_pi 8 21 21 hM.ob ⟨rfl, rfl, rfl⟩ (Or.inl rfl) <| X_inc rfl (L' := [_, _, _, _]) rfl <| X_nil) ?_
            rw [setG_w21]
            refine ih w0 w a _ r (by omega) hw ha (Fst_no hF hnu) ?_ K
            rw [hA]
            constructor
            · rintro ⟨s, s1, s2, s3⟩
              exact ⟨s, by omega, s2, s3⟩
            · rintro ⟨s, s1, s2, s3⟩
              refine ⟨s, ?_, s2, s3⟩
              by_cases e : s = j
              · subst e; exact absurd s3 hnu
              · omega
          · exact absurd rfl hc
        · exact absurd rfl hc
      refine Rn.ilt rfl (X_ild rfl <| X_nil) (by first | omega | (simp (disch := omega) only [um_eq, um_na, um_ni, Int.toNat_natCast]; omega)) (fun hc => ?_) (fun hc => ?_)
      · exact absurd hc (by omega)
      · clear hc
        refine Rn.cne rfl (X_ald rfl <| X_gr 8 14 hM.ob ⟨rfl, rfl⟩ rfl rfl <| X_ild rfl <| X_ia hM.up (by first | omega | (simp (disch := omega) only [um_eq, um_na, um_ni, Int.toNat_natCast]; omega)) (by first | omega | (simp (disch := omega) only [um_eq, um_na, um_ni, Int.toNat_natCast]; omega)) rfl <| X_ild rfl <| X_nil) (by rw [e82]; omega) (by first | omega | (simp (disch := omega) only [um_eq, um_na, um_ni, Int.toNat_natCast]; omega)) (fun hc => ?_) (fun hc => ?_)
        · rw [e82] at hc
          exact no (by rw [eu]; omega)
        · rw [e82] at hc
          have hc0 := hc
          refine Rn.cgt rfl (X_ald rfl <| X_gr 8 0 hM.ob ⟨rfl, rfl⟩ rfl rfl <| X_i <| X_ild rfl <| X_add <| X_ia hM.w (by first | omega | (simp (disch := omega) only [um_eq, um_na, um_ni, Int.toNat_natCast]; omega)) (by first | omega | (simp (disch := omega) only [um_eq, um_na, um_ni, Int.toNat_natCast]; omega)) rfl <| X_ild rfl <| X_nil) (by rw [e63]; omega) (by first | omega | (simp (disch := omega) only [um_eq, um_na, um_ni, Int.toNat_natCast]; omega)) (fun hc => ?_) (fun hc => ?_)
          · rw [e63] at hc
            exact no (by rw [eu]; omega)
          · rw [e63] at hc
            have hup : uP (V M) 0 (t : Int) j := eu.mpr ⟨hc0, hc⟩
            refine Rn.jto rfl (X_i <| X_nil) ?_
            refine Rn.ieq rfl (X_ist rfl (L' := [_, _, _, _]) rfl <| X_ald rfl <| X_ild rfl <| X_nil) (by first | omega | (simp (disch := omega) only [um_eq, um_na, um_ni, Int.toNat_natCast]; omega)) (fun hc => ?_) (fun hc => ?_)
            · exact absurd hc (by omega)
            · refine Rn.jto rfl (X_ild rfl <| X_nil) ?_
              refine Rn.ieq rfl (X_pi 8 20 20 hM.ob ⟨rfl, rfl, rfl⟩ (Or.inl rfl) <| X_ald rfl <| X_ild rfl <| X_nil) (by first | omega | (simp (disch := omega) only [um_eq, um_na, um_ni, Int.toNat_natCast]; omega)) (fun hc => ?_) (fun hc => ?_)
              · exact absurd hc (by omega)
              · rw [setG_w20]
                refine Rn.jto rfl (X_i <| X_nil) ?_
                refine Rn.jto rfl (X_pi 8 21 21 hM.ob ⟨rfl, rfl, rfl⟩ (Or.inl rfl) <| X_inc rfl (L' := [_, _, _, _]) rfl <| X_nil) ?_
                rw [setG_w21]
                refine ih w0 (j : Int) 1 _ r (by omega) (by omega) (Or.inr rfl) (Fst_y hF (by omega) hup) ?_ K
                exact ⟨fun _ => ⟨j, Nat.le_refl _, by omega, hup⟩, fun _ => rfl⟩
  -- the minutes
  have fin : ∀ L x, Rn S 158 191 ([], L, T, setG M x) (none, (T, setG M x)) := fun L x => Rn.rv rfl X_nil rfl
  have mins : ∀ (k t : Nat) (x2 x3 : Option AV), t + k = 300 → (t : Int) ≤ p.1 → Rn S 158 19 ([], [some (vR 76), some (vI (t : Int)), x2, x3], T, setG M (300, -1, 0)) (none, (T, setG M p)) := by
    intro k
    induction k with
    | zero =>
      intro t x2 x3 hk htp
      have hp3 : p = (300, -1, 0) := by
        rcases f3 with h | ⟨h, -⟩
        · exact h
        · omega
      refine Rn.cge rfl (X_ild rfl <| X_i <| X_nil) (by first | omega | (simp (disch := omega) only [um_eq, um_na, um_ni, Int.toNat_natCast]; omega)) (by first | omega | (simp (disch := omega) only [um_eq, um_na, um_ni, Int.toNat_natCast]; omega)) (fun hc => ?_) (fun hc => ?_)
      · rw [hp3]
        exact fin _ _
      · exact absurd hc (by omega)
    | succ k ih =>
      intro t x2 x3 hk htp
      have e20 : setG M (300, -1, 0) 76 20 = -1 := setG_20
      refine Rn.cge rfl (X_ild rfl <| X_i <| X_nil) (by first | omega | (simp (disch := omega) only [um_eq, um_na, um_ni, Int.toNat_natCast]; omega)) (by first | omega | (simp (disch := omega) only [um_eq, um_na, um_ni, Int.toNat_natCast]; omega)) (fun hc => ?_) (fun hc => ?_)
      · exact absurd hc (by omega)
      · clear hc
        refine Rn.cne rfl (X_ald rfl <| X_gi 8 20 20 hM.ob ⟨rfl, rfl, rfl⟩ (Or.inl rfl) <| X_i <| X_nil) (by rw [e20]; omega) (by first | omega | (simp (disch := omega) only [um_eq, um_na, um_ni, Int.toNat_natCast]; omega)) (fun hc => ?_) (fun hc => ?_)
        · rw [e20] at hc
          exact absurd rfl hc
        · clear hc
          refine Rn.fal rfl (X_ald rfl <| X_gr 8 0 hM.ob ⟨rfl, rfl⟩ rfl rfl <| X_i <| X_ia hM.w (by omega) (by omega) rfl <| X_i <| X_sub <| X_ist rfl (L' := [_, _, _, _]) rfl <| X_nil) ?_
          rw [h6]
          refine loop1 t (by omega) n (-1) x3 _ (Nat.le_refl _) (by omega) Fst_n ?_
          intro w1 hw1 hF1
          refine Rn.fal rfl (X_ald rfl <| X_gr 8 0 hM.ob ⟨rfl, rfl⟩ rfl rfl <| X_i <| X_ia hM.w (by omega) (by omega) rfl <| X_i <| X_sub <| X_ist rfl (L' := [_, _, _, _]) rfl <| X_nil) ?_
          rw [h6]
          refine loop2 t (by omega) n w1 w1 0 x3 _ (Nat.le_refl _) hw1 (Or.inl rfl) Fst_n ⟨fun h => (by cases h), fun ⟨s, s1, s2, _⟩ => (by omega)⟩ ?_
          intro w2 a2 x3' hw2 ha2 hF2 hA2
          have e20' : setG M (300, w2, a2) 76 20 = w2 := setG_20
          by_cases hlt : (t : Int) < p.1
          · -- nobody acts yet
            have n1 : ∀ s, s < n → ¬ wV (V M) 0 l s ≤ (t : Int) := fun s hs h => by have := f1 s hs; omega
            have n2 : ∀ s, s < n → ¬ uP (V M) 0 (t : Int) s := fun s hs h => by have := f2 s hs h.1; have := h.2; omega
            have ew1 : w1 = -1 := by
              rcases hF1 with ⟨s, -, s2, s3, -⟩ | ⟨-, h⟩
              · exact absurd s3 (n1 s s2)
              · exact h
            have ew2 : w2 = -1 := by
              rcases hF2 with ⟨s, -, s2, s3, -⟩ | ⟨-, h⟩
              · exact absurd s3 (n2 s s2)
              · rw [h, ew1]
            have ea2 : a2 = 0 := by
              rcases ha2 with h | h
              · exact h
              · obtain ⟨s, -, s2, s3⟩ := hA2.mp h
                exact absurd s3 (n2 s s2)
            subst ew2 ea2
            refine Rn.cne rfl (X_ald rfl <| X_ald rfl <| X_gi 8 20 20 hM.ob ⟨rfl, rfl, rfl⟩ (Or.inl rfl) <| X_i <| X_nil) (by rw [e20']; omega) (by first | omega | (simp (disch := omega) only [um_eq, um_na, um_ni, Int.toNat_natCast]; omega)) (fun hc => ?_) (fun hc => ?_)
            · rw [e20'] at hc
              exact absurd rfl hc
            · refine Rn.jto rfl (X_i <| X_nil) ?_
              refine Rn.jto rfl (X_pi 8 19 19 hM.ob ⟨rfl, rfl, rfl⟩ (Or.inl rfl) <| X_inc rfl (L' := [_, _, _, _]) rfl <| X_nil) ?_
              rw [setG_w19]
              exact ih (t + 1) _ _ (by omega) (by omega)
          · -- this is the minute
            have ht' : p.1 = (t : Int) := by omega
            have hres : w2 = p.2.1 ∧ a2 = p.2.2 ∧ ¬ w2 = -1 := by
              rcases f3 with h | ⟨-, h⟩
              · have : p.1 = 300 := by rw [h]
                omega
              · rcases h with ⟨q1, q2, s, q3, q4⟩ | ⟨q1, q2, q3, s, q4, q5⟩
                · rw [ht'] at q2 q4
                  have ha : a2 = 1 := hA2.mpr ⟨s, by omega, q3, q4⟩
                  rcases hF2 with ⟨s2, z1, z2, z3, z4, z5⟩ | ⟨z1, -⟩
                  · rcases q2 with ⟨s3, y1, y2, y3, y4, y5⟩ | ⟨y1, -⟩
                    · have : s2 = s3 := by
                        rcases Nat.lt_trichotomy s2 s3 with g | g | g
                        · exact absurd z3 (y4 s2 (by omega) g)
                        · exact g
                        · exact absurd y3 (z4 s3 (by omega) g)
                      subst this
                      exact ⟨by rw [z5, y5], by rw [ha, q1], by omega⟩
                    · exact absurd z3 (y1 s2 (by omega) z2)
                  · exact absurd q4 (z1 s (by omega) q3)
                · rw [ht'] at q2 q3 q5
                  have ha : a2 = 0 := by
                    rcases ha2 with g | g
                    · exact g
                    · obtain ⟨s', -, z2, z3⟩ := hA2.mp g
                      exact absurd z3 (q2 s' z2)
                  have ew : w2 = w1 := by
                    rcases hF2 with ⟨s2, z1, z2, z3, -⟩ | ⟨-, z⟩
                    · exact absurd z3 (q2 s2 z2)
                    · exact z
                  have same : ∀ x, x < n → (wV (V M) 0 l x ≤ (t : Int) ↔ wV (V M) 0 l x = (t : Int)) := fun x hx => by
                    have := f1 x hx
                    omega
                  rcases hF1 with ⟨s2, z1, z2, z3, z4, z5⟩ | ⟨z1, -⟩
                  · rcases q3 with ⟨s3, y1, y2, y3, y4, y5⟩ | ⟨y1, -⟩
                    · have : s2 = s3 := by
                        rcases Nat.lt_trichotomy s2 s3 with g | g | g
                        · exact absurd ((same s2 z2).mp z3) (y4 s2 (by omega) g)
                        · exact g
                        · exact absurd ((same s3 y2).mpr y3) (z4 s3 (by omega) g)
                      subst this
                      exact ⟨by rw [ew, z5, y5], by rw [ha, q1], by omega⟩
                    · exact absurd ((same s2 z2).mp z3) (y1 s2 (by omega) z2)
                  · exact absurd ((same s q4).mpr q5) (z1 s (by omega) q4)
            obtain ⟨hr1, hr2, hr3⟩ := hres
            refine Rn.cne rfl (X_ald rfl <| X_ald rfl <| X_gi 8 20 20 hM.ob ⟨rfl, rfl, rfl⟩ (Or.inl rfl) <| X_i <| X_nil) (by rw [e20']; omega) (by first | omega | (simp (disch := omega) only [um_eq, um_na, um_ni, Int.toNat_natCast]; omega)) (fun hc => ?_) (fun hc => ?_)
            · refine Rn.fal rfl (X_ild rfl <| X_nil) ?_
              refine Rn.jto rfl (X_pi 8 19 19 hM.ob ⟨rfl, rfl, rfl⟩ (Or.inl rfl) <| X_inc rfl (L' := [_, _, _, _]) rfl <| X_nil) ?_
              rw [setG_w19]
              have ep : ((t : Int), w2, a2) = p := by rw [hr1, hr2, ← ht']
              have e20'' : setG M ((t : Int), w2, a2) 76 20 = w2 := setG_20
              by_cases h299 : t + 1 = 300
              · refine Rn.cge rfl (X_ild rfl <| X_i <| X_nil) (by first | omega | (simp (disch := omega) only [um_eq, um_na, um_ni, Int.toNat_natCast]; omega)) (by first | omega | (simp (disch := omega) only [um_eq, um_na, um_ni, Int.toNat_natCast]; omega)) (fun hc => ?_) (fun hc => ?_)
                · rw [ep]
                  exact fin _ _
                · exact absurd hc (by omega)
              · refine Rn.cge rfl (X_ild rfl <| X_i <| X_nil) (by first | omega | (simp (disch := omega) only [um_eq, um_na, um_ni, Int.toNat_natCast]; omega)) (by first | omega | (simp (disch := omega) only [um_eq, um_na, um_ni, Int.toNat_natCast]; omega)) (fun hc => ?_) (fun hc => ?_)
                · exact absurd hc (by omega)
                · refine Rn.cne rfl (X_ald rfl <| X_gi 8 20 20 hM.ob ⟨rfl, rfl, rfl⟩ (Or.inl rfl) <| X_i <| X_nil) (by rw [e20'']; omega) (by first | omega | (simp (disch := omega) only [um_eq, um_na, um_ni, Int.toNat_natCast]; omega)) (fun hc => ?_) (fun hc => ?_)
                  · rw [ep]
                    exact fin _ _
                  · rw [e20''] at hc
                    exact absurd hc hr3
            · rw [e20'] at hc
              exact absurd hc hr3
  refine ⟨_, rfl, ?_⟩
  refine Rn.fal rfl (X_ald rfl <| X_i <| X_pi 8 19 19 hM.ob ⟨rfl, rfl, rfl⟩ (Or.inl rfl) <| X_ald rfl <| X_i <| X_pi 8 20 20 hM.ob ⟨rfl, rfl, rfl⟩ (Or.inl rfl) <| X_ald rfl <| X_i <| X_pi 8 21 21 hM.ob ⟨rfl, rfl, rfl⟩ (Or.inl rfl) <| X_i <| X_ist rfl (L' := [_, _, _, _]) rfl <| X_nil) ?_
  exact mins 300 0 _ _ (by omega) (by omega)
end Go
end
section
/-! THE MODEL'S COSTS, AND WHO PAYS -/
section Mcost
variable {S : List Int} {T : List Sh} {M : Nat → Int → Int} {h : Hp}
/-- what the night costs one, by the model's numbers -/
def mCost (M : Nat → Int → Int) (s : Nat) : Int := if M 76 20 = (s : Int) ∧ M 76 18 = 0 then lightC (V M) (0 + 16 + 2 * s) (M 76 19) + ((if M 76 21 = 0 then M 77 (71 + (s : Int)) else 0) + 2 * M 76 17) else lightC (V M) (0 + 16 + 2 * s) (M 76 19)
theorem c_costOf {s : Nat} (hM : isM T) (hs : s < 4) (hr : 0 ≤ M 77 (63 + (s : Int)) ∧ M 77 (63 + (s : Int)) ≤ 120) (hm : 0 ≤ M 76 19 ∧ M 76 19 ≤ 300) (hw : -1 ≤ M 76 20 ∧ M 76 20 ≤ 4) (hc0 : 0 ≤ M 76 18 ∧ M 76 18 ≤ 1) (ha : M 76 21 = 0 ∨ M 76 21 = 1) : Cl S 159 [vR 76, vI (s : Int)] (T, M) (some (vI (mCost M s)), (T, M)) := by
  have el : M 77 (67 + (s : Int)) * (if 0 ≤ M 76 19 - M 77 (63 + (s : Int)) then M 76 19 - M 77 (63 + (s : Int)) else 0) + 3 * (if 0 ≤ M 77 (63 + (s : Int)) - M 76 19 then M 77 (63 + (s : Int)) - M 76 19 else 0) = lightC (V M) (0 + 16 + 2 * s) (M 76 19) := by
    unfold lightC
    rw [V_1, V_2]
    generalize M 76 19 = t
    generalize M 77 (63 + (s : Int)) = R
    generalize M 77 (67 + (s : Int)) = H
    by_cases h1 : t - R ≤ 0
    · rw [if_pos (c := t - R ≤ 0) h1, if_pos (c := 0 ≤ R - t) (by omega)]
      by_cases h2 : 0 ≤ t - R
      · rw [if_pos (c := 0 ≤ t - R) h2]
        have : t - R = 0 := by omega
        rw [this]
        omega
      · rw [if_neg (c := 0 ≤ t - R) h2]
        omega
    · rw [if_neg (c := t - R ≤ 0) h1, if_pos (c := 0 ≤ t - R) (by omega), if_neg (c := 0 ≤ R - t) (by omega)]
      omega
  have tail : ∀ (x2 x3 : Option AV) (z : Int), Rn S 159 108 ([vI z, vI (lightC (V M) (0 + 16 + 2 * s) (M 76 19))], [some (vR 76), some (vI (s : Int)), x2, x3], T, M) (some (vI (lightC (V M) (0 + 16 + 2 * s) (M 76 19) + z)), (T, M)) := by
    intro x2 x3 z
    refine Rn.ri rfl (X_add <| X_nil) rfl
  refine ⟨_, rfl, ?_⟩
  unfold mCost
  refine Rn.cal rfl (X_ald rfl <| X_gr 8 0 hM.ob ⟨rfl, rfl⟩ rfl rfl <| X_i <| X_ild rfl <| X_add <| X_ia hM.w (by first | omega | (simp (disch := omega) only [um_eq, um_na, um_ni, Int.toNat_natCast]; omega)) (by first | omega | (simp (disch := omega) only [um_eq, um_na, um_ni, Int.toNat_natCast]; omega)) rfl <| X_i <| X_ald rfl <| X_gi 8 19 19 hM.ob ⟨rfl, rfl, rfl⟩ (Or.inl rfl) <| X_ald rfl <| X_gr 8 0 hM.ob ⟨rfl, rfl⟩ rfl rfl <| X_i <| X_ild rfl <| X_add <| X_ia hM.w (by first | omega | (simp (disch := omega) only [um_eq, um_na, um_ni, Int.toNat_natCast]; omega)) (by first | omega | (simp (disch := omega) only [um_eq, um_na, um_ni, Int.toNat_natCast]; omega)) rfl <| X_sub <| X_nil) (vs := [_, _]) (rest := [_]) rfl rfl rfl rfl (c_more (by omega) (by omega)) ?_
  refine Rn.cal rfl (X_mul <| X_i <| X_i <| X_ald rfl <| X_gr 8 0 hM.ob ⟨rfl, rfl⟩ rfl rfl <| X_i <| X_ild rfl <| X_add <| X_ia hM.w (by first | omega | (simp (disch := omega) only [um_eq, um_na, um_ni, Int.toNat_natCast]; omega)) (by first | omega | (simp (disch := omega) only [um_eq, um_na, um_ni, Int.toNat_natCast]; omega)) rfl <| X_ald rfl <| X_gi 8 19 19 hM.ob ⟨rfl, rfl, rfl⟩ (Or.inl rfl) <| X_sub <| X_nil) (vs := [_, _]) (rest := [_, _]) rfl rfl rfl rfl (c_more (by omega) (by omega)) ?_
  refine Rn.cne rfl (X_mul <| X_add <| X_ist rfl (L' := [_, _, _, _]) rfl <| X_ild rfl <| X_ald rfl <| X_gi 8 20 20 hM.ob ⟨rfl, rfl, rfl⟩ (Or.inl rfl) <| X_nil) (by first | omega | (simp (disch := omega) only [um_eq, um_na, um_ni, Int.toNat_natCast]; omega)) (by first | omega | (simp (disch := omega) only [um_eq, um_na, um_ni, Int.toNat_natCast]; omega)) (fun hc => ?_) (fun hc => ?_)
  · rw [el, if_neg (c := M 76 20 = (s : Int) ∧ M 76 18 = 0) (fun z => hc z.1.symm)]
    refine Rn.fal rfl (X_i <| X_nil) ?_
    refine Rn.ieq rfl (X_ist rfl (L' := [_, _, _, _]) rfl <| X_ild rfl <| X_ild rfl <| X_nil) (by first | omega | (simp (disch := omega) only [um_eq, um_na, um_ni, Int.toNat_natCast]; omega)) (fun hc => ?_) (fun hc => ?_)
    · refine Rn.fal rfl (X_i <| X_nil) ?_
      have t0 := tail (some (vI (lightC (V M) (0 + 16 + 2 * s) (M 76 19)))) (some (vI 0)) 0
      rw [Int.add_zero] at t0
      exact t0
    · exact absurd rfl hc
  · have hc1 := hc
    rw [el]
    refine Rn.ine rfl (X_ald rfl <| X_gi 8 18 18 hM.ob ⟨rfl, rfl, rfl⟩ (Or.inl rfl) <| X_nil) (by first | omega | (simp (disch := omega) only [um_eq, um_na, um_ni, Int.toNat_natCast]; omega)) (fun hc => ?_) (fun hc => ?_)
    · rw [if_neg (c := M 76 20 = (s : Int) ∧ M 76 18 = 0) (fun z => hc z.2)]
      refine Rn.fal rfl (X_i <| X_nil) ?_
      refine Rn.ieq rfl (X_ist rfl (L' := [_, _, _, _]) rfl <| X_ild rfl <| X_ild rfl <| X_nil) (by first | omega | (simp (disch := omega) only [um_eq, um_na, um_ni, Int.toNat_natCast]; omega)) (fun hc => ?_) (fun hc => ?_)
      · refine Rn.fal rfl (X_i <| X_nil) ?_
        have t0 := tail (some (vI (lightC (V M) (0 + 16 + 2 * s) (M 76 19)))) (some (vI 0)) 0
        rw [Int.add_zero] at t0
        exact t0
      · exact absurd rfl hc
    · rw [if_pos (c := M 76 20 = (s : Int) ∧ M 76 18 = 0) ⟨hc1.symm, hc⟩]
      refine Rn.jto rfl (X_i <| X_nil) ?_
      refine Rn.ieq rfl (X_ist rfl (L' := [_, _, _, _]) rfl <| X_ild rfl <| X_ild rfl <| X_nil) (by first | omega | (simp (disch := omega) only [um_eq, um_na, um_ni, Int.toNat_natCast]; omega)) (fun hc => ?_) (fun hc => ?_)
      · exact absurd hc (by omega)
      · refine Rn.cne rfl (X_ald rfl <| X_gi 8 21 21 hM.ob ⟨rfl, rfl, rfl⟩ (Or.inl rfl) <| X_i <| X_nil) (by first | omega | (simp (disch := omega) only [um_eq, um_na, um_ni, Int.toNat_natCast]; omega)) (by first | omega | (simp (disch := omega) only [um_eq, um_na, um_ni, Int.toNat_natCast]; omega)) (fun hc => ?_) (fun hc => ?_)
        · rw [if_pos (by omega)]
          refine Rn.fal rfl (X_ald rfl <| X_gr 8 0 hM.ob ⟨rfl, rfl⟩ rfl rfl <| X_i <| X_ild rfl <| X_add <| X_ia hM.w (by first | omega | (simp (disch := omega) only [um_eq, um_na, um_ni, Int.toNat_natCast]; omega)) (by first | omega | (simp (disch := omega) only [um_eq, um_na, um_ni, Int.toNat_natCast]; omega)) rfl <| X_nil) ?_
          refine Rn.jto rfl (X_i <| X_ald rfl <| X_gi 8 17 17 hM.ob ⟨rfl, rfl, rfl⟩ (Or.inl rfl) <| X_mul <| X_add <| X_nil) ?_
          exact tail _ _ _
        · rw [if_neg (by omega)]
          refine Rn.jto rfl (X_i <| X_nil) ?_
          refine Rn.jto rfl (X_i <| X_ald rfl <| X_gi 8 17 17 hM.ob ⟨rfl, rfl, rfl⟩ (Or.inl rfl) <| X_mul <| X_add <| X_nil) ?_
          exact tail _ _ _
theorem mCost_cg {N : Nat → Int → Int} {s : Nat} (h76 : N 76 = M 76) (h77 : N 77 = M 77) : mCost N s = mCost M s := by
  unfold mCost lightC
  rw [V_1, V_2, V_1, V_2, h76, h77]
/-- what the model's night must be in range -/
def GnOk (M : Nat → Int → Int) : Prop := (0 ≤ M 76 19 ∧ M 76 19 ≤ 300) ∧ (-1 ≤ M 76 20 ∧ M 76 20 < M 77 6) ∧ (0 ≤ M 76 18 ∧ M 76 18 ≤ 1) ∧ (M 76 21 = 0 ∨ M 76 21 = 1)
theorem c_pays (hM : isM T) (h6 : 0 ≤ M 77 6 ∧ M 77 6 ≤ 4) (hr : ∀ s : Nat, (s : Int) < M 77 6 → 0 ≤ M 77 (63 + (s : Int)) ∧ M 77 (63 + (s : Int)) ≤ 120) (hg : GnOk M) : ∃ M', Cl S 160 [vR 76] (T, M) (none, (T, M')) ∧ (∀ s : Nat, (s : Int) < M 77 6 → M' 84 (s : Int) = M 84 (s : Int) + mCost M s ∧ M' 83 (s : Int) = M 83 (s : Int) + (if M 76 20 = (s : Int) then 1 else 0)) ∧ (∀ k, M 77 6 ≤ k → M' 84 k = M 84 k ∧ M' 83 k = M 83 k) ∧ (∀ a, a ≠ 84 → a ≠ 83 → M' a = M a) := by
  obtain ⟨g1, g2, g3, g4⟩ := id hg
  have loop : ∀ (k i : Nat) (N : Nat → Int → Int), i + k = (M 77 6).toNat → (∀ a, a ≠ 84 → N a = M a) → ∃ N', (∀ r, Rn S 160 33 ([], [some (vR 76), some (vI (M 77 6))], T, N') r → Rn S 160 2 ([], [some (vR 76), some (vI (i : Int))], T, N) r) ∧ (∀ a, a ≠ 84 → N' a = M a) ∧ (∀ s : Nat, i ≤ s → (s : Int) < M 77 6 → N' 84 (s : Int) = N 84 (s : Int) + mCost M s) ∧ (∀ k : Int, k < i ∨ M 77 6 ≤ k → N' 84 k = N 84 k) := by
    intro k
    induction k with
    | zero =>
      intro i N hi hN
      have e77 : N 77 = M 77 := hN _ (by decide)
      have ei : M 77 6 = (i : Int) := by omega
      refine ⟨N, fun r hr => ?_, hN, fun s s1 s2 => by omega, fun k _ => rfl⟩
      rw [ei] at hr
      refine Rn.cge rfl (X_ild rfl <| X_ald rfl <| X_gr 8 0 hM.ob ⟨rfl, rfl⟩ rfl rfl <| X_i <| X_ia hM.w (by first | omega | (simp (disch := omega) only [um_eq, um_na, um_ni, Int.toNat_natCast]; omega)) (by first | omega | (simp (disch := omega) only [um_eq, um_na, um_ni, Int.toNat_natCast]; omega)) rfl <| X_nil) (by first | omega | (simp (disch := omega) only [um_eq, um_na, um_ni, Int.toNat_natCast]; omega)) (by rw [e77]; omega) (fun hc => ?_) (fun hc => ?_)
      · exact hr
      · rw [e77] at hc
        exact absurd hc (by omega)
    | succ k ih =>
      intro i N hi hN
      have e77 : N 77 = M 77 := hN _ (by decide)
      have e76 : N 76 = M 76 := hN _ (by decide)
      have cc := c_costOf (S := S) (M := N) (s := i) hM (by omega) (by rw [e77]; exact hr i (by omega)) (by rw [e76]; exact g1) (by rw [e76]; omega) (by rw [e76]; exact g3) (by rw [e76]; exact g4)
      rw [mCost_cg e76 e77] at cc
      obtain ⟨N', r1, r2, r3, r4⟩ := ih (i + 1) (um N 84 (i : Int) (N 84 (i : Int) + mCost M i)) (by omega) (fun a ha => by rw [um_fn ha]; exact hN a ha)
      refine ⟨N', fun r hr => ?_, r2, fun s s1 s2 => ?_, fun k hk => ?_⟩
      · refine Rn.cge rfl (X_ild rfl <| X_ald rfl <| X_gr 8 0 hM.ob ⟨rfl, rfl⟩ rfl rfl <| X_i <| X_ia hM.w (by first | omega | (simp (disch := omega) only [um_eq, um_na, um_ni, Int.toNat_natCast]; omega)) (by first | omega | (simp (disch := omega) only [um_eq, um_na, um_ni, Int.toNat_natCast]; omega)) rfl <| X_nil) (by first | omega | (simp (disch := omega) only [um_eq, um_na, um_ni, Int.toNat_natCast]; omega)) (by rw [e77]; omega) (fun hc => ?_) (fun hc => ?_)
        · rw [e77] at hc
          exact absurd hc (by omega)
        · refine Rn.cal rfl (X_ald rfl <| X_gr 8 16 hM.ob ⟨rfl, rfl⟩ rfl rfl <| X_ild rfl <| X_du2 <| X_ia hM.pa (by first | omega | (simp (disch := omega) only [um_eq, um_na, um_ni, Int.toNat_natCast]; omega)) (by first | omega | (simp (disch := omega) only [um_eq, um_na, um_ni, Int.toNat_natCast]; omega)) rfl <| X_ald rfl <| X_ild rfl <| X_nil) (vs := [_, _]) (rest := [_, _, _]) rfl rfl rfl (rcv_v hM.ob (by decide)) (cc) ?_
          refine Rn.jto rfl (X_add <| X_is hM.pa (by first | omega | (simp (disch := omega) only [um_eq, um_na, um_ni, Int.toNat_natCast]; omega)) (by first | omega | (simp (disch := omega) only [um_eq, um_na, um_ni, Int.toNat_natCast]; omega)) rfl <| X_inc rfl (L' := [_, _]) rfl <| X_nil) ?_
          exact r1 r hr
      · by_cases e : s = i
        · subst e
          rw [r4 _ (by omega), um_eq]
        · rw [r3 s (by omega) s2, um_ni (by omega)]
      · rw [r4 k (by omega), um_ni (by omega)]
  obtain ⟨N, r1, r2, r3, r4⟩ := loop (M 77 6).toNat 0 M (by omega) (fun _ _ => rfl)
  have n76 : N 76 = M 76 := r2 _ (by decide)
  have n83 : N 83 = M 83 := r2 _ (by decide)
  have e20 : N 76 20 = M 76 20 := by rw [n76]
  by_cases hwho : M 76 20 = -1
  · refine ⟨N, ⟨_, rfl, ?_⟩, fun s hs => ⟨r3 s (by omega) hs, ?_⟩, fun k hk => ⟨r4 k (Or.inr hk), by rw [n83]⟩, fun a a1 _ => r2 a a1⟩
    · refine Rn.fal rfl (X_i <| X_ist rfl (L' := [_, _]) rfl <| X_nil) ?_
      refine r1 _ ?_
      refine Rn.ceq rfl (X_ald rfl <| X_gi 8 20 20 hM.ob ⟨rfl, rfl, rfl⟩ (Or.inl rfl) <| X_i <| X_nil) (by rw [e20]; omega) (by first | omega | (simp (disch := omega) only [um_eq, um_na, um_ni, Int.toNat_natCast]; omega)) (fun hc => ?_) (fun hc => ?_)
      · refine Rn.rv rfl (X_nil) rfl
      · rw [e20] at hc
        exact absurd hwho hc
    · rw [n83, if_neg (by omega)]
      omega
  · have hm83 : (M 76 20) < 4 := by omega
    refine ⟨um N 83 (M 76 20) (M 83 (M 76 20) + 1), ⟨_, rfl, ?_⟩, fun s hs => ⟨?_, ?_⟩, fun k hk => ⟨?_, ?_⟩, fun a a1 a2 => by rw [um_fn a2]; exact r2 a a1⟩
    · refine Rn.fal rfl (X_i <| X_ist rfl (L' := [_, _]) rfl <| X_nil) ?_
      refine r1 _ ?_
      refine Rn.ceq rfl (X_ald rfl <| X_gi 8 20 20 hM.ob ⟨rfl, rfl, rfl⟩ (Or.inl rfl) <| X_i <| X_nil) (by rw [e20]; omega) (by first | omega | (simp (disch := omega) only [um_eq, um_na, um_ni, Int.toNat_natCast]; omega)) (fun hc => ?_) (fun hc => ?_)
      · rw [e20] at hc
        exact absurd hc hwho
      · refine Rn.fal rfl (X_ald rfl <| X_gr 8 15 hM.ob ⟨rfl, rfl⟩ rfl rfl <| X_ald rfl <| X_gi 8 20 20 hM.ob ⟨rfl, rfl, rfl⟩ (Or.inl rfl) <| X_du2 <| X_ia hM.co (by rw [e20]; omega) (by rw [e20]; omega) rfl <| X_i <| X_add <| X_is hM.co (by rw [e20]; omega) (by rw [e20]; omega) rfl <| X_nil) ?_
        rw [e20, n83]
        refine Rn.rv rfl (X_nil) rfl
    · rw [um_na (by decide)]
      exact r3 s (by omega) hs
    · by_cases e : M 76 20 = (s : Int)
      · rw [if_pos e, e, um_eq]
      · rw [if_neg e, um_ni (fun z => e z.symm), n83]
        omega
    · rw [um_na (by decide)]
      exact r4 k (Or.inr hk)
    · rw [um_ni (by omega), n83]
end Mcost
end
section
/-! THE MODEL'S WAYS -/
section Mway
variable {S : List Int} {T : List Sh} {M : Nat → Int → Int} {h : Hp}
/-- what a step to a cell costs, by the model's numbers -/
def qM (M : Nat → Int → Int) (w a : Nat) : Int := 2 + (if o_and (o_shr (M 77 4) ((a % w : Nat) : Int)) 1 = 1 then 0 else M 77 (10 + (a : Int)))
theorem qM_in {w a : Nat} (ht : ∀ c : Int, 0 ≤ c → c < 49 → 0 ≤ M 77 (10 + c) ∧ M 77 (10 + c) ≤ 9) (ha : a < 49) : 2 ≤ qM M w a ∧ qM M w a ≤ 11 := by
  have := ht a (by omega) (by omega)
  unfold qM
  split <;> omega
theorem c_stepTo {w a : Nat} (hM : isM T) (e0 : M 77 0 = (w : Int)) (hw : 1 ≤ w ∧ w ≤ 7) (ht : ∀ c : Int, 0 ≤ c → c < 49 → 0 ≤ M 77 (10 + c) ∧ M 77 (10 + c) ≤ 9) (ha : a < 49) : Cl S 151 [vR 76, vI (a : Int)] (T, M) (some (vI (qM M w a)), (T, M)) := by
  have em : (a : Int) % M 77 0 = ((a % w : Nat) : Int) := by rw [e0]; exact_mod_cast rfl
  have c := c_mhas (S := S) (h := (T, M)) (s := M 77 4) (k := ((a % w : Nat) : Int))
  rw [← em] at c
  refine ⟨_, rfl, ?_⟩
  unfold qM
  rw [← em]
  refine Rn.cal rfl (X_i <| X_ald rfl <| X_gr 8 0 hM.ob ⟨rfl, rfl⟩ rfl rfl <| X_i <| X_ia hM.w (by first | omega | (simp (disch := omega) only [um_eq, um_na, um_ni, Int.toNat_natCast]; omega)) (by first | omega | (simp (disch := omega) only [um_eq, um_na, um_ni, Int.toNat_natCast]; omega)) rfl <| X_ild rfl <| X_ald rfl <| X_gr 8 0 hM.ob ⟨rfl, rfl⟩ rfl rfl <| X_i <| X_ia hM.w (by first | omega | (simp (disch := omega) only [um_eq, um_na, um_ni, Int.toNat_natCast]; omega)) (by first | omega | (simp (disch := omega) only [um_eq, um_na, um_ni, Int.toNat_natCast]; omega)) rfl <| X_rem (by first | omega | (simp (disch := omega) only [um_eq, um_na, um_ni, Int.toNat_natCast]; omega)) (by first | omega | (simp (disch := omega) only [um_eq, um_na, um_ni, Int.toNat_natCast]; omega)) <| X_nil) (vs := [_, _]) (rest := [_]) rfl rfl rfl rfl (c) ?_
  by_cases hb : o_and (o_shr (M 77 4) ((a : Int) % M 77 0)) 1 = 1
  · rw [if_pos hb, if_pos hb]
    refine Rn.ieq rfl (X_nil) (by first | omega | (simp (disch := omega) only [um_eq, um_na, um_ni, Int.toNat_natCast]; omega)) (fun hc => ?_) (fun hc => ?_)
    · exact absurd hc (by omega)
    · refine Rn.jto rfl (X_i <| X_nil) ?_
      refine Rn.ri rfl (X_add <| X_nil) rfl
  · rw [if_neg hb, if_neg hb]
    refine Rn.ieq rfl (X_nil) (by first | omega | (simp (disch := omega) only [um_eq, um_na, um_ni, Int.toNat_natCast]; omega)) (fun hc => ?_) (fun hc => ?_)
    · refine Rn.fal rfl (X_ald rfl <| X_gr 8 0 hM.ob ⟨rfl, rfl⟩ rfl rfl <| X_i <| X_ild rfl <| X_add <| X_ia hM.w (by first | omega | (simp (disch := omega) only [um_eq, um_na, um_ni, Int.toNat_natCast]; omega)) (by first | omega | (simp (disch := omega) only [um_eq, um_na, um_ni, Int.toNat_natCast]; omega)) rfl <| X_nil) ?_
      refine Rn.ri rfl (X_add <| X_nil) rfl
    · exact absurd rfl hc
theorem sq_cases (z : Int) : z = 0 ∨ z = 1 ∨ z = -1 ∨ (4 ≤ z * z ∧ (2 ≤ z ∨ z ≤ -2)) := by
  by_cases h1 : 2 ≤ z
  · have := Int.mul_le_mul h1 h1 (by omega) (by omega)
    omega
  · by_cases h2 : z ≤ -2
    · have h3 : 2 ≤ -z := by omega
      have := Int.mul_le_mul h3 h3 (by omega) (by omega)
      rw [Int.neg_mul_neg] at this
      omega
    · omega
theorem sq_in {z : Int} (h1 : -6 ≤ z) (h2 : z ≤ 6) : 0 ≤ z * z ∧ z * z ≤ 36 := by
  have h3 : 0 ≤ (6 - z) * (6 + z) := Int.mul_nonneg (by omega) (by omega)
  rw [Int.sub_mul, Int.mul_add, Int.mul_add] at h3
  refine ⟨?_, by omega⟩
  rcases sq_cases z with h | h | h | h <;> first | omega | (rw [h]; decide)
theorem c_beside {w a d : Nat} (hM : isM T) (e0 : M 77 0 = (w : Int)) (hw : 1 ≤ w ∧ w ≤ 7) (ha : a < w * 7) (hd : d < w * 7) : ∃ v, Cl S 152 [vR 76, vI (a : Int), vI (d : Int)] (T, M) (some (vI v), (T, M)) ∧ ((v = 1 ∧ AdjC w a d) ∨ (v = 0 ∧ ¬ AdjC w a d)) := by
  have b1 : w * 7 ≤ 49 := by omega
  have am : (a : Int) % M 77 0 = ((a % w : Nat) : Int) := by rw [e0]; exact_mod_cast rfl
  have dm : (d : Int) % M 77 0 = ((d % w : Nat) : Int) := by rw [e0]; exact_mod_cast rfl
  have ad : (a : Int) / M 77 0 = ((a / w : Nat) : Int) := by rw [e0]; exact_mod_cast rfl
  have dd : (d : Int) / M 77 0 = ((d / w : Nat) : Int) := by rw [e0]; exact_mod_cast rfl
  have a1 : a % w < w := Nat.mod_lt _ (by omega)
  have d1 : d % w < w := Nat.mod_lt _ (by omega)
  have a2 : a / w < 7 := Nat.div_lt_of_lt_mul ha
  have d2 : d / w < 7 := Nat.div_lt_of_lt_mul hd
  have key : ((((a % w : Nat) : Int) - ((d % w : Nat) : Int)) * (((a % w : Nat) : Int) - ((d % w : Nat) : Int)) + (((a / w : Nat) : Int) - ((d / w : Nat) : Int)) * (((a / w : Nat) : Int) - ((d / w : Nat) : Int)) = 1) ↔ AdjC w a d := by
    unfold AdjC
    generalize a % w = x at *
    generalize d % w = u at *
    generalize a / w = y at *
    generalize d / w = v at *
    have q1 := sq_in (z := (x : Int) - u) (by omega) (by omega)
    have q2 := sq_in (z := (y : Int) - v) (by omega) (by omega)
    rcases sq_cases ((x : Int) - u) with h1 | h1 | h1 | h1 <;> rcases sq_cases ((y : Int) - v) with h2 | h2 | h2 | h2 <;> first | (rw [h1, h2]; omega) | (rw [h1]; omega) | (rw [h2]; omega) | omega
  have i1 := sq_in (z := ((a % w : Nat) : Int) - ((d % w : Nat) : Int)) (by omega) (by omega)
  have i2 := sq_in (z := ((a / w : Nat) : Int) - ((d / w : Nat) : Int)) (by generalize a / w = y at *; generalize d / w = v at *; omega) (by generalize a / w = y at *; generalize d / w = v at *; omega)
  have iw : 0 < M 77 0 ∧ M 77 0 < 2147483648 := by omega
  have ia : 0 ≤ (a : Int) ∧ (a : Int) < 2147483648 := by omega
  have id' : 0 ≤ (d : Int) ∧ (d : Int) < 2147483648 := by omega
  rw [← am, ← dm, ← ad, ← dd] at key
  rw [← am, ← dm] at i1
  rw [← ad, ← dd] at i2
  by_cases hA : AdjC w a d
  · refine ⟨1, ⟨_, rfl, ?_⟩, Or.inl ⟨rfl, hA⟩⟩
    have hk := key.2 hA
    refine Rn.cne rfl (X_ild rfl <| X_ald rfl <| X_gr 8 0 hM.ob ⟨rfl, rfl⟩ rfl rfl <| X_i <| X_ia hM.w (by first | omega | (simp (disch := omega) only [um_eq, um_na, um_ni, Int.toNat_natCast]; omega)) (by first | omega | (simp (disch := omega) only [um_eq, um_na, um_ni, Int.toNat_natCast]; omega)) rfl <| X_rem (by first | omega | (simp (disch := omega) only [um_eq, um_na, um_ni, Int.toNat_natCast]; omega)) (by first | omega | (simp (disch := omega) only [um_eq, um_na, um_ni, Int.toNat_natCast]; omega)) <| X_ild rfl <| X_ald rfl <| X_gr 8 0 hM.ob ⟨rfl, rfl⟩ rfl rfl <| X_i <| X_ia hM.w (by first | omega | (simp (disch := omega) only [um_eq, um_na, um_ni, Int.toNat_natCast]; omega)) (by first | omega | (simp (disch := omega) only [um_eq, um_na, um_ni, Int.toNat_natCast]; omega)) rfl <| X_rem (by first | omega | (simp (disch := omega) only [um_eq, um_na, um_ni, Int.toNat_natCast]; omega)) (by first | omega | (simp (disch := omega) only [um_eq, um_na, um_ni, Int.toNat_natCast]; omega)) <| X_sub <| X_ist rfl (L' := [_, _, _, _, _]) rfl <| X_ild rfl <| X_ald rfl <| X_gr 8 0 hM.ob ⟨rfl, rfl⟩ rfl rfl <| X_i <| X_ia hM.w (by first | omega | (simp (disch := omega) only [um_eq, um_na, um_ni, Int.toNat_natCast]; omega)) (by first | omega | (simp (disch := omega) only [um_eq, um_na, um_ni, Int.toNat_natCast]; omega)) rfl <| X_div (by first | omega | (simp (disch := omega) only [um_eq, um_na, um_ni, Int.toNat_natCast]; omega)) (by first | omega | (simp (disch := omega) only [um_eq, um_na, um_ni, Int.toNat_natCast]; omega)) <| X_ild rfl <| X_ald rfl <| X_gr 8 0 hM.ob ⟨rfl, rfl⟩ rfl rfl <| X_i <| X_ia hM.w (by first | omega | (simp (disch := omega) only [um_eq, um_na, um_ni, Int.toNat_natCast]; omega)) (by first | omega | (simp (disch := omega) only [um_eq, um_na, um_ni, Int.toNat_natCast]; omega)) rfl <| X_div (by first | omega | (simp (disch := omega) only [um_eq, um_na, um_ni, Int.toNat_natCast]; omega)) (by first | omega | (simp (disch := omega) only [um_eq, um_na, um_ni, Int.toNat_natCast]; omega)) <| X_sub <| X_ist rfl (L' := [_, _, _, _, _]) rfl <| X_ild rfl <| X_ild rfl <| X_mul <| X_ild rfl <| X_ild rfl <| X_mul <| X_add <| X_i <| X_nil) (by first | omega | (simp (disch := omega) only [um_eq, um_na, um_ni, Int.toNat_natCast]; omega)) (by first | omega | (simp (disch := omega) only [um_eq, um_na, um_ni, Int.toNat_natCast]; omega)) (fun hc => ?_) (fun hc => ?_)
    · exact absurd hk hc
    · refine Rn.jto rfl (X_i <| X_nil) ?_
      refine Rn.rz rfl (X_nil) rfl (by first | exact Or.inl rfl | exact Or.inr rfl | omega)
  · refine ⟨0, ⟨_, rfl, ?_⟩, Or.inr ⟨rfl, hA⟩⟩
    refine Rn.cne rfl (X_ild rfl <| X_ald rfl <| X_gr 8 0 hM.ob ⟨rfl, rfl⟩ rfl rfl <| X_i <| X_ia hM.w (by first | omega | (simp (disch := omega) only [um_eq, um_na, um_ni, Int.toNat_natCast]; omega)) (by first | omega | (simp (disch := omega) only [um_eq, um_na, um_ni, Int.toNat_natCast]; omega)) rfl <| X_rem (by first | omega | (simp (disch := omega) only [um_eq, um_na, um_ni, Int.toNat_natCast]; omega)) (by first | omega | (simp (disch := omega) only [um_eq, um_na, um_ni, Int.toNat_natCast]; omega)) <| X_ild rfl <| X_ald rfl <| X_gr 8 0 hM.ob ⟨rfl, rfl⟩ rfl rfl <| X_i <| X_ia hM.w (by first | omega | (simp (disch := omega) only [um_eq, um_na, um_ni, Int.toNat_natCast]; omega)) (by first | omega | (simp (disch := omega) only [um_eq, um_na, um_ni, Int.toNat_natCast]; omega)) rfl <| X_rem (by first | omega | (simp (disch := omega) only [um_eq, um_na, um_ni, Int.toNat_natCast]; omega)) (by first | omega | (simp (disch := omega) only [um_eq, um_na, um_ni, Int.toNat_natCast]; omega)) <| X_sub <| X_ist rfl (L' := [_, _, _, _, _]) rfl <| X_ild rfl <| X_ald rfl <| X_gr 8 0 hM.ob ⟨rfl, rfl⟩ rfl rfl <| X_i <| X_ia hM.w (by first | omega | (simp (disch := omega) only [um_eq, um_na, um_ni, Int.toNat_natCast]; omega)) (by first | omega | (simp (disch := omega) only [um_eq, um_na, um_ni, Int.toNat_natCast]; omega)) rfl <| X_div (by first | omega | (simp (disch := omega) only [um_eq, um_na, um_ni, Int.toNat_natCast]; omega)) (by first | omega | (simp (disch := omega) only [um_eq, um_na, um_ni, Int.toNat_natCast]; omega)) <| X_ild rfl <| X_ald rfl <| X_gr 8 0 hM.ob ⟨rfl, rfl⟩ rfl rfl <| X_i <| X_ia hM.w (by first | omega | (simp (disch := omega) only [um_eq, um_na, um_ni, Int.toNat_natCast]; omega)) (by first | omega | (simp (disch := omega) only [um_eq, um_na, um_ni, Int.toNat_natCast]; omega)) rfl <| X_div (by first | omega | (simp (disch := omega) only [um_eq, um_na, um_ni, Int.toNat_natCast]; omega)) (by first | omega | (simp (disch := omega) only [um_eq, um_na, um_ni, Int.toNat_natCast]; omega)) <| X_sub <| X_ist rfl (L' := [_, _, _, _, _]) rfl <| X_ild rfl <| X_ild rfl <| X_mul <| X_ild rfl <| X_ild rfl <| X_mul <| X_add <| X_i <| X_nil) (by first | omega | (simp (disch := omega) only [um_eq, um_na, um_ni, Int.toNat_natCast]; omega)) (by first | omega | (simp (disch := omega) only [um_eq, um_na, um_ni, Int.toNat_natCast]; omega)) (fun hc => ?_) (fun hc => ?_)
    · refine Rn.fal rfl (X_i <| X_nil) ?_
      refine Rn.rz rfl (X_nil) rfl (by first | exact Or.inl rfl | exact Or.inr rfl | omega)
    · exact absurd (key.1 hc) hA
theorem Rf_ge {n : Nat} {A : Nat → Nat → Prop} {q : Nat → Int} {s : Nat} {F : Nat → Int} (hq : ∀ d, d < n → 2 ≤ q d) (h : Rf n A q s F) {a : Nat} (ha : a < n) : 0 ≤ F a := by
  rcases (h.2 a ha).2 with h1 | ⟨k, h1⟩
  · rw [h1]; decide
  · have := Wk_ge hq k s _ h1
    omega
theorem Rf_up {n : Nat} {A : Nat → Nat → Prop} {q : Nat → Int} {s : Nat} {F : Nat → Int} (hq : ∀ d, d < n → 2 ≤ q d) (h : Rf n A q s F) {a d : Nat} (ha : a < n) (hd : d < n) (hb : F a < Big) (hA : A a d) (hl : F a + q d < F d) : Rf n A q s (upD F d (F a + q d)) := by
  have h1 := (h.2 d hd).1
  have h2 := Rf_ge hq h ha
  have h3 := hq d hd
  refine ⟨?_, fun x hx => ?_⟩
  · unfold upD
    rw [if_neg (fun z => ?_)]
    · exact h.1
    · subst z
      rw [h.1] at hl
      omega
  · unfold upD
    by_cases hxa : x = d
    · rw [if_pos hxa]
      refine ⟨by omega, Or.inr ?_⟩
      rcases (h.2 a ha).2 with h4 | ⟨k, h4⟩
      · omega
      · subst hxa
        exact ⟨k + 1, Wk_app (s := s) (c := 0) hd hA k s _ h4⟩
    · rw [if_neg hxa]
      exact h.2 x hx
theorem Rf_ini {n : Nat} {A : Nat → Nat → Prop} {q : Nat → Int} {s : Nat} {F : Nat → Int} (hs : s < n) (h : ∀ a, a < n → F a = ini0 s a) : Rf n A q s F := by
  refine ⟨by rw [h s hs]; exact if_pos rfl, fun a ha => ?_⟩
  rw [h a ha]
  unfold ini0
  by_cases e : a = s
  · rw [if_pos e]
    exact ⟨by decide, Or.inr ⟨0, e.symm, rfl⟩⟩
  · rw [if_neg e]
    exact ⟨Int.le_refl _, Or.inl rfl⟩
theorem c_wayOf {w hh s e : Nat} (hM : isM T) (e0 : M 77 0 = (w : Int)) (e1 : M 77 1 = (hh : Int)) (hw : 1 ≤ w ∧ w ≤ 7) (hh7 : 1 ≤ hh ∧ hh ≤ 7) (ht : ∀ c : Int, 0 ≤ c → c < 49 → 0 ≤ M 77 (10 + c) ∧ M 77 (10 + c) ≤ 9) (hs : s < w * hh) (he : e < w * hh) : ∃ M', Cl S 153 [vR 76, vI (s : Int), vI (e : Int)] (T, M) (some (vI (M' 81 (e : Int))), (T, M')) ∧ (∀ a, a ≠ 81 → M' a = M a) ∧ Rf (w * hh) (AdjC w) (qM M w) s (fun a => M' 81 (a : Int)) ∧ Ff (w * hh) (AdjC w) (qM M w) (fun a => M' 81 (a : Int)) := by
  have enn : M 77 0 * M 77 1 = ((w * hh : Nat) : Int) := by rw [e0, e1]; exact_mod_cast rfl
  have hwh : w * hh ≤ w * 7 := Nat.mul_le_mul_left w hh7.2
  generalize hn : w * hh = n at *
  have n49 : n ≤ 49 := by omega
  have hBig : Big = 1000000000 := rfl
  have hq : ∀ d, d < n → 2 ≤ qM M w d ∧ qM M w d ≤ 11 := fun d hd => qM_in ht (by omega)
  have hq2 : ∀ d, d < n → 2 ≤ qM M w d := fun d hd => (hq d hd).1
  have qcg : ∀ N : Nat → Int → Int, (∀ a, a ≠ 81 → N a = M a) → ∀ a, qM N w a = qM M w a := by
    intro N hN a
    unfold qM
    rw [hN 77 (by decide)]
  have st : ∀ N : Nat → Int → Int, (∀ a, a ≠ 81 → N a = M a) → ∀ a, a < n → Cl S 151 [vR 76, vI (a : Int)] (T, N) (some (vI (qM M w a)), (T, N)) := by
    intro N hN a ha
    rw [← qcg N hN]
    have e77 := hN 77 (by decide)
    exact c_stepTo hM (by rw [e77]; exact e0) hw (by rw [e77]; exact ht) (by omega)
  have bs : ∀ N : Nat → Int → Int, (∀ a, a ≠ 81 → N a = M a) → ∀ a d, a < n → d < n → ∃ v, Cl S 152 [vR 76, vI (a : Int), vI (d : Int)] (T, N) (some (vI v), (T, N)) ∧ ((v = 1 ∧ AdjC w a d) ∨ (v = 0 ∧ ¬ AdjC w a d)) := by
    intro N hN a d ha hd
    have e77 := hN 77 (by decide)
    exact c_beside hM (by rw [e77]; exact e0) hw (by omega) (by omega)
  -- what is to come, from a place on
  let G : Nat → List (Option AV) → (Nat → Int → Int) → Prop := fun pc L N => ∃ M', Rn S 153 pc ([], L, T, N) (some (vI (M' 81 (e : Int))), (T, M')) ∧ (∀ a, a ≠ 81 → M' a = M a) ∧ Rf n (AdjC w) (qM M w) s (fun a => M' 81 (a : Int)) ∧ Ff n (AdjC w) (qM M w) (fun a => M' 81 (a : Int))
  let Iv : Int → Nat → Nat → Int → (Nat → Int → Int) → Prop := fun B a d l N => (∀ a, a ≠ 81 → N a = M a) ∧ Rf n (AdjC w) (qM M w) s (fun a => N 81 (a : Int)) ∧ ((l = 0 ∧ sumD (fun a => N 81 (a : Int)) n ≤ B ∧ ∀ x y, x < n → y < n → (x < a ∨ (x = a ∧ y < d)) → N 81 (x : Int) < Big → AdjC w x y → N 81 (y : Int) ≤ N 81 (x : Int) + qM M w y) ∨ (l = 1 ∧ sumD (fun a => N 81 (a : Int)) n < B))
  have rows : ∀ (B : Int) (a : Nat), a < n → (∀ l N, Iv B (a + 1) 0 l N → G 154 [some (vR 76), some (vI (s : Int)), some (vI (e : Int)), some (vI (n : Int)), some (vI l), some (vI (a : Int)), some (vI (n : Int))] N) → ∀ (k d : Nat) (l : Int) (N : Nat → Int → Int), d + k = n → Iv B a d l N → G 71 [some (vR 76), some (vI (s : Int)), some (vI (e : Int)), some (vI (n : Int)), some (vI l), some (vI (a : Int)), some (vI (d : Int))] N := by
    intro B a ha nx k
    induction k with
    | zero =>
      intro d l N hd hI
      have ed : d = n := by omega
      subst ed
      obtain ⟨M', r, q⟩ := nx l N (by
        obtain ⟨i1, i2, i3⟩ := hI
        refine ⟨i1, i2, ?_⟩
        rcases i3 with ⟨j1, j2, j3⟩ | j
        · exact Or.inl ⟨j1, j2, fun x y hx hy hxy => j3 x y hx hy (by omega)⟩
        · exact Or.inr j)
      refine ⟨M', ?_, q⟩
      refine Rn.cge rfl (X_ild rfl <| X_ild rfl <| X_nil) (by first | omega | (simp (disch := omega) only [um_eq, um_na, um_ni, Int.toNat_natCast]; omega)) (by first | omega | (simp (disch := omega) only [um_eq, um_na, um_ni, Int.toNat_natCast]; omega)) (fun hc => ?_) (fun hc => ?_)
      · exact r
      · exact absurd hc (by omega)
    | succ k ih =>
      intro d l N hd hI
      obtain ⟨i1, i2, i3⟩ := id hI
      have fa0 := Rf_ge hq2 i2 ha
      have fd0 := Rf_ge hq2 i2 (show d < n by omega)
      have fa1 := (i2.2 a ha).1
      have fd1 := (i2.2 d (by omega)).1
      simp only at fa0 fd0 fa1 fd1
      have qd := hq d (by omega)
      -- the pair is passed over
      have pass : (N 81 (a : Int) < Big → AdjC w a d → N 81 (d : Int) ≤ N 81 (a : Int) + qM M w d) → G 148 [some (vR 76), some (vI (s : Int)), some (vI (e : Int)), some (vI (n : Int)), some (vI l), some (vI (a : Int)), some (vI (d : Int))] N := by
        intro hp
        obtain ⟨M', r, q⟩ := ih (d + 1) l N (by omega) (by
          refine ⟨i1, i2, ?_⟩
          rcases i3 with ⟨j1, j2, j3⟩ | j
          · refine Or.inl ⟨j1, j2, fun x y hx hy hxy => ?_⟩
            by_cases hxy' : x = a ∧ y = d
            · rw [hxy'.1, hxy'.2]; exact hp
            · exact j3 x y hx hy (by omega)
          · exact Or.inr j)
        refine ⟨M', ?_, q⟩
        refine Rn.jto rfl (X_inc rfl (L' := [_, _, _, _, _, _, _]) rfl <| X_nil) ?_
        exact r
      by_cases hbig : Big ≤ N 81 (a : Int)
      · obtain ⟨M', r, q⟩ := pass (fun z => by omega)
        refine ⟨M', ?_, q⟩
        refine Rn.cge rfl (X_ild rfl <| X_ild rfl <| X_nil) (by first | omega | (simp (disch := omega) only [um_eq, um_na, um_ni, Int.toNat_natCast]; omega)) (by first | omega | (simp (disch := omega) only [um_eq, um_na, um_ni, Int.toNat_natCast]; omega)) (fun hc => ?_) (fun hc => ?_)
        · exact absurd hc (by omega)
        · refine Rn.cge rfl (X_ald rfl <| X_gr 8 13 hM.ob ⟨rfl, rfl⟩ rfl rfl <| X_ild rfl <| X_ia hM.fa (by first | omega | (simp (disch := omega) only [um_eq, um_na, um_ni, Int.toNat_natCast]; omega)) (by first | omega | (simp (disch := omega) only [um_eq, um_na, um_ni, Int.toNat_natCast]; omega)) rfl <| X_i <| X_nil) (by first | omega | (simp (disch := omega) only [um_eq, um_na, um_ni, Int.toNat_natCast]; omega)) (by first | omega | (simp (disch := omega) only [um_eq, um_na, um_ni, Int.toNat_natCast]; omega)) (fun hc => ?_) (fun hc => ?_)
          · exact r
          · exact absurd hc (by omega)
      · obtain ⟨v, cb, hv⟩ := bs N i1 a d ha (by omega)
        have cs := st N i1 d (by omega)
        by_cases hA : AdjC w a d
        · have v1 : v = 1 := by
            rcases hv with hv | hv
            · exact hv.1
            · exact absurd hA hv.2
          subst v1
          by_cases hl : N 81 (d : Int) ≤ N 81 (a : Int) + qM M w d
          · obtain ⟨M', r, q⟩ := pass (fun _ _ => hl)
            refine ⟨M', ?_, q⟩
            refine Rn.cge rfl (X_ild rfl <| X_ild rfl <| X_nil) (by first | omega | (simp (disch := omega) only [um_eq, um_na, um_ni, Int.toNat_natCast]; omega)) (by first | omega | (simp (disch := omega) only [um_eq, um_na, um_ni, Int.toNat_natCast]; omega)) (fun hc => ?_) (fun hc => ?_)
            · exact absurd hc (by omega)
            · refine Rn.cge rfl (X_ald rfl <| X_gr 8 13 hM.ob ⟨rfl, rfl⟩ rfl rfl <| X_ild rfl <| X_ia hM.fa (by first | omega | (simp (disch := omega) only [um_eq, um_na, um_ni, Int.toNat_natCast]; omega)) (by first | omega | (simp (disch := omega) only [um_eq, um_na, um_ni, Int.toNat_natCast]; omega)) rfl <| X_i <| X_nil) (by first | omega | (simp (disch := omega) only [um_eq, um_na, um_ni, Int.toNat_natCast]; omega)) (by first | omega | (simp (disch := omega) only [um_eq, um_na, um_ni, Int.toNat_natCast]; omega)) (fun hc => ?_) (fun hc => ?_)
              · exact absurd hc (by omega)
              · refine Rn.cal rfl (X_ald rfl <| X_ild rfl <| X_ild rfl <| X_nil) (vs := [_, _, _]) (rest := []) rfl rfl rfl (rcv_v hM.ob (by decide)) (cb) ?_
                refine Rn.ieq rfl (X_nil) (by first | omega | (simp (disch := omega) only [um_eq, um_na, um_ni, Int.toNat_natCast]; omega)) (fun hc => ?_) (fun hc => ?_)
                · exact absurd hc (by omega)
                · refine Rn.cal rfl (X_ald rfl <| X_gr 8 13 hM.ob ⟨rfl, rfl⟩ rfl rfl <| X_ild rfl <| X_ia hM.fa (by first | omega | (simp (disch := omega) only [um_eq, um_na, um_ni, Int.toNat_natCast]; omega)) (by first | omega | (simp (disch := omega) only [um_eq, um_na, um_ni, Int.toNat_natCast]; omega)) rfl <| X_ald rfl <| X_ild rfl <| X_nil) (vs := [_, _]) (rest := [_]) rfl rfl rfl (rcv_v hM.ob (by decide)) (cs) ?_
                  refine Rn.cge rfl (X_add <| X_ald rfl <| X_gr 8 13 hM.ob ⟨rfl, rfl⟩ rfl rfl <| X_ild rfl <| X_ia hM.fa (by first | omega | (simp (disch := omega) only [um_eq, um_na, um_ni, Int.toNat_natCast]; omega)) (by first | omega | (simp (disch := omega) only [um_eq, um_na, um_ni, Int.toNat_natCast]; omega)) rfl <| X_nil) (by first | omega | (simp (disch := omega) only [um_eq, um_na, um_ni, Int.toNat_natCast]; omega)) (by first | omega | (simp (disch := omega) only [um_eq, um_na, um_ni, Int.toNat_natCast]; omega)) (fun hc => ?_) (fun hc => ?_)
                  · exact r
                  · exact absurd hc (by omega)
          · have eU : (fun x : Nat => um N 81 (d : Int) (N 81 (a : Int) + qM M w d) 81 (x : Int)) = upD (fun x : Nat => N 81 (x : Int)) d (N 81 (a : Int) + qM M w d) := by
              funext x
              unfold upD
              by_cases ex : x = d
              · rw [if_pos ex, ex, um_eq]
              · rw [if_neg ex, um_ni (by omega)]
            obtain ⟨M', r, q⟩ := ih (d + 1) 1 (um N 81 (d : Int) (N 81 (a : Int) + qM M w d)) (by omega) (by
              refine ⟨fun x hx => by rw [um_fn hx]; exact i1 x hx, ?_, Or.inr ⟨rfl, ?_⟩⟩
              · rw [eU]
                exact Rf_up hq2 i2 ha (by omega) (by omega) hA (by omega)
              · rw [eU, sumD_up, if_pos (by omega)]
                rcases i3 with ⟨j1, j2, j3⟩ | j <;> omega)
            refine ⟨M', ?_, q⟩
            refine Rn.cge rfl (X_ild rfl <| X_ild rfl <| X_nil) (by first | omega | (simp (disch := omega) only [um_eq, um_na, um_ni, Int.toNat_natCast]; omega)) (by first | omega | (simp (disch := omega) only [um_eq, um_na, um_ni, Int.toNat_natCast]; omega)) (fun hc => ?_) (fun hc => ?_)
            · exact absurd hc (by omega)
            · refine Rn.cge rfl (X_ald rfl <| X_gr 8 13 hM.ob ⟨rfl, rfl⟩ rfl rfl <| X_ild rfl <| X_ia hM.fa (by first | omega | (simp (disch := omega) only [um_eq, um_na, um_ni, Int.toNat_natCast]; omega)) (by first | omega | (simp (disch := omega) only [um_eq, um_na, um_ni, Int.toNat_natCast]; omega)) rfl <| X_i <| X_nil) (by first | omega | (simp (disch := omega) only [um_eq, um_na, um_ni, Int.toNat_natCast]; omega)) (by first | omega | (simp (disch := omega) only [um_eq, um_na, um_ni, Int.toNat_natCast]; omega)) (fun hc => ?_) (fun hc => ?_)
              · exact absurd hc (by omega)
              · refine Rn.cal rfl (X_ald rfl <| X_ild rfl <| X_ild rfl <| X_nil) (vs := [_, _, _]) (rest := []) rfl rfl rfl (rcv_v hM.ob (by decide)) (cb) ?_
                refine Rn.ieq rfl (X_nil) (by first | omega | (simp (disch := omega) only [um_eq, um_na, um_ni, Int.toNat_natCast]; omega)) (fun hc => ?_) (fun hc => ?_)
                · exact absurd hc (by omega)
                · refine Rn.cal rfl (X_ald rfl <| X_gr 8 13 hM.ob ⟨rfl, rfl⟩ rfl rfl <| X_ild rfl <| X_ia hM.fa (by first | omega | (simp (disch := omega) only [um_eq, um_na, um_ni, Int.toNat_natCast]; omega)) (by first | omega | (simp (disch := omega) only [um_eq, um_na, um_ni, Int.toNat_natCast]; omega)) rfl <| X_ald rfl <| X_ild rfl <| X_nil) (vs := [_, _]) (rest := [_]) rfl rfl rfl (rcv_v hM.ob (by decide)) (cs) ?_
                  refine Rn.cge rfl (X_add <| X_ald rfl <| X_gr 8 13 hM.ob ⟨rfl, rfl⟩ rfl rfl <| X_ild rfl <| X_ia hM.fa (by first | omega | (simp (disch := omega) only [um_eq, um_na, um_ni, Int.toNat_natCast]; omega)) (by first | omega | (simp (disch := omega) only [um_eq, um_na, um_ni, Int.toNat_natCast]; omega)) rfl <| X_nil) (by first | omega | (simp (disch := omega) only [um_eq, um_na, um_ni, Int.toNat_natCast]; omega)) (by first | omega | (simp (disch := omega) only [um_eq, um_na, um_ni, Int.toNat_natCast]; omega)) (fun hc => ?_) (fun hc => ?_)
                  · exact absurd hc (by omega)
                  · refine Rn.cal rfl (X_ald rfl <| X_gr 8 13 hM.ob ⟨rfl, rfl⟩ rfl rfl <| X_ild rfl <| X_ald rfl <| X_gr 8 13 hM.ob ⟨rfl, rfl⟩ rfl rfl <| X_ild rfl <| X_ia hM.fa (by first | omega | (simp (disch := omega) only [um_eq, um_na, um_ni, Int.toNat_natCast]; omega)) (by first | omega | (simp (disch := omega) only [um_eq, um_na, um_ni, Int.toNat_natCast]; omega)) rfl <| X_ald rfl <| X_ild rfl <| X_nil) (vs := [_, _]) (rest := [_, _, _]) rfl rfl rfl (rcv_v hM.ob (by decide)) (cs) ?_
                    refine Rn.fal rfl (X_add <| X_is hM.fa (by first | omega | (simp (disch := omega) only [um_eq, um_na, um_ni, Int.toNat_natCast]; omega)) (by first | omega | (simp (disch := omega) only [um_eq, um_na, um_ni, Int.toNat_natCast]; omega)) rfl <| X_i <| X_ist rfl (L' := [_, _, _, _, _, _, _]) rfl <| X_nil) ?_
                    refine Rn.jto rfl (X_inc rfl (L' := [_, _, _, _, _, _, _]) rfl <| X_nil) ?_
                    exact r
        · have v1 : v = 0 := by
            rcases hv with hv | hv
            · exact absurd hv.2 hA
            · exact hv.1
          subst v1
          obtain ⟨M', r, q⟩ := pass (fun _ z => absurd z hA)
          refine ⟨M', ?_, q⟩
          refine Rn.cge rfl (X_ild rfl <| X_ild rfl <| X_nil) (by first | omega | (simp (disch := omega) only [um_eq, um_na, um_ni, Int.toNat_natCast]; omega)) (by first | omega | (simp (disch := omega) only [um_eq, um_na, um_ni, Int.toNat_natCast]; omega)) (fun hc => ?_) (fun hc => ?_)
          · exact absurd hc (by omega)
          · refine Rn.cge rfl (X_ald rfl <| X_gr 8 13 hM.ob ⟨rfl, rfl⟩ rfl rfl <| X_ild rfl <| X_ia hM.fa (by first | omega | (simp (disch := omega) only [um_eq, um_na, um_ni, Int.toNat_natCast]; omega)) (by first | omega | (simp (disch := omega) only [um_eq, um_na, um_ni, Int.toNat_natCast]; omega)) rfl <| X_i <| X_nil) (by first | omega | (simp (disch := omega) only [um_eq, um_na, um_ni, Int.toNat_natCast]; omega)) (by first | omega | (simp (disch := omega) only [um_eq, um_na, um_ni, Int.toNat_natCast]; omega)) (fun hc => ?_) (fun hc => ?_)
            · exact absurd hc (by omega)
            · refine Rn.cal rfl (X_ald rfl <| X_ild rfl <| X_ild rfl <| X_nil) (vs := [_, _, _]) (rest := []) rfl rfl rfl (rcv_v hM.ob (by decide)) (cb) ?_
              refine Rn.ieq rfl (X_nil) (by first | omega | (simp (disch := omega) only [um_eq, um_na, um_ni, Int.toNat_natCast]; omega)) (fun hc => ?_) (fun hc => ?_)
              · exact r
              · exact absurd rfl hc
  have cols : ∀ (B : Int), (∀ x6 l N, Iv B n 0 l N → G 51 [some (vR 76), some (vI (s : Int)), some (vI (e : Int)), some (vI (n : Int)), some (vI l), some (vI (n : Int)), x6] N) → ∀ (k a : Nat) (l : Int) (N : Nat → Int → Int) (x6 : Option AV), a + k = n → Iv B a 0 l N → G 62 [some (vR 76), some (vI (s : Int)), some (vI (e : Int)), some (vI (n : Int)), some (vI l), some (vI (a : Int)), x6] N := by
    intro B nx k
    induction k with
    | zero =>
      intro a l N x6 ha hI
      have ed : a = n := by omega
      subst ed
      obtain ⟨M', r, q⟩ := nx x6 l N hI
      refine ⟨M', ?_, q⟩
      refine Rn.cge rfl (X_ild rfl <| X_ild rfl <| X_nil) (by first | omega | (simp (disch := omega) only [um_eq, um_na, um_ni, Int.toNat_natCast]; omega)) (by first | omega | (simp (disch := omega) only [um_eq, um_na, um_ni, Int.toNat_natCast]; omega)) (fun hc => ?_) (fun hc => ?_)
      · refine Rn.jto rfl (X_nil) ?_
        exact r
      · exact absurd hc (by omega)
    | succ k ih =>
      intro a l N x6 ha hI
      obtain ⟨M', r, q⟩ := rows B a (by omega) (fun l' N' hI' => by
        obtain ⟨M', r, q⟩ := ih (a + 1) l' N' (some (vI (n : Int))) (by omega) hI'
        refine ⟨M', ?_, q⟩
        refine Rn.jto rfl (X_inc rfl (L' := [_, _, _, _, _, _, _]) rfl <| X_nil) ?_
        exact r) n 0 l N (by omega) hI
      refine ⟨M', ?_, q⟩
      refine Rn.cge rfl (X_ild rfl <| X_ild rfl <| X_nil) (by first | omega | (simp (disch := omega) only [um_eq, um_na, um_ni, Int.toNat_natCast]; omega)) (by first | omega | (simp (disch := omega) only [um_eq, um_na, um_ni, Int.toNat_natCast]; omega)) (fun hc => ?_) (fun hc => ?_)
      · exact absurd hc (by omega)
      · refine Rn.fal rfl (X_i <| X_ist rfl (L' := [_, _, _, _, _, _, _]) rfl <| X_nil) ?_
        exact r
  have rounds : ∀ (K : Nat) (l : Int) (N : Nat → Int → Int) (x5 x6 : Option AV), (∀ a, a ≠ 81 → N a = M a) → Rf n (AdjC w) (qM M w) s (fun a => N 81 (a : Int)) → ((l = 1 ∧ sumD (fun a => N 81 (a : Int)) n < (K : Int)) ∨ (l = 0 ∧ Ff n (AdjC w) (qM M w) (fun a => N 81 (a : Int)))) → G 51 [some (vR 76), some (vI (s : Int)), some (vI (e : Int)), some (vI (n : Int)), some (vI l), x5, x6] N := by
    intro K
    induction K with
    | zero =>
      intro l N x5 x6 i1 i2 i3
      rcases i3 with ⟨l1, hk⟩ | ⟨l0, hF⟩
      · have := sumD_ge (D := fun a => N 81 (a : Int)) n (fun a ha => Rf_ge hq2 i2 ha)
        exact absurd hk (by omega)
      · subst l0
        refine ⟨N, ?_, i1, i2, hF⟩
        refine Rn.ieq rfl (X_ild rfl <| X_nil) (by first | omega | (simp (disch := omega) only [um_eq, um_na, um_ni, Int.toNat_natCast]; omega)) (fun hc => ?_) (fun hc => ?_)
        · refine Rn.ri rfl (X_ald rfl <| X_gr 8 13 hM.ob ⟨rfl, rfl⟩ rfl rfl <| X_ild rfl <| X_ia hM.fa (by first | omega | (simp (disch := omega) only [um_eq, um_na, um_ni, Int.toNat_natCast]; omega)) (by first | omega | (simp (disch := omega) only [um_eq, um_na, um_ni, Int.toNat_natCast]; omega)) rfl <| X_nil) rfl
        · exact absurd rfl hc
    | succ K ih =>
      intro l N x5 x6 i1 i2 i3
      rcases i3 with ⟨l1, hk⟩ | ⟨l0, hF⟩
      · subst l1
        obtain ⟨M', r, q⟩ := cols (sumD (fun a => N 81 (a : Int)) n) (fun y6 l' N' hI' => by
          obtain ⟨j1, j2, j3⟩ := hI'
          refine ih l' N' _ _ j1 j2 ?_
          rcases j3 with ⟨k1, k2, k3⟩ | ⟨k1, k2⟩
          · exact Or.inr ⟨k1, fun a d ha hd hb hA => k3 a d ha hd (Or.inl ha) hb hA⟩
          · exact Or.inl ⟨k1, by omega⟩) n 0 0 N x6 (by omega) ⟨i1, i2, Or.inl ⟨rfl, Int.le_refl _, fun x y hx hy hxy => by omega⟩⟩
        refine ⟨M', ?_, q⟩
        refine Rn.ieq rfl (X_ild rfl <| X_nil) (by first | omega | (simp (disch := omega) only [um_eq, um_na, um_ni, Int.toNat_natCast]; omega)) (fun hc => ?_) (fun hc => ?_)
        · exact absurd hc (by omega)
        · refine Rn.fal rfl (X_i <| X_ist rfl (L' := [_, _, _, _, _, _, _]) rfl <| X_i <| X_ist rfl (L' := [_, _, _, _, _, _, _]) rfl <| X_nil) ?_
          exact r
      · subst l0
        refine ⟨N, ?_, i1, i2, hF⟩
        refine Rn.ieq rfl (X_ild rfl <| X_nil) (by first | omega | (simp (disch := omega) only [um_eq, um_na, um_ni, Int.toNat_natCast]; omega)) (fun hc => ?_) (fun hc => ?_)
        · refine Rn.ri rfl (X_ald rfl <| X_gr 8 13 hM.ob ⟨rfl, rfl⟩ rfl rfl <| X_ild rfl <| X_ia hM.fa (by first | omega | (simp (disch := omega) only [um_eq, um_na, um_ni, Int.toNat_natCast]; omega)) (by first | omega | (simp (disch := omega) only [um_eq, um_na, um_ni, Int.toNat_natCast]; omega)) rfl <| X_nil) rfl
        · exact absurd rfl hc
  have fill : ∀ (k i : Nat) (N : Nat → Int → Int), i + k = n → (∀ a, a ≠ 81 → N a = M a) → (∀ a : Nat, a < i → N 81 (a : Int) = ini0 s a) → G 17 [some (vR 76), some (vI (s : Int)), some (vI (e : Int)), some (vI (n : Int)), some (vI (i : Int)), none, none] N := by
    intro k
    induction k with
    | zero =>
      intro i N hi i1 i2
      have ei : i = n := by omega
      subst ei
      have hR : Rf i (AdjC w) (qM M w) s (fun a => N 81 (a : Int)) := Rf_ini hs (fun a ha => i2 a ha)
      have hp := sumD_ge (D := fun a => N 81 (a : Int)) i (fun a ha => Rf_ge hq2 hR ha)
      obtain ⟨M', r, q⟩ := rounds ((sumD (fun a => N 81 (a : Int)) i).toNat + 1) 1 N none none i1 hR (Or.inl ⟨rfl, by omega⟩)
      refine ⟨M', ?_, q⟩
      refine Rn.cge rfl (X_ild rfl <| X_ild rfl <| X_nil) (by first | omega | (simp (disch := omega) only [um_eq, um_na, um_ni, Int.toNat_natCast]; omega)) (by first | omega | (simp (disch := omega) only [um_eq, um_na, um_ni, Int.toNat_natCast]; omega)) (fun hc => ?_) (fun hc => ?_)
      · refine Rn.fal rfl (X_i <| X_ist rfl (L' := [_, _, _, _, _, _, _]) rfl <| X_nil) ?_
        exact r
      · exact absurd hc (by omega)
    | succ k ih =>
      intro i N hi i1 i2
      obtain ⟨M', r, q⟩ := ih (i + 1) (um N 81 (i : Int) (if i = s then 0 else Big)) (by omega) (fun a ha => by rw [um_fn ha]; exact i1 a ha) (fun a ha => by
        by_cases ea : a = i
        · subst ea
          rw [um_eq]
          rfl
        · rw [um_ni (by omega)]
          exact i2 a (by omega))
      refine ⟨M', ?_, q⟩
      refine Rn.cge rfl (X_ild rfl <| X_ild rfl <| X_nil) (by first | omega | (simp (disch := omega) only [um_eq, um_na, um_ni, Int.toNat_natCast]; omega)) (by first | omega | (simp (disch := omega) only [um_eq, um_na, um_ni, Int.toNat_natCast]; omega)) (fun hc => ?_) (fun hc => ?_)
      · exact absurd hc (by omega)
      · refine Rn.cne rfl (X_ald rfl <| X_gr 8 13 hM.ob ⟨rfl, rfl⟩ rfl rfl <| X_ild rfl <| X_ild rfl <| X_ild rfl <| X_nil) (by first | omega | (simp (disch := omega) only [um_eq, um_na, um_ni, Int.toNat_natCast]; omega)) (by first | omega | (simp (disch := omega) only [um_eq, um_na, um_ni, Int.toNat_natCast]; omega)) (fun hc => ?_) (fun hc => ?_)
        · rw [if_neg (by omega)] at r
          refine Rn.fal rfl (X_i <| X_nil) ?_
          refine Rn.jto rfl (X_is hM.fa (by first | omega | (simp (disch := omega) only [um_eq, um_na, um_ni, Int.toNat_natCast]; omega)) (by first | omega | (simp (disch := omega) only [um_eq, um_na, um_ni, Int.toNat_natCast]; omega)) rfl <| X_inc rfl (L' := [_, _, _, _, _, _, _]) rfl <| X_nil) ?_
          exact r
        · rw [if_pos (by omega)] at r
          refine Rn.jto rfl (X_i <| X_nil) ?_
          refine Rn.jto rfl (X_is hM.fa (by first | omega | (simp (disch := omega) only [um_eq, um_na, um_ni, Int.toNat_natCast]; omega)) (by first | omega | (simp (disch := omega) only [um_eq, um_na, um_ni, Int.toNat_natCast]; omega)) rfl <| X_inc rfl (L' := [_, _, _, _, _, _, _]) rfl <| X_nil) ?_
          exact r
  obtain ⟨M', r, q⟩ := fill n 0 M (by omega) (fun _ _ => rfl) (fun a ha => by omega)
  refine ⟨M', ⟨_, rfl, ?_⟩, q⟩
  refine Rn.fal rfl (X_ald rfl <| X_gr 8 0 hM.ob ⟨rfl, rfl⟩ rfl rfl <| X_i <| X_ia hM.w (by first | omega | (simp (disch := omega) only [um_eq, um_na, um_ni, Int.toNat_natCast]; omega)) (by first | omega | (simp (disch := omega) only [um_eq, um_na, um_ni, Int.toNat_natCast]; omega)) rfl <| X_ald rfl <| X_gr 8 0 hM.ob ⟨rfl, rfl⟩ rfl rfl <| X_i <| X_ia hM.w (by first | omega | (simp (disch := omega) only [um_eq, um_na, um_ni, Int.toNat_natCast]; omega)) (by first | omega | (simp (disch := omega) only [um_eq, um_na, um_ni, Int.toNat_natCast]; omega)) rfl <| X_mul <| X_ist rfl (L' := [_, _, _, _, _, _, _]) rfl <| X_i <| X_ist rfl (L' := [_, _, _, _, _, _, _]) rfl <| X_nil) ?_
  rw [enn]
  exact r
end Mway
end
section
/-! THE RELATION: a class's state against a region of the model's numbers -/
section WayQ
variable {n : Nat} {A : Nat → Nat → Prop} {q q' : Nat → Int}
theorem Wk_q (h : ∀ d, d < n → q d = q' d) {e : Nat} : ∀ (k a : Nat) (c : Int), Wk n A q e k a c → Wk n A q' e k a c
  | 0, _, _, w => w
  | k + 1, a, c, w => by
    obtain ⟨d, hd, hA, w2⟩ := w
    refine ⟨d, hd, hA, ?_⟩
    rw [← h d hd]
    exact Wk_q h k d _ w2
theorem Rl_q (h : ∀ d, d < n → q d = q' d) {e : Nat} {D : Nat → Int} (r : Rl n A q e D) : Rl n A q' e D := by
  refine ⟨r.1, fun a ha => ⟨(r.2 a ha).1, ?_⟩⟩
  rcases (r.2 a ha).2 with h1 | ⟨k, h1⟩
  · exact Or.inl h1
  · exact Or.inr ⟨k, Wk_q h k a _ h1⟩
theorem Fx_q (h : ∀ d, d < n → q d = q' d) {D : Nat → Int} (r : Fx n A q D) : Fx n A q' D := by
  intro a d ha hd hA
  rw [← h d hd]
  exact r a d ha hd hA
theorem Rf_q (h : ∀ d, d < n → q d = q' d) {s : Nat} {D : Nat → Int} (r : Rf n A q s D) : Rf n A q' s D := by
  refine ⟨r.1, fun a ha => ⟨(r.2 a ha).1, ?_⟩⟩
  rcases (r.2 a ha).2 with h1 | ⟨k, h1⟩
  · exact Or.inl h1
  · exact Or.inr ⟨k, Wk_q h k s _ h1⟩
theorem Ff_q (h : ∀ d, d < n → q d = q' d) {D : Nat → Int} (r : Ff n A q D) : Ff n A q' D := by
  intro a d ha hd hb hA
  rw [← h d hd]
  exact r a d ha hd hb hA
end WayQ
section Rel
variable {C C' : Nat → Int → Int} {b o : Nat} {W W' : Int → Int} {r x y : Int} {K : Nat}
theorem cell_idx {w hh d : Nat} (hw : 0 < w) (hd : d < w * hh) : ((d % w : Nat) : Int) + (w : Int) * ((d / w : Nat) : Int) = (d : Int) := by
  have := idx_of (w := w) (a := d)
  exact_mod_cast this.symm
/-- the same floor at another place has the same ways -/
theorem qN_pw {w hh : Nat} (hw : 0 < w) (hwh : w * hh ≤ 49) (e0 : C (o + 1) 0 = (w : Int)) (h0 : C' (b + 1) 0 = C (o + 1) 0) (h4 : C' (b + 1) 4 = C (o + 1) 4) (ht : ∀ c, 0 ≤ c → c < 49 → C' (b + 2) c = C (o + 2) c) : ∀ d, d < w * hh → qN C o w d = qN C' b w d := by
  intro d hd
  unfold qN qI
  rw [h0, h4, e0, cell_idx hw hd, ht d (by omega) (by omega)]
theorem WayIs_pw {s e : Nat} {v : Int} (hf : FlOk C o) (h0 : C' (b + 1) 0 = C (o + 1) 0) (h1 : C' (b + 1) 1 = C (o + 1) 1) (h4 : C' (b + 1) 4 = C (o + 1) 4) (ht : ∀ c, 0 ≤ c → c < 49 → C' (b + 2) c = C (o + 2) c) (h : WayIs C o s e v) : WayIs C' b s e v := by
  obtain ⟨D, ⟨d1, d2⟩, rfl⟩ := h
  have hwh := hf.wh
  have hn := hf.nn
  have hn2 := hf.n
  have h1' := hf.1
  have hq := qN_pw (C := C) (C' := C') (b := b) (o := o) (w := (C (o + 1) 0).toNat) (hh := (C (o + 1) 1).toNat) (by omega) (by omega) hwh.1 h0 h4 ht
  refine ⟨D, ?_, rfl⟩
  unfold IsW
  rw [h0, h1]
  exact ⟨Rl_q hq d1, Fx_q hq d2⟩
def FlNo (C : Nat → Int → Int) (b : Nat) : Prop := FlOk C b ∧ WalkOk C b
theorem FlNo_pw (h0 : C' (b + 1) 0 = C (o + 1) 0) (h1 : C' (b + 1) 1 = C (o + 1) 1) (h2 : C' (b + 1) 2 = C (o + 1) 2) (h3 : C' (b + 1) 3 = C (o + 1) 3) (h4 : C' (b + 1) 4 = C (o + 1) 4) (h5 : C' (b + 1) 5 = C (o + 1) 5) (h8 : C' (b + 1) 8 = C (o + 1) 8) (ht : ∀ c, 0 ≤ c → c < 49 → C' (b + 2) c = C (o + 2) c) (h : FlNo C o) : FlNo C' b := by
  obtain ⟨f, w⟩ := h
  refine ⟨?_, ?_⟩
  · obtain ⟨f0, f1, f2, f3, f4, f5, f6⟩ := id f
    unfold FlOk
    rw [h0, h1, h2, h3, h4, h5]
    exact ⟨f0, f1, f2, f3, f4, f5, fun c c0 c1 => by rw [ht c c0 c1]; exact f6 c c0 c1⟩
  · unfold WalkOk
    rw [h8, h3, h2]
    rcases w with w | ⟨v, w1, w2⟩
    · exact Or.inl w
    · exact Or.inr ⟨v, WayIs_pw f h0 h1 h4 ht w1, w2⟩
/-- traits in bounds that grow with the calls -/
def TrB (C : Nat → Int → Int) (a K : Nat) : Prop := ((0 ≤ C a 0 ∧ C a 0 ≤ 5) ∧ (0 ≤ C a 1 ∧ C a 1 ≤ 120) ∧ (0 ≤ C a 2 ∧ C a 2 ≤ 9) ∧ (0 ≤ C a 3 ∧ C a 3 ≤ 20) ∧ (0 ≤ C a 4 ∧ C a 4 ≤ 60) ∧ (-1 ≤ C a 5 ∧ C a 5 ≤ 120)) ∧ (0 ≤ C a 6 ∧ C a 6 ≤ 30 * (K : Int)) ∧ (0 ≤ C a 7 ∧ C a 7 ≤ 120000 * (K : Int))
theorem TrB.ok {a : Nat} (h : TrB C a K) (hK : K ≤ 100) : TrOk C a := by
  obtain ⟨⟨h0, h1, h2, h3, h4, h5⟩, h6, h7⟩ := h
  exact ⟨h0, h1, h2, h3, h4, h5, by omega, by omega⟩
theorem TrB_pw {a a' : Nat} {K' : Nat} (hK : K ≤ K') (h : ∀ k, 0 ≤ k → k < 8 → C' a' k = C a k) (t : TrB C a K) : TrB C' a' K' := by
  obtain ⟨⟨h0, h1, h2, h3, h4, h5⟩, h6, h7⟩ := t
  unfold TrB
  rw [h 0 (by decide) (by decide), h 1 (by decide) (by decide), h 2 (by decide) (by decide), h 3 (by decide) (by decide), h 4 (by decide) (by decide), h 5 (by decide) (by decide), h 6 (by decide) (by decide), h 7 (by decide) (by decide)]
  exact ⟨⟨h0, h1, h2, h3, h4, h5⟩, by omega, by omega⟩
/-- row i of what can be undone -/
def rowA (C : Nat → Int → Int) (b i : Nat) : Nat := b + 7 + ((C (b + 4) 2 - C (b + 4) 3 + (i : Int)) % 8).toNat
def RowOk (C : Nat → Int → Int) (b a i : Nat) (W : Int → Int) (r : Int) (K : Nat) : Prop := C a 0 = W (r + 107 + 10 * (i : Int) + 9) ∧ (0 ≤ C a 0 ∧ C a 0 ≤ 4) ∧ W (r + 107 + 10 * (i : Int) + 8) = C (b + 4) 2 - C (b + 4) 3 + (i : Int) ∧ ∀ s : Nat, (s : Int) < C a 0 → (C a (1 + 2 * (s : Int)) = W (r + 107 + 10 * (i : Int) + s) ∧ C a (2 + 2 * (s : Int)) = W (r + 107 + 10 * (i : Int) + 4 + s)) ∧ (0 ≤ C a (1 + 2 * (s : Int)) ∧ C a (1 + 2 * (s : Int)) ≤ 30 * (K : Int)) ∧ (0 ≤ C a (2 + 2 * (s : Int)) ∧ C a (2 + 2 * (s : Int)) ≤ 120000 * (K : Int))
def Rg (C : Nat → Int → Int) (b : Nat) (W : Int → Int) (r : Int) (K : Nat) : Prop :=
  (∀ k, 0 ≤ k → k < 6 → C (b + 1) k = W (r + k)) ∧
  (∀ c, 0 ≤ c → c < 49 → C (b + 2) c = W (r + 10 + c)) ∧
  (C (b + 4) 1 = W (r + 6)) ∧
  (C (b + 23) 0 = W (r + 7)) ∧
  (C (b + 4) 2 = W (r + 8)) ∧
  (C (b + 4) 3 = W (r + 9)) ∧
  (∀ i : Nat, (i : Int) < C (b + 4) 1 → ∀ k, 0 ≤ k → k < 8 → C (b + 16 + 2 * i) k = W (r + 59 + 4 * k + (i : Int))) ∧
  (∀ i, 0 ≤ i → i < C (b + 23) 0 → (C (b + 24) i = W (r + 91 + i) ∧ C (b + 25) i = W (r + 99 + i)) ∧ (0 ≤ C (b + 24) i ∧ C (b + 24) i ≤ 3) ∧ (0 ≤ C (b + 25) i ∧ C (b + 25) i ≤ 15)) ∧
  (∀ i : Nat, (i : Int) < C (b + 4) 3 → RowOk C b (rowA C b i) i W r K) ∧
  (FlNo C b) ∧
  (0 ≤ C (b + 4) 1 ∧ C (b + 4) 1 ≤ 4) ∧
  (0 ≤ C (b + 4) 2 ∧ C (b + 4) 2 ≤ 30 * (K : Int)) ∧
  (0 ≤ C (b + 4) 3 ∧ C (b + 4) 3 ≤ 8 ∧ C (b + 4) 3 ≤ C (b + 4) 2) ∧
  (0 ≤ C (b + 23) 0 ∧ C (b + 23) 0 ≤ 8) ∧
  (∀ i : Nat, (i : Int) < C (b + 4) 1 → TrB C (b + 16 + 2 * i) K)
theorem Rg.f (h : Rg C b W r K) : ∀ k, 0 ≤ k → k < 6 → C (b + 1) k = W (r + k) := h.1
theorem Rg.t (h : Rg C b W r K) : ∀ c, 0 ≤ c → c < 49 → C (b + 2) c = W (r + 10 + c) := h.2.1
theorem Rg.z (h : Rg C b W r K) : C (b + 4) 1 = W (r + 6) := h.2.2.1
theorem Rg.m (h : Rg C b W r K) : C (b + 23) 0 = W (r + 7) := h.2.2.2.1
theorem Rg.n (h : Rg C b W r K) : C (b + 4) 2 = W (r + 8) := h.2.2.2.2.1
theorem Rg.u (h : Rg C b W r K) : C (b + 4) 3 = W (r + 9) := h.2.2.2.2.2.1
theorem Rg.s (h : Rg C b W r K) : ∀ i : Nat, (i : Int) < C (b + 4) 1 → ∀ k, 0 ≤ k → k < 8 → C (b + 16 + 2 * i) k = W (r + 59 + 4 * k + (i : Int)) := h.2.2.2.2.2.2.1
theorem Rg.no (h : Rg C b W r K) : ∀ i, 0 ≤ i → i < C (b + 23) 0 → (C (b + 24) i = W (r + 91 + i) ∧ C (b + 25) i = W (r + 99 + i)) ∧ (0 ≤ C (b + 24) i ∧ C (b + 24) i ≤ 3) ∧ (0 ≤ C (b + 25) i ∧ C (b + 25) i ≤ 15) := h.2.2.2.2.2.2.2.1
theorem Rg.p (h : Rg C b W r K) : ∀ i : Nat, (i : Int) < C (b + 4) 3 → RowOk C b (rowA C b i) i W r K := h.2.2.2.2.2.2.2.2.1
theorem Rg.fl (h : Rg C b W r K) : FlNo C b := h.2.2.2.2.2.2.2.2.2.1
theorem Rg.z4 (h : Rg C b W r K) : 0 ≤ C (b + 4) 1 ∧ C (b + 4) 1 ≤ 4 := h.2.2.2.2.2.2.2.2.2.2.1
theorem Rg.n4 (h : Rg C b W r K) : 0 ≤ C (b + 4) 2 ∧ C (b + 4) 2 ≤ 30 * (K : Int) := h.2.2.2.2.2.2.2.2.2.2.2.1
theorem Rg.u8 (h : Rg C b W r K) : 0 ≤ C (b + 4) 3 ∧ C (b + 4) 3 ≤ 8 ∧ C (b + 4) 3 ≤ C (b + 4) 2 := h.2.2.2.2.2.2.2.2.2.2.2.2.1
theorem Rg.m8 (h : Rg C b W r K) : 0 ≤ C (b + 23) 0 ∧ C (b + 23) 0 ≤ 8 := h.2.2.2.2.2.2.2.2.2.2.2.2.2.1
theorem Rg.tr (h : Rg C b W r K) : ∀ i : Nat, (i : Int) < C (b + 4) 1 → TrB C (b + 16 + 2 * i) K := h.2.2.2.2.2.2.2.2.2.2.2.2.2.2
/-- a copy, but for what lies elsewhere -/
def CpQ (M M' : Nat → Int → Int) (o b : Nat) : Prop :=
  (M' (b + 1) 0 = M (o + 1) 0 ∧ M' (b + 1) 1 = M (o + 1) 1 ∧ M' (b + 1) 2 = M (o + 1) 2 ∧ M' (b + 1) 3 = M (o + 1) 3 ∧ M' (b + 1) 4 = M (o + 1) 4 ∧ M' (b + 1) 5 = M (o + 1) 5 ∧ M' (b + 1) 8 = M (o + 1) 8) ∧ (∀ c, 0 ≤ c → c < 49 → M' (b + 2) c = M (o + 2) c) ∧
  (M' (b + 4) 1 = M (o + 4) 1 ∧ M' (b + 4) 2 = M (o + 4) 2 ∧ M' (b + 4) 3 = M (o + 4) 3) ∧ (∀ i, i < 4 → ∀ k, 0 ≤ k → k < 8 → M' (b + 16 + 2 * i) k = M (o + 16 + 2 * i) k) ∧ (∀ i, i < 8 → ∀ k, 0 ≤ k → k < 9 → M' (b + 7 + i) k = M (o + 7 + i) k) ∧
  M' (b + 23) 0 = M (o + 23) 0 ∧ (∀ c, 0 ≤ c → c < 8 → M' (b + 24) c = M (o + 24) c ∧ M' (b + 25) c = M (o + 25) c)
theorem CpSt.q (h : CpSt C C' o b) : CpQ C C' o b := ⟨h.1, h.2.1, h.2.2.1, h.2.2.2.1, h.2.2.2.2.1, h.2.2.2.2.2.1, h.2.2.2.2.2.2.1⟩
/-- a copy at another place is told by the same numbers -/
theorem Rg.copy {K' : Nat} (h : Rg C o W r K) (hc : CpQ C C' o b) (hK : K ≤ K') : Rg C' b W r K' := by
  obtain ⟨⟨c0, c1, c2, c3, c4, c5, c8⟩, ct, ⟨b1, b2, b3⟩, cs, cp, cn, cw⟩ := hc
  have z4 := h.z4
  have u8 := h.u8
  have n4 := h.n4
  have m8 := h.m8
  unfold Rg
  refine ⟨?_, ?_, ?_, ?_, ?_, ?_, ?_, ?_, ?_, ?_, ?_, ?_, ?_, ?_, ?_⟩
  · intro k k0 k6
    have e := h.f k k0 k6
    rcases (show k = 0 ∨ k = 1 ∨ k = 2 ∨ k = 3 ∨ k = 4 ∨ k = 5 by omega) with rfl | rfl | rfl | rfl | rfl | rfl
    · rw [c0]; exact e
    · rw [c1]; exact e
    · rw [c2]; exact e
    · rw [c3]; exact e
    · rw [c4]; exact e
    · rw [c5]; exact e
  · intro c h0 h1
    rw [ct c h0 h1]
    exact h.t c h0 h1
  · rw [b1]; exact h.z
  · rw [cn]; exact h.m
  · rw [b2]; exact h.n
  · rw [b3]; exact h.u
  · intro i hi k k0 k8
    rw [b1] at hi
    rw [cs i (by omega) k k0 k8]
    exact h.s i hi k k0 k8
  · intro i i0 i1
    rw [cn] at i1
    have e := cw i i0 (by omega)
    rw [e.1, e.2]
    exact h.no i i0 i1
  · intro i hi
    rw [b3] at hi
    have e := h.p i hi
    have ha : rowA C' b i = b + 7 + ((C (o + 4) 2 - C (o + 4) 3 + (i : Int)) % 8).toNat := by unfold rowA; rw [b2, b3]
    have hk : ((C (o + 4) 2 - C (o + 4) 3 + (i : Int)) % 8).toNat < 8 := by omega
    unfold rowA at e
    rw [ha]
    unfold RowOk at e ⊢
    rw [b2, b3, cp _ hk 0 (by decide) (by decide)]
    obtain ⟨e1, e2, e3, e4⟩ := e
    refine ⟨e1, e2, e3, fun s hs => ?_⟩
    rw [cp _ hk (1 + 2 * (s : Int)) (by omega) (by omega), cp _ hk (2 + 2 * (s : Int)) (by omega) (by omega)]
    obtain ⟨q1, q2, q3⟩ := e4 s hs
    exact ⟨q1, by omega, by omega⟩
  · exact FlNo_pw c0 c1 c2 c3 c4 c5 c8 ct h.fl
  · rw [b1]; exact z4
  · rw [b2]; omega
  · rw [b3, b2]; exact u8
  · rw [cn]; exact m8
  · intro i hi
    rw [b1] at hi
    exact TrB_pw hK (cs i (by omega)) (h.tr i hi)
/-- the same numbers elsewhere tell the same state -/
theorem Rg.words (h : Rg C b W x K) (hw : ∀ k, 0 ≤ k → k < 187 → W' (y + k) = W (x + k)) : Rg C b W' y K := by
  have z4 := h.z4
  have u8 := h.u8
  have m8 := h.m8
  have hw' : ∀ j : Int, y ≤ j → j < y + 187 → W' j = W (x + (j - y)) := fun j h0 h1 => by
    have := hw (j - y) (by omega) (by omega)
    rw [show y + (j - y) = j by omega] at this
    exact this
  unfold Rg
  refine ⟨?_, ?_, ?_, ?_, ?_, ?_, ?_, ?_, ?_, h.fl, z4, h.n4, u8, m8, h.tr⟩
  · intro k k0 k6
    rw [hw k k0 (by omega)]
    exact h.f k k0 k6
  · intro c c0 c1
    rw [hw' _ (by omega) (by omega), show x + (y + 10 + c - y) = x + 10 + c by omega]
    exact h.t c c0 c1
  · rw [hw _ (by omega) (by omega)]; exact h.z
  · rw [hw _ (by omega) (by omega)]; exact h.m
  · rw [hw _ (by omega) (by omega)]; exact h.n
  · rw [hw _ (by omega) (by omega)]; exact h.u
  · intro i hi k k0 k8
    rw [hw' _ (by omega) (by omega), show x + (y + 59 + 4 * k + (i : Int) - y) = x + 59 + 4 * k + i by omega]
    exact h.s i hi k k0 k8
  · intro i i0 i1
    rw [hw' _ (by omega) (by omega), hw' (y + 99 + i) (by omega) (by omega), show x + (y + 91 + i - y) = x + 91 + i by omega, show x + (y + 99 + i - y) = x + 99 + i by omega]
    exact h.no i i0 i1
  · intro i hi
    have e := h.p i hi
    unfold RowOk at e ⊢
    obtain ⟨e1, e2, e3, e4⟩ := e
    rw [hw' (y + 107 + 10 * (i : Int) + 9) (by omega) (by omega), hw' (y + 107 + 10 * (i : Int) + 8) (by omega) (by omega), show x + (y + 107 + 10 * (i : Int) + 9 - y) = x + 107 + 10 * i + 9 by omega, show x + (y + 107 + 10 * (i : Int) + 8 - y) = x + 107 + 10 * i + 8 by omega]
    refine ⟨e1, e2, e3, fun s hs => ?_⟩
    rw [hw' (y + 107 + 10 * (i : Int) + s) (by omega) (by omega), hw' (y + 107 + 10 * (i : Int) + 4 + s) (by omega) (by omega), show x + (y + 107 + 10 * (i : Int) + s - y) = x + 107 + 10 * i + s by omega, show x + (y + 107 + 10 * (i : Int) + 4 + s - y) = x + 107 + 10 * i + 4 + s by omega]
    exact e4 s hs
/-- what is elsewhere does not matter -/
theorem Rg.cg {K' : Nat} (h : Rg C b W r K) (hc : ∀ a, b ≤ a → a < b + 26 → a ≠ b + 3 → C' a = C a) (hK : K ≤ K') : Rg C' b W r K' := by
  have e1 := hc (b + 1) (by omega) (by omega) (by omega)
  have e2 := hc (b + 2) (by omega) (by omega) (by omega)
  have e4 := hc (b + 4) (by omega) (by omega) (by omega)
  have e23 := hc (b + 23) (by omega) (by omega) (by omega)
  have e24 := hc (b + 24) (by omega) (by omega) (by omega)
  have e25 := hc (b + 25) (by omega) (by omega) (by omega)
  refine h.copy (b := b) ?_ hK
  unfold CpQ
  rw [e1, e2, e4, e23, e24, e25]
  exact ⟨⟨rfl, rfl, rfl, rfl, rfl, rfl, rfl⟩, fun _ _ _ => rfl, ⟨rfl, rfl, rfl⟩, fun i hi k _ _ => by rw [hc (b + 16 + 2 * i) (by omega) (by omega) (by omega)], fun i hi k _ _ => by rw [hc (b + 7 + i) (by omega) (by omega) (by omega)], rfl, fun _ _ _ => ⟨rfl, rfl⟩⟩
end Rel
end
section
/-! ALL THAT THE CLASS AND THE MODEL HAVE IN COMMON -/
section Glob
variable {S : List Int} {T : List Sh} {M N : Nat → Int → Int} {K : Nat} {h : Hp}
def TxOk (M : Nat → Int → Int) : Prop := M 56 0 = M 76 3 ∧ (0 ≤ M 56 0 ∧ M 56 0 ≤ 150) ∧ ∀ i, 0 ≤ i → i < M 56 0 → M 57 i = M 79 i ∧ 0 ≤ M 57 i ∧ M 57 i ≤ 127
def ReOk (M : Nat → Int → Int) (K : Nat) : Prop := ∀ k, 0 ≤ k → k < 3 → M 59 k = M 80 k ∧ 0 ≤ M 59 k ∧ M 59 k ≤ (K : Int)
def FrOk (M : Nat → Int → Int) : Prop := (M 0 7 = M 76 5 ∧ M 0 8 = M 76 6) ∧ I64 (M 0 7) ∧ I64 (M 0 8)
def ImOk (T : List Sh) (M : Nat → Int → Int) (K : Nat) : Prop := ∃ ri : Nat → Option Nat, T[55]? = some (13, 2, ri) ∧ (∀ i b, i < 2 → ri i = some b → (b = 88 ∨ b = 115) ∧ isSt T b ∧ M 78 (i : Int) = 1 ∧ Rg M b (M 77) (187 * (1 + (i : Int))) K) ∧ (∀ i, i < 2 → ri i = none → M 78 (i : Int) = 0) ∧ (∀ b, ri 0 = some b → ri 1 = some b → False) ∧ ((ri 0 = none ∧ ri 1 = none ∧ T.length = 88) ∨ (ri 0 = none ∧ ri 1 = some 88 ∧ T.length = 115) ∨ (ri 0 = some 88 ∧ ri 1 = none ∧ T.length = 115) ∨ ((ri 0 = some 88 ∧ ri 1 = some 115 ∨ ri 0 = some 115 ∧ ri 1 = some 88) ∧ T.length = 142))
def Gl (T : List Sh) (M : Nat → Int → Int) (K : Nat) : Prop := isX T ∧ isM T ∧ Rg M 1 (M 77) 0 K ∧ TxOk M ∧ ReOk M K ∧ FrOk M ∧ ImOk T M K
theorem Gl.x (g : Gl T M K) : isX T := g.1
theorem Gl.m (g : Gl T M K) : isM T := g.2.1
theorem Gl.rg (g : Gl T M K) : Rg M 1 (M 77) 0 K := g.2.2.1
theorem Gl.tx (g : Gl T M K) : TxOk M := g.2.2.2.1
theorem Gl.re (g : Gl T M K) : ReOk M K := g.2.2.2.2.1
theorem Gl.fr (g : Gl T M K) : FrOk M := g.2.2.2.2.2.1
theorem Gl.im (g : Gl T M K) : ImOk T M K := g.2.2.2.2.2.2
theorem ImOk.cg {K' : Nat} (h : ImOk T M K) (h78 : N 78 = M 78) (h77 : ∀ k, 187 ≤ k → k < 561 → N 77 k = M 77 k) (h88 : ∀ a, 88 ≤ a → N a = M a) (hK : K ≤ K') : ImOk T N K' := by
  obtain ⟨ri, e, i1, i2, i3, i4⟩ := h
  refine ⟨ri, e, fun i b hi hb => ?_, fun i hi hb => by rw [h78]; exact i2 i hi hb, i3, i4⟩
  obtain ⟨j1, j2, j3, j4⟩ := i1 i b hi hb
  refine ⟨j1, j2, by rw [h78]; exact j3, ?_⟩
  have j5 := j4.cg (C' := N) (fun a a1 a2 _ => h88 a (by omega)) hK
  exact j5.words (fun k k0 k1 => h77 _ (by omega) (by omega))
/-- what a call leaves as it was -/
def Kept (M N : Nat → Int → Int) : Prop := (N 56 0 = M 56 0 ∧ N 57 = M 57 ∧ N 76 3 = M 76 3 ∧ N 79 = M 79) ∧ (N 0 7 = M 0 7 ∧ N 0 8 = M 0 8 ∧ N 76 5 = M 76 5 ∧ N 76 6 = M 76 6) ∧ N 78 = M 78 ∧ (∀ k, 187 ≤ k → k < 561 → N 77 k = M 77 k) ∧ (∀ a, 88 ≤ a → N a = M a)
theorem TxOk.cg (h : TxOk M) (h1 : N 56 0 = M 56 0) (h2 : N 57 = M 57) (h3 : N 76 3 = M 76 3) (h4 : N 79 = M 79) : TxOk N := by
  unfold TxOk
  rw [h1, h2, h3, h4]
  exact h
theorem FrOk.cg (h : FrOk M) (h1 : N 0 7 = M 0 7) (h2 : N 0 8 = M 0 8) (h3 : N 76 5 = M 76 5) (h4 : N 76 6 = M 76 6) : FrOk N := by
  unfold FrOk
  rw [h1, h2, h3, h4]
  exact h
theorem ReOk.cg {K' : Nat} (h : ReOk M K) (h1 : N 59 = M 59) (h2 : N 80 = M 80) (hK : K ≤ K') : ReOk N K' := by
  unfold ReOk
  rw [h1, h2]
  intro k k0 k3
  have := h k k0 k3
  omega
theorem Gl.upd {K' : Nat} (g : Gl T M K) (hk : Kept M N) (hr : Rg N 1 (N 77) 0 K') (he : ReOk N K') (hK : K ≤ K') : Gl T N K' := by
  obtain ⟨⟨t1, t2, t3, t4⟩, ⟨f1, f2, f3, f4⟩, k78, k77, k88⟩ := hk
  exact ⟨g.x, g.m, hr, g.tx.cg t1 t2 t3 t4, he, g.fr.cg f1 f2 f3 f4, g.im.cg k78 k77 k88 hK⟩
/-- one was refused, and both have counted it -/
theorem Gl.bad {k : Int} (g : Gl T M K) (k0 : 0 ≤ k) (k3 : k < 3) : Gl T (um (um M 59 k (M 59 k + 1)) 80 k (M 80 k + 1)) (K + 1) := by
  have e : ∀ a, a ≠ 59 → a ≠ 80 → um (um M 59 k (M 59 k + 1)) 80 k (M 80 k + 1) a = M a := fun a a1 a2 => by rw [um_fn a2, um_fn a1]
  refine g.upd ⟨⟨by rw [e _ (by decide) (by decide)], e _ (by decide) (by decide), by rw [e _ (by decide) (by decide)], e _ (by decide) (by decide)⟩, ⟨by rw [e _ (by decide) (by decide)], by rw [e _ (by decide) (by decide)], by rw [e _ (by decide) (by decide)], by rw [e _ (by decide) (by decide)]⟩, e _ (by decide) (by decide), fun _ _ _ => by rw [e _ (by decide) (by decide)], fun a ha => e a (by omega) (by omega)⟩ ?_ ?_ (by omega)
  · rw [e 77 (by decide) (by decide)]
    exact g.rg.cg (fun a a1 a2 _ => e a (by omega) (by omega)) (by omega)
  · intro j j0 j3
    have := g.re j j0 j3
    by_cases ej : j = k
    · subst ej
      rw [um_eq, um_na (by decide), um_eq]
      omega
    · rw [um_ni ej, um_ni ej, um_ni ej, um_ni ej]
      omega
/-- a call of both: the same answer, and they agree again -/
def Op (S : List Int) (mc mm : Nat) (vs : List AV) (T : List Sh) (M : Nat → Int → Int) (K : Nat) : Prop := ∃ v T1 M1 M2, I32 v ∧ Cl S mc (vR 0 :: vs) (T, M) (some (vI v), (T1, M1)) ∧ Cl S mm (vR 76 :: vs) (T1, M1) (some (vI v), (T1, M2)) ∧ Gl T1 M2 (K + 1)
theorem Op.bad {mc mm : Nat} {vs : List AV} {v k : Int} (g : Gl T M K) (iv : I32 v) (k0 : 0 ≤ k) (k3 : k < 3) (c1 : Cl S mc (vR 0 :: vs) (T, M) (some (vI v), (T, um M 59 k (M 59 k + 1)))) (c2 : ∀ M1, M1 80 = M 80 → Cl S mm (vR 76 :: vs) (T, M1) (some (vI v), (T, um M1 80 k (M1 80 k + 1)))) (hd : True) : Op S mc mm vs T M K := by
  refine ⟨v, T, _, _, iv, c1, c2 _ (um_fn (by decide)), ?_⟩
  rw [um_na (by decide)]
  exact g.bad k0 k3
theorem c_bad {v : Int} (hX : isX T) : Cl S 105 [vR 0, vI v] (T, M) (some (vI v), (T, um M 59 0 (M 59 0 + 1))) := by
  refine ⟨_, rfl, ?_⟩
  refine Rn.ri rfl (X_ald rfl <| X_gr 7 4 hX.ob ⟨rfl, rfl⟩ rfl rfl <| X_i <| X_du2 <| X_ia hX.re (by first | omega | (simp (disch := omega) only [um_eq, um_na, um_ni, Int.toNat_natCast]; omega)) (by first | omega | (simp (disch := omega) only [um_eq, um_na, um_ni, Int.toNat_natCast]; omega)) rfl <| X_i <| X_add <| X_is hX.re (by first | omega | (simp (disch := omega) only [um_eq, um_na, um_ni, Int.toNat_natCast]; omega)) (by first | omega | (simp (disch := omega) only [um_eq, um_na, um_ni, Int.toNat_natCast]; omega)) rfl <| X_ild rfl <| X_nil) rfl
theorem c_no (hX : isX T) : Cl S 106 [vR 0] (T, M) (some (vI (-3)), (T, um M 59 1 (M 59 1 + 1))) := by
  refine ⟨_, rfl, ?_⟩
  refine Rn.ri rfl (X_ald rfl <| X_gr 7 4 hX.ob ⟨rfl, rfl⟩ rfl rfl <| X_i <| X_du2 <| X_ia hX.re (by first | omega | (simp (disch := omega) only [um_eq, um_na, um_ni, Int.toNat_natCast]; omega)) (by first | omega | (simp (disch := omega) only [um_eq, um_na, um_ni, Int.toNat_natCast]; omega)) rfl <| X_i <| X_add <| X_is hX.re (by first | omega | (simp (disch := omega) only [um_eq, um_na, um_ni, Int.toNat_natCast]; omega)) (by first | omega | (simp (disch := omega) only [um_eq, um_na, um_ni, Int.toNat_natCast]; omega)) rfl <| X_i <| X_nil) rfl
theorem c_full (hX : isX T) : Cl S 107 [vR 0] (T, M) (some (vI (-4)), (T, um M 59 2 (M 59 2 + 1))) := by
  refine ⟨_, rfl, ?_⟩
  refine Rn.ri rfl (X_ald rfl <| X_gr 7 4 hX.ob ⟨rfl, rfl⟩ rfl rfl <| X_i <| X_du2 <| X_ia hX.re (by first | omega | (simp (disch := omega) only [um_eq, um_na, um_ni, Int.toNat_natCast]; omega)) (by first | omega | (simp (disch := omega) only [um_eq, um_na, um_ni, Int.toNat_natCast]; omega)) rfl <| X_i <| X_add <| X_is hX.re (by first | omega | (simp (disch := omega) only [um_eq, um_na, um_ni, Int.toNat_natCast]; omega)) (by first | omega | (simp (disch := omega) only [um_eq, um_na, um_ni, Int.toNat_natCast]; omega)) rfl <| X_i <| X_nil) rfl
theorem c_wY {v lo hi : Int} (iv : I32 v) (il : I32 lo) (ih : I32 hi) (hc : lo ≤ v ∧ v ≤ hi) : Cl S 103 [vI v, vI lo, vI hi] h (some (vI 1), h) := by
  have := c_within (S := S) (h := h) iv il ih
  rw [if_pos hc] at this
  exact this
theorem c_wN {v lo hi : Int} (iv : I32 v) (il : I32 lo) (ih : I32 hi) (hc : ¬ (lo ≤ v ∧ v ≤ hi)) : Cl S 103 [vI v, vI lo, vI hi] h (some (vI 0), h) := by
  have := c_within (S := S) (h := h) iv il ih
  rw [if_neg hc] at this
  exact this
theorem c_iY {v lo hi : Int} (iv : I64 v) (il : I64 lo) (ih : I64 hi) (hc : lo ≤ v ∧ v ≤ hi) : Cl S 116 [vL v, vL lo, vL hi] h (some (vI 1), h) := by
  have := c_in (S := S) (h := h) iv il ih
  rw [if_pos hc] at this
  exact this
theorem c_iN {v lo hi : Int} (iv : I64 v) (il : I64 lo) (ih : I64 hi) (hc : ¬ (lo ≤ v ∧ v ≤ hi)) : Cl S 116 [vL v, vL lo, vL hi] h (some (vI 0), h) := by
  have := c_in (S := S) (h := h) iv il ih
  rw [if_neg hc] at this
  exact this
end Glob
end
section
/-! CALLS THAT CHANGE THE ROOM -/
section Ops1
variable {S : List Int} {T : List Sh} {M N C C' : Nat → Int → Int} {b : Nat} {W W' : Int → Int} {r : Int} {K K' : Nat}
theorem Kept.of (h : ∀ a, (a = 0 ∨ a = 56 ∨ a = 57 ∨ a = 78 ∨ a = 79 ∨ 88 ≤ a) → N a = M a) (h3 : N 76 3 = M 76 3) (h5 : N 76 5 = M 76 5) (h6 : N 76 6 = M 76 6) (h77 : ∀ k, 187 ≤ k → k < 561 → N 77 k = M 77 k) : Kept M N :=
  ⟨⟨by rw [h 56 (by omega)], h 57 (by omega), h3, h 79 (by omega)⟩, ⟨by rw [h 0 (by omega)], by rw [h 0 (by omega)], h5, h6⟩, h 78 (by omega), h77, fun a ha => h a (by omega)⟩
theorem Rg.floor (h : Rg C b W r K) (hK : K ≤ K') (hc : ∀ a, b + 4 ≤ a → a < b + 26 → C' a = C a) (hw : ∀ k, (6 ≤ k ∧ k < 10) ∨ (59 ≤ k ∧ k < 187) → W' (r + k) = W (r + k)) (hf : ∀ k, 0 ≤ k → k < 6 → C' (b + 1) k = W' (r + k)) (ht : ∀ c, 0 ≤ c → c < 49 → C' (b + 2) c = W' (r + 10 + c)) (hl : FlNo C' b) : Rg C' b W' r K' := by
  have z4 := h.z4
  have u8 := h.u8
  have m8 := h.m8
  have n4 := h.n4
  have e4 := hc (b + 4) (by omega) (by omega)
  have e23 := hc (b + 23) (by omega) (by omega)
  have e24 := hc (b + 24) (by omega) (by omega)
  have e25 := hc (b + 25) (by omega) (by omega)
  have hw' : ∀ j : Int, (r + 6 ≤ j ∧ j < r + 10) ∨ (r + 59 ≤ j ∧ j < r + 187) → W' j = W j := fun j hj => by
    have := hw (j - r) (by omega)
    rw [show r + (j - r) = j by omega] at this
    exact this
  unfold Rg
  rw [e4, e23, e24, e25]
  refine ⟨hf, ht, ?_, ?_, ?_, ?_, ?_, ?_, ?_, hl, z4, by omega, u8, m8, ?_⟩
  · rw [hw' _ (by omega)]; exact h.z
  · rw [hw' _ (by omega)]; exact h.m
  · rw [hw' _ (by omega)]; exact h.n
  · rw [hw' _ (by omega)]; exact h.u
  · intro i hi k k0 k8
    rw [hc (b + 16 + 2 * i) (by omega) (by omega), hw' _ (by omega)]
    exact h.s i hi k k0 k8
  · intro i i0 i1
    rw [hw' (r + 91 + i) (by omega), hw' (r + 99 + i) (by omega)]
    exact h.no i i0 i1
  · intro i hi
    have e := h.p i hi
    have ea : rowA C' b i = rowA C b i := by unfold rowA; rw [e4]
    have hk : ((C (b + 4) 2 - C (b + 4) 3 + (i : Int)) % 8).toNat < 8 := by omega
    rw [ea]
    have er : C' (rowA C b i) = C (rowA C b i) := hc _ (by unfold rowA; omega) (by unfold rowA; omega)
    unfold RowOk at e ⊢
    rw [er, e4, hw' (r + 107 + 10 * (i : Int) + 9) (by omega), hw' (r + 107 + 10 * (i : Int) + 8) (by omega)]
    obtain ⟨e1, e2, e3, e5⟩ := e
    refine ⟨e1, e2, e3, fun s hs => ?_⟩
    rw [hw' (r + 107 + 10 * (i : Int) + s) (by omega), hw' (r + 107 + 10 * (i : Int) + 4 + s) (by omega)]
    obtain ⟨q1, q2, q3⟩ := e5 s hs
    exact ⟨q1, by omega, by omega⟩
  · intro i hi
    exact TrB_pw hK (fun k _ _ => by rw [hc (b + 16 + 2 * i) (by omega) (by omega)]) (h.tr i hi)
/-- what a floor's row of six must keep -/
theorem FlOk.of (h0 : 1 ≤ C (b + 1) 0 ∧ C (b + 1) 0 ≤ 7) (h1 : 1 ≤ C (b + 1) 1 ∧ C (b + 1) 1 ≤ 7) (h2 : 0 ≤ C (b + 1) 2 ∧ C (b + 1) 2 < C (b + 1) 0 * C (b + 1) 1) (h3 : 0 ≤ C (b + 1) 3 ∧ C (b + 1) 3 < C (b + 1) 0 * C (b + 1) 1) (h4 : 0 ≤ C (b + 1) 4 ∧ C (b + 1) 4 ≤ 127) (h5 : 0 ≤ C (b + 1) 5 ∧ C (b + 1) 5 ≤ 1) (h6 : ∀ c, 0 ≤ c → c < 49 → 0 ≤ C (b + 2) c ∧ C (b + 2) c ≤ 9) : FlOk C b := ⟨h0, h1, h2, h3, h4, h5, h6⟩
theorem Gl.w (g : Gl T M K) : (1 ≤ M 2 0 ∧ M 2 0 ≤ 7) ∧ (1 ≤ M 2 1 ∧ M 2 1 ≤ 7) := ⟨g.rg.fl.1.1, g.rg.fl.1.2.1⟩
theorem Gl.wm (g : Gl T M K) : M 77 0 = M 2 0 ∧ M 77 1 = M 2 1 := by
  have h0 := g.rg.f 0 (by decide) (by decide)
  have h1 := g.rg.f 1 (by decide) (by decide)
  exact ⟨h0.symm, h1.symm⟩
theorem op_room {w hh : Int} (g : Gl T M K) (iw : I32 w) (ih : I32 hh) : Op S 68 128 [vI w, vI hh] T M K := by
  have hX := g.x
  have hM := g.m
  by_cases h1 : 1 ≤ w ∧ w ≤ 7
  · by_cases h2 : 1 ≤ hh ∧ hh ≤ 7
    · obtain ⟨M1, c1, ⟨f0, f1, f2, f3, f4, f5, f8, ft⟩, ⟨b1, b2, b3⟩, bn, fr⟩ := c_startAnew (S := S) (M := M) (w := w) (h := hh) hX.s1
      obtain ⟨M2, c2, ⟨m0, m1, m3, mk⟩, mo, mf⟩ := c_begins (S := S) (M := M1) (r := 0) (w := w) (hh := hh) hM (by decide) (by decide)
      have p1 : w * hh ≤ 7 * 7 := Int.mul_le_mul h1.2 h2.2 (by omega) (by omega)
      have p0 : 1 * 1 ≤ w * hh := Int.mul_le_mul h1.1 h2.1 (by omega) (by omega)
      refine ⟨1, T, M1, M2, by decide, ⟨_, rfl, ?_⟩, ⟨_, rfl, ?_⟩, ?_⟩
      · refine Rn.cal rfl (X_ild rfl <| X_i <| X_i <| X_nil) (vs := [_, _, _]) (rest := []) rfl rfl rfl rfl (c_wY (by omega) (by decide) (by decide) h1) ?_
        refine Rn.ieq rfl (X_nil) (by first | omega | (simp (disch := omega) only [um_eq, um_na, um_ni, Int.toNat_natCast]; omega)) (fun hc => absurd hc (by first | omega | decide | (simp (disch := omega) only [um_eq, um_na, um_ni, Int.toNat_natCast]; omega))) (fun hc => ?_)
        refine Rn.cal rfl (X_ild rfl <| X_i <| X_i <| X_nil) (vs := [_, _, _]) (rest := []) rfl rfl rfl rfl (c_wY (by omega) (by decide) (by decide) h2) ?_
        refine Rn.ine rfl (X_nil) (by first | omega | (simp (disch := omega) only [um_eq, um_na, um_ni, Int.toNat_natCast]; omega)) (fun hc => ?_) (fun hc => absurd hc (by first | omega | decide | (simp (disch := omega) only [um_eq, um_na, um_ni, Int.toNat_natCast]; omega)))
        refine Rn.cal rfl (X_ald rfl <| X_gr 7 0 hX.ob ⟨rfl, rfl⟩ rfl rfl <| X_ild rfl <| X_ild rfl <| X_nil) (vs := [_, _, _]) (rest := []) rfl rfl rfl (rcv_v hX.s1.st (by decide)) (c1) ?_
        refine Rn.ri rfl (X_i <| X_nil) rfl
      · refine Rn.cal rfl (X_ild rfl <| X_i2l (by first | omega | (simp (disch := omega) only [um_eq, um_na, um_ni, Int.toNat_natCast]; omega)) <| X_l <| X_l <| X_nil) (vs := [_, _, _]) (rest := []) rfl rfl rfl rfl (c_iY (by omega) (by decide) (by decide) h1) ?_
        refine Rn.ieq rfl (X_nil) (by first | omega | (simp (disch := omega) only [um_eq, um_na, um_ni, Int.toNat_natCast]; omega)) (fun hc => absurd hc (by first | omega | decide | (simp (disch := omega) only [um_eq, um_na, um_ni, Int.toNat_natCast]; omega))) (fun hc => ?_)
        refine Rn.cal rfl (X_ild rfl <| X_i2l (by first | omega | (simp (disch := omega) only [um_eq, um_na, um_ni, Int.toNat_natCast]; omega)) <| X_l <| X_l <| X_nil) (vs := [_, _, _]) (rest := []) rfl rfl rfl rfl (c_iY (by omega) (by decide) (by decide) h2) ?_
        refine Rn.ine rfl (X_nil) (by first | omega | (simp (disch := omega) only [um_eq, um_na, um_ni, Int.toNat_natCast]; omega)) (fun hc => ?_) (fun hc => absurd hc (by first | omega | decide | (simp (disch := omega) only [um_eq, um_na, um_ni, Int.toNat_natCast]; omega)))
        refine Rn.cal rfl (X_ald rfl <| X_i <| X_ild rfl <| X_ild rfl <| X_nil) (vs := [_, _, _, _]) (rest := []) rfl rfl rfl (rcv_v hM.ob (by decide)) (c2) ?_
        refine Rn.ri rfl (X_i <| X_nil) rfl
      · have e : ∀ a, a ≠ 2 → a ≠ 3 → a ≠ 5 → a ≠ 24 → a ≠ 77 → M2 a = M a := fun a a1 a2 a3 a4 a5 => by rw [mf a a5, fr a a1 a2 a3 a4]
        have e76 := e 76 (by decide) (by decide) (by decide) (by decide) (by decide)
        refine g.upd (Kept.of (fun a ha => e a (by omega) (by omega) (by omega) (by omega) (by omega)) (by rw [e76]) (by rw [e76]) (by rw [e76]) (fun k k0 k1 => by rw [mo k (by omega), fr 77 (by decide) (by decide) (by decide) (by decide)])) ?_ (g.re.cg (e _ (by decide) (by decide) (by decide) (by decide) (by decide)) (e _ (by decide) (by decide) (by decide) (by decide) (by decide)) (by omega)) (by omega)
        have n2 : M2 2 = M1 2 := mf _ (by decide)
        have n3 : M2 3 = M1 3 := mf _ (by decide)
        have n5 : M2 5 = M1 5 := mf _ (by decide)
        have n24 : M2 24 = M1 24 := mf _ (by decide)
        have mk' : ∀ k, 0 ≤ k → k < 187 → k ≠ 0 → k ≠ 1 → k ≠ 3 → M2 77 k = 0 := fun k a b c d e => by
          have := mk k a b c d e
          rw [Int.zero_add] at this
          exact this
        unfold Rg
        show (∀ k, 0 ≤ k → k < 6 → M2 2 k = M2 77 (0 + k)) ∧ (∀ c, 0 ≤ c → c < 49 → M2 3 c = M2 77 (0 + 10 + c)) ∧ M2 5 1 = M2 77 6 ∧ M2 24 0 = M2 77 7 ∧ M2 5 2 = M2 77 8 ∧ M2 5 3 = M2 77 9 ∧ (∀ i : Nat, (i : Int) < M2 5 1 → ∀ k, 0 ≤ k → k < 8 → M2 (1 + 16 + 2 * i) k = M2 77 (0 + 59 + 4 * k + (i : Int))) ∧ (∀ i, 0 ≤ i → i < M2 24 0 → (M2 25 i = M2 77 (0 + 91 + i) ∧ M2 26 i = M2 77 (0 + 99 + i)) ∧ (0 ≤ M2 25 i ∧ M2 25 i ≤ 3) ∧ (0 ≤ M2 26 i ∧ M2 26 i ≤ 15)) ∧ (∀ i : Nat, (i : Int) < M2 5 3 → RowOk M2 1 (rowA M2 1 i) i (M2 77) 0 (K + 1)) ∧ FlNo M2 1 ∧ (0 ≤ M2 5 1 ∧ M2 5 1 ≤ 4) ∧ (0 ≤ M2 5 2 ∧ M2 5 2 ≤ 30 * ((K + 1 : Nat) : Int)) ∧ (0 ≤ M2 5 3 ∧ M2 5 3 ≤ 8 ∧ M2 5 3 ≤ M2 5 2) ∧ (0 ≤ M2 24 0 ∧ M2 24 0 ≤ 8) ∧ ∀ i : Nat, (i : Int) < M2 5 1 → TrB M2 (1 + 16 + 2 * i) (K + 1)
        have b1 : M1 5 1 = 0 := b1
        have b2 : M1 5 2 = 0 := b2
        have b3 : M1 5 3 = 0 := b3
        have bn : M1 24 0 = 0 := bn
        have f0 : M1 2 0 = w := f0
        have f1 : M1 2 1 = hh := f1
        have f2 : M1 2 2 = 0 := f2
        have f3 : M1 2 3 = w * hh - 1 := f3
        have f4 : M1 2 4 = 0 := f4
        have f5 : M1 2 5 = 0 := f5
        have f8 : M1 2 8 = -1 := f8
        have ft : ∀ c, 0 ≤ c → c < 49 → M1 3 c = 0 := ft
        rw [n5, n24, b1, b2, b3, bn]
        refine ⟨?_, ?_, (mk' 6 (by decide) (by decide) (by decide) (by decide) (by decide)).symm, (mk' 7 (by decide) (by decide) (by decide) (by decide) (by decide)).symm, (mk' 8 (by decide) (by decide) (by decide) (by decide) (by decide)).symm, (mk' 9 (by decide) (by decide) (by decide) (by decide) (by decide)).symm, fun i hi => by omega, fun i i0 i1 => by omega, fun i hi => by omega, ⟨?_, Or.inl ?_⟩, by omega, by omega, by omega, by omega, fun i hi => by omega⟩
        · intro k k0 k6
          rw [n2, Int.zero_add]
          rcases (show k = 0 ∨ k = 1 ∨ k = 2 ∨ k = 3 ∨ k = 4 ∨ k = 5 by omega) with rfl | rfl | rfl | rfl | rfl | rfl
          · rw [f0, m0]
          · rw [f1]; exact m1.symm
          · rw [f2, mk' 2 (by decide) (by decide) (by decide) (by decide) (by decide)]
          · rw [f3]; exact m3.symm
          · rw [f4, mk' 4 (by decide) (by decide) (by decide) (by decide) (by decide)]
          · rw [f5, mk' 5 (by decide) (by decide) (by decide) (by decide) (by decide)]
        · intro c c0 c1
          rw [n3, ft c c0 c1, mk' _ (by omega) (by omega) (by omega) (by omega) (by omega)]
        · refine FlOk.of ?_ ?_ ?_ ?_ ?_ ?_ ?_
          · show 1 ≤ M2 2 0 ∧ M2 2 0 ≤ 7
            rw [n2, f0]; exact h1
          · show 1 ≤ M2 2 1 ∧ M2 2 1 ≤ 7
            rw [n2, f1]; exact h2
          · show 0 ≤ M2 2 2 ∧ M2 2 2 < M2 2 0 * M2 2 1
            rw [n2, f0, f1, f2]; omega
          · show 0 ≤ M2 2 3 ∧ M2 2 3 < M2 2 0 * M2 2 1
            rw [n2, f0, f1, f3]; omega
          · show 0 ≤ M2 2 4 ∧ M2 2 4 ≤ 127
            rw [n2, f4]; decide
          · show 0 ≤ M2 2 5 ∧ M2 2 5 ≤ 1
            rw [n2, f5]; decide
          · intro c c0 c1
            show 0 ≤ M2 3 c ∧ M2 3 c ≤ 9
            rw [n3, ft c c0 c1]; decide
        · show M2 2 8 = -1
          rw [n2]; exact f8
    · refine Op.bad (v := -2) (k := 0) g (by decide) (by decide) (by decide) ⟨_, rfl, ?_⟩ (fun M1 h80 => ⟨_, rfl, ?_⟩) trivial
      · refine Rn.cal rfl (X_ild rfl <| X_i <| X_i <| X_nil) (vs := [_, _, _]) (rest := []) rfl rfl rfl rfl (c_wY (by omega) (by decide) (by decide) h1) ?_
        refine Rn.ieq rfl (X_nil) (by first | omega | (simp (disch := omega) only [um_eq, um_na, um_ni, Int.toNat_natCast]; omega)) (fun hc => absurd hc (by first | omega | decide | (simp (disch := omega) only [um_eq, um_na, um_ni, Int.toNat_natCast]; omega))) (fun hc => ?_)
        refine Rn.cal rfl (X_ild rfl <| X_i <| X_i <| X_nil) (vs := [_, _, _]) (rest := []) rfl rfl rfl rfl (c_wN (by omega) (by decide) (by decide) h2) ?_
        refine Rn.ine rfl (X_nil) (by first | omega | (simp (disch := omega) only [um_eq, um_na, um_ni, Int.toNat_natCast]; omega)) (fun hc => absurd hc (by first | omega | decide | (simp (disch := omega) only [um_eq, um_na, um_ni, Int.toNat_natCast]; omega))) (fun hc => ?_)
        refine Rn.cal rfl (X_ald rfl <| X_i <| X_nil) (vs := [_, _]) (rest := []) rfl rfl rfl (rcv_v hX.ob (by decide)) (c_bad hX) ?_
        refine Rn.ri rfl (X_nil) rfl
      · refine Rn.cal rfl (X_ild rfl <| X_i2l (by first | omega | (simp (disch := omega) only [um_eq, um_na, um_ni, Int.toNat_natCast]; omega)) <| X_l <| X_l <| X_nil) (vs := [_, _, _]) (rest := []) rfl rfl rfl rfl (c_iY (by omega) (by decide) (by decide) h1) ?_
        refine Rn.ieq rfl (X_nil) (by first | omega | (simp (disch := omega) only [um_eq, um_na, um_ni, Int.toNat_natCast]; omega)) (fun hc => absurd hc (by first | omega | decide | (simp (disch := omega) only [um_eq, um_na, um_ni, Int.toNat_natCast]; omega))) (fun hc => ?_)
        refine Rn.cal rfl (X_ild rfl <| X_i2l (by first | omega | (simp (disch := omega) only [um_eq, um_na, um_ni, Int.toNat_natCast]; omega)) <| X_l <| X_l <| X_nil) (vs := [_, _, _]) (rest := []) rfl rfl rfl rfl (c_iN (by omega) (by decide) (by decide) h2) ?_
        refine Rn.ine rfl (X_nil) (by first | omega | (simp (disch := omega) only [um_eq, um_na, um_ni, Int.toNat_natCast]; omega)) (fun hc => absurd hc (by first | omega | decide | (simp (disch := omega) only [um_eq, um_na, um_ni, Int.toNat_natCast]; omega))) (fun hc => ?_)
        refine Rn.cal rfl (X_ald rfl <| X_nil) (vs := [_]) (rest := []) rfl rfl rfl (rcv_v hM.ob (by decide)) (c_mbad hM) ?_
        refine Rn.ri rfl (X_nil) rfl
  · refine Op.bad (v := -2) (k := 0) g (by decide) (by decide) (by decide) ⟨_, rfl, ?_⟩ (fun M1 h80 => ⟨_, rfl, ?_⟩) trivial
    · refine Rn.cal rfl (X_ild rfl <| X_i <| X_i <| X_nil) (vs := [_, _, _]) (rest := []) rfl rfl rfl rfl (c_wN (by omega) (by decide) (by decide) h1) ?_
      refine Rn.ieq rfl (X_nil) (by first | omega | (simp (disch := omega) only [um_eq, um_na, um_ni, Int.toNat_natCast]; omega)) (fun hc => ?_) (fun hc => absurd hc (by first | omega | decide | (simp (disch := omega) only [um_eq, um_na, um_ni, Int.toNat_natCast]; omega)))
      refine Rn.cal rfl (X_ald rfl <| X_i <| X_nil) (vs := [_, _]) (rest := []) rfl rfl rfl (rcv_v hX.ob (by decide)) (c_bad hX) ?_
      refine Rn.ri rfl (X_nil) rfl
    · refine Rn.cal rfl (X_ild rfl <| X_i2l (by first | omega | (simp (disch := omega) only [um_eq, um_na, um_ni, Int.toNat_natCast]; omega)) <| X_l <| X_l <| X_nil) (vs := [_, _, _]) (rest := []) rfl rfl rfl rfl (c_iN (by omega) (by decide) (by decide) h1) ?_
      refine Rn.ieq rfl (X_nil) (by first | omega | (simp (disch := omega) only [um_eq, um_na, um_ni, Int.toNat_natCast]; omega)) (fun hc => ?_) (fun hc => absurd hc (by first | omega | decide | (simp (disch := omega) only [um_eq, um_na, um_ni, Int.toNat_natCast]; omega)))
      refine Rn.cal rfl (X_ald rfl <| X_nil) (vs := [_]) (rest := []) rfl rfl rfl (rcv_v hM.ob (by decide)) (c_mbad hM) ?_
      refine Rn.ri rfl (X_nil) rfl
end Ops1
end
section
/-! PLACE, THINGS, MOON, CORD -/
section Ops2
variable {S : List Int} {T : List Sh} {M N : Nat → Int → Int} {K : Nat}
theorem Op.bad1 {mc mm : Nat} {vs : List AV} {v k : Int} (g : Gl T M K) (iv : I32 v) (k0 : 0 ≤ k) (k3 : k < 3) (c1 : Cl S mc (vR 0 :: vs) (T, M) (some (vI v), (T, um M 59 k (M 59 k + 1)))) (c2 : Cl S mm (vR 76 :: vs) (T, um M 59 k (M 59 k + 1)) (some (vI v), (T, um (um M 59 k (M 59 k + 1)) 80 k (um M 59 k (M 59 k + 1) 80 k + 1)))) : Op S mc mm vs T M K := by
  refine ⟨v, T, _, _, iv, c1, c2, ?_⟩
  rw [um_na (by decide)]
  exact g.bad k0 k3
theorem Gl.flo (g : Gl T M K) (hN : ∀ a, a ≠ 2 → a ≠ 3 → a ≠ 77 → N a = M a) (hw : ∀ k, (6 ≤ k ∧ k < 10) ∨ 59 ≤ k → N 77 k = M 77 k) (hf : ∀ k, 0 ≤ k → k < 6 → N 2 k = N 77 k) (ht : ∀ c, 0 ≤ c → c < 49 → N 3 c = N 77 (10 + c)) (hl : FlNo N 1) : Gl T N (K + 1) := by
  have e76 := hN 76 (by decide) (by decide) (by decide)
  refine g.upd (Kept.of (fun a ha => hN a (by omega) (by omega) (by omega)) (by rw [e76]) (by rw [e76]) (by rw [e76]) (fun k k0 k1 => hw k (by omega))) ?_ (g.re.cg (hN _ (by decide) (by decide) (by decide)) (hN _ (by decide) (by decide) (by decide)) (by omega)) (by omega)
  refine g.rg.floor (by omega) (fun a a1 a2 => hN a (by omega) (by omega) (by omega)) (fun k hk => by rw [Int.zero_add]; exact hw k (by omega)) (fun k k0 k6 => ?_) (fun c c0 c1 => ?_) hl
  · rw [Int.zero_add]; exact hf k k0 k6
  · rw [Int.zero_add]; exact ht c c0 c1
/-- one number of the floor's first six, or one cell, has become another in both -/
theorem Gl.flo1 {j v : Int} (g : Gl T M K) (j0 : 0 ≤ j) (j6 : j < 6) (hj : (j = 2 ∧ 0 ≤ v ∧ v < M 2 0 * M 2 1) ∨ (j = 3 ∧ 0 ≤ v ∧ v < M 2 0 * M 2 1) ∨ (j = 4 ∧ 0 ≤ v ∧ v ≤ 127)) : Gl T (um (um (um M 2 j v) 2 8 (-1)) 77 j v) (K + 1) := by
  have hfl := g.rg.fl.1
  obtain ⟨f0, f1, f2, f3, f4, f5, f6⟩ := hfl
  have e2 : ∀ k, k ≠ 8 → k ≠ j → um (um (um M 2 j v) 2 8 (-1)) 77 j v 2 k = M 2 k := fun k h8 hj => by rw [um_na (by decide), um_ni h8, um_ni hj]
  have ej : um (um (um M 2 j v) 2 8 (-1)) 77 j v 2 j = v := by rw [um_na (by decide), um_ni (by omega), um_eq]
  have e3 : um (um (um M 2 j v) 2 8 (-1)) 77 j v 3 = M 3 := by rw [um_fn (by decide), um_fn (by decide), um_fn (by decide)]
  refine g.flo (fun a a1 a2 a3 => by rw [um_fn a3, um_fn a1, um_fn a1]) (fun k hk => by rw [um_ni (by omega), um_na (by decide), um_na (by decide)]) (fun k k0 k6 => ?_) (fun c c0 c1 => ?_) ⟨FlOk.of ?_ ?_ ?_ ?_ ?_ ?_ ?_, Or.inl ?_⟩
  · by_cases ek : k = j
    · subst ek
      rw [ej, um_eq]
    · rw [e2 k (by omega) ek, um_ni ek, um_na (by decide), um_na (by decide)]
      have := g.rg.f k k0 k6
      rw [Int.zero_add] at this
      exact this
  · rw [e3, um_ni (by omega), um_na (by decide), um_na (by decide)]
    have := g.rg.t c c0 c1
    rw [Int.zero_add] at this
    exact this
  · show 1 ≤ um (um (um M 2 j v) 2 8 (-1)) 77 j v 2 0 ∧ um (um (um M 2 j v) 2 8 (-1)) 77 j v 2 0 ≤ 7
    rw [e2 0 (by omega) (by omega)]; exact f0
  · show 1 ≤ um (um (um M 2 j v) 2 8 (-1)) 77 j v 2 1 ∧ um (um (um M 2 j v) 2 8 (-1)) 77 j v 2 1 ≤ 7
    rw [e2 1 (by omega) (by omega)]; exact f1
  · show 0 ≤ um (um (um M 2 j v) 2 8 (-1)) 77 j v 2 2 ∧ um (um (um M 2 j v) 2 8 (-1)) 77 j v 2 2 < um (um (um M 2 j v) 2 8 (-1)) 77 j v 2 0 * um (um (um M 2 j v) 2 8 (-1)) 77 j v 2 1
    rw [e2 0 (by omega) (by omega), e2 1 (by omega) (by omega)]
    by_cases ek : j = 2
    · subst ek
      rw [ej]
      omega
    · rw [e2 2 (by omega) (by omega)]
      exact f2
  · show 0 ≤ um (um (um M 2 j v) 2 8 (-1)) 77 j v 2 3 ∧ um (um (um M 2 j v) 2 8 (-1)) 77 j v 2 3 < um (um (um M 2 j v) 2 8 (-1)) 77 j v 2 0 * um (um (um M 2 j v) 2 8 (-1)) 77 j v 2 1
    rw [e2 0 (by omega) (by omega), e2 1 (by omega) (by omega)]
    by_cases ek : j = 3
    · subst ek
      rw [ej]
      omega
    · rw [e2 3 (by omega) (by omega)]
      exact f3
  · show 0 ≤ um (um (um M 2 j v) 2 8 (-1)) 77 j v 2 4 ∧ um (um (um M 2 j v) 2 8 (-1)) 77 j v 2 4 ≤ 127
    by_cases ek : j = 4
    · subst ek
      rw [ej]
      omega
    · rw [e2 4 (by omega) (by omega)]
      exact f4
  · show 0 ≤ um (um (um M 2 j v) 2 8 (-1)) 77 j v 2 5 ∧ um (um (um M 2 j v) 2 8 (-1)) 77 j v 2 5 ≤ 1
    rw [e2 5 (by omega) (by omega)]; exact f5
  · show ∀ c, 0 ≤ c → c < 49 → 0 ≤ um (um (um M 2 j v) 2 8 (-1)) 77 j v 3 c ∧ um (um (um M 2 j v) 2 8 (-1)) 77 j v 3 c ≤ 9
    rw [e3]; exact f6
  · show um (um (um M 2 j v) 2 8 (-1)) 77 j v 2 8 = -1
    rw [um_na (by decide), um_eq]
theorem c_fhY {c : Int} (hX : isX T) (hw : 1 ≤ M 2 0 ∧ M 2 0 ≤ 7) (hh : 1 ≤ M 2 1 ∧ M 2 1 ≤ 7) (ic : I32 c) (hc : 0 ≤ c ∧ c ≤ M 2 0 * M 2 1 - 1) : Cl S 16 [vR (1 + 1), vI c] (T, M) (some (vI 1), (T, M)) := by
  have := c_fhas (S := S) (M := M) (b := 1) hX.s1 hw hh ic
  rw [if_pos hc] at this
  exact this
theorem c_fhN {c : Int} (hX : isX T) (hw : 1 ≤ M 2 0 ∧ M 2 0 ≤ 7) (hh : 1 ≤ M 2 1 ∧ M 2 1 ≤ 7) (ic : I32 c) (hc : ¬ (0 ≤ c ∧ c ≤ M 2 0 * M 2 1 - 1)) : Cl S 16 [vR (1 + 1), vI c] (T, M) (some (vI 0), (T, M)) := by
  have := c_fhas (S := S) (M := M) (b := 1) hX.s1 hw hh ic
  rw [if_neg hc] at this
  exact this
theorem c_icY {c w hh : Int} (hM : isM T) (e0 : M 77 0 = w) (e1 : M 77 1 = hh) (hw : 1 ≤ w ∧ w ≤ 7) (h7 : 1 ≤ hh ∧ hh ≤ 7) (ic : I32 c) (hc : 0 ≤ c ∧ c ≤ w * hh - 1) : Cl S 124 [vR 76, vI 0, vI c] (T, M) (some (vI 1), (T, M)) := by
  have := c_isCell (S := S) (M := M) (r := 0) (c := c) hM (by decide) (by decide) (by rw [e0]; exact hw) (by rw [Int.zero_add, e1]; exact h7) ic
  rw [Int.zero_add, e0, e1, if_pos hc] at this
  exact this
theorem c_icN {c w hh : Int} (hM : isM T) (e0 : M 77 0 = w) (e1 : M 77 1 = hh) (hw : 1 ≤ w ∧ w ≤ 7) (h7 : 1 ≤ hh ∧ hh ≤ 7) (ic : I32 c) (hc : ¬ (0 ≤ c ∧ c ≤ w * hh - 1)) : Cl S 124 [vR 76, vI 0, vI c] (T, M) (some (vI 0), (T, M)) := by
  have := c_isCell (S := S) (M := M) (r := 0) (c := c) hM (by decide) (by decide) (by rw [e0]; exact hw) (by rw [Int.zero_add, e1]; exact h7) ic
  rw [Int.zero_add, e0, e1, if_neg hc] at this
  exact this
theorem Gl.flI {j : Int} (g : Gl T M K) (j0 : 0 ≤ j) (j6 : j < 6) : M 77 j = M 2 j := by
  have := g.rg.f j j0 j6
  rw [Int.zero_add] at this
  exact this.symm
theorem op_moon {c : Int} (g : Gl T M K) (ic : I32 c) : Op S 71 132 [vI c] T M K := by
  have hX := g.x
  have hM := g.m
  have hS := hX.s1
  have f4 := g.rg.fl.1.2.2.2.2.1
  by_cases h1 : 0 ≤ c ∧ c ≤ 127
  · have c1 := c_shineOn (S := S) (M := M) (c := c) hS
    have cb := c_becomes (S := S) (M := um (um M 2 4 c) 2 8 (-1)) (a := 4) (v := c) hM (by decide) (by decide)
    rw [um_na (by decide), um_na (by decide), g.flI (by decide) (by decide)] at cb
    refine ⟨M 2 4, T, um (um M 2 4 c) 2 8 (-1), _, ?_, ⟨_, rfl, ?_⟩, ⟨_, rfl, ?_⟩, g.flo1 (j := 4) (v := c) (by decide) (by decide) (by omega)⟩
    · have f4 : 0 ≤ M 2 4 ∧ M 2 4 ≤ 127 := f4
      omega
    · refine Rn.cal rfl (X_ild rfl <| X_i <| X_i <| X_nil) (vs := [_, _, _]) (rest := []) rfl rfl rfl rfl (c_wY (by omega) (by decide) (by decide) h1) ?_
      refine Rn.ine rfl (X_nil) (by first | omega | (simp (disch := omega) only [um_eq, um_na, um_ni, Int.toNat_natCast]; omega)) (fun hc => ?_) (fun hc => absurd hc (by first | omega | decide | (simp (disch := omega) only [um_eq, um_na, um_ni, Int.toNat_natCast]; omega)))
      refine Rn.cal rfl (X_ald rfl <| X_gr 7 0 hX.ob ⟨rfl, rfl⟩ rfl rfl <| X_gr 6 0 hX.s1.st ⟨rfl, rfl⟩ rfl rfl <| X_gi 1 4 4 hX.s1.fl ⟨rfl, rfl, rfl⟩ (Or.inl rfl) <| X_ist rfl (L' := [_, _, _]) rfl <| X_ald rfl <| X_gr 7 0 hX.ob ⟨rfl, rfl⟩ rfl rfl <| X_gr 6 0 hX.s1.st ⟨rfl, rfl⟩ rfl rfl <| X_ild rfl <| X_nil) (vs := [_, _]) (rest := []) rfl rfl rfl (rcv_v hX.s1.fl (by decide)) (c1) ?_
      refine Rn.ri rfl (X_ild rfl <| X_nil) rfl
    · refine Rn.cal rfl (X_ild rfl <| X_i2l (by first | omega | (simp (disch := omega) only [um_eq, um_na, um_ni, Int.toNat_natCast]; omega)) <| X_l <| X_l <| X_nil) (vs := [_, _, _]) (rest := []) rfl rfl rfl rfl (c_iY (by omega) (by decide) (by decide) h1) ?_
      refine Rn.ieq rfl (X_nil) (by first | omega | (simp (disch := omega) only [um_eq, um_na, um_ni, Int.toNat_natCast]; omega)) (fun hc => absurd hc (by first | omega | decide | (simp (disch := omega) only [um_eq, um_na, um_ni, Int.toNat_natCast]; omega))) (fun hc => ?_)
      refine Rn.cal rfl (X_ald rfl <| X_i <| X_ild rfl <| X_nil) (vs := [_, _, _]) (rest := []) rfl rfl rfl (rcv_v hM.ob (by decide)) (cb) ?_
      refine Rn.jto rfl (X_nil) ?_
      refine Rn.ri rfl (X_nil) rfl
  · refine Op.bad (v := -2) (k := 0) g (by decide) (by decide) (by decide) ⟨_, rfl, ?_⟩ (fun M1 h80 => ⟨_, rfl, ?_⟩) trivial
    · refine Rn.cal rfl (X_ild rfl <| X_i <| X_i <| X_nil) (vs := [_, _, _]) (rest := []) rfl rfl rfl rfl (c_wN (by omega) (by decide) (by decide) h1) ?_
      refine Rn.ine rfl (X_nil) (by first | omega | (simp (disch := omega) only [um_eq, um_na, um_ni, Int.toNat_natCast]; omega)) (fun hc => absurd hc (by first | omega | decide | (simp (disch := omega) only [um_eq, um_na, um_ni, Int.toNat_natCast]; omega))) (fun hc => ?_)
      refine Rn.cal rfl (X_ald rfl <| X_i <| X_nil) (vs := [_, _]) (rest := []) rfl rfl rfl (rcv_v hX.ob (by decide)) (c_bad hX) ?_
      refine Rn.ri rfl (X_nil) rfl
    · refine Rn.cal rfl (X_ild rfl <| X_i2l (by first | omega | (simp (disch := omega) only [um_eq, um_na, um_ni, Int.toNat_natCast]; omega)) <| X_l <| X_l <| X_nil) (vs := [_, _, _]) (rest := []) rfl rfl rfl rfl (c_iN (by omega) (by decide) (by decide) h1) ?_
      refine Rn.ieq rfl (X_nil) (by first | omega | (simp (disch := omega) only [um_eq, um_na, um_ni, Int.toNat_natCast]; omega)) (fun hc => ?_) (fun hc => absurd hc (by first | omega | decide | (simp (disch := omega) only [um_eq, um_na, um_ni, Int.toNat_natCast]; omega)))
      refine Rn.cal rfl (X_ald rfl <| X_nil) (vs := [_]) (rest := []) rfl rfl rfl (rcv_v hM.ob (by decide)) (c_mbad hM) ?_
      refine Rn.ri rfl (X_nil) rfl
theorem op_place {a c : Int} (g : Gl T M K) (ia : I32 a) (ic : I32 c) : Op S 69 130 [vI a, vI c] T M K := by
  have hX := g.x
  have hM := g.m
  have hS := hX.s1
  have hw := g.w
  have hm := g.wm
  have f2 : 0 ≤ M 2 2 ∧ M 2 2 < M 2 0 * M 2 1 := g.rg.fl.1.2.2.1
  have f3 : 0 ≤ M 2 3 ∧ M 2 3 < M 2 0 * M 2 1 := g.rg.fl.1.2.2.2.1
  have hn : 1 ≤ M 2 0 * M 2 1 ∧ M 2 0 * M 2 1 ≤ 49 := g.rg.fl.1.n
  by_cases h1 : 0 ≤ a ∧ a ≤ 1
  · by_cases h2 : 0 ≤ c ∧ c ≤ M 2 0 * M 2 1 - 1
    · rcases (show a = 0 ∨ a = 1 by omega) with rfl | rfl
      · have cb := c_becomes (S := S) (M := um (um M 2 2 c) 2 8 (-1)) (a := 2) (v := c) hM (by decide) (by decide)
        rw [um_na (by decide), um_na (by decide), g.flI (by decide) (by decide)] at cb
        have ci : Cl S 124 [vR 76, vI 0, vI c] (T, um (um M 2 2 c) 2 8 (-1)) (some (vI 1), (T, um (um M 2 2 c) 2 8 (-1))) := c_icY hM (by rw [um_na (by decide), um_na (by decide)]; exact hm.1) (by rw [um_na (by decide), um_na (by decide)]; exact hm.2) hw.1 hw.2 ic h2
        refine ⟨M 2 2, T, um (um M 2 2 c) 2 8 (-1), _, by omega, ⟨_, rfl, ?_⟩, ⟨_, rfl, ?_⟩, g.flo1 (j := 2) (v := c) (by decide) (by decide) (by omega)⟩
        · refine Rn.cal rfl (X_ald rfl <| X_gr 7 0 hX.ob ⟨rfl, rfl⟩ rfl rfl <| X_gr 6 0 hX.s1.st ⟨rfl, rfl⟩ rfl rfl <| X_ast rfl (L' := [_, _, _, _, _]) rfl <| X_ild rfl <| X_i <| X_i <| X_nil) (vs := [_, _, _]) (rest := []) rfl rfl rfl rfl (c_wY (by omega) (by decide) (by decide) h1) ?_
          refine Rn.ieq rfl (X_nil) (by first | omega | (simp (disch := omega) only [um_eq, um_na, um_ni, Int.toNat_natCast]; omega)) (fun hc => absurd hc (by first | omega | decide | (simp (disch := omega) only [um_eq, um_na, um_ni, Int.toNat_natCast]; omega))) (fun hc => ?_)
          refine Rn.cal rfl (X_ald rfl <| X_ild rfl <| X_nil) (vs := [_, _]) (rest := []) rfl rfl rfl (rcv_v hX.s1.fl (by decide)) (c_fhY hX hw.1 hw.2 ic h2) ?_
          refine Rn.ine rfl (X_nil) (by first | omega | (simp (disch := omega) only [um_eq, um_na, um_ni, Int.toNat_natCast]; omega)) (fun hc => ?_) (fun hc => absurd hc (by first | omega | decide | (simp (disch := omega) only [um_eq, um_na, um_ni, Int.toNat_natCast]; omega)))
          refine Rn.ine rfl (X_ild rfl <| X_nil) (by first | omega | (simp (disch := omega) only [um_eq, um_na, um_ni, Int.toNat_natCast]; omega)) (fun hc => absurd hc (by first | omega | decide | (simp (disch := omega) only [um_eq, um_na, um_ni, Int.toNat_natCast]; omega))) (fun hc => ?_)
          refine Rn.jto rfl (X_ald rfl <| X_gi 1 2 2 hX.s1.fl ⟨rfl, rfl, rfl⟩ (Or.inl rfl) <| X_nil) ?_
          refine Rn.ine rfl (X_ist rfl (L' := [_, _, _, _, _]) rfl <| X_ild rfl <| X_nil) (by first | omega | (simp (disch := omega) only [um_eq, um_na, um_ni, Int.toNat_natCast]; omega)) (fun hc => absurd hc (by first | omega | decide | (simp (disch := omega) only [um_eq, um_na, um_ni, Int.toNat_natCast]; omega))) (fun hc => ?_)
          refine Rn.cal rfl (X_ald rfl <| X_ild rfl <| X_nil) (vs := [_, _]) (rest := []) rfl rfl rfl (rcv_v hX.s1.fl (by decide)) (c_putSwitch hS) ?_
          refine Rn.jto rfl (X_nil) ?_
          refine Rn.ri rfl (X_ild rfl <| X_nil) rfl
        · refine Rn.cal rfl (X_ild rfl <| X_i2l (by first | omega | (simp (disch := omega) only [um_eq, um_na, um_ni, Int.toNat_natCast]; omega)) <| X_l <| X_l <| X_nil) (vs := [_, _, _]) (rest := []) rfl rfl rfl rfl (c_iY (by omega) (by decide) (by decide) h1) ?_
          refine Rn.ieq rfl (X_nil) (by first | omega | (simp (disch := omega) only [um_eq, um_na, um_ni, Int.toNat_natCast]; omega)) (fun hc => absurd hc (by first | omega | decide | (simp (disch := omega) only [um_eq, um_na, um_ni, Int.toNat_natCast]; omega))) (fun hc => ?_)
          refine Rn.cal rfl (X_ald rfl <| X_i <| X_ild rfl <| X_nil) (vs := [_, _, _]) (rest := []) rfl rfl rfl (rcv_v hM.ob (by decide)) (ci) ?_
          refine Rn.ieq rfl (X_nil) (by first | omega | (simp (disch := omega) only [um_eq, um_na, um_ni, Int.toNat_natCast]; omega)) (fun hc => absurd hc (by first | omega | decide | (simp (disch := omega) only [um_eq, um_na, um_ni, Int.toNat_natCast]; omega))) (fun hc => ?_)
          refine Rn.cal rfl (X_ald rfl <| X_i <| X_ild rfl <| X_add <| X_ild rfl <| X_nil) (vs := [_, _, _]) (rest := []) rfl rfl rfl (rcv_v hM.ob (by decide)) (cb) ?_
          refine Rn.jto rfl (X_nil) ?_
          refine Rn.ri rfl (X_nil) rfl
      · have cb := c_becomes (S := S) (M := um (um M 2 3 c) 2 8 (-1)) (a := 3) (v := c) hM (by decide) (by decide)
        rw [um_na (by decide), um_na (by decide), g.flI (by decide) (by decide)] at cb
        have ci : Cl S 124 [vR 76, vI 0, vI c] (T, um (um M 2 3 c) 2 8 (-1)) (some (vI 1), (T, um (um M 2 3 c) 2 8 (-1))) := c_icY hM (by rw [um_na (by decide), um_na (by decide)]; exact hm.1) (by rw [um_na (by decide), um_na (by decide)]; exact hm.2) hw.1 hw.2 ic h2
        refine ⟨M 2 3, T, um (um M 2 3 c) 2 8 (-1), _, by omega, ⟨_, rfl, ?_⟩, ⟨_, rfl, ?_⟩, g.flo1 (j := 3) (v := c) (by decide) (by decide) (by omega)⟩
        · refine Rn.cal rfl (X_ald rfl <| X_gr 7 0 hX.ob ⟨rfl, rfl⟩ rfl rfl <| X_gr 6 0 hX.s1.st ⟨rfl, rfl⟩ rfl rfl <| X_ast rfl (L' := [_, _, _, _, _]) rfl <| X_ild rfl <| X_i <| X_i <| X_nil) (vs := [_, _, _]) (rest := []) rfl rfl rfl rfl (c_wY (by omega) (by decide) (by decide) h1) ?_
          refine Rn.ieq rfl (X_nil) (by first | omega | (simp (disch := omega) only [um_eq, um_na, um_ni, Int.toNat_natCast]; omega)) (fun hc => absurd hc (by first | omega | decide | (simp (disch := omega) only [um_eq, um_na, um_ni, Int.toNat_natCast]; omega))) (fun hc => ?_)
          refine Rn.cal rfl (X_ald rfl <| X_ild rfl <| X_nil) (vs := [_, _]) (rest := []) rfl rfl rfl (rcv_v hX.s1.fl (by decide)) (c_fhY hX hw.1 hw.2 ic h2) ?_
          refine Rn.ine rfl (X_nil) (by first | omega | (simp (disch := omega) only [um_eq, um_na, um_ni, Int.toNat_natCast]; omega)) (fun hc => ?_) (fun hc => absurd hc (by first | omega | decide | (simp (disch := omega) only [um_eq, um_na, um_ni, Int.toNat_natCast]; omega)))
          refine Rn.ine rfl (X_ild rfl <| X_nil) (by first | omega | (simp (disch := omega) only [um_eq, um_na, um_ni, Int.toNat_natCast]; omega)) (fun hc => ?_) (fun hc => absurd hc (by first | omega | decide | (simp (disch := omega) only [um_eq, um_na, um_ni, Int.toNat_natCast]; omega)))
          refine Rn.fal rfl (X_ald rfl <| X_gi 1 3 3 hX.s1.fl ⟨rfl, rfl, rfl⟩ (Or.inl rfl) <| X_nil) ?_
          refine Rn.ine rfl (X_ist rfl (L' := [_, _, _, _, _]) rfl <| X_ild rfl <| X_nil) (by first | omega | (simp (disch := omega) only [um_eq, um_na, um_ni, Int.toNat_natCast]; omega)) (fun hc => ?_) (fun hc => absurd hc (by first | omega | decide | (simp (disch := omega) only [um_eq, um_na, um_ni, Int.toNat_natCast]; omega)))
          refine Rn.cal rfl (X_ald rfl <| X_ild rfl <| X_nil) (vs := [_, _]) (rest := []) rfl rfl rfl (rcv_v hX.s1.fl (by decide)) (c_putBed hS) ?_
          refine Rn.ri rfl (X_ild rfl <| X_nil) rfl
        · refine Rn.cal rfl (X_ild rfl <| X_i2l (by first | omega | (simp (disch := omega) only [um_eq, um_na, um_ni, Int.toNat_natCast]; omega)) <| X_l <| X_l <| X_nil) (vs := [_, _, _]) (rest := []) rfl rfl rfl rfl (c_iY (by omega) (by decide) (by decide) h1) ?_
          refine Rn.ieq rfl (X_nil) (by first | omega | (simp (disch := omega) only [um_eq, um_na, um_ni, Int.toNat_natCast]; omega)) (fun hc => absurd hc (by first | omega | decide | (simp (disch := omega) only [um_eq, um_na, um_ni, Int.toNat_natCast]; omega))) (fun hc => ?_)
          refine Rn.cal rfl (X_ald rfl <| X_i <| X_ild rfl <| X_nil) (vs := [_, _, _]) (rest := []) rfl rfl rfl (rcv_v hM.ob (by decide)) (ci) ?_
          refine Rn.ieq rfl (X_nil) (by first | omega | (simp (disch := omega) only [um_eq, um_na, um_ni, Int.toNat_natCast]; omega)) (fun hc => absurd hc (by first | omega | decide | (simp (disch := omega) only [um_eq, um_na, um_ni, Int.toNat_natCast]; omega))) (fun hc => ?_)
          refine Rn.cal rfl (X_ald rfl <| X_i <| X_ild rfl <| X_add <| X_ild rfl <| X_nil) (vs := [_, _, _]) (rest := []) rfl rfl rfl (rcv_v hM.ob (by decide)) (cb) ?_
          refine Rn.jto rfl (X_nil) ?_
          refine Rn.ri rfl (X_nil) rfl
    · have ci : Cl S 124 [vR 76, vI 0, vI c] (T, um M 59 0 (M 59 0 + 1)) (some (vI 0), (T, um M 59 0 (M 59 0 + 1))) := c_icN hM (by rw [um_na (by decide)]; exact hm.1) (by rw [um_na (by decide)]; exact hm.2) hw.1 hw.2 ic h2
      refine Op.bad1 (v := -2) (k := 0) g (by decide) (by decide) (by decide) ⟨_, rfl, ?_⟩ ⟨_, rfl, ?_⟩
      · refine Rn.cal rfl (X_ald rfl <| X_gr 7 0 hX.ob ⟨rfl, rfl⟩ rfl rfl <| X_gr 6 0 hX.s1.st ⟨rfl, rfl⟩ rfl rfl <| X_ast rfl (L' := [_, _, _, _, _]) rfl <| X_ild rfl <| X_i <| X_i <| X_nil) (vs := [_, _, _]) (rest := []) rfl rfl rfl rfl (c_wY (by omega) (by decide) (by decide) h1) ?_
        refine Rn.ieq rfl (X_nil) (by first | omega | (simp (disch := omega) only [um_eq, um_na, um_ni, Int.toNat_natCast]; omega)) (fun hc => absurd hc (by first | omega | decide | (simp (disch := omega) only [um_eq, um_na, um_ni, Int.toNat_natCast]; omega))) (fun hc => ?_)
        refine Rn.cal rfl (X_ald rfl <| X_ild rfl <| X_nil) (vs := [_, _]) (rest := []) rfl rfl rfl (rcv_v hX.s1.fl (by decide)) (c_fhN hX hw.1 hw.2 ic h2) ?_
        refine Rn.ine rfl (X_nil) (by first | omega | (simp (disch := omega) only [um_eq, um_na, um_ni, Int.toNat_natCast]; omega)) (fun hc => absurd hc (by first | omega | decide | (simp (disch := omega) only [um_eq, um_na, um_ni, Int.toNat_natCast]; omega))) (fun hc => ?_)
        refine Rn.cal rfl (X_ald rfl <| X_i <| X_nil) (vs := [_, _]) (rest := []) rfl rfl rfl (rcv_v hX.ob (by decide)) (c_bad hX) ?_
        refine Rn.ri rfl (X_nil) rfl
      · refine Rn.cal rfl (X_ild rfl <| X_i2l (by first | omega | (simp (disch := omega) only [um_eq, um_na, um_ni, Int.toNat_natCast]; omega)) <| X_l <| X_l <| X_nil) (vs := [_, _, _]) (rest := []) rfl rfl rfl rfl (c_iY (by omega) (by decide) (by decide) h1) ?_
        refine Rn.ieq rfl (X_nil) (by first | omega | (simp (disch := omega) only [um_eq, um_na, um_ni, Int.toNat_natCast]; omega)) (fun hc => absurd hc (by first | omega | decide | (simp (disch := omega) only [um_eq, um_na, um_ni, Int.toNat_natCast]; omega))) (fun hc => ?_)
        refine Rn.cal rfl (X_ald rfl <| X_i <| X_ild rfl <| X_nil) (vs := [_, _, _]) (rest := []) rfl rfl rfl (rcv_v hM.ob (by decide)) (ci) ?_
        refine Rn.ieq rfl (X_nil) (by first | omega | (simp (disch := omega) only [um_eq, um_na, um_ni, Int.toNat_natCast]; omega)) (fun hc => ?_) (fun hc => absurd hc (by first | omega | decide | (simp (disch := omega) only [um_eq, um_na, um_ni, Int.toNat_natCast]; omega)))
        refine Rn.cal rfl (X_ald rfl <| X_nil) (vs := [_]) (rest := []) rfl rfl rfl (rcv_v hM.ob (by decide)) (c_mbad hM) ?_
        refine Rn.ri rfl (X_nil) rfl
  · refine Op.bad (v := -2) (k := 0) g (by decide) (by decide) (by decide) ⟨_, rfl, ?_⟩ (fun M1 h80 => ⟨_, rfl, ?_⟩) trivial
    · refine Rn.cal rfl (X_ald rfl <| X_gr 7 0 hX.ob ⟨rfl, rfl⟩ rfl rfl <| X_gr 6 0 hX.s1.st ⟨rfl, rfl⟩ rfl rfl <| X_ast rfl (L' := [_, _, _, _, _]) rfl <| X_ild rfl <| X_i <| X_i <| X_nil) (vs := [_, _, _]) (rest := []) rfl rfl rfl rfl (c_wN (by omega) (by decide) (by decide) h1) ?_
      refine Rn.ieq rfl (X_nil) (by first | omega | (simp (disch := omega) only [um_eq, um_na, um_ni, Int.toNat_natCast]; omega)) (fun hc => ?_) (fun hc => absurd hc (by first | omega | decide | (simp (disch := omega) only [um_eq, um_na, um_ni, Int.toNat_natCast]; omega)))
      refine Rn.cal rfl (X_ald rfl <| X_i <| X_nil) (vs := [_, _]) (rest := []) rfl rfl rfl (rcv_v hX.ob (by decide)) (c_bad hX) ?_
      refine Rn.ri rfl (X_nil) rfl
    · refine Rn.cal rfl (X_ild rfl <| X_i2l (by first | omega | (simp (disch := omega) only [um_eq, um_na, um_ni, Int.toNat_natCast]; omega)) <| X_l <| X_l <| X_nil) (vs := [_, _, _]) (rest := []) rfl rfl rfl rfl (c_iN (by omega) (by decide) (by decide) h1) ?_
      refine Rn.ieq rfl (X_nil) (by first | omega | (simp (disch := omega) only [um_eq, um_na, um_ni, Int.toNat_natCast]; omega)) (fun hc => ?_) (fun hc => absurd hc (by first | omega | decide | (simp (disch := omega) only [um_eq, um_na, um_ni, Int.toNat_natCast]; omega)))
      refine Rn.cal rfl (X_ald rfl <| X_nil) (vs := [_]) (rest := []) rfl rfl rfl (rcv_v hM.ob (by decide)) (c_mbad hM) ?_
      refine Rn.ri rfl (X_nil) rfl
end Ops2
end
section
/-! THINGS, CORD -/
section Ops3
variable {S : List Int} {T : List Sh} {M N : Nat → Int → Int} {K : Nat}
theorem op_things {c n : Int} (g : Gl T M K) (ic : I32 c) (i_n : I32 n) : Op S 70 131 [vI c, vI n] T M K := by
  have hX := g.x
  have hM := g.m
  have hS := hX.s1
  have hw := g.w
  have hm := g.wm
  obtain ⟨f0, f1, f2, f3, f4, f5, f6⟩ := g.rg.fl.1
  have f6 : ∀ c, 0 ≤ c → c < 49 → 0 ≤ M 3 c ∧ M 3 c ≤ 9 := f6
  have hn : 1 ≤ M 2 0 * M 2 1 ∧ M 2 0 * M 2 1 ≤ 49 := g.rg.fl.1.n
  by_cases h1 : 0 ≤ c ∧ c ≤ M 2 0 * M 2 1 - 1
  · by_cases h2 : 0 ≤ n ∧ n ≤ 9
    · have cb := c_becomes (S := S) (M := um (um M 3 c n) 2 8 (-1)) (a := 10 + c) (v := n) hM (by omega) (by omega)
      have et : M 77 (10 + c) = M 3 c := by
        have := g.rg.t c (by omega) (by omega)
        rw [Int.zero_add] at this
        exact this.symm
      rw [um_na (by decide), um_na (by decide), et] at cb
      have ci : Cl S 124 [vR 76, vI 0, vI c] (T, um (um M 3 c n) 2 8 (-1)) (some (vI 1), (T, um (um M 3 c n) 2 8 (-1))) := c_icY hM (by rw [um_na (by decide), um_na (by decide)]; exact hm.1) (by rw [um_na (by decide), um_na (by decide)]; exact hm.2) hw.1 hw.2 ic h1
      have v9 := f6 c (by omega) (by omega)
      have ep := c_putThings (S := S) (M := M) (n := n) hS (c := c) (by omega) (by omega)
      have e2 : ∀ k, k ≠ 8 → um (um (um M 3 c n) 2 8 (-1)) 77 (10 + c) n 2 k = M 2 k := fun k h8 => by rw [um_na (by decide), um_ni h8, um_na (by decide)]
      refine ⟨M 3 c, T, um (um M 3 c n) 2 8 (-1), _, by omega, ⟨_, rfl, ?_⟩, ⟨_, rfl, ?_⟩, g.flo (N := um (um (um M 3 c n) 2 8 (-1)) 77 (10 + c) n) (fun a a1 a2 a3 => by rw [um_fn a3, um_fn a1, um_fn a2]) (fun k hk => by rw [um_ni (by omega), um_na (by decide), um_na (by decide)]) (fun k k0 k6 => ?_) (fun d d0 d1 => ?_) ⟨FlOk.of ?_ ?_ ?_ ?_ ?_ ?_ ?_, Or.inl ?_⟩⟩
      · refine Rn.cal rfl (X_ald rfl <| X_gr 7 0 hX.ob ⟨rfl, rfl⟩ rfl rfl <| X_gr 6 0 hX.s1.st ⟨rfl, rfl⟩ rfl rfl <| X_ast rfl (L' := [_, _, _, _, _]) rfl <| X_ald rfl <| X_ild rfl <| X_nil) (vs := [_, _]) (rest := []) rfl rfl rfl (rcv_v hX.s1.fl (by decide)) (c_fhY hX hw.1 hw.2 ic h1) ?_
        refine Rn.ieq rfl (X_nil) (by first | omega | (simp (disch := omega) only [um_eq, um_na, um_ni, Int.toNat_natCast]; omega)) (fun hc => absurd hc (by first | omega | decide | (simp (disch := omega) only [um_eq, um_na, um_ni, Int.toNat_natCast]; omega))) (fun hc => ?_)
        refine Rn.cal rfl (X_ild rfl <| X_i <| X_i <| X_nil) (vs := [_, _, _]) (rest := []) rfl rfl rfl rfl (c_wY (by omega) (by decide) (by decide) h2) ?_
        refine Rn.ine rfl (X_nil) (by first | omega | (simp (disch := omega) only [um_eq, um_na, um_ni, Int.toNat_natCast]; omega)) (fun hc => ?_) (fun hc => absurd hc (by first | omega | decide | (simp (disch := omega) only [um_eq, um_na, um_ni, Int.toNat_natCast]; omega)))
        refine Rn.cal rfl (X_ald rfl <| X_gr 1 6 hX.s1.fl ⟨rfl, rfl⟩ rfl rfl <| X_ild rfl <| X_ia hX.s1.th (by first | omega | (simp (disch := omega) only [um_eq, um_na, um_ni, Int.toNat_natCast]; omega)) (by first | omega | (simp (disch := omega) only [um_eq, um_na, um_ni, Int.toNat_natCast]; omega)) rfl <| X_ist rfl (L' := [_, _, _, _, _]) rfl <| X_ald rfl <| X_ild rfl <| X_ild rfl <| X_nil) (vs := [_, _, _]) (rest := []) rfl rfl rfl (rcv_v hX.s1.fl (by decide)) (ep) ?_
        refine Rn.ri rfl (X_ild rfl <| X_nil) rfl
      · refine Rn.cal rfl (X_ald rfl <| X_i <| X_ild rfl <| X_nil) (vs := [_, _, _]) (rest := []) rfl rfl rfl (rcv_v hM.ob (by decide)) (ci) ?_
        refine Rn.ieq rfl (X_nil) (by first | omega | (simp (disch := omega) only [um_eq, um_na, um_ni, Int.toNat_natCast]; omega)) (fun hc => absurd hc (by first | omega | decide | (simp (disch := omega) only [um_eq, um_na, um_ni, Int.toNat_natCast]; omega))) (fun hc => ?_)
        refine Rn.cal rfl (X_ild rfl <| X_i2l (by first | omega | (simp (disch := omega) only [um_eq, um_na, um_ni, Int.toNat_natCast]; omega)) <| X_l <| X_l <| X_nil) (vs := [_, _, _]) (rest := []) rfl rfl rfl rfl (c_iY (by omega) (by decide) (by decide) h2) ?_
        refine Rn.ieq rfl (X_nil) (by first | omega | (simp (disch := omega) only [um_eq, um_na, um_ni, Int.toNat_natCast]; omega)) (fun hc => absurd hc (by first | omega | decide | (simp (disch := omega) only [um_eq, um_na, um_ni, Int.toNat_natCast]; omega))) (fun hc => ?_)
        refine Rn.cal rfl (X_ald rfl <| X_i <| X_ild rfl <| X_add <| X_ild rfl <| X_nil) (vs := [_, _, _]) (rest := []) rfl rfl rfl (rcv_v hM.ob (by decide)) (cb) ?_
        refine Rn.jto rfl (X_nil) ?_
        refine Rn.ri rfl (X_nil) rfl
      · rw [e2 k (by omega), um_ni (by omega), um_na (by decide), um_na (by decide)]
        exact (g.flI k0 k6).symm
      · rw [um_na (by decide), um_na (by decide)]
        by_cases ed : d = c
        · subst ed
          rw [um_eq, um_eq]
        · rw [um_ni ed, um_ni (by omega), um_na (by decide), um_na (by decide)]
          have := g.rg.t d d0 d1
          rw [Int.zero_add] at this
          exact this
      · show 1 ≤ um (um (um M 3 c n) 2 8 (-1)) 77 (10 + c) n 2 0 ∧ um (um (um M 3 c n) 2 8 (-1)) 77 (10 + c) n 2 0 ≤ 7
        rw [e2 0 (by decide)]; exact f0
      · show 1 ≤ um (um (um M 3 c n) 2 8 (-1)) 77 (10 + c) n 2 1 ∧ um (um (um M 3 c n) 2 8 (-1)) 77 (10 + c) n 2 1 ≤ 7
        rw [e2 1 (by decide)]; exact f1
      · show 0 ≤ um (um (um M 3 c n) 2 8 (-1)) 77 (10 + c) n 2 2 ∧ um (um (um M 3 c n) 2 8 (-1)) 77 (10 + c) n 2 2 < um (um (um M 3 c n) 2 8 (-1)) 77 (10 + c) n 2 0 * um (um (um M 3 c n) 2 8 (-1)) 77 (10 + c) n 2 1
        rw [e2 0 (by decide), e2 1 (by decide), e2 2 (by decide)]; exact f2
      · show 0 ≤ um (um (um M 3 c n) 2 8 (-1)) 77 (10 + c) n 2 3 ∧ um (um (um M 3 c n) 2 8 (-1)) 77 (10 + c) n 2 3 < um (um (um M 3 c n) 2 8 (-1)) 77 (10 + c) n 2 0 * um (um (um M 3 c n) 2 8 (-1)) 77 (10 + c) n 2 1
        rw [e2 0 (by decide), e2 1 (by decide), e2 3 (by decide)]; exact f3
      · show 0 ≤ um (um (um M 3 c n) 2 8 (-1)) 77 (10 + c) n 2 4 ∧ um (um (um M 3 c n) 2 8 (-1)) 77 (10 + c) n 2 4 ≤ 127
        rw [e2 4 (by decide)]; exact f4
      · show 0 ≤ um (um (um M 3 c n) 2 8 (-1)) 77 (10 + c) n 2 5 ∧ um (um (um M 3 c n) 2 8 (-1)) 77 (10 + c) n 2 5 ≤ 1
        rw [e2 5 (by decide)]; exact f5
      · intro d d0 d1
        show 0 ≤ um (um (um M 3 c n) 2 8 (-1)) 77 (10 + c) n 3 d ∧ um (um (um M 3 c n) 2 8 (-1)) 77 (10 + c) n 3 d ≤ 9
        rw [um_na (by decide), um_na (by decide)]
        by_cases ed : d = c
        · subst ed
          rw [um_eq]; exact h2
        · rw [um_ni ed]; exact f6 d d0 d1
      · show um (um (um M 3 c n) 2 8 (-1)) 77 (10 + c) n 2 8 = -1
        rw [um_na (by decide), um_eq]
    · have ci : Cl S 124 [vR 76, vI 0, vI c] (T, um M 59 0 (M 59 0 + 1)) (some (vI 1), (T, um M 59 0 (M 59 0 + 1))) := c_icY hM (by rw [um_na (by decide)]; exact hm.1) (by rw [um_na (by decide)]; exact hm.2) hw.1 hw.2 ic h1
      refine Op.bad1 (v := -2) (k := 0) g (by decide) (by decide) (by decide) ⟨_, rfl, ?_⟩ ⟨_, rfl, ?_⟩
      · refine Rn.cal rfl (X_ald rfl <| X_gr 7 0 hX.ob ⟨rfl, rfl⟩ rfl rfl <| X_gr 6 0 hX.s1.st ⟨rfl, rfl⟩ rfl rfl <| X_ast rfl (L' := [_, _, _, _, _]) rfl <| X_ald rfl <| X_ild rfl <| X_nil) (vs := [_, _]) (rest := []) rfl rfl rfl (rcv_v hX.s1.fl (by decide)) (c_fhY hX hw.1 hw.2 ic h1) ?_
        refine Rn.ieq rfl (X_nil) (by first | omega | (simp (disch := omega) only [um_eq, um_na, um_ni, Int.toNat_natCast]; omega)) (fun hc => absurd hc (by first | omega | decide | (simp (disch := omega) only [um_eq, um_na, um_ni, Int.toNat_natCast]; omega))) (fun hc => ?_)
        refine Rn.cal rfl (X_ild rfl <| X_i <| X_i <| X_nil) (vs := [_, _, _]) (rest := []) rfl rfl rfl rfl (c_wN (by omega) (by decide) (by decide) h2) ?_
        refine Rn.ine rfl (X_nil) (by first | omega | (simp (disch := omega) only [um_eq, um_na, um_ni, Int.toNat_natCast]; omega)) (fun hc => absurd hc (by first | omega | decide | (simp (disch := omega) only [um_eq, um_na, um_ni, Int.toNat_natCast]; omega))) (fun hc => ?_)
        refine Rn.cal rfl (X_ald rfl <| X_i <| X_nil) (vs := [_, _]) (rest := []) rfl rfl rfl (rcv_v hX.ob (by decide)) (c_bad hX) ?_
        refine Rn.ri rfl (X_nil) rfl
      · refine Rn.cal rfl (X_ald rfl <| X_i <| X_ild rfl <| X_nil) (vs := [_, _, _]) (rest := []) rfl rfl rfl (rcv_v hM.ob (by decide)) (ci) ?_
        refine Rn.ieq rfl (X_nil) (by first | omega | (simp (disch := omega) only [um_eq, um_na, um_ni, Int.toNat_natCast]; omega)) (fun hc => absurd hc (by first | omega | decide | (simp (disch := omega) only [um_eq, um_na, um_ni, Int.toNat_natCast]; omega))) (fun hc => ?_)
        refine Rn.cal rfl (X_ild rfl <| X_i2l (by first | omega | (simp (disch := omega) only [um_eq, um_na, um_ni, Int.toNat_natCast]; omega)) <| X_l <| X_l <| X_nil) (vs := [_, _, _]) (rest := []) rfl rfl rfl rfl (c_iN (by omega) (by decide) (by decide) h2) ?_
        refine Rn.ieq rfl (X_nil) (by first | omega | (simp (disch := omega) only [um_eq, um_na, um_ni, Int.toNat_natCast]; omega)) (fun hc => ?_) (fun hc => absurd hc (by first | omega | decide | (simp (disch := omega) only [um_eq, um_na, um_ni, Int.toNat_natCast]; omega)))
        refine Rn.cal rfl (X_ald rfl <| X_nil) (vs := [_]) (rest := []) rfl rfl rfl (rcv_v hM.ob (by decide)) (c_mbad hM) ?_
        refine Rn.ri rfl (X_nil) rfl
  · have ci : Cl S 124 [vR 76, vI 0, vI c] (T, um M 59 0 (M 59 0 + 1)) (some (vI 0), (T, um M 59 0 (M 59 0 + 1))) := c_icN hM (by rw [um_na (by decide)]; exact hm.1) (by rw [um_na (by decide)]; exact hm.2) hw.1 hw.2 ic h1
    refine Op.bad1 (v := -2) (k := 0) g (by decide) (by decide) (by decide) ⟨_, rfl, ?_⟩ ⟨_, rfl, ?_⟩
    · refine Rn.cal rfl (X_ald rfl <| X_gr 7 0 hX.ob ⟨rfl, rfl⟩ rfl rfl <| X_gr 6 0 hX.s1.st ⟨rfl, rfl⟩ rfl rfl <| X_ast rfl (L' := [_, _, _, _, _]) rfl <| X_ald rfl <| X_ild rfl <| X_nil) (vs := [_, _]) (rest := []) rfl rfl rfl (rcv_v hX.s1.fl (by decide)) (c_fhN hX hw.1 hw.2 ic h1) ?_
      refine Rn.ieq rfl (X_nil) (by first | omega | (simp (disch := omega) only [um_eq, um_na, um_ni, Int.toNat_natCast]; omega)) (fun hc => ?_) (fun hc => absurd hc (by first | omega | decide | (simp (disch := omega) only [um_eq, um_na, um_ni, Int.toNat_natCast]; omega)))
      refine Rn.cal rfl (X_ald rfl <| X_i <| X_nil) (vs := [_, _]) (rest := []) rfl rfl rfl (rcv_v hX.ob (by decide)) (c_bad hX) ?_
      refine Rn.ri rfl (X_nil) rfl
    · refine Rn.cal rfl (X_ald rfl <| X_i <| X_ild rfl <| X_nil) (vs := [_, _, _]) (rest := []) rfl rfl rfl (rcv_v hM.ob (by decide)) (ci) ?_
      refine Rn.ieq rfl (X_nil) (by first | omega | (simp (disch := omega) only [um_eq, um_na, um_ni, Int.toNat_natCast]; omega)) (fun hc => ?_) (fun hc => absurd hc (by first | omega | decide | (simp (disch := omega) only [um_eq, um_na, um_ni, Int.toNat_natCast]; omega)))
      refine Rn.cal rfl (X_ald rfl <| X_nil) (vs := [_]) (rest := []) rfl rfl rfl (rcv_v hM.ob (by decide)) (c_mbad hM) ?_
      refine Rn.ri rfl (X_nil) rfl
theorem op_cord {c : Int} (g : Gl T M K) (ic : I32 c) : Op S 72 133 [vI c] T M K := by
  have hX := g.x
  have hM := g.m
  have hS := hX.s1
  obtain ⟨f0, f1, f2, f3, f4, f5, f6⟩ := g.rg.fl.1
  have fw := g.rg.fl.2
  have f5' : 0 ≤ M 2 5 ∧ M 2 5 ≤ 1 := f5
  by_cases h1 : 0 ≤ c ∧ c ≤ 1
  · have cb := c_becomes (S := S) (M := um M 2 5 c) (a := 5) (v := c) hM (by decide) (by decide)
    rw [um_na (by decide), g.flI (by decide) (by decide)] at cb
    have e2 : ∀ k, k ≠ 5 → um (um M 2 5 c) 77 5 c 2 k = M 2 k := fun k h5 => by rw [um_na (by decide), um_ni h5]
    have e3 : um (um M 2 5 c) 77 5 c 3 = M 3 := by rw [um_fn (by decide), um_fn (by decide)]
    refine ⟨M 2 5, T, um M 2 5 c, _, by omega, ⟨_, rfl, ?_⟩, ⟨_, rfl, ?_⟩, g.flo (N := um (um M 2 5 c) 77 5 c) (fun a a1 a2 a3 => by rw [um_fn a3, um_fn a1]) (fun k hk => by rw [um_ni (by omega), um_na (by decide)]) (fun k k0 k6 => ?_) (fun d d0 d1 => ?_) ⟨FlOk.of ?_ ?_ ?_ ?_ ?_ ?_ ?_, ?_⟩⟩
    · refine Rn.cal rfl (X_ild rfl <| X_i <| X_i <| X_nil) (vs := [_, _, _]) (rest := []) rfl rfl rfl rfl (c_wY (by omega) (by decide) (by decide) h1) ?_
      refine Rn.ine rfl (X_nil) (by first | omega | (simp (disch := omega) only [um_eq, um_na, um_ni, Int.toNat_natCast]; omega)) (fun hc => ?_) (fun hc => absurd hc (by first | omega | decide | (simp (disch := omega) only [um_eq, um_na, um_ni, Int.toNat_natCast]; omega)))
      refine Rn.ri rfl (X_ald rfl <| X_gr 7 0 hX.ob ⟨rfl, rfl⟩ rfl rfl <| X_gr 6 0 hX.s1.st ⟨rfl, rfl⟩ rfl rfl <| X_gi 1 5 5 hX.s1.fl ⟨rfl, rfl, rfl⟩ (Or.inl rfl) <| X_ist rfl (L' := [_, _, _]) rfl <| X_ald rfl <| X_gr 7 0 hX.ob ⟨rfl, rfl⟩ rfl rfl <| X_gr 6 0 hX.s1.st ⟨rfl, rfl⟩ rfl rfl <| X_ild rfl <| X_pi 1 5 5 hX.s1.fl ⟨rfl, rfl, rfl⟩ (Or.inl rfl) <| X_ild rfl <| X_nil) rfl
    · refine Rn.cal rfl (X_ild rfl <| X_i2l (by first | omega | (simp (disch := omega) only [um_eq, um_na, um_ni, Int.toNat_natCast]; omega)) <| X_l <| X_l <| X_nil) (vs := [_, _, _]) (rest := []) rfl rfl rfl rfl (c_iY (by omega) (by decide) (by decide) h1) ?_
      refine Rn.ieq rfl (X_nil) (by first | omega | (simp (disch := omega) only [um_eq, um_na, um_ni, Int.toNat_natCast]; omega)) (fun hc => absurd hc (by first | omega | decide | (simp (disch := omega) only [um_eq, um_na, um_ni, Int.toNat_natCast]; omega))) (fun hc => ?_)
      refine Rn.cal rfl (X_ald rfl <| X_i <| X_ild rfl <| X_nil) (vs := [_, _, _]) (rest := []) rfl rfl rfl (rcv_v hM.ob (by decide)) (cb) ?_
      refine Rn.jto rfl (X_nil) ?_
      refine Rn.ri rfl (X_nil) rfl
    · by_cases ek : k = 5
      · subst ek
        rw [um_na (by decide), um_eq, um_eq]
      · rw [e2 k ek, um_ni ek, um_na (by decide)]
        exact (g.flI k0 k6).symm
    · rw [e3, um_ni (by omega), um_na (by decide)]
      have := g.rg.t d d0 d1
      rw [Int.zero_add] at this
      exact this
    · show 1 ≤ um (um M 2 5 c) 77 5 c 2 0 ∧ um (um M 2 5 c) 77 5 c 2 0 ≤ 7
      rw [e2 0 (by decide)]; exact f0
    · show 1 ≤ um (um M 2 5 c) 77 5 c 2 1 ∧ um (um M 2 5 c) 77 5 c 2 1 ≤ 7
      rw [e2 1 (by decide)]; exact f1
    · show 0 ≤ um (um M 2 5 c) 77 5 c 2 2 ∧ um (um M 2 5 c) 77 5 c 2 2 < um (um M 2 5 c) 77 5 c 2 0 * um (um M 2 5 c) 77 5 c 2 1
      rw [e2 0 (by decide), e2 1 (by decide), e2 2 (by decide)]; exact f2
    · show 0 ≤ um (um M 2 5 c) 77 5 c 2 3 ∧ um (um M 2 5 c) 77 5 c 2 3 < um (um M 2 5 c) 77 5 c 2 0 * um (um M 2 5 c) 77 5 c 2 1
      rw [e2 0 (by decide), e2 1 (by decide), e2 3 (by decide)]; exact f3
    · show 0 ≤ um (um M 2 5 c) 77 5 c 2 4 ∧ um (um M 2 5 c) 77 5 c 2 4 ≤ 127
      rw [e2 4 (by decide)]; exact f4
    · show 0 ≤ um (um M 2 5 c) 77 5 c 2 5 ∧ um (um M 2 5 c) 77 5 c 2 5 ≤ 1
      rw [um_na (by decide), um_eq]; exact h1
    · show ∀ d, 0 ≤ d → d < 49 → 0 ≤ um (um M 2 5 c) 77 5 c 3 d ∧ um (um M 2 5 c) 77 5 c 3 d ≤ 9
      rw [e3]; exact f6
    · rcases fw with fw | ⟨v, w1, w2⟩
      · exact Or.inl (by show um (um M 2 5 c) 77 5 c 2 8 = -1; rw [e2 8 (by decide)]; exact fw)
      · refine Or.inr ⟨v, ?_, ?_⟩
        · show WayIs (um (um M 2 5 c) 77 5 c) 1 (um (um M 2 5 c) 77 5 c 2 3).toNat (um (um M 2 5 c) 77 5 c 2 2).toNat v
          rw [e2 3 (by decide), e2 2 (by decide), WayIs_cg (M := M) (b := 1) (e2 0 (by decide)) (e2 1 (by decide)) (e2 4 (by decide)) e3]
          exact w1
        · show um (um M 2 5 c) 77 5 c 2 8 = 2 * v
          rw [e2 8 (by decide)]; exact w2
  · refine Op.bad (v := -2) (k := 0) g (by decide) (by decide) (by decide) ⟨_, rfl, ?_⟩ (fun M1 h80 => ⟨_, rfl, ?_⟩) trivial
    · refine Rn.cal rfl (X_ild rfl <| X_i <| X_i <| X_nil) (vs := [_, _, _]) (rest := []) rfl rfl rfl rfl (c_wN (by omega) (by decide) (by decide) h1) ?_
      refine Rn.ine rfl (X_nil) (by first | omega | (simp (disch := omega) only [um_eq, um_na, um_ni, Int.toNat_natCast]; omega)) (fun hc => absurd hc (by first | omega | decide | (simp (disch := omega) only [um_eq, um_na, um_ni, Int.toNat_natCast]; omega))) (fun hc => ?_)
      refine Rn.cal rfl (X_ald rfl <| X_i <| X_nil) (vs := [_, _]) (rest := []) rfl rfl rfl (rcv_v hX.ob (by decide)) (c_bad hX) ?_
      refine Rn.ri rfl (X_nil) rfl
    · refine Rn.cal rfl (X_ild rfl <| X_i2l (by first | omega | (simp (disch := omega) only [um_eq, um_na, um_ni, Int.toNat_natCast]; omega)) <| X_l <| X_l <| X_nil) (vs := [_, _, _]) (rest := []) rfl rfl rfl rfl (c_iN (by omega) (by decide) (by decide) h1) ?_
      refine Rn.ieq rfl (X_nil) (by first | omega | (simp (disch := omega) only [um_eq, um_na, um_ni, Int.toNat_natCast]; omega)) (fun hc => ?_) (fun hc => absurd hc (by first | omega | decide | (simp (disch := omega) only [um_eq, um_na, um_ni, Int.toNat_natCast]; omega)))
      refine Rn.cal rfl (X_ald rfl <| X_nil) (vs := [_]) (rest := []) rfl rfl rfl (rcv_v hM.ob (by decide)) (c_mbad hM) ?_
      refine Rn.ri rfl (X_nil) rfl
end Ops3
end
section
/-! SLEEPER, BECOME -/
section Ops4
variable {S : List Int} {T : List Sh} {M N C C' : Nat → Int → Int} {b : Nat} {W W' : Int → Int} {r : Int} {K K' : Nat} {h : Hp}
theorem most_at {k : Int} (k0 : 0 ≤ k) (k5 : k ≤ 5) : (roL S 1).getD k.toNat 0 = mostV k := by
  rcases (show k = 0 ∨ k = 1 ∨ k = 2 ∨ k = 3 ∨ k = 4 ∨ k = 5 by omega) with rfl | rfl | rfl | rfl | rfl | rfl <;> rfl
theorem mostV_in {k : Int} : 5 ≤ mostV k ∧ mostV k ≤ 120 := by
  unfold mostV
  split
  · decide
  · split
    · decide
    · split
      · decide
      · split <;> decide
theorem c_fits {k v : Int} (k0 : 0 ≤ k) (k5 : k ≤ 5) (iv : I32 v) : Cl S 104 [vI k, vI v] h (some (vI (if (if k = 5 then -1 else 0) ≤ v ∧ v ≤ mostV k then 1 else 0)), h) := by
  have hm := mostV_in (k := k)
  have hl : ((roL S 1).length : Int) = 6 := rfl
  refine ⟨_, rfl, ?_⟩
  by_cases e : k = 5
  · rw [if_pos (c := k = 5) e, ← most_at (S := S) k0 k5]
    rw [← most_at (S := S) k0 k5] at hm
    refine Rn.cne rfl (X_ild rfl <| X_ild rfl <| X_i <| X_nil) (by first | omega | (simp (disch := omega) only [um_eq, um_na, um_ni, Int.toNat_natCast]; omega)) (by first | omega | (simp (disch := omega) only [um_eq, um_na, um_ni, Int.toNat_natCast]; omega)) (fun hc => absurd hc (by first | omega | decide | (simp (disch := omega) only [um_eq, um_na, um_ni, Int.toNat_natCast]; omega))) (fun hc => ?_)
    refine Rn.jto rfl (X_i <| X_nil) ?_
    refine Rn.cal rfl (X_o <| X_ild rfl <| X_io rfl (by first | omega | (simp (disch := omega) only [um_eq, um_na, um_ni, Int.toNat_natCast]; omega)) (by show k < ((roL S 1).length : Int); rw [hl]; omega) (by first | omega | (simp (disch := omega) only [um_eq, um_na, um_ni, Int.toNat_natCast]; omega)) <| X_nil) (vs := [_, _, _]) (rest := []) rfl rfl rfl rfl (c_within (hi := (roL S 1).getD k.toNat 0) (by omega) (by decide) (by omega)) ?_
    refine Rn.rz rfl (X_nil) rfl (by split <;> simp)
  · rw [if_neg (c := k = 5) e, ← most_at (S := S) k0 k5]
    rw [← most_at (S := S) k0 k5] at hm
    refine Rn.cne rfl (X_ild rfl <| X_ild rfl <| X_i <| X_nil) (by first | omega | (simp (disch := omega) only [um_eq, um_na, um_ni, Int.toNat_natCast]; omega)) (by first | omega | (simp (disch := omega) only [um_eq, um_na, um_ni, Int.toNat_natCast]; omega)) (fun hc => ?_) (fun hc => absurd hc (by first | omega | decide | (simp (disch := omega) only [um_eq, um_na, um_ni, Int.toNat_natCast]; omega)))
    refine Rn.fal rfl (X_i <| X_nil) ?_
    refine Rn.cal rfl (X_o <| X_ild rfl <| X_io rfl (by first | omega | (simp (disch := omega) only [um_eq, um_na, um_ni, Int.toNat_natCast]; omega)) (by show k < ((roL S 1).length : Int); rw [hl]; omega) (by first | omega | (simp (disch := omega) only [um_eq, um_na, um_ni, Int.toNat_natCast]; omega)) <| X_nil) (vs := [_, _, _]) (rest := []) rfl rfl rfl rfl (c_within (hi := (roL S 1).getD k.toNat 0) (by omega) (by decide) (by omega)) ?_
    refine Rn.rz rfl (X_nil) rfl (by split <;> simp)
theorem c_fY {k v : Int} (k0 : 0 ≤ k) (k5 : k ≤ 5) (iv : I32 v) (hc : (if k = 5 then -1 else 0) ≤ v ∧ v ≤ mostV k) : Cl S 104 [vI k, vI v] h (some (vI 1), h) := by
  have := c_fits (S := S) (h := h) k0 k5 iv
  rw [if_pos hc] at this
  exact this
theorem c_fN {k v : Int} (k0 : 0 ≤ k) (k5 : k ≤ 5) (iv : I32 v) (hc : ¬ ((if k = 5 then -1 else 0) ≤ v ∧ v ≤ mostV k)) : Cl S 104 [vI k, vI v] h (some (vI 0), h) := by
  have := c_fits (S := S) (h := h) k0 k5 iv
  rw [if_neg hc] at this
  exact this
/-- comes: the model's next sleeper -/
theorem c_comes {k rd ht cd pt : Int} (hM : isM T) (r0 : 0 ≤ r) (r1 : r + 187 ≤ 748) (s0 : 0 ≤ M 77 (r + 6)) (s3 : M 77 (r + 6) ≤ 3) : ∃ M', Cl S 127 [vR 76, vI r, vI k, vI rd, vI ht, vI cd, vI pt] (T, M) (none, (T, M')) ∧ M' 77 (r + 6) = M 77 (r + 6) + 1 ∧ (M' 77 (r + 59 + M 77 (r + 6)) = k ∧ M' 77 (r + 63 + M 77 (r + 6)) = rd ∧ M' 77 (r + 67 + M 77 (r + 6)) = ht ∧ M' 77 (r + 71 + M 77 (r + 6)) = cd ∧ M' 77 (r + 75 + M 77 (r + 6)) = pt ∧ M' 77 (r + 79 + M 77 (r + 6)) = -1 ∧ M' 77 (r + 83 + M 77 (r + 6)) = 0 ∧ M' 77 (r + 87 + M 77 (r + 6)) = 0) ∧ (∀ j, j ≠ r + 6 → (∀ k, 0 ≤ k → k < 8 → j ≠ r + 59 + 4 * k + M 77 (r + 6)) → M' 77 j = M 77 j) ∧ (∀ a, a ≠ 77 → M' a = M a) := by
  generalize hs : M 77 (r + 6) = s at *
  refine ⟨um (um (um (um (um (um (um (um (um M 77 (r + 59 + s) k) 77 (r + 63 + s) rd) 77 (r + 67 + s) ht) 77 (r + 71 + s) cd) 77 (r + 75 + s) pt) 77 (r + 79 + s) (-1)) 77 (r + 83 + s) 0) 77 (r + 87 + s) 0) 77 (r + 6) (s + 1), ⟨_, rfl, ?_⟩, um_eq, ?_, fun j hj hk => ?_, fun a ha => ?_⟩
  · obtain ⟨N, hN, eN⟩ : ∃ N, Rn S 127 0 ([], [some (vR 76), some (vI r), some (vI k), some (vI rd), some (vI ht), some (vI cd), some (vI pt), none], T, M) (none, (T, N)) ∧ N = um (um (um (um (um (um (um (um (um M 77 (r + 59 + s) k) 77 (r + 63 + s) rd) 77 (r + 67 + s) ht) 77 (r + 71 + s) cd) 77 (r + 75 + s) pt) 77 (r + 79 + s) (-1)) 77 (r + 83 + s) 0) 77 (r + 87 + s) 0) 77 (r + 6) (s + 1) := by
      subst hs
      refine ⟨_, (Rn.rv rfl (X_ald rfl <| X_gr 8 0 hM.ob ⟨rfl, rfl⟩ rfl rfl <| X_ild rfl <| X_i <| X_add <| X_ia hM.w (by first | omega | (simp (disch := omega) only [um_eq, um_na, um_ni, Int.toNat_natCast]; omega)) (by first | omega | (simp (disch := omega) only [um_eq, um_na, um_ni, Int.toNat_natCast]; omega)) rfl <| X_ist rfl (L' := [_, _, _, _, _, _, _, _]) rfl <| X_ald rfl <| X_gr 8 0 hM.ob ⟨rfl, rfl⟩ rfl rfl <| X_ild rfl <| X_i <| X_add <| X_ild rfl <| X_add <| X_ild rfl <| X_is hM.w (by first | omega | (simp (disch := omega) only [um_eq, um_na, um_ni, Int.toNat_natCast]; omega)) (by first | omega | (simp (disch := omega) only [um_eq, um_na, um_ni, Int.toNat_natCast]; omega)) rfl <| X_ald rfl <| X_gr 8 0 hM.ob ⟨rfl, rfl⟩ rfl rfl <| X_ild rfl <| X_i <| X_add <| X_ild rfl <| X_add <| X_ild rfl <| X_is hM.w (by first | omega | (simp (disch := omega) only [um_eq, um_na, um_ni, Int.toNat_natCast]; omega)) (by first | omega | (simp (disch := omega) only [um_eq, um_na, um_ni, Int.toNat_natCast]; omega)) rfl <| X_ald rfl <| X_gr 8 0 hM.ob ⟨rfl, rfl⟩ rfl rfl <| X_ild rfl <| X_i <| X_add <| X_ild rfl <| X_add <| X_ild rfl <| X_is hM.w (by first | omega | (simp (disch := omega) only [um_eq, um_na, um_ni, Int.toNat_natCast]; omega)) (by first | omega | (simp (disch := omega) only [um_eq, um_na, um_ni, Int.toNat_natCast]; omega)) rfl <| X_ald rfl <| X_gr 8 0 hM.ob ⟨rfl, rfl⟩ rfl rfl <| X_ild rfl <| X_i <| X_add <| X_ild rfl <| X_add <| X_ild rfl <| X_is hM.w (by first | omega | (simp (disch := omega) only [um_eq, um_na, um_ni, Int.toNat_natCast]; omega)) (by first | omega | (simp (disch := omega) only [um_eq, um_na, um_ni, Int.toNat_natCast]; omega)) rfl <| X_ald rfl <| X_gr 8 0 hM.ob ⟨rfl, rfl⟩ rfl rfl <| X_ild rfl <| X_i <| X_add <| X_ild rfl <| X_add <| X_ild rfl <| X_is hM.w (by first | omega | (simp (disch := omega) only [um_eq, um_na, um_ni, Int.toNat_natCast]; omega)) (by first | omega | (simp (disch := omega) only [um_eq, um_na, um_ni, Int.toNat_natCast]; omega)) rfl <| X_ald rfl <| X_gr 8 0 hM.ob ⟨rfl, rfl⟩ rfl rfl <| X_ild rfl <| X_i <| X_add <| X_ild rfl <| X_add <| X_i <| X_is hM.w (by first | omega | (simp (disch := omega) only [um_eq, um_na, um_ni, Int.toNat_natCast]; omega)) (by first | omega | (simp (disch := omega) only [um_eq, um_na, um_ni, Int.toNat_natCast]; omega)) rfl <| X_ald rfl <| X_gr 8 0 hM.ob ⟨rfl, rfl⟩ rfl rfl <| X_ild rfl <| X_i <| X_add <| X_ild rfl <| X_add <| X_i <| X_is hM.w (by first | omega | (simp (disch := omega) only [um_eq, um_na, um_ni, Int.toNat_natCast]; omega)) (by first | omega | (simp (disch := omega) only [um_eq, um_na, um_ni, Int.toNat_natCast]; omega)) rfl <| X_ald rfl <| X_gr 8 0 hM.ob ⟨rfl, rfl⟩ rfl rfl <| X_ild rfl <| X_i <| X_add <| X_ild rfl <| X_add <| X_i <| X_is hM.w (by first | omega | (simp (disch := omega) only [um_eq, um_na, um_ni, Int.toNat_natCast]; omega)) (by first | omega | (simp (disch := omega) only [um_eq, um_na, um_ni, Int.toNat_natCast]; omega)) rfl <| X_ald rfl <| X_gr 8 0 hM.ob ⟨rfl, rfl⟩ rfl rfl <| X_ild rfl <| X_i <| X_add <| X_du2 <| X_ia hM.w (by first | omega | (simp (disch := omega) only [um_eq, um_na, um_ni, Int.toNat_natCast]; omega)) (by first | omega | (simp (disch := omega) only [um_eq, um_na, um_ni, Int.toNat_natCast]; omega)) rfl <| X_i <| X_add <| X_is hM.w (by first | omega | (simp (disch := omega) only [um_eq, um_na, um_ni, Int.toNat_natCast]; omega)) (by first | omega | (simp (disch := omega) only [um_eq, um_na, um_ni, Int.toNat_natCast]; omega)) rfl <| X_nil) rfl), ?_⟩
      simp (disch := omega) only [um_ni, ne_eq]
    rw [eN] at hN
    exact hN
  · simp (disch := omega) only [um_eq, um_ni, ne_eq, and_self]
  · have g0 := hk 0 (by decide) (by decide)
    have g1 := hk 1 (by decide) (by decide)
    have g2 := hk 2 (by decide) (by decide)
    have g3 := hk 3 (by decide) (by decide)
    have g4 := hk 4 (by decide) (by decide)
    have g5 := hk 5 (by decide) (by decide)
    have g6 := hk 6 (by decide) (by decide)
    have g7 := hk 7 (by decide) (by decide)
    rw [um_ni hj, um_ni (by omega), um_ni (by omega), um_ni (by omega), um_ni (by omega), um_ni (by omega), um_ni (by omega), um_ni (by omega), um_ni (by omega)]
  · simp only [um_fn ha]
theorem Rg.bed (h : Rg C b W r K) (hK : K ≤ K') (hc : ∀ a, (a = b + 1 ∨ a = b + 2 ∨ (b + 7 ≤ a ∧ a < b + 15) ∨ (b + 23 ≤ a ∧ a < b + 26)) → C' a = C a) (h2 : C' (b + 4) 2 = C (b + 4) 2) (h3 : C' (b + 4) 3 = C (b + 4) 3) (hw : ∀ k, (0 ≤ k ∧ k < 6) ∨ (7 ≤ k ∧ k < 59) ∨ (91 ≤ k ∧ k < 187) → W' (r + k) = W (r + k)) (z : C' (b + 4) 1 = W' (r + 6)) (z4 : 0 ≤ C' (b + 4) 1 ∧ C' (b + 4) 1 ≤ 4) (s : ∀ i : Nat, (i : Int) < C' (b + 4) 1 → ∀ k, 0 ≤ k → k < 8 → C' (b + 16 + 2 * i) k = W' (r + 59 + 4 * k + (i : Int))) (tr : ∀ i : Nat, (i : Int) < C' (b + 4) 1 → TrB C' (b + 16 + 2 * i) K') : Rg C' b W' r K' := by
  have u8 := h.u8
  have m8 := h.m8
  have n4 := h.n4
  have e1 := hc (b + 1) (by omega)
  have e2 := hc (b + 2) (by omega)
  have e23 := hc (b + 23) (by omega)
  have e24 := hc (b + 24) (by omega)
  have e25 := hc (b + 25) (by omega)
  have hw' : ∀ j : Int, (r ≤ j ∧ j < r + 6) ∨ (r + 7 ≤ j ∧ j < r + 59) ∨ (r + 91 ≤ j ∧ j < r + 187) → W' j = W j := fun j hj => by
    have := hw (j - r) (by omega)
    rw [show r + (j - r) = j by omega] at this
    exact this
  unfold Rg
  rw [e1, e2, e23, e24, e25, h2, h3]
  refine ⟨fun k k0 k6 => ?_, fun c c0 c1 => ?_, z, ?_, ?_, ?_, s, ?_, ?_, ?_, z4, by omega, u8, m8, tr⟩
  · rw [hw' _ (by omega)]; exact h.f k k0 k6
  · rw [hw' _ (by omega)]; exact h.t c c0 c1
  · rw [hw' _ (by omega)]; exact h.m
  · rw [hw' _ (by omega)]; exact h.n
  · rw [hw' _ (by omega)]; exact h.u
  · intro i i0 i1
    rw [hw' (r + 91 + i) (by omega), hw' (r + 99 + i) (by omega)]
    exact h.no i i0 i1
  · intro i hi
    have e := h.p i hi
    have ea : rowA C' b i = rowA C b i := by unfold rowA; rw [h2, h3]
    have hk : ((C (b + 4) 2 - C (b + 4) 3 + (i : Int)) % 8).toNat < 8 := by omega
    rw [ea]
    have er : C' (rowA C b i) = C (rowA C b i) := hc _ (by unfold rowA; omega)
    unfold RowOk at e ⊢
    rw [er, h2, h3, hw' (r + 107 + 10 * (i : Int) + 9) (by omega), hw' (r + 107 + 10 * (i : Int) + 8) (by omega)]
    obtain ⟨q1, q2, q3, q4⟩ := e
    refine ⟨q1, q2, q3, fun s hs => ?_⟩
    rw [hw' (r + 107 + 10 * (i : Int) + s) (by omega), hw' (r + 107 + 10 * (i : Int) + 4 + s) (by omega)]
    obtain ⟨p1, p2, p3⟩ := q4 s hs
    exact ⟨p1, by omega, by omega⟩
  · exact FlNo_pw (C := C) (o := b) (by rw [e1]) (by rw [e1]) (by rw [e1]) (by rw [e1]) (by rw [e1]) (by rw [e1]) (by rw [e1]) (fun _ _ _ => by rw [e2]) h.fl
/-- one more in both -/
theorem Rg.one {k rd ht cd pt : Int} (h : Rg C b W r K) (hK : K ≤ K') (hz : C (b + 4) 1 < 4) (b1 : C' (b + 4) 1 = C (b + 4) 1 + 1) (bj : ∀ j, j ≠ 1 → C' (b + 4) j = C (b + 4) j) (bt : C' (b + 16 + 2 * (C (b + 4) 1).toNat) 0 = k ∧ C' (b + 16 + 2 * (C (b + 4) 1).toNat) 1 = rd ∧ C' (b + 16 + 2 * (C (b + 4) 1).toNat) 2 = ht ∧ C' (b + 16 + 2 * (C (b + 4) 1).toNat) 3 = cd ∧ C' (b + 16 + 2 * (C (b + 4) 1).toNat) 4 = pt ∧ C' (b + 16 + 2 * (C (b + 4) 1).toNat) 5 = -1 ∧ C' (b + 16 + 2 * (C (b + 4) 1).toNat) 6 = 0 ∧ C' (b + 16 + 2 * (C (b + 4) 1).toNat) 7 = 0) (bf : ∀ a, b + 1 ≤ a → a < b + 26 → a ≠ b + 3 → a ≠ b + 4 → a ≠ b + 16 + 2 * (C (b + 4) 1).toNat → C' a = C a) (w6 : W' (r + 6) = W (r + 6) + 1) (wt : W' (r + 59 + W (r + 6)) = k ∧ W' (r + 63 + W (r + 6)) = rd ∧ W' (r + 67 + W (r + 6)) = ht ∧ W' (r + 71 + W (r + 6)) = cd ∧ W' (r + 75 + W (r + 6)) = pt ∧ W' (r + 79 + W (r + 6)) = -1 ∧ W' (r + 83 + W (r + 6)) = 0 ∧ W' (r + 87 + W (r + 6)) = 0) (wf : ∀ j, r ≤ j → j < r + 187 → j ≠ r + 6 → (∀ k, 0 ≤ k → k < 8 → j ≠ r + 59 + 4 * k + W (r + 6)) → W' j = W j) (hk : 0 ≤ k ∧ k ≤ 5) (hrd : 0 ≤ rd ∧ rd ≤ 120) (hht : 0 ≤ ht ∧ ht ≤ 9) (hcd : 0 ≤ cd ∧ cd ≤ 20) (hpt : 0 ≤ pt ∧ pt ≤ 60) : Rg C' b W' r K' := by
  have z4 := h.z4
  have hz' := h.z
  rw [← hz'] at w6 wt wf
  generalize hs : C (b + 4) 1 = s at *
  have es : ((s.toNat : Nat) : Int) = s := by omega
  refine h.bed hK (fun a ha => bf a (by omega) (by omega) (by omega) (by omega) (by omega)) (bj 2 (by decide)) (bj 3 (by decide)) (fun j hj => wf _ (by omega) (by omega) (by omega) (fun k k0 k8 => by omega)) (by rw [b1, w6]) (by omega) (fun i hi j j0 j8 => ?_) (fun i hi => ?_)
  · by_cases ei : i = s.toNat
    · subst ei
      rw [es]
      obtain ⟨t0, t1, t2, t3, t4, t5, t6, t7⟩ := bt
      obtain ⟨u0, u1, u2, u3, u4, u5, u6, u7⟩ := wt
      rcases (show j = 0 ∨ j = 1 ∨ j = 2 ∨ j = 3 ∨ j = 4 ∨ j = 5 ∨ j = 6 ∨ j = 7 by omega) with rfl | rfl | rfl | rfl | rfl | rfl | rfl | rfl
      · rw [t0, ← u0]; congr 1
        omega
      · rw [t1, ← u1]; congr 1
        omega
      · rw [t2, ← u2]; congr 1
        omega
      · rw [t3, ← u3]; congr 1
        omega
      · rw [t4, ← u4]; congr 1
        omega
      · rw [t5, ← u5]; congr 1
        omega
      · rw [t6, ← u6]; congr 1
        omega
      · rw [t7, ← u7]; congr 1
        omega
    · rw [bf _ (by omega) (by omega) (by omega) (by omega) (by omega), wf _ (by omega) (by omega) (by omega) (fun k k0 k8 => by omega)]
      exact h.s i (by omega) j j0 j8
  · by_cases ei : i = s.toNat
    · subst ei
      obtain ⟨t0, t1, t2, t3, t4, t5, t6, t7⟩ := bt
      unfold TrB
      rw [t0, t1, t2, t3, t4, t5, t6, t7]
      omega
    · exact TrB_pw hK (fun k _ _ => by rw [bf _ (by omega) (by omega) (by omega) (by omega) (by omega)]) (h.tr i (by omega))
end Ops4
end
section
/-! SLEEPER, BECOME, TYPE, CLEAR, BURN -/
section Ops5
variable {S : List Int} {T : List Sh} {M N : Nat → Int → Int} {K : Nat} {h : Hp}
theorem Gl.sz (g : Gl T M K) : M 77 6 = M 5 1 ∧ 0 ≤ M 5 1 ∧ M 5 1 ≤ 4 := by
  have z : M 5 1 = M 77 6 := g.rg.z
  have z4 : 0 ≤ M 5 1 ∧ M 5 1 ≤ 4 := g.rg.z4
  omega
theorem c_bhY {s : Int} (hX : isX T) (h0 : 0 ≤ M 5 1 ∧ M 5 1 ≤ 4) (is : I32 s) (hc : 0 ≤ s ∧ s ≤ M 5 1 - 1) : Cl S 3 [vR (1 + 4), vI s] (T, M) (some (vI 1), (T, M)) := by
  have := c_bhas (S := S) (M := M) (b := 1) hX.s1 h0.1 h0.2 is
  rw [if_pos hc] at this
  exact this
theorem c_bhN {s : Int} (hX : isX T) (h0 : 0 ≤ M 5 1 ∧ M 5 1 ≤ 4) (is : I32 s) (hc : ¬ (0 ≤ s ∧ s ≤ M 5 1 - 1)) : Cl S 3 [vR (1 + 4), vI s] (T, M) (some (vI 0), (T, M)) := by
  have := c_bhas (S := S) (M := M) (b := 1) hX.s1 h0.1 h0.2 is
  rw [if_neg hc] at this
  exact this
theorem c_ioY {s z : Int} (hM : isM T) (e : M 77 6 = z) (h0 : 0 ≤ z ∧ z ≤ 4) (is : I32 s) (hc : 0 ≤ s ∧ s ≤ z - 1) : Cl S 125 [vR 76, vI s] (T, M) (some (vI 1), (T, M)) := by
  have := c_isOne (S := S) (M := M) (s := s) hM (by rw [e]; exact h0) is
  rw [e, if_pos hc] at this
  exact this
theorem c_ioN {s z : Int} (hM : isM T) (e : M 77 6 = z) (h0 : 0 ≤ z ∧ z ≤ 4) (is : I32 s) (hc : ¬ (0 ≤ s ∧ s ≤ z - 1)) : Cl S 125 [vR 76, vI s] (T, M) (some (vI 0), (T, M)) := by
  have := c_isOne (S := S) (M := M) (s := s) hM (by rw [e]; exact h0) is
  rw [e, if_neg hc] at this
  exact this
theorem op_sleeper {k rd ht cd pt : Int} (g : Gl T M K) (ik : I32 k) (ird : I32 rd) (iht : I32 ht) (icd : I32 cd) (ipt : I32 pt) : Op S 73 134 [vI k, vI rd, vI ht, vI cd, vI pt] T M K := by
  have hX := g.x
  have hM := g.m
  have hS := hX.s1
  have hz := g.sz
  have e45 : M (1 + 4) 1 = M 5 1 := rfl
  by_cases h1 : 0 ≤ k ∧ k ≤ 5
  case neg =>
    refine Op.bad (v := -2) (k := 0) g (by decide) (by decide) (by decide) ⟨_, rfl, ?_⟩ (fun M1 h80 => ⟨_, rfl, ?_⟩) trivial
    · refine Rn.cal rfl (X_i <| X_ild rfl <| X_nil) (vs := [_, _]) (rest := []) rfl rfl rfl rfl (c_fN (by decide) (by decide) (by omega) h1) ?_
      refine Rn.ieq rfl (X_nil) (by first | omega | (simp (disch := omega) only [um_eq, um_na, um_ni, Int.toNat_natCast]; omega)) (fun hc => ?_) (fun hc => absurd hc (by first | omega | decide | (simp (disch := omega) only [um_eq, um_na, um_ni, Int.toNat_natCast]; omega)))
      refine Rn.cal rfl (X_ald rfl <| X_i <| X_nil) (vs := [_, _]) (rest := []) rfl rfl rfl (rcv_v hX.ob (by decide)) (c_bad hX) ?_
      refine Rn.ri rfl (X_nil) rfl
    · refine Rn.cal rfl (X_ild rfl <| X_i2l (by first | omega | (simp (disch := omega) only [um_eq, um_na, um_ni, Int.toNat_natCast]; omega)) <| X_l <| X_l <| X_nil) (vs := [_, _, _]) (rest := []) rfl rfl rfl rfl (c_iN (by omega) (by decide) (by decide) h1) ?_
      refine Rn.ieq rfl (X_nil) (by first | omega | (simp (disch := omega) only [um_eq, um_na, um_ni, Int.toNat_natCast]; omega)) (fun hc => ?_) (fun hc => absurd hc (by first | omega | decide | (simp (disch := omega) only [um_eq, um_na, um_ni, Int.toNat_natCast]; omega)))
      refine Rn.cal rfl (X_ald rfl <| X_nil) (vs := [_]) (rest := []) rfl rfl rfl (rcv_v hM.ob (by decide)) (c_mbad hM) ?_
      refine Rn.ri rfl (X_nil) rfl
  by_cases h2 : 0 ≤ rd ∧ rd ≤ 120
  case neg =>
    refine Op.bad (v := -2) (k := 0) g (by decide) (by decide) (by decide) ⟨_, rfl, ?_⟩ (fun M1 h80 => ⟨_, rfl, ?_⟩) trivial
    · refine Rn.cal rfl (X_i <| X_ild rfl <| X_nil) (vs := [_, _]) (rest := []) rfl rfl rfl rfl (c_fY (by decide) (by decide) (by omega) h1) ?_
      refine Rn.ieq rfl (X_nil) (by first | omega | (simp (disch := omega) only [um_eq, um_na, um_ni, Int.toNat_natCast]; omega)) (fun hc => absurd hc (by first | omega | decide | (simp (disch := omega) only [um_eq, um_na, um_ni, Int.toNat_natCast]; omega))) (fun hc => ?_)
      refine Rn.cal rfl (X_i <| X_ild rfl <| X_nil) (vs := [_, _]) (rest := []) rfl rfl rfl rfl (c_fN (by decide) (by decide) (by omega) h2) ?_
      refine Rn.ieq rfl (X_nil) (by first | omega | (simp (disch := omega) only [um_eq, um_na, um_ni, Int.toNat_natCast]; omega)) (fun hc => ?_) (fun hc => absurd hc (by first | omega | decide | (simp (disch := omega) only [um_eq, um_na, um_ni, Int.toNat_natCast]; omega)))
      refine Rn.cal rfl (X_ald rfl <| X_i <| X_nil) (vs := [_, _]) (rest := []) rfl rfl rfl (rcv_v hX.ob (by decide)) (c_bad hX) ?_
      refine Rn.ri rfl (X_nil) rfl
    · refine Rn.cal rfl (X_ild rfl <| X_i2l (by first | omega | (simp (disch := omega) only [um_eq, um_na, um_ni, Int.toNat_natCast]; omega)) <| X_l <| X_l <| X_nil) (vs := [_, _, _]) (rest := []) rfl rfl rfl rfl (c_iY (by omega) (by decide) (by decide) h1) ?_
      refine Rn.ieq rfl (X_nil) (by first | omega | (simp (disch := omega) only [um_eq, um_na, um_ni, Int.toNat_natCast]; omega)) (fun hc => absurd hc (by first | omega | decide | (simp (disch := omega) only [um_eq, um_na, um_ni, Int.toNat_natCast]; omega))) (fun hc => ?_)
      refine Rn.cal rfl (X_ild rfl <| X_i2l (by first | omega | (simp (disch := omega) only [um_eq, um_na, um_ni, Int.toNat_natCast]; omega)) <| X_l <| X_l <| X_nil) (vs := [_, _, _]) (rest := []) rfl rfl rfl rfl (c_iN (by omega) (by decide) (by decide) h2) ?_
      refine Rn.ieq rfl (X_nil) (by first | omega | (simp (disch := omega) only [um_eq, um_na, um_ni, Int.toNat_natCast]; omega)) (fun hc => ?_) (fun hc => absurd hc (by first | omega | decide | (simp (disch := omega) only [um_eq, um_na, um_ni, Int.toNat_natCast]; omega)))
      refine Rn.cal rfl (X_ald rfl <| X_nil) (vs := [_]) (rest := []) rfl rfl rfl (rcv_v hM.ob (by decide)) (c_mbad hM) ?_
      refine Rn.ri rfl (X_nil) rfl
  by_cases h3 : 0 ≤ ht ∧ ht ≤ 9
  case neg =>
    refine Op.bad (v := -2) (k := 0) g (by decide) (by decide) (by decide) ⟨_, rfl, ?_⟩ (fun M1 h80 => ⟨_, rfl, ?_⟩) trivial
    · refine Rn.cal rfl (X_i <| X_ild rfl <| X_nil) (vs := [_, _]) (rest := []) rfl rfl rfl rfl (c_fY (by decide) (by decide) (by omega) h1) ?_
      refine Rn.ieq rfl (X_nil) (by first | omega | (simp (disch := omega) only [um_eq, um_na, um_ni, Int.toNat_natCast]; omega)) (fun hc => absurd hc (by first | omega | decide | (simp (disch := omega) only [um_eq, um_na, um_ni, Int.toNat_natCast]; omega))) (fun hc => ?_)
      refine Rn.cal rfl (X_i <| X_ild rfl <| X_nil) (vs := [_, _]) (rest := []) rfl rfl rfl rfl (c_fY (by decide) (by decide) (by omega) h2) ?_
      refine Rn.ieq rfl (X_nil) (by first | omega | (simp (disch := omega) only [um_eq, um_na, um_ni, Int.toNat_natCast]; omega)) (fun hc => absurd hc (by first | omega | decide | (simp (disch := omega) only [um_eq, um_na, um_ni, Int.toNat_natCast]; omega))) (fun hc => ?_)
      refine Rn.cal rfl (X_i <| X_ild rfl <| X_nil) (vs := [_, _]) (rest := []) rfl rfl rfl rfl (c_fN (by decide) (by decide) (by omega) h3) ?_
      refine Rn.ieq rfl (X_nil) (by first | omega | (simp (disch := omega) only [um_eq, um_na, um_ni, Int.toNat_natCast]; omega)) (fun hc => ?_) (fun hc => absurd hc (by first | omega | decide | (simp (disch := omega) only [um_eq, um_na, um_ni, Int.toNat_natCast]; omega)))
      refine Rn.cal rfl (X_ald rfl <| X_i <| X_nil) (vs := [_, _]) (rest := []) rfl rfl rfl (rcv_v hX.ob (by decide)) (c_bad hX) ?_
      refine Rn.ri rfl (X_nil) rfl
    · refine Rn.cal rfl (X_ild rfl <| X_i2l (by first | omega | (simp (disch := omega) only [um_eq, um_na, um_ni, Int.toNat_natCast]; omega)) <| X_l <| X_l <| X_nil) (vs := [_, _, _]) (rest := []) rfl rfl rfl rfl (c_iY (by omega) (by decide) (by decide) h1) ?_
      refine Rn.ieq rfl (X_nil) (by first | omega | (simp (disch := omega) only [um_eq, um_na, um_ni, Int.toNat_natCast]; omega)) (fun hc => absurd hc (by first | omega | decide | (simp (disch := omega) only [um_eq, um_na, um_ni, Int.toNat_natCast]; omega))) (fun hc => ?_)
      refine Rn.cal rfl (X_ild rfl <| X_i2l (by first | omega | (simp (disch := omega) only [um_eq, um_na, um_ni, Int.toNat_natCast]; omega)) <| X_l <| X_l <| X_nil) (vs := [_, _, _]) (rest := []) rfl rfl rfl rfl (c_iY (by omega) (by decide) (by decide) h2) ?_
      refine Rn.ieq rfl (X_nil) (by first | omega | (simp (disch := omega) only [um_eq, um_na, um_ni, Int.toNat_natCast]; omega)) (fun hc => absurd hc (by first | omega | decide | (simp (disch := omega) only [um_eq, um_na, um_ni, Int.toNat_natCast]; omega))) (fun hc => ?_)
      refine Rn.cal rfl (X_ild rfl <| X_i2l (by first | omega | (simp (disch := omega) only [um_eq, um_na, um_ni, Int.toNat_natCast]; omega)) <| X_l <| X_l <| X_nil) (vs := [_, _, _]) (rest := []) rfl rfl rfl rfl (c_iN (by omega) (by decide) (by decide) h3) ?_
      refine Rn.ieq rfl (X_nil) (by first | omega | (simp (disch := omega) only [um_eq, um_na, um_ni, Int.toNat_natCast]; omega)) (fun hc => ?_) (fun hc => absurd hc (by first | omega | decide | (simp (disch := omega) only [um_eq, um_na, um_ni, Int.toNat_natCast]; omega)))
      refine Rn.cal rfl (X_ald rfl <| X_nil) (vs := [_]) (rest := []) rfl rfl rfl (rcv_v hM.ob (by decide)) (c_mbad hM) ?_
      refine Rn.ri rfl (X_nil) rfl
  by_cases h4 : 0 ≤ cd ∧ cd ≤ 20
  case neg =>
    refine Op.bad (v := -2) (k := 0) g (by decide) (by decide) (by decide) ⟨_, rfl, ?_⟩ (fun M1 h80 => ⟨_, rfl, ?_⟩) trivial
    · refine Rn.cal rfl (X_i <| X_ild rfl <| X_nil) (vs := [_, _]) (rest := []) rfl rfl rfl rfl (c_fY (by decide) (by decide) (by omega) h1) ?_
      refine Rn.ieq rfl (X_nil) (by first | omega | (simp (disch := omega) only [um_eq, um_na, um_ni, Int.toNat_natCast]; omega)) (fun hc => absurd hc (by first | omega | decide | (simp (disch := omega) only [um_eq, um_na, um_ni, Int.toNat_natCast]; omega))) (fun hc => ?_)
      refine Rn.cal rfl (X_i <| X_ild rfl <| X_nil) (vs := [_, _]) (rest := []) rfl rfl rfl rfl (c_fY (by decide) (by decide) (by omega) h2) ?_
      refine Rn.ieq rfl (X_nil) (by first | omega | (simp (disch := omega) only [um_eq, um_na, um_ni, Int.toNat_natCast]; omega)) (fun hc => absurd hc (by first | omega | decide | (simp (disch := omega) only [um_eq, um_na, um_ni, Int.toNat_natCast]; omega))) (fun hc => ?_)
      refine Rn.cal rfl (X_i <| X_ild rfl <| X_nil) (vs := [_, _]) (rest := []) rfl rfl rfl rfl (c_fY (by decide) (by decide) (by omega) h3) ?_
      refine Rn.ieq rfl (X_nil) (by first | omega | (simp (disch := omega) only [um_eq, um_na, um_ni, Int.toNat_natCast]; omega)) (fun hc => absurd hc (by first | omega | decide | (simp (disch := omega) only [um_eq, um_na, um_ni, Int.toNat_natCast]; omega))) (fun hc => ?_)
      refine Rn.cal rfl (X_i <| X_ild rfl <| X_nil) (vs := [_, _]) (rest := []) rfl rfl rfl rfl (c_fN (by decide) (by decide) (by omega) h4) ?_
      refine Rn.ieq rfl (X_nil) (by first | omega | (simp (disch := omega) only [um_eq, um_na, um_ni, Int.toNat_natCast]; omega)) (fun hc => ?_) (fun hc => absurd hc (by first | omega | decide | (simp (disch := omega) only [um_eq, um_na, um_ni, Int.toNat_natCast]; omega)))
      refine Rn.cal rfl (X_ald rfl <| X_i <| X_nil) (vs := [_, _]) (rest := []) rfl rfl rfl (rcv_v hX.ob (by decide)) (c_bad hX) ?_
      refine Rn.ri rfl (X_nil) rfl
    · refine Rn.cal rfl (X_ild rfl <| X_i2l (by first | omega | (simp (disch := omega) only [um_eq, um_na, um_ni, Int.toNat_natCast]; omega)) <| X_l <| X_l <| X_nil) (vs := [_, _, _]) (rest := []) rfl rfl rfl rfl (c_iY (by omega) (by decide) (by decide) h1) ?_
      refine Rn.ieq rfl (X_nil) (by first | omega | (simp (disch := omega) only [um_eq, um_na, um_ni, Int.toNat_natCast]; omega)) (fun hc => absurd hc (by first | omega | decide | (simp (disch := omega) only [um_eq, um_na, um_ni, Int.toNat_natCast]; omega))) (fun hc => ?_)
      refine Rn.cal rfl (X_ild rfl <| X_i2l (by first | omega | (simp (disch := omega) only [um_eq, um_na, um_ni, Int.toNat_natCast]; omega)) <| X_l <| X_l <| X_nil) (vs := [_, _, _]) (rest := []) rfl rfl rfl rfl (c_iY (by omega) (by decide) (by decide) h2) ?_
      refine Rn.ieq rfl (X_nil) (by first | omega | (simp (disch := omega) only [um_eq, um_na, um_ni, Int.toNat_natCast]; omega)) (fun hc => absurd hc (by first | omega | decide | (simp (disch := omega) only [um_eq, um_na, um_ni, Int.toNat_natCast]; omega))) (fun hc => ?_)
      refine Rn.cal rfl (X_ild rfl <| X_i2l (by first | omega | (simp (disch := omega) only [um_eq, um_na, um_ni, Int.toNat_natCast]; omega)) <| X_l <| X_l <| X_nil) (vs := [_, _, _]) (rest := []) rfl rfl rfl rfl (c_iY (by omega) (by decide) (by decide) h3) ?_
      refine Rn.ieq rfl (X_nil) (by first | omega | (simp (disch := omega) only [um_eq, um_na, um_ni, Int.toNat_natCast]; omega)) (fun hc => absurd hc (by first | omega | decide | (simp (disch := omega) only [um_eq, um_na, um_ni, Int.toNat_natCast]; omega))) (fun hc => ?_)
      refine Rn.cal rfl (X_ild rfl <| X_i2l (by first | omega | (simp (disch := omega) only [um_eq, um_na, um_ni, Int.toNat_natCast]; omega)) <| X_l <| X_l <| X_nil) (vs := [_, _, _]) (rest := []) rfl rfl rfl rfl (c_iN (by omega) (by decide) (by decide) h4) ?_
      refine Rn.ieq rfl (X_nil) (by first | omega | (simp (disch := omega) only [um_eq, um_na, um_ni, Int.toNat_natCast]; omega)) (fun hc => ?_) (fun hc => absurd hc (by first | omega | decide | (simp (disch := omega) only [um_eq, um_na, um_ni, Int.toNat_natCast]; omega)))
      refine Rn.cal rfl (X_ald rfl <| X_nil) (vs := [_]) (rest := []) rfl rfl rfl (rcv_v hM.ob (by decide)) (c_mbad hM) ?_
      refine Rn.ri rfl (X_nil) rfl
  by_cases h5 : 0 ≤ pt ∧ pt ≤ 60
  case neg =>
    refine Op.bad (v := -2) (k := 0) g (by decide) (by decide) (by decide) ⟨_, rfl, ?_⟩ (fun M1 h80 => ⟨_, rfl, ?_⟩) trivial
    · refine Rn.cal rfl (X_i <| X_ild rfl <| X_nil) (vs := [_, _]) (rest := []) rfl rfl rfl rfl (c_fY (by decide) (by decide) (by omega) h1) ?_
      refine Rn.ieq rfl (X_nil) (by first | omega | (simp (disch := omega) only [um_eq, um_na, um_ni, Int.toNat_natCast]; omega)) (fun hc => absurd hc (by first | omega | decide | (simp (disch := omega) only [um_eq, um_na, um_ni, Int.toNat_natCast]; omega))) (fun hc => ?_)
      refine Rn.cal rfl (X_i <| X_ild rfl <| X_nil) (vs := [_, _]) (rest := []) rfl rfl rfl rfl (c_fY (by decide) (by decide) (by omega) h2) ?_
      refine Rn.ieq rfl (X_nil) (by first | omega | (simp (disch := omega) only [um_eq, um_na, um_ni, Int.toNat_natCast]; omega)) (fun hc => absurd hc (by first | omega | decide | (simp (disch := omega) only [um_eq, um_na, um_ni, Int.toNat_natCast]; omega))) (fun hc => ?_)
      refine Rn.cal rfl (X_i <| X_ild rfl <| X_nil) (vs := [_, _]) (rest := []) rfl rfl rfl rfl (c_fY (by decide) (by decide) (by omega) h3) ?_
      refine Rn.ieq rfl (X_nil) (by first | omega | (simp (disch := omega) only [um_eq, um_na, um_ni, Int.toNat_natCast]; omega)) (fun hc => absurd hc (by first | omega | decide | (simp (disch := omega) only [um_eq, um_na, um_ni, Int.toNat_natCast]; omega))) (fun hc => ?_)
      refine Rn.cal rfl (X_i <| X_ild rfl <| X_nil) (vs := [_, _]) (rest := []) rfl rfl rfl rfl (c_fY (by decide) (by decide) (by omega) h4) ?_
      refine Rn.ieq rfl (X_nil) (by first | omega | (simp (disch := omega) only [um_eq, um_na, um_ni, Int.toNat_natCast]; omega)) (fun hc => absurd hc (by first | omega | decide | (simp (disch := omega) only [um_eq, um_na, um_ni, Int.toNat_natCast]; omega))) (fun hc => ?_)
      refine Rn.cal rfl (X_i <| X_ild rfl <| X_nil) (vs := [_, _]) (rest := []) rfl rfl rfl rfl (c_fN (by decide) (by decide) (by omega) h5) ?_
      refine Rn.ine rfl (X_nil) (by first | omega | (simp (disch := omega) only [um_eq, um_na, um_ni, Int.toNat_natCast]; omega)) (fun hc => absurd hc (by first | omega | decide | (simp (disch := omega) only [um_eq, um_na, um_ni, Int.toNat_natCast]; omega))) (fun hc => ?_)
      refine Rn.cal rfl (X_ald rfl <| X_i <| X_nil) (vs := [_, _]) (rest := []) rfl rfl rfl (rcv_v hX.ob (by decide)) (c_bad hX) ?_
      refine Rn.ri rfl (X_nil) rfl
    · refine Rn.cal rfl (X_ild rfl <| X_i2l (by first | omega | (simp (disch := omega) only [um_eq, um_na, um_ni, Int.toNat_natCast]; omega)) <| X_l <| X_l <| X_nil) (vs := [_, _, _]) (rest := []) rfl rfl rfl rfl (c_iY (by omega) (by decide) (by decide) h1) ?_
      refine Rn.ieq rfl (X_nil) (by first | omega | (simp (disch := omega) only [um_eq, um_na, um_ni, Int.toNat_natCast]; omega)) (fun hc => absurd hc (by first | omega | decide | (simp (disch := omega) only [um_eq, um_na, um_ni, Int.toNat_natCast]; omega))) (fun hc => ?_)
      refine Rn.cal rfl (X_ild rfl <| X_i2l (by first | omega | (simp (disch := omega) only [um_eq, um_na, um_ni, Int.toNat_natCast]; omega)) <| X_l <| X_l <| X_nil) (vs := [_, _, _]) (rest := []) rfl rfl rfl rfl (c_iY (by omega) (by decide) (by decide) h2) ?_
      refine Rn.ieq rfl (X_nil) (by first | omega | (simp (disch := omega) only [um_eq, um_na, um_ni, Int.toNat_natCast]; omega)) (fun hc => absurd hc (by first | omega | decide | (simp (disch := omega) only [um_eq, um_na, um_ni, Int.toNat_natCast]; omega))) (fun hc => ?_)
      refine Rn.cal rfl (X_ild rfl <| X_i2l (by first | omega | (simp (disch := omega) only [um_eq, um_na, um_ni, Int.toNat_natCast]; omega)) <| X_l <| X_l <| X_nil) (vs := [_, _, _]) (rest := []) rfl rfl rfl rfl (c_iY (by omega) (by decide) (by decide) h3) ?_
      refine Rn.ieq rfl (X_nil) (by first | omega | (simp (disch := omega) only [um_eq, um_na, um_ni, Int.toNat_natCast]; omega)) (fun hc => absurd hc (by first | omega | decide | (simp (disch := omega) only [um_eq, um_na, um_ni, Int.toNat_natCast]; omega))) (fun hc => ?_)
      refine Rn.cal rfl (X_ild rfl <| X_i2l (by first | omega | (simp (disch := omega) only [um_eq, um_na, um_ni, Int.toNat_natCast]; omega)) <| X_l <| X_l <| X_nil) (vs := [_, _, _]) (rest := []) rfl rfl rfl rfl (c_iY (by omega) (by decide) (by decide) h4) ?_
      refine Rn.ieq rfl (X_nil) (by first | omega | (simp (disch := omega) only [um_eq, um_na, um_ni, Int.toNat_natCast]; omega)) (fun hc => absurd hc (by first | omega | decide | (simp (disch := omega) only [um_eq, um_na, um_ni, Int.toNat_natCast]; omega))) (fun hc => ?_)
      refine Rn.cal rfl (X_ild rfl <| X_i2l (by first | omega | (simp (disch := omega) only [um_eq, um_na, um_ni, Int.toNat_natCast]; omega)) <| X_l <| X_l <| X_nil) (vs := [_, _, _]) (rest := []) rfl rfl rfl rfl (c_iN (by omega) (by decide) (by decide) h5) ?_
      refine Rn.ine rfl (X_nil) (by first | omega | (simp (disch := omega) only [um_eq, um_na, um_ni, Int.toNat_natCast]; omega)) (fun hc => absurd hc (by first | omega | decide | (simp (disch := omega) only [um_eq, um_na, um_ni, Int.toNat_natCast]; omega))) (fun hc => ?_)
      refine Rn.cal rfl (X_ald rfl <| X_nil) (vs := [_]) (rest := []) rfl rfl rfl (rcv_v hM.ob (by decide)) (c_mbad hM) ?_
      refine Rn.ri rfl (X_nil) rfl
  by_cases h6 : M 5 1 < 4
  case neg =>
    refine Op.bad1 (v := -4) (k := 2) g (by decide) (by decide) (by decide) ⟨_, rfl, ?_⟩ ⟨_, rfl, ?_⟩
    · refine Rn.cal rfl (X_i <| X_ild rfl <| X_nil) (vs := [_, _]) (rest := []) rfl rfl rfl rfl (c_fY (by decide) (by decide) (by omega) h1) ?_
      refine Rn.ieq rfl (X_nil) (by first | omega | (simp (disch := omega) only [um_eq, um_na, um_ni, Int.toNat_natCast]; omega)) (fun hc => absurd hc (by first | omega | decide | (simp (disch := omega) only [um_eq, um_na, um_ni, Int.toNat_natCast]; omega))) (fun hc => ?_)
      refine Rn.cal rfl (X_i <| X_ild rfl <| X_nil) (vs := [_, _]) (rest := []) rfl rfl rfl rfl (c_fY (by decide) (by decide) (by omega) h2) ?_
      refine Rn.ieq rfl (X_nil) (by first | omega | (simp (disch := omega) only [um_eq, um_na, um_ni, Int.toNat_natCast]; omega)) (fun hc => absurd hc (by first | omega | decide | (simp (disch := omega) only [um_eq, um_na, um_ni, Int.toNat_natCast]; omega))) (fun hc => ?_)
      refine Rn.cal rfl (X_i <| X_ild rfl <| X_nil) (vs := [_, _]) (rest := []) rfl rfl rfl rfl (c_fY (by decide) (by decide) (by omega) h3) ?_
      refine Rn.ieq rfl (X_nil) (by first | omega | (simp (disch := omega) only [um_eq, um_na, um_ni, Int.toNat_natCast]; omega)) (fun hc => absurd hc (by first | omega | decide | (simp (disch := omega) only [um_eq, um_na, um_ni, Int.toNat_natCast]; omega))) (fun hc => ?_)
      refine Rn.cal rfl (X_i <| X_ild rfl <| X_nil) (vs := [_, _]) (rest := []) rfl rfl rfl rfl (c_fY (by decide) (by decide) (by omega) h4) ?_
      refine Rn.ieq rfl (X_nil) (by first | omega | (simp (disch := omega) only [um_eq, um_na, um_ni, Int.toNat_natCast]; omega)) (fun hc => absurd hc (by first | omega | decide | (simp (disch := omega) only [um_eq, um_na, um_ni, Int.toNat_natCast]; omega))) (fun hc => ?_)
      refine Rn.cal rfl (X_i <| X_ild rfl <| X_nil) (vs := [_, _]) (rest := []) rfl rfl rfl rfl (c_fY (by decide) (by decide) (by omega) h5) ?_
      refine Rn.ine rfl (X_nil) (by first | omega | (simp (disch := omega) only [um_eq, um_na, um_ni, Int.toNat_natCast]; omega)) (fun hc => ?_) (fun hc => absurd hc (by first | omega | decide | (simp (disch := omega) only [um_eq, um_na, um_ni, Int.toNat_natCast]; omega)))
      refine Rn.clt rfl (X_ald rfl <| X_gr 7 0 hX.ob ⟨rfl, rfl⟩ rfl rfl <| X_gr 6 1 hX.s1.st ⟨rfl, rfl⟩ rfl rfl <| X_gi 0 1 1 hX.s1.be ⟨rfl, rfl, rfl⟩ (Or.inl rfl) <| X_i <| X_nil) (by first | omega | (simp (disch := omega) only [um_eq, um_na, um_ni, Int.toNat_natCast]; omega)) (by first | omega | (simp (disch := omega) only [um_eq, um_na, um_ni, Int.toNat_natCast]; omega)) (fun hc => absurd hc (by first | omega | decide | (simp (disch := omega) only [um_eq, um_na, um_ni, Int.toNat_natCast]; omega))) (fun hc => ?_)
      refine Rn.cal rfl (X_ald rfl <| X_nil) (vs := [_]) (rest := []) rfl rfl rfl (rcv_v hX.ob (by decide)) (c_full hX) ?_
      refine Rn.ri rfl (X_nil) rfl
    · refine Rn.cal rfl (X_ild rfl <| X_i2l (by first | omega | (simp (disch := omega) only [um_eq, um_na, um_ni, Int.toNat_natCast]; omega)) <| X_l <| X_l <| X_nil) (vs := [_, _, _]) (rest := []) rfl rfl rfl rfl (c_iY (by omega) (by decide) (by decide) h1) ?_
      refine Rn.ieq rfl (X_nil) (by first | omega | (simp (disch := omega) only [um_eq, um_na, um_ni, Int.toNat_natCast]; omega)) (fun hc => absurd hc (by first | omega | decide | (simp (disch := omega) only [um_eq, um_na, um_ni, Int.toNat_natCast]; omega))) (fun hc => ?_)
      refine Rn.cal rfl (X_ild rfl <| X_i2l (by first | omega | (simp (disch := omega) only [um_eq, um_na, um_ni, Int.toNat_natCast]; omega)) <| X_l <| X_l <| X_nil) (vs := [_, _, _]) (rest := []) rfl rfl rfl rfl (c_iY (by omega) (by decide) (by decide) h2) ?_
      refine Rn.ieq rfl (X_nil) (by first | omega | (simp (disch := omega) only [um_eq, um_na, um_ni, Int.toNat_natCast]; omega)) (fun hc => absurd hc (by first | omega | decide | (simp (disch := omega) only [um_eq, um_na, um_ni, Int.toNat_natCast]; omega))) (fun hc => ?_)
      refine Rn.cal rfl (X_ild rfl <| X_i2l (by first | omega | (simp (disch := omega) only [um_eq, um_na, um_ni, Int.toNat_natCast]; omega)) <| X_l <| X_l <| X_nil) (vs := [_, _, _]) (rest := []) rfl rfl rfl rfl (c_iY (by omega) (by decide) (by decide) h3) ?_
      refine Rn.ieq rfl (X_nil) (by first | omega | (simp (disch := omega) only [um_eq, um_na, um_ni, Int.toNat_natCast]; omega)) (fun hc => absurd hc (by first | omega | decide | (simp (disch := omega) only [um_eq, um_na, um_ni, Int.toNat_natCast]; omega))) (fun hc => ?_)
      refine Rn.cal rfl (X_ild rfl <| X_i2l (by first | omega | (simp (disch := omega) only [um_eq, um_na, um_ni, Int.toNat_natCast]; omega)) <| X_l <| X_l <| X_nil) (vs := [_, _, _]) (rest := []) rfl rfl rfl rfl (c_iY (by omega) (by decide) (by decide) h4) ?_
      refine Rn.ieq rfl (X_nil) (by first | omega | (simp (disch := omega) only [um_eq, um_na, um_ni, Int.toNat_natCast]; omega)) (fun hc => absurd hc (by first | omega | decide | (simp (disch := omega) only [um_eq, um_na, um_ni, Int.toNat_natCast]; omega))) (fun hc => ?_)
      refine Rn.cal rfl (X_ild rfl <| X_i2l (by first | omega | (simp (disch := omega) only [um_eq, um_na, um_ni, Int.toNat_natCast]; omega)) <| X_l <| X_l <| X_nil) (vs := [_, _, _]) (rest := []) rfl rfl rfl rfl (c_iY (by omega) (by decide) (by decide) h5) ?_
      refine Rn.ine rfl (X_nil) (by first | omega | (simp (disch := omega) only [um_eq, um_na, um_ni, Int.toNat_natCast]; omega)) (fun hc => ?_) (fun hc => absurd hc (by first | omega | decide | (simp (disch := omega) only [um_eq, um_na, um_ni, Int.toNat_natCast]; omega)))
      refine Rn.cne rfl (X_ald rfl <| X_gr 8 0 hM.ob ⟨rfl, rfl⟩ rfl rfl <| X_i <| X_ia hM.w (by first | omega | (simp (disch := omega) only [um_eq, um_na, um_ni, Int.toNat_natCast]; omega)) (by first | omega | (simp (disch := omega) only [um_eq, um_na, um_ni, Int.toNat_natCast]; omega)) rfl <| X_i <| X_nil) (by first | omega | (simp (disch := omega) only [um_eq, um_na, um_ni, Int.toNat_natCast]; omega)) (by first | omega | (simp (disch := omega) only [um_eq, um_na, um_ni, Int.toNat_natCast]; omega)) (fun hc => absurd hc (by first | omega | decide | (simp (disch := omega) only [um_eq, um_na, um_ni, Int.toNat_natCast]; omega))) (fun hc => ?_)
      refine Rn.cal rfl (X_ald rfl <| X_i <| X_nil) (vs := [_, _]) (rest := []) rfl rfl rfl (rcv_v hM.ob (by decide)) (c_met hM (Or.inr (Or.inr rfl))) ?_
      refine Rn.ri rfl (X_nil) rfl
  obtain ⟨M1, c1, b1, bj, bt, bf⟩ := c_welcome (S := S) (M := M) (b := 1) (k := k) (r := rd) (t := ht) (c := cd) (p := pt) hS hz.2.1 h6
  have e77 : M1 77 = M 77 := bf _ (by decide) (by omega)
  have e6 : M1 77 (0 + 6) = M 5 1 := by rw [e77]; exact hz.1
  obtain ⟨M2, c2, m6, mt, mj, mf⟩ := c_comes (S := S) (M := M1) (r := 0) (k := k) (rd := rd) (ht := ht) (cd := cd) (pt := pt) hM (by decide) (by decide) (by rw [e6]; omega) (by rw [e6]; omega)
  have m6' : M2 77 6 = M 5 1 + 1 := by rw [← e6]; exact m6
  have e : ∀ a, a ≠ 5 → a ≠ 1 + 16 + 2 * (M 5 1).toNat → a ≠ 77 → M2 a = M a := fun a a1 a2 a3 => by rw [mf a a3, bf a a1 a2]
  have e76 := e 76 (by decide) (by omega) (by decide)
  refine ⟨M 5 1, T, M1, M2, by omega, ⟨_, rfl, ?_⟩, ⟨_, rfl, ?_⟩, g.upd (Kept.of (fun a ha => e a (by omega) (by omega) (by omega)) (by rw [e76]) (by rw [e76]) (by rw [e76]) (fun j j0 j1 => by rw [mj j (by omega) (fun k k0 k8 => by rw [e6]; omega), e77])) ?_ (g.re.cg (e _ (by decide) (by omega) (by decide)) (e _ (by decide) (by omega) (by decide)) (by omega)) (by omega)⟩
  · refine Rn.cal rfl (X_i <| X_ild rfl <| X_nil) (vs := [_, _]) (rest := []) rfl rfl rfl rfl (c_fY (by decide) (by decide) (by omega) h1) ?_
    refine Rn.ieq rfl (X_nil) (by first | omega | (simp (disch := omega) only [um_eq, um_na, um_ni, Int.toNat_natCast]; omega)) (fun hc => absurd hc (by first | omega | decide | (simp (disch := omega) only [um_eq, um_na, um_ni, Int.toNat_natCast]; omega))) (fun hc => ?_)
    refine Rn.cal rfl (X_i <| X_ild rfl <| X_nil) (vs := [_, _]) (rest := []) rfl rfl rfl rfl (c_fY (by decide) (by decide) (by omega) h2) ?_
    refine Rn.ieq rfl (X_nil) (by first | omega | (simp (disch := omega) only [um_eq, um_na, um_ni, Int.toNat_natCast]; omega)) (fun hc => absurd hc (by first | omega | decide | (simp (disch := omega) only [um_eq, um_na, um_ni, Int.toNat_natCast]; omega))) (fun hc => ?_)
    refine Rn.cal rfl (X_i <| X_ild rfl <| X_nil) (vs := [_, _]) (rest := []) rfl rfl rfl rfl (c_fY (by decide) (by decide) (by omega) h3) ?_
    refine Rn.ieq rfl (X_nil) (by first | omega | (simp (disch := omega) only [um_eq, um_na, um_ni, Int.toNat_natCast]; omega)) (fun hc => absurd hc (by first | omega | decide | (simp (disch := omega) only [um_eq, um_na, um_ni, Int.toNat_natCast]; omega))) (fun hc => ?_)
    refine Rn.cal rfl (X_i <| X_ild rfl <| X_nil) (vs := [_, _]) (rest := []) rfl rfl rfl rfl (c_fY (by decide) (by decide) (by omega) h4) ?_
    refine Rn.ieq rfl (X_nil) (by first | omega | (simp (disch := omega) only [um_eq, um_na, um_ni, Int.toNat_natCast]; omega)) (fun hc => absurd hc (by first | omega | decide | (simp (disch := omega) only [um_eq, um_na, um_ni, Int.toNat_natCast]; omega))) (fun hc => ?_)
    refine Rn.cal rfl (X_i <| X_ild rfl <| X_nil) (vs := [_, _]) (rest := []) rfl rfl rfl rfl (c_fY (by decide) (by decide) (by omega) h5) ?_
    refine Rn.ine rfl (X_nil) (by first | omega | (simp (disch := omega) only [um_eq, um_na, um_ni, Int.toNat_natCast]; omega)) (fun hc => ?_) (fun hc => absurd hc (by first | omega | decide | (simp (disch := omega) only [um_eq, um_na, um_ni, Int.toNat_natCast]; omega)))
    refine Rn.clt rfl (X_ald rfl <| X_gr 7 0 hX.ob ⟨rfl, rfl⟩ rfl rfl <| X_gr 6 1 hX.s1.st ⟨rfl, rfl⟩ rfl rfl <| X_gi 0 1 1 hX.s1.be ⟨rfl, rfl, rfl⟩ (Or.inl rfl) <| X_i <| X_nil) (by first | omega | (simp (disch := omega) only [um_eq, um_na, um_ni, Int.toNat_natCast]; omega)) (by first | omega | (simp (disch := omega) only [um_eq, um_na, um_ni, Int.toNat_natCast]; omega)) (fun hc => ?_) (fun hc => absurd hc (by first | omega | decide | (simp (disch := omega) only [um_eq, um_na, um_ni, Int.toNat_natCast]; omega)))
    refine Rn.cal rfl (X_ald rfl <| X_gr 7 0 hX.ob ⟨rfl, rfl⟩ rfl rfl <| X_gr 6 1 hX.s1.st ⟨rfl, rfl⟩ rfl rfl <| X_ild rfl <| X_ild rfl <| X_ild rfl <| X_ild rfl <| X_ild rfl <| X_nil) (vs := [_, _, _, _, _, _]) (rest := []) rfl rfl rfl (rcv_v hX.s1.be (by decide)) (c1) ?_
    refine Rn.ri rfl (X_nil) rfl
  · have e5 : M1 77 6 = M 5 1 := e6
    have er : M 5 1 = M2 77 6 - 1 := by omega
    rw [er]
    refine Rn.cal rfl (X_ild rfl <| X_i2l (by first | omega | (simp (disch := omega) only [um_eq, um_na, um_ni, Int.toNat_natCast]; omega)) <| X_l <| X_l <| X_nil) (vs := [_, _, _]) (rest := []) rfl rfl rfl rfl (c_iY (by omega) (by decide) (by decide) h1) ?_
    refine Rn.ieq rfl (X_nil) (by first | omega | (simp (disch := omega) only [um_eq, um_na, um_ni, Int.toNat_natCast]; omega)) (fun hc => absurd hc (by first | omega | decide | (simp (disch := omega) only [um_eq, um_na, um_ni, Int.toNat_natCast]; omega))) (fun hc => ?_)
    refine Rn.cal rfl (X_ild rfl <| X_i2l (by first | omega | (simp (disch := omega) only [um_eq, um_na, um_ni, Int.toNat_natCast]; omega)) <| X_l <| X_l <| X_nil) (vs := [_, _, _]) (rest := []) rfl rfl rfl rfl (c_iY (by omega) (by decide) (by decide) h2) ?_
    refine Rn.ieq rfl (X_nil) (by first | omega | (simp (disch := omega) only [um_eq, um_na, um_ni, Int.toNat_natCast]; omega)) (fun hc => absurd hc (by first | omega | decide | (simp (disch := omega) only [um_eq, um_na, um_ni, Int.toNat_natCast]; omega))) (fun hc => ?_)
    refine Rn.cal rfl (X_ild rfl <| X_i2l (by first | omega | (simp (disch := omega) only [um_eq, um_na, um_ni, Int.toNat_natCast]; omega)) <| X_l <| X_l <| X_nil) (vs := [_, _, _]) (rest := []) rfl rfl rfl rfl (c_iY (by omega) (by decide) (by decide) h3) ?_
    refine Rn.ieq rfl (X_nil) (by first | omega | (simp (disch := omega) only [um_eq, um_na, um_ni, Int.toNat_natCast]; omega)) (fun hc => absurd hc (by first | omega | decide | (simp (disch := omega) only [um_eq, um_na, um_ni, Int.toNat_natCast]; omega))) (fun hc => ?_)
    refine Rn.cal rfl (X_ild rfl <| X_i2l (by first | omega | (simp (disch := omega) only [um_eq, um_na, um_ni, Int.toNat_natCast]; omega)) <| X_l <| X_l <| X_nil) (vs := [_, _, _]) (rest := []) rfl rfl rfl rfl (c_iY (by omega) (by decide) (by decide) h4) ?_
    refine Rn.ieq rfl (X_nil) (by first | omega | (simp (disch := omega) only [um_eq, um_na, um_ni, Int.toNat_natCast]; omega)) (fun hc => absurd hc (by first | omega | decide | (simp (disch := omega) only [um_eq, um_na, um_ni, Int.toNat_natCast]; omega))) (fun hc => ?_)
    refine Rn.cal rfl (X_ild rfl <| X_i2l (by first | omega | (simp (disch := omega) only [um_eq, um_na, um_ni, Int.toNat_natCast]; omega)) <| X_l <| X_l <| X_nil) (vs := [_, _, _]) (rest := []) rfl rfl rfl rfl (c_iY (by omega) (by decide) (by decide) h5) ?_
    refine Rn.ine rfl (X_nil) (by first | omega | (simp (disch := omega) only [um_eq, um_na, um_ni, Int.toNat_natCast]; omega)) (fun hc => ?_) (fun hc => absurd hc (by first | omega | decide | (simp (disch := omega) only [um_eq, um_na, um_ni, Int.toNat_natCast]; omega)))
    refine Rn.cne rfl (X_ald rfl <| X_gr 8 0 hM.ob ⟨rfl, rfl⟩ rfl rfl <| X_i <| X_ia hM.w (by first | omega | (simp (disch := omega) only [um_eq, um_na, um_ni, Int.toNat_natCast]; omega)) (by first | omega | (simp (disch := omega) only [um_eq, um_na, um_ni, Int.toNat_natCast]; omega)) rfl <| X_i <| X_nil) (by first | omega | (simp (disch := omega) only [um_eq, um_na, um_ni, Int.toNat_natCast]; omega)) (by first | omega | (simp (disch := omega) only [um_eq, um_na, um_ni, Int.toNat_natCast]; omega)) (fun hc => ?_) (fun hc => absurd hc (by first | omega | decide | (simp (disch := omega) only [um_eq, um_na, um_ni, Int.toNat_natCast]; omega)))
    refine Rn.cal rfl (X_ald rfl <| X_i <| X_ild rfl <| X_ild rfl <| X_ild rfl <| X_ild rfl <| X_ild rfl <| X_nil) (vs := [_, _, _, _, _, _, _]) (rest := []) rfl rfl rfl (rcv_v hM.ob (by decide)) (c2) ?_
    refine Rn.ri rfl (X_ald rfl <| X_gr 8 0 hM.ob ⟨rfl, rfl⟩ rfl rfl <| X_i <| X_ia hM.w (by first | omega | (simp (disch := omega) only [um_eq, um_na, um_ni, Int.toNat_natCast]; omega)) (by first | omega | (simp (disch := omega) only [um_eq, um_na, um_ni, Int.toNat_natCast]; omega)) rfl <| X_i <| X_sub <| X_nil) rfl
  · refine g.rg.one (K' := K + 1) (by omega) h6 (by rw [mf (1 + 4) (by decide)]; exact b1) (fun j hj => by rw [mf (1 + 4) (by decide)]; exact bj j hj) (by rw [mf _ (by omega)]; exact bt) (fun a a0 a1 a2 a3 a4 => e a a3 a4 (by omega)) (by rw [← e77]; exact m6) (by rw [← e77]; exact mt) (fun j j0 j1 j2 j3 => ?_) h1 h2 h3 h4 h5
    rw [← e77]
    exact mj j j2 (by rw [e77]; exact j3)
end Ops5
end
section
/-! BECOME, TYPE, CLEAR, BURN, NOTE -/
section Ops6
variable {S : List Int} {T : List Sh} {M N C : Nat → Int → Int} {K : Nat} {h : Hp}
theorem TrB.tr5 {a : Nat} {k : Int} (t : TrB C a K) (k0 : 0 ≤ k) (k5 : k ≤ 5) : -1 ≤ C a k ∧ C a k ≤ 120 := by
  obtain ⟨⟨h0, h1, h2, h3, h4, h5⟩, h6, h7⟩ := t
  rcases (show k = 0 ∨ k = 1 ∨ k = 2 ∨ k = 3 ∨ k = 4 ∨ k = 5 by omega) with rfl | rfl | rfl | rfl | rfl | rfl <;> omega
theorem TrB_set {a : Nat} {j v : Int} (t : TrB C a K) (j0 : 0 ≤ j) (j5 : j ≤ 5) (hv : (if j = 5 then -1 else 0) ≤ v ∧ v ≤ mostV j) : TrB (um C a j v) a K := by
  obtain ⟨⟨h0, h1, h2, h3, h4, h5⟩, h6, h7⟩ := t
  unfold TrB
  rcases (show j = 0 ∨ j = 1 ∨ j = 2 ∨ j = 3 ∨ j = 4 ∨ j = 5 by omega) with rfl | rfl | rfl | rfl | rfl | rfl
  · have hv : 0 ≤ v ∧ v ≤ 5 := hv
    simp (disch := omega) only [um_eq, um_ni, ne_eq]
    exact ⟨⟨hv, h1, h2, h3, h4, h5⟩, h6, h7⟩
  · have hv : 0 ≤ v ∧ v ≤ 120 := hv
    simp (disch := omega) only [um_eq, um_ni, ne_eq]
    exact ⟨⟨h0, hv, h2, h3, h4, h5⟩, h6, h7⟩
  · have hv : 0 ≤ v ∧ v ≤ 9 := hv
    simp (disch := omega) only [um_eq, um_ni, ne_eq]
    exact ⟨⟨h0, h1, hv, h3, h4, h5⟩, h6, h7⟩
  · have hv : 0 ≤ v ∧ v ≤ 20 := hv
    simp (disch := omega) only [um_eq, um_ni, ne_eq]
    exact ⟨⟨h0, h1, h2, hv, h4, h5⟩, h6, h7⟩
  · have hv : 0 ≤ v ∧ v ≤ 60 := hv
    simp (disch := omega) only [um_eq, um_ni, ne_eq]
    exact ⟨⟨h0, h1, h2, h3, hv, h5⟩, h6, h7⟩
  · have hv : -1 ≤ v ∧ v ≤ 120 := hv
    simp (disch := omega) only [um_eq, um_ni, ne_eq]
    exact ⟨⟨h0, h1, h2, h3, h4, hv⟩, h6, h7⟩
theorem op_become {s j v : Int} (g : Gl T M K) (is : I32 s) (ij : I32 j) (iv : I32 v) : Op S 74 135 [vI s, vI j, vI v] T M K := by
  have hX := g.x
  have hM := g.m
  have hS := hX.s1
  have hz := g.sz
  have e45 : M (1 + 4) 1 = M 5 1 := rfl
  have e59 : um M 59 0 (M 59 0 + 1) 77 6 = M 5 1 := by rw [um_na (by decide)]; exact hz.1
  by_cases h1 : 0 ≤ s ∧ s ≤ M 5 1 - 1
  case neg =>
    refine Op.bad1 (v := -10) (k := 0) g (by decide) (by decide) (by decide) ⟨_, rfl, ?_⟩ ⟨_, rfl, ?_⟩
    · refine Rn.cal rfl (X_ald rfl <| X_gr 7 0 hX.ob ⟨rfl, rfl⟩ rfl rfl <| X_gr 6 1 hX.s1.st ⟨rfl, rfl⟩ rfl rfl <| X_ild rfl <| X_nil) (vs := [_, _]) (rest := []) rfl rfl rfl (rcv_v hX.s1.be (by decide)) (c_bhN hX hz.2 is h1) ?_
      refine Rn.ieq rfl (X_nil) (by first | omega | (simp (disch := omega) only [um_eq, um_na, um_ni, Int.toNat_natCast]; omega)) (fun hc => ?_) (fun hc => absurd hc (by first | omega | decide | (simp (disch := omega) only [um_eq, um_na, um_ni, Int.toNat_natCast]; omega)))
      refine Rn.cal rfl (X_ald rfl <| X_i <| X_nil) (vs := [_, _]) (rest := []) rfl rfl rfl (rcv_v hX.ob (by decide)) (c_bad hX) ?_
      refine Rn.ri rfl (X_nil) rfl
    · refine Rn.cal rfl (X_ald rfl <| X_ild rfl <| X_nil) (vs := [_, _]) (rest := []) rfl rfl rfl (rcv_v hM.ob (by decide)) (c_ioN hM e59 hz.2 is h1) ?_
      refine Rn.ieq rfl (X_nil) (by first | omega | (simp (disch := omega) only [um_eq, um_na, um_ni, Int.toNat_natCast]; omega)) (fun hc => ?_) (fun hc => absurd hc (by first | omega | decide | (simp (disch := omega) only [um_eq, um_na, um_ni, Int.toNat_natCast]; omega)))
      refine Rn.fal rfl (X_i <| X_nil) ?_
      refine Rn.ieq rfl (X_ist rfl (L' := [_, _, _, _, _]) rfl <| X_ild rfl <| X_nil) (by first | omega | (simp (disch := omega) only [um_eq, um_na, um_ni, Int.toNat_natCast]; omega)) (fun hc => ?_) (fun hc => absurd hc (by first | omega | decide | (simp (disch := omega) only [um_eq, um_na, um_ni, Int.toNat_natCast]; omega)))
      refine Rn.cal rfl (X_ald rfl <| X_i <| X_nil) (vs := [_, _]) (rest := []) rfl rfl rfl (rcv_v hM.ob (by decide)) (c_mbadAs hM) ?_
      refine Rn.ri rfl (X_nil) rfl
  by_cases h2 : 0 ≤ j ∧ j ≤ 5
  case neg =>
    refine Op.bad1 (v := -10) (k := 0) g (by decide) (by decide) (by decide) ⟨_, rfl, ?_⟩ ⟨_, rfl, ?_⟩
    · refine Rn.cal rfl (X_ald rfl <| X_gr 7 0 hX.ob ⟨rfl, rfl⟩ rfl rfl <| X_gr 6 1 hX.s1.st ⟨rfl, rfl⟩ rfl rfl <| X_ild rfl <| X_nil) (vs := [_, _]) (rest := []) rfl rfl rfl (rcv_v hX.s1.be (by decide)) (c_bhY hX hz.2 is h1) ?_
      refine Rn.ieq rfl (X_nil) (by first | omega | (simp (disch := omega) only [um_eq, um_na, um_ni, Int.toNat_natCast]; omega)) (fun hc => absurd hc (by first | omega | decide | (simp (disch := omega) only [um_eq, um_na, um_ni, Int.toNat_natCast]; omega))) (fun hc => ?_)
      refine Rn.cal rfl (X_ild rfl <| X_i <| X_i <| X_nil) (vs := [_, _, _]) (rest := []) rfl rfl rfl rfl (c_wN (by omega) (by decide) (by decide) h2) ?_
      refine Rn.ieq rfl (X_nil) (by first | omega | (simp (disch := omega) only [um_eq, um_na, um_ni, Int.toNat_natCast]; omega)) (fun hc => ?_) (fun hc => absurd hc (by first | omega | decide | (simp (disch := omega) only [um_eq, um_na, um_ni, Int.toNat_natCast]; omega)))
      refine Rn.cal rfl (X_ald rfl <| X_i <| X_nil) (vs := [_, _]) (rest := []) rfl rfl rfl (rcv_v hX.ob (by decide)) (c_bad hX) ?_
      refine Rn.ri rfl (X_nil) rfl
    · refine Rn.cal rfl (X_ald rfl <| X_ild rfl <| X_nil) (vs := [_, _]) (rest := []) rfl rfl rfl (rcv_v hM.ob (by decide)) (c_ioY hM e59 hz.2 is h1) ?_
      refine Rn.ieq rfl (X_nil) (by first | omega | (simp (disch := omega) only [um_eq, um_na, um_ni, Int.toNat_natCast]; omega)) (fun hc => absurd hc (by first | omega | decide | (simp (disch := omega) only [um_eq, um_na, um_ni, Int.toNat_natCast]; omega))) (fun hc => ?_)
      refine Rn.cal rfl (X_ild rfl <| X_i2l (by first | omega | (simp (disch := omega) only [um_eq, um_na, um_ni, Int.toNat_natCast]; omega)) <| X_l <| X_l <| X_nil) (vs := [_, _, _]) (rest := []) rfl rfl rfl rfl (c_iN (by omega) (by decide) (by decide) h2) ?_
      refine Rn.ieq rfl (X_nil) (by first | omega | (simp (disch := omega) only [um_eq, um_na, um_ni, Int.toNat_natCast]; omega)) (fun hc => ?_) (fun hc => absurd hc (by first | omega | decide | (simp (disch := omega) only [um_eq, um_na, um_ni, Int.toNat_natCast]; omega)))
      refine Rn.fal rfl (X_i <| X_nil) ?_
      refine Rn.ieq rfl (X_ist rfl (L' := [_, _, _, _, _]) rfl <| X_ild rfl <| X_nil) (by first | omega | (simp (disch := omega) only [um_eq, um_na, um_ni, Int.toNat_natCast]; omega)) (fun hc => ?_) (fun hc => absurd hc (by first | omega | decide | (simp (disch := omega) only [um_eq, um_na, um_ni, Int.toNat_natCast]; omega)))
      refine Rn.cal rfl (X_ald rfl <| X_i <| X_nil) (vs := [_, _]) (rest := []) rfl rfl rfl (rcv_v hM.ob (by decide)) (c_mbadAs hM) ?_
      refine Rn.ri rfl (X_nil) rfl
  have hmo := mostV_in (k := j)
  by_cases h3 : (if j = 5 then -1 else 0) ≤ v ∧ v ≤ mostV j
  case neg =>
    refine Op.bad1 (v := -10) (k := 0) g (by decide) (by decide) (by decide) ⟨_, rfl, ?_⟩ ⟨_, rfl, ?_⟩
    · refine Rn.cal rfl (X_ald rfl <| X_gr 7 0 hX.ob ⟨rfl, rfl⟩ rfl rfl <| X_gr 6 1 hX.s1.st ⟨rfl, rfl⟩ rfl rfl <| X_ild rfl <| X_nil) (vs := [_, _]) (rest := []) rfl rfl rfl (rcv_v hX.s1.be (by decide)) (c_bhY hX hz.2 is h1) ?_
      refine Rn.ieq rfl (X_nil) (by first | omega | (simp (disch := omega) only [um_eq, um_na, um_ni, Int.toNat_natCast]; omega)) (fun hc => absurd hc (by first | omega | decide | (simp (disch := omega) only [um_eq, um_na, um_ni, Int.toNat_natCast]; omega))) (fun hc => ?_)
      refine Rn.cal rfl (X_ild rfl <| X_i <| X_i <| X_nil) (vs := [_, _, _]) (rest := []) rfl rfl rfl rfl (c_wY (by omega) (by decide) (by decide) h2) ?_
      refine Rn.ieq rfl (X_nil) (by first | omega | (simp (disch := omega) only [um_eq, um_na, um_ni, Int.toNat_natCast]; omega)) (fun hc => absurd hc (by first | omega | decide | (simp (disch := omega) only [um_eq, um_na, um_ni, Int.toNat_natCast]; omega))) (fun hc => ?_)
      refine Rn.cal rfl (X_ild rfl <| X_ild rfl <| X_nil) (vs := [_, _]) (rest := []) rfl rfl rfl rfl (c_fN h2.1 h2.2 iv h3) ?_
      refine Rn.ine rfl (X_nil) (by first | omega | (simp (disch := omega) only [um_eq, um_na, um_ni, Int.toNat_natCast]; omega)) (fun hc => absurd hc (by first | omega | decide | (simp (disch := omega) only [um_eq, um_na, um_ni, Int.toNat_natCast]; omega))) (fun hc => ?_)
      refine Rn.cal rfl (X_ald rfl <| X_i <| X_nil) (vs := [_, _]) (rest := []) rfl rfl rfl (rcv_v hX.ob (by decide)) (c_bad hX) ?_
      refine Rn.ri rfl (X_nil) rfl
    · refine Rn.cal rfl (X_ald rfl <| X_ild rfl <| X_nil) (vs := [_, _]) (rest := []) rfl rfl rfl (rcv_v hM.ob (by decide)) (c_ioY hM e59 hz.2 is h1) ?_
      refine Rn.ieq rfl (X_nil) (by first | omega | (simp (disch := omega) only [um_eq, um_na, um_ni, Int.toNat_natCast]; omega)) (fun hc => absurd hc (by first | omega | decide | (simp (disch := omega) only [um_eq, um_na, um_ni, Int.toNat_natCast]; omega))) (fun hc => ?_)
      refine Rn.cal rfl (X_ild rfl <| X_i2l (by first | omega | (simp (disch := omega) only [um_eq, um_na, um_ni, Int.toNat_natCast]; omega)) <| X_l <| X_l <| X_nil) (vs := [_, _, _]) (rest := []) rfl rfl rfl rfl (c_iY (by omega) (by decide) (by decide) h2) ?_
      refine Rn.ieq rfl (X_nil) (by first | omega | (simp (disch := omega) only [um_eq, um_na, um_ni, Int.toNat_natCast]; omega)) (fun hc => absurd hc (by first | omega | decide | (simp (disch := omega) only [um_eq, um_na, um_ni, Int.toNat_natCast]; omega))) (fun hc => ?_)
      by_cases e5 : j = 5
      · rw [if_pos (c := j = 5) e5] at h3
        refine Rn.cne rfl (X_ild rfl <| X_i2l (by first | omega | (simp (disch := omega) only [um_eq, um_na, um_ni, Int.toNat_natCast]; omega)) <| X_ild rfl <| X_i <| X_nil) (by first | omega | (simp (disch := omega) only [um_eq, um_na, um_ni, Int.toNat_natCast]; omega)) (by first | omega | (simp (disch := omega) only [um_eq, um_na, um_ni, Int.toNat_natCast]; omega)) (fun hc => absurd hc (by first | omega | decide | (simp (disch := omega) only [um_eq, um_na, um_ni, Int.toNat_natCast]; omega))) (fun hc => ?_)
        refine Rn.jto rfl (X_l <| X_nil) ?_
        refine Rn.cal rfl (X_ild rfl <| X_nil) (vs := [_]) (rest := [_, _]) rfl rfl rfl rfl (c_most (by omega)) ?_
        refine Rn.cal rfl (X_i2l (by first | omega | (simp (disch := omega) only [um_eq, um_na, um_ni, Int.toNat_natCast]; omega)) <| X_nil) (vs := [_, _, _]) (rest := []) rfl rfl rfl rfl (c_iN (by omega) (by decide) (by omega) h3) ?_
        refine Rn.ieq rfl (X_nil) (by first | omega | (simp (disch := omega) only [um_eq, um_na, um_ni, Int.toNat_natCast]; omega)) (fun hc => ?_) (fun hc => absurd hc (by first | omega | decide | (simp (disch := omega) only [um_eq, um_na, um_ni, Int.toNat_natCast]; omega)))
        refine Rn.fal rfl (X_i <| X_nil) ?_
        refine Rn.ieq rfl (X_ist rfl (L' := [_, _, _, _, _]) rfl <| X_ild rfl <| X_nil) (by first | omega | (simp (disch := omega) only [um_eq, um_na, um_ni, Int.toNat_natCast]; omega)) (fun hc => ?_) (fun hc => absurd hc (by first | omega | decide | (simp (disch := omega) only [um_eq, um_na, um_ni, Int.toNat_natCast]; omega)))
        refine Rn.cal rfl (X_ald rfl <| X_i <| X_nil) (vs := [_, _]) (rest := []) rfl rfl rfl (rcv_v hM.ob (by decide)) (c_mbadAs hM) ?_
        refine Rn.ri rfl (X_nil) rfl
      · rw [if_neg (c := j = 5) e5] at h3
        refine Rn.cne rfl (X_ild rfl <| X_i2l (by first | omega | (simp (disch := omega) only [um_eq, um_na, um_ni, Int.toNat_natCast]; omega)) <| X_ild rfl <| X_i <| X_nil) (by first | omega | (simp (disch := omega) only [um_eq, um_na, um_ni, Int.toNat_natCast]; omega)) (by first | omega | (simp (disch := omega) only [um_eq, um_na, um_ni, Int.toNat_natCast]; omega)) (fun hc => ?_) (fun hc => absurd hc (by first | omega | decide | (simp (disch := omega) only [um_eq, um_na, um_ni, Int.toNat_natCast]; omega)))
        refine Rn.fal rfl (X_l <| X_nil) ?_
        refine Rn.cal rfl (X_ild rfl <| X_nil) (vs := [_]) (rest := [_, _]) rfl rfl rfl rfl (c_most (by omega)) ?_
        refine Rn.cal rfl (X_i2l (by first | omega | (simp (disch := omega) only [um_eq, um_na, um_ni, Int.toNat_natCast]; omega)) <| X_nil) (vs := [_, _, _]) (rest := []) rfl rfl rfl rfl (c_iN (by omega) (by decide) (by omega) h3) ?_
        refine Rn.ieq rfl (X_nil) (by first | omega | (simp (disch := omega) only [um_eq, um_na, um_ni, Int.toNat_natCast]; omega)) (fun hc => ?_) (fun hc => absurd hc (by first | omega | decide | (simp (disch := omega) only [um_eq, um_na, um_ni, Int.toNat_natCast]; omega)))
        refine Rn.fal rfl (X_i <| X_nil) ?_
        refine Rn.ieq rfl (X_ist rfl (L' := [_, _, _, _, _]) rfl <| X_ild rfl <| X_nil) (by first | omega | (simp (disch := omega) only [um_eq, um_na, um_ni, Int.toNat_natCast]; omega)) (fun hc => ?_) (fun hc => absurd hc (by first | omega | decide | (simp (disch := omega) only [um_eq, um_na, um_ni, Int.toNat_natCast]; omega)))
        refine Rn.cal rfl (X_ald rfl <| X_i <| X_nil) (vs := [_, _]) (rest := []) rfl rfl rfl (rcv_v hM.ob (by decide)) (c_mbadAs hM) ?_
        refine Rn.ri rfl (X_nil) rfl
  obtain ⟨i, rfl⟩ : ∃ i : Nat, s = (i : Int) := ⟨s.toNat, by omega⟩
  have hi : i < 4 := by omega
  have htr := g.rg.tr i (by omega)
  have t5 := htr.tr5 h2.1 h2.2
  have es := g.rg.s i (by omega) j h2.1 (by omega)
  rw [Int.zero_add] at es
  have cb := c_becomes (S := S) (M := um M (1 + 16 + 2 * i) j v) (a := 59 + 4 * j + (i : Int)) (v := v) hM (by omega) (by omega)
  rw [um_na (by omega), ← es] at cb
  have e : ∀ a, a ≠ 1 + 16 + 2 * i → a ≠ 77 → um (um M (1 + 16 + 2 * i) j v) 77 (59 + 4 * j + (i : Int)) v a = M a := fun a a1 a2 => by rw [um_fn a2, um_fn a1]
  have e1 : um M (1 + 16 + 2 * i) j v 77 6 = M 5 1 := by rw [um_na (by omega)]; exact hz.1
  have e76 := e 76 (by omega) (by decide)
  have e5' := e (1 + 4) (by omega) (by decide)
  refine ⟨M (1 + 16 + 2 * i) j, T, um M (1 + 16 + 2 * i) j v, _, by omega, ⟨_, rfl, ?_⟩, ⟨_, rfl, ?_⟩, g.upd (N := um (um M (1 + 16 + 2 * i) j v) 77 (59 + 4 * j + (i : Int)) v) (Kept.of (fun a ha => e a (by omega) (by omega)) (by rw [e76]) (by rw [e76]) (by rw [e76]) (fun k k0 k1 => by rw [um_ni (by omega), um_na (by omega)])) ?_ (g.re.cg (e _ (by omega) (by decide)) (e _ (by omega) (by decide)) (by omega)) (by omega)⟩
  · refine Rn.cal rfl (X_ald rfl <| X_gr 7 0 hX.ob ⟨rfl, rfl⟩ rfl rfl <| X_gr 6 1 hX.s1.st ⟨rfl, rfl⟩ rfl rfl <| X_ild rfl <| X_nil) (vs := [_, _]) (rest := []) rfl rfl rfl (rcv_v hX.s1.be (by decide)) (c_bhY hX hz.2 is h1) ?_
    refine Rn.ieq rfl (X_nil) (by first | omega | (simp (disch := omega) only [um_eq, um_na, um_ni, Int.toNat_natCast]; omega)) (fun hc => absurd hc (by first | omega | decide | (simp (disch := omega) only [um_eq, um_na, um_ni, Int.toNat_natCast]; omega))) (fun hc => ?_)
    refine Rn.cal rfl (X_ild rfl <| X_i <| X_i <| X_nil) (vs := [_, _, _]) (rest := []) rfl rfl rfl rfl (c_wY (by omega) (by decide) (by decide) h2) ?_
    refine Rn.ieq rfl (X_nil) (by first | omega | (simp (disch := omega) only [um_eq, um_na, um_ni, Int.toNat_natCast]; omega)) (fun hc => absurd hc (by first | omega | decide | (simp (disch := omega) only [um_eq, um_na, um_ni, Int.toNat_natCast]; omega))) (fun hc => ?_)
    refine Rn.cal rfl (X_ild rfl <| X_ild rfl <| X_nil) (vs := [_, _]) (rest := []) rfl rfl rfl rfl (c_fY h2.1 h2.2 iv h3) ?_
    refine Rn.ine rfl (X_nil) (by first | omega | (simp (disch := omega) only [um_eq, um_na, um_ni, Int.toNat_natCast]; omega)) (fun hc => ?_) (fun hc => absurd hc (by first | omega | decide | (simp (disch := omega) only [um_eq, um_na, um_ni, Int.toNat_natCast]; omega)))
    refine Rn.ri rfl (X_ald rfl <| X_gr 7 0 hX.ob ⟨rfl, rfl⟩ rfl rfl <| X_gr 6 1 hX.s1.st ⟨rfl, rfl⟩ rfl rfl <| X_gr 0 0 hX.s1.be ⟨rfl, rfl⟩ rfl rfl <| X_ild rfl <| X_aa hX.s1.sl (by decide) (by first | omega | (simp (disch := omega) only [um_eq, um_na, um_ni, Int.toNat_natCast]; omega)) (by first | omega | (simp (disch := omega) only [um_eq, um_na, um_ni, Int.toNat_natCast]; omega)) rfl (rSl_at (by omega)) <| X_gr 5 0 (hX.s1.se (by omega)) ⟨rfl, rfl⟩ rfl rfl <| X_ast rfl (L' := [_, _, _, _, _, _]) rfl <| X_ald rfl <| X_ild rfl <| X_ia (hX.s1.tr (by omega)) (by first | omega | (simp (disch := omega) only [um_eq, um_na, um_ni, Int.toNat_natCast]; omega)) (by first | omega | (simp (disch := omega) only [um_eq, um_na, um_ni, Int.toNat_natCast]; omega)) rfl <| X_ist rfl (L' := [_, _, _, _, _, _]) rfl <| X_ald rfl <| X_ild rfl <| X_ild rfl <| X_is (hX.s1.tr (by omega)) (by first | omega | (simp (disch := omega) only [um_eq, um_na, um_ni, Int.toNat_natCast]; omega)) (by first | omega | (simp (disch := omega) only [um_eq, um_na, um_ni, Int.toNat_natCast]; omega)) rfl <| X_ild rfl <| X_nil) rfl
  · refine Rn.cal rfl (X_ald rfl <| X_ild rfl <| X_nil) (vs := [_, _]) (rest := []) rfl rfl rfl (rcv_v hM.ob (by decide)) (c_ioY hM e1 hz.2 is h1) ?_
    refine Rn.ieq rfl (X_nil) (by first | omega | (simp (disch := omega) only [um_eq, um_na, um_ni, Int.toNat_natCast]; omega)) (fun hc => absurd hc (by first | omega | decide | (simp (disch := omega) only [um_eq, um_na, um_ni, Int.toNat_natCast]; omega))) (fun hc => ?_)
    refine Rn.cal rfl (X_ild rfl <| X_i2l (by first | omega | (simp (disch := omega) only [um_eq, um_na, um_ni, Int.toNat_natCast]; omega)) <| X_l <| X_l <| X_nil) (vs := [_, _, _]) (rest := []) rfl rfl rfl rfl (c_iY (by omega) (by decide) (by decide) h2) ?_
    refine Rn.ieq rfl (X_nil) (by first | omega | (simp (disch := omega) only [um_eq, um_na, um_ni, Int.toNat_natCast]; omega)) (fun hc => absurd hc (by first | omega | decide | (simp (disch := omega) only [um_eq, um_na, um_ni, Int.toNat_natCast]; omega))) (fun hc => ?_)
    by_cases e5 : j = 5
    · rw [if_pos (c := j = 5) e5] at h3
      refine Rn.cne rfl (X_ild rfl <| X_i2l (by first | omega | (simp (disch := omega) only [um_eq, um_na, um_ni, Int.toNat_natCast]; omega)) <| X_ild rfl <| X_i <| X_nil) (by first | omega | (simp (disch := omega) only [um_eq, um_na, um_ni, Int.toNat_natCast]; omega)) (by first | omega | (simp (disch := omega) only [um_eq, um_na, um_ni, Int.toNat_natCast]; omega)) (fun hc => absurd hc (by first | omega | decide | (simp (disch := omega) only [um_eq, um_na, um_ni, Int.toNat_natCast]; omega))) (fun hc => ?_)
      refine Rn.jto rfl (X_l <| X_nil) ?_
      refine Rn.cal rfl (X_ild rfl <| X_nil) (vs := [_]) (rest := [_, _]) rfl rfl rfl rfl (c_most (by omega)) ?_
      refine Rn.cal rfl (X_i2l (by first | omega | (simp (disch := omega) only [um_eq, um_na, um_ni, Int.toNat_natCast]; omega)) <| X_nil) (vs := [_, _, _]) (rest := []) rfl rfl rfl rfl (c_iY (by omega) (by decide) (by omega) h3) ?_
      refine Rn.ieq rfl (X_nil) (by first | omega | (simp (disch := omega) only [um_eq, um_na, um_ni, Int.toNat_natCast]; omega)) (fun hc => absurd hc (by first | omega | decide | (simp (disch := omega) only [um_eq, um_na, um_ni, Int.toNat_natCast]; omega))) (fun hc => ?_)
      refine Rn.jto rfl (X_i <| X_nil) ?_
      refine Rn.ieq rfl (X_ist rfl (L' := [_, _, _, _, _]) rfl <| X_ild rfl <| X_nil) (by first | omega | (simp (disch := omega) only [um_eq, um_na, um_ni, Int.toNat_natCast]; omega)) (fun hc => absurd hc (by first | omega | decide | (simp (disch := omega) only [um_eq, um_na, um_ni, Int.toNat_natCast]; omega))) (fun hc => ?_)
      refine Rn.cal rfl (X_ald rfl <| X_i <| X_i <| X_ild rfl <| X_mul <| X_add <| X_ild rfl <| X_add <| X_ild rfl <| X_nil) (vs := [_, _, _]) (rest := []) rfl rfl rfl (rcv_v hM.ob (by decide)) (cb) ?_
      refine Rn.jto rfl (X_nil) ?_
      refine Rn.ri rfl (X_nil) rfl
    · rw [if_neg (c := j = 5) e5] at h3
      refine Rn.cne rfl (X_ild rfl <| X_i2l (by first | omega | (simp (disch := omega) only [um_eq, um_na, um_ni, Int.toNat_natCast]; omega)) <| X_ild rfl <| X_i <| X_nil) (by first | omega | (simp (disch := omega) only [um_eq, um_na, um_ni, Int.toNat_natCast]; omega)) (by first | omega | (simp (disch := omega) only [um_eq, um_na, um_ni, Int.toNat_natCast]; omega)) (fun hc => ?_) (fun hc => absurd hc (by first | omega | decide | (simp (disch := omega) only [um_eq, um_na, um_ni, Int.toNat_natCast]; omega)))
      refine Rn.fal rfl (X_l <| X_nil) ?_
      refine Rn.cal rfl (X_ild rfl <| X_nil) (vs := [_]) (rest := [_, _]) rfl rfl rfl rfl (c_most (by omega)) ?_
      refine Rn.cal rfl (X_i2l (by first | omega | (simp (disch := omega) only [um_eq, um_na, um_ni, Int.toNat_natCast]; omega)) <| X_nil) (vs := [_, _, _]) (rest := []) rfl rfl rfl rfl (c_iY (by omega) (by decide) (by omega) h3) ?_
      refine Rn.ieq rfl (X_nil) (by first | omega | (simp (disch := omega) only [um_eq, um_na, um_ni, Int.toNat_natCast]; omega)) (fun hc => absurd hc (by first | omega | decide | (simp (disch := omega) only [um_eq, um_na, um_ni, Int.toNat_natCast]; omega))) (fun hc => ?_)
      refine Rn.jto rfl (X_i <| X_nil) ?_
      refine Rn.ieq rfl (X_ist rfl (L' := [_, _, _, _, _]) rfl <| X_ild rfl <| X_nil) (by first | omega | (simp (disch := omega) only [um_eq, um_na, um_ni, Int.toNat_natCast]; omega)) (fun hc => absurd hc (by first | omega | decide | (simp (disch := omega) only [um_eq, um_na, um_ni, Int.toNat_natCast]; omega))) (fun hc => ?_)
      refine Rn.cal rfl (X_ald rfl <| X_i <| X_i <| X_ild rfl <| X_mul <| X_add <| X_ild rfl <| X_add <| X_ild rfl <| X_nil) (vs := [_, _, _]) (rest := []) rfl rfl rfl (rcv_v hM.ob (by decide)) (cb) ?_
      refine Rn.jto rfl (X_nil) ?_
      refine Rn.ri rfl (X_nil) rfl
  · refine g.rg.bed (by omega) (fun a ha => e a (by omega) (by omega)) (by rw [e5']) (by rw [e5']) (fun k hk => by rw [um_ni (by omega), um_na (by omega)]) (by rw [e5', um_ni (by omega), um_na (by omega)]; exact g.rg.z) (by rw [e5']; exact hz.2) (fun x hx k k0 k8 => ?_) (fun x hx => ?_)
    · rw [e5'] at hx
      have ex := g.rg.s x hx k k0 k8
      rw [um_na (by omega)]
      by_cases exi : x = i ∧ k = j
      · obtain ⟨rfl, rfl⟩ := exi
        rw [um_eq, show 0 + 59 + 4 * k + (x : Int) = 59 + 4 * k + x by omega, um_eq]
      · rw [um_ni (a := 77) (by omega), um_na (a := 1 + 16 + 2 * i) (a' := 77) (by omega), ← ex]
        by_cases hxi : x = i
        · subst hxi
          rw [um_ni (fun z => exi ⟨rfl, z⟩)]
        · rw [um_na (by omega)]
    · rw [e5'] at hx
      by_cases hxi : x = i
      · subst hxi
        refine TrB_pw (C := um M (1 + 16 + 2 * x) j v) (a := 1 + 16 + 2 * x) (K := K) (by omega) (fun k _ _ => by rw [um_na (by omega)]) (TrB_set htr h2.1 h2.2 h3)
      · exact TrB_pw (by omega) (fun k _ _ => by rw [e _ (by omega) (by omega)]) (g.rg.tr x hx)
theorem Rg.notes {C' : Nat → Int → Int} {b : Nat} {W W' : Int → Int} {r : Int} {K' : Nat} (h : Rg C b W r K) (hK : K ≤ K') (hc : ∀ a, b + 1 ≤ a → a < b + 23 → C' a = C a) (hw : ∀ k, (0 ≤ k ∧ k < 7) ∨ (8 ≤ k ∧ k < 91) ∨ (107 ≤ k ∧ k < 187) → W' (r + k) = W (r + k)) (hm : C' (b + 23) 0 = W' (r + 7)) (m8 : 0 ≤ C' (b + 23) 0 ∧ C' (b + 23) 0 ≤ 8) (hn : ∀ i, 0 ≤ i → i < C' (b + 23) 0 → (C' (b + 24) i = W' (r + 91 + i) ∧ C' (b + 25) i = W' (r + 99 + i)) ∧ (0 ≤ C' (b + 24) i ∧ C' (b + 24) i ≤ 3) ∧ (0 ≤ C' (b + 25) i ∧ C' (b + 25) i ≤ 15)) : Rg C' b W' r K' := by
  have u8 := h.u8
  have z4 := h.z4
  have n4 := h.n4
  have e1 := hc (b + 1) (by omega) (by omega)
  have e2 := hc (b + 2) (by omega) (by omega)
  have e4 := hc (b + 4) (by omega) (by omega)
  have hw' : ∀ j : Int, (r ≤ j ∧ j < r + 7) ∨ (r + 8 ≤ j ∧ j < r + 91) ∨ (r + 107 ≤ j ∧ j < r + 187) → W' j = W j := fun j hj => by
    have := hw (j - r) (by omega)
    rw [show r + (j - r) = j by omega] at this
    exact this
  unfold Rg
  rw [e1, e2, e4]
  refine ⟨fun k k0 k6 => ?_, fun c c0 c1 => ?_, ?_, hm, ?_, ?_, ?_, hn, ?_, ?_, z4, by omega, u8, m8, ?_⟩
  · rw [hw' _ (by omega)]; exact h.f k k0 k6
  · rw [hw' _ (by omega)]; exact h.t c c0 c1
  · rw [hw' _ (by omega)]; exact h.z
  · rw [hw' _ (by omega)]; exact h.n
  · rw [hw' _ (by omega)]; exact h.u
  · intro i hi k k0 k8
    rw [hc (b + 16 + 2 * i) (by omega) (by omega), hw' _ (by omega)]
    exact h.s i hi k k0 k8
  · intro i hi
    have e := h.p i hi
    have ea : rowA C' b i = rowA C b i := by unfold rowA; rw [e4]
    have hk : ((C (b + 4) 2 - C (b + 4) 3 + (i : Int)) % 8).toNat < 8 := by omega
    rw [ea]
    have er : C' (rowA C b i) = C (rowA C b i) := hc _ (by unfold rowA; omega) (by unfold rowA; omega)
    unfold RowOk at e ⊢
    rw [er, e4, hw' (r + 107 + 10 * (i : Int) + 9) (by omega), hw' (r + 107 + 10 * (i : Int) + 8) (by omega)]
    obtain ⟨q1, q2, q3, q4⟩ := e
    refine ⟨q1, q2, q3, fun s hs => ?_⟩
    rw [hw' (r + 107 + 10 * (i : Int) + s) (by omega), hw' (r + 107 + 10 * (i : Int) + 4 + s) (by omega)]
    obtain ⟨p1, p2, p3⟩ := q4 s hs
    exact ⟨p1, by omega, by omega⟩
  · exact FlNo_pw (C := C) (o := b) (by rw [e1]) (by rw [e1]) (by rw [e1]) (by rw [e1]) (by rw [e1]) (by rw [e1]) (by rw [e1]) (fun _ _ _ => by rw [e2]) h.fl
  · intro i hi
    exact TrB_pw hK (fun k _ _ => by rw [hc (b + 16 + 2 * i) (by omega) (by omega)]) (h.tr i hi)
theorem op_burn (g : Gl T M K) : Op S 94 184 [] T M K := by
  have hX := g.x
  have hM := g.m
  have hS := hX.s1
  have m8 : 0 ≤ M 24 0 ∧ M 24 0 ≤ 8 := g.rg.m8
  have em : M 24 0 = M 77 7 := g.rg.m
  have e : ∀ a, a ≠ 24 → a ≠ 77 → um (um M 24 0 0) 77 7 0 a = M a := fun a a1 a2 => by rw [um_fn a2, um_fn a1]
  have e76 := e 76 (by omega) (by decide)
  refine ⟨M 24 0, T, um M 24 0 0, um (um M 24 0 0) 77 7 0, by omega, ⟨_, rfl, ?_⟩, ⟨_, rfl, ?_⟩, g.upd (Kept.of (fun a ha => e a (by omega) (by omega)) (by rw [e76]) (by rw [e76]) (by rw [e76]) (fun k k0 k1 => by rw [um_ni (by omega), um_na (by omega)])) ?_ (g.re.cg (e _ (by omega) (by decide)) (e _ (by omega) (by decide)) (by omega)) (by omega)⟩
  · refine Rn.ri rfl (X_ald rfl <| X_gr 7 0 hX.ob ⟨rfl, rfl⟩ rfl rfl <| X_gr 6 2 hX.s1.st ⟨rfl, rfl⟩ rfl rfl <| X_gi 3 0 0 hX.s1.no ⟨rfl, rfl, rfl⟩ (Or.inl rfl) <| X_ist rfl (L' := [_, _]) rfl <| X_ald rfl <| X_gr 7 0 hX.ob ⟨rfl, rfl⟩ rfl rfl <| X_gr 6 2 hX.s1.st ⟨rfl, rfl⟩ rfl rfl <| X_i <| X_pi 3 0 0 hX.s1.no ⟨rfl, rfl, rfl⟩ (Or.inl rfl) <| X_ild rfl <| X_nil) rfl
  · have e2 : M 24 0 = um M 24 0 0 77 7 := by rw [um_na (by decide)]; exact em
    rw [e2]
    refine Rn.ri rfl (X_ald rfl <| X_gr 8 0 hM.ob ⟨rfl, rfl⟩ rfl rfl <| X_i <| X_ia hM.w (by first | omega | (simp (disch := omega) only [um_eq, um_na, um_ni, Int.toNat_natCast]; omega)) (by first | omega | (simp (disch := omega) only [um_eq, um_na, um_ni, Int.toNat_natCast]; omega)) rfl <| X_ist rfl (L' := [_, _]) rfl <| X_ald rfl <| X_gr 8 0 hM.ob ⟨rfl, rfl⟩ rfl rfl <| X_i <| X_i <| X_is hM.w (by first | omega | (simp (disch := omega) only [um_eq, um_na, um_ni, Int.toNat_natCast]; omega)) (by first | omega | (simp (disch := omega) only [um_eq, um_na, um_ni, Int.toNat_natCast]; omega)) rfl <| X_ild rfl <| X_nil) rfl
  · refine g.rg.notes (by omega) (fun a a1 a2 => e a (by omega) (by omega)) (fun k hk => by rw [um_ni (by omega), um_na (by omega)]) ?_ ?_ (fun i i0 i1 => ?_)
    · show um (um M 24 0 0) 77 7 0 24 0 = um (um M 24 0 0) 77 7 0 77 7
      rw [um_na (by decide), um_eq, um_eq]
    · show 0 ≤ um (um M 24 0 0) 77 7 0 24 0 ∧ um (um M 24 0 0) 77 7 0 24 0 ≤ 8
      rw [um_na (by decide), um_eq]
      decide
    · have i1 : i < um (um M 24 0 0) 77 7 0 24 0 := i1
      rw [um_na (by decide), um_eq] at i1
      omega
end Ops6
end
