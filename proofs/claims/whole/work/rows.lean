section
-- ===== PART A: goes FIRST, ahead of the names: the tables' words, and 'selects' of the private methods out of them =====
/-- a private method of a class that the tables say can be made, by its rows of tables_1 -/
def lw_okq (q : MethodName × Nat) : Prop := (q.1.cls ≠ "java/lang/invoke/MethodHandle" ∧ q.1.cls ≠ "java/lang/invoke/VarHandle") ∧ Cond.instantiable q.1.cls q.2 ∈ tables_1 ∧ Cond.privateMethod q.1 ∈ tables_1 ∧ Cond.instanceMethod q.1 ∈ tables_1
theorem lw_p0 : lw_okq (⟨"LastAwake", "bad", "(I)I"⟩, 9) := ⟨⟨by decide +kernel, by decide +kernel⟩, List.mem_of_getElem? (i := 19) (by decide +kernel), List.mem_of_getElem? (i := 271) (by decide +kernel), List.mem_of_getElem? (i := 272) (by decide +kernel)⟩
theorem lw_p1 : lw_okq (⟨"LastAwake", "full", "()I"⟩, 9) := ⟨⟨by decide +kernel, by decide +kernel⟩, List.mem_of_getElem? (i := 19) (by decide +kernel), List.mem_of_getElem? (i := 322) (by decide +kernel), List.mem_of_getElem? (i := 323) (by decide +kernel)⟩
theorem lw_p2 : lw_okq (⟨"LastAwake$Script", "nextToken", "()V"⟩, 7) := ⟨⟨by decide +kernel, by decide +kernel⟩, List.mem_of_getElem? (i := 205) (by decide +kernel), List.mem_of_getElem? (i := 359) (by decide +kernel), List.mem_of_getElem? (i := 360) (by decide +kernel)⟩
theorem lw_p3 : lw_okq (⟨"LastAwake$Script", "takeWord", "()V"⟩, 7) := ⟨⟨by decide +kernel, by decide +kernel⟩, List.mem_of_getElem? (i := 205) (by decide +kernel), List.mem_of_getElem? (i := 366) (by decide +kernel), List.mem_of_getElem? (i := 367) (by decide +kernel)⟩
theorem lw_p4 : lw_okq (⟨"LastAwake$Script", "takeNumber", "()V"⟩, 7) := ⟨⟨by decide +kernel, by decide +kernel⟩, List.mem_of_getElem? (i := 205) (by decide +kernel), List.mem_of_getElem? (i := 373) (by decide +kernel), List.mem_of_getElem? (i := 374) (by decide +kernel)⟩
theorem lw_p5 : lw_okq (⟨"LastAwake$Script", "itemStands", "(LLastAwake$State;Z)Z"⟩, 7) := ⟨⟨by decide +kernel, by decide +kernel⟩, List.mem_of_getElem? (i := 205) (by decide +kernel), List.mem_of_getElem? (i := 377) (by decide +kernel), List.mem_of_getElem? (i := 378) (by decide +kernel)⟩
theorem lw_p6 : lw_okq (⟨"LastAwake$Script", "itemOfWord", "()I"⟩, 7) := ⟨⟨by decide +kernel, by decide +kernel⟩, List.mem_of_getElem? (i := 205) (by decide +kernel), List.mem_of_getElem? (i := 381) (by decide +kernel), List.mem_of_getElem? (i := 382) (by decide +kernel)⟩
theorem lw_p7 : lw_okq (⟨"LastAwake$Script", "wordIs", "(Ljava/lang/String;)Z"⟩, 7) := ⟨⟨by decide +kernel, by decide +kernel⟩, List.mem_of_getElem? (i := 205) (by decide +kernel), List.mem_of_getElem? (i := 386) (by decide +kernel), List.mem_of_getElem? (i := 387) (by decide +kernel)⟩
theorem lw_p8 : lw_okq (⟨"LastAwake$Script", "apply", "(LLastAwake$State;I)V"⟩, 7) := ⟨⟨by decide +kernel, by decide +kernel⟩, List.mem_of_getElem? (i := 205) (by decide +kernel), List.mem_of_getElem? (i := 452) (by decide +kernel), List.mem_of_getElem? (i := 453) (by decide +kernel)⟩
theorem lw_p9 : lw_okq (⟨"LastAwake$Floor", "measureWaysTo", "(I)V"⟩, 9) := ⟨⟨by decide +kernel, by decide +kernel⟩, List.mem_of_getElem? (i := 33) (by decide +kernel), List.mem_of_getElem? (i := 499) (by decide +kernel), List.mem_of_getElem? (i := 500) (by decide +kernel)⟩
theorem lw_p10 : lw_okq (⟨"LastAwake$Floor", "shorten", "(II)Z"⟩, 9) := ⟨⟨by decide +kernel, by decide +kernel⟩, List.mem_of_getElem? (i := 33) (by decide +kernel), List.mem_of_getElem? (i := 504) (by decide +kernel), List.mem_of_getElem? (i := 505) (by decide +kernel)⟩
theorem lw_p11 : lw_okq (⟨"LastAwake$Floor", "wayOver", "(II)I"⟩, 9) := ⟨⟨by decide +kernel, by decide +kernel⟩, List.mem_of_getElem? (i := 33) (by decide +kernel), List.mem_of_getElem? (i := 508) (by decide +kernel), List.mem_of_getElem? (i := 509) (by decide +kernel)⟩
theorem lw_p12 : lw_okq (⟨"LastAwake$State", "errandOf", "(IZ)I"⟩, 4) := ⟨⟨by decide +kernel, by decide +kernel⟩, List.mem_of_getElem? (i := 27) (by decide +kernel), List.mem_of_getElem? (i := 553) (by decide +kernel), List.mem_of_getElem? (i := 554) (by decide +kernel)⟩
theorem lw_p13 : lw_okq (⟨"LastAwake", "no", "()I"⟩, 9) := ⟨⟨by decide +kernel, by decide +kernel⟩, List.mem_of_getElem? (i := 19) (by decide +kernel), List.mem_of_getElem? (i := 561) (by decide +kernel), List.mem_of_getElem? (i := 562) (by decide +kernel)⟩
theorem lw_p14 : lw_okq (⟨"LastAwake", "joyOfReading", "(II)I"⟩, 9) := ⟨⟨by decide +kernel, by decide +kernel⟩, List.mem_of_getElem? (i := 19) (by decide +kernel), List.mem_of_getElem? (i := 624) (by decide +kernel), List.mem_of_getElem? (i := 625) (by decide +kernel)⟩
theorem lw_p15 : lw_okq (⟨"LastAwake", "fillCosts", "(II)V"⟩, 9) := ⟨⟨by decide +kernel, by decide +kernel⟩, List.mem_of_getElem? (i := 19) (by decide +kernel), List.mem_of_getElem? (i := 633) (by decide +kernel), List.mem_of_getElem? (i := 634) (by decide +kernel)⟩
def lw_privs_1 : List (MethodName × Nat) := [(⟨"LastAwake", "bad", "(I)I"⟩, 9), (⟨"LastAwake", "full", "()I"⟩, 9), (⟨"LastAwake$Script", "nextToken", "()V"⟩, 7), (⟨"LastAwake$Script", "takeWord", "()V"⟩, 7), (⟨"LastAwake$Script", "takeNumber", "()V"⟩, 7), (⟨"LastAwake$Script", "itemStands", "(LLastAwake$State;Z)Z"⟩, 7), (⟨"LastAwake$Script", "itemOfWord", "()I"⟩, 7), (⟨"LastAwake$Script", "wordIs", "(Ljava/lang/String;)Z"⟩, 7), (⟨"LastAwake$Script", "apply", "(LLastAwake$State;I)V"⟩, 7), (⟨"LastAwake$Floor", "measureWaysTo", "(I)V"⟩, 9), (⟨"LastAwake$Floor", "shorten", "(II)Z"⟩, 9), (⟨"LastAwake$Floor", "wayOver", "(II)I"⟩, 9), (⟨"LastAwake$State", "errandOf", "(IZ)I"⟩, 4), (⟨"LastAwake", "no", "()I"⟩, 9), (⟨"LastAwake", "joyOfReading", "(II)I"⟩, 9), (⟨"LastAwake", "fillCosts", "(II)V"⟩, 9)]
theorem lw_r1 : ∀ q ∈ lw_privs_1, lw_okq q := List.forall_mem_cons.mpr ⟨lw_p0, List.forall_mem_cons.mpr ⟨lw_p1, List.forall_mem_cons.mpr ⟨lw_p2, List.forall_mem_cons.mpr ⟨lw_p3, List.forall_mem_cons.mpr ⟨lw_p4, List.forall_mem_cons.mpr ⟨lw_p5, List.forall_mem_cons.mpr ⟨lw_p6, List.forall_mem_cons.mpr ⟨lw_p7, List.forall_mem_cons.mpr ⟨lw_p8, List.forall_mem_cons.mpr ⟨lw_p9, List.forall_mem_cons.mpr ⟨lw_p10, List.forall_mem_cons.mpr ⟨lw_p11, List.forall_mem_cons.mpr ⟨lw_p12, List.forall_mem_cons.mpr ⟨lw_p13, List.forall_mem_cons.mpr ⟨lw_p14, List.forall_mem_cons.mpr ⟨lw_p15, fun _ h => absurd h List.not_mem_nil⟩⟩⟩⟩⟩⟩⟩⟩⟩⟩⟩⟩⟩⟩⟩⟩
theorem lw_p16 : lw_okq (⟨"LastAwake", "pairRests", "(II)Z"⟩, 9) := ⟨⟨by decide +kernel, by decide +kernel⟩, List.mem_of_getElem? (i := 19) (by decide +kernel), List.mem_of_getElem? (i := 637) (by decide +kernel), List.mem_of_getElem? (i := 638) (by decide +kernel)⟩
theorem lw_p17 : lw_okq (⟨"LastAwake$State", "burden", "(III)I"⟩, 4) := ⟨⟨by decide +kernel, by decide +kernel⟩, List.mem_of_getElem? (i := 27) (by decide +kernel), List.mem_of_getElem? (i := 650) (by decide +kernel), List.mem_of_getElem? (i := 651) (by decide +kernel)⟩
theorem lw_p18 : lw_okq (⟨"LastAwake$State", "turnsWithin", "(II)I"⟩, 4) := ⟨⟨by decide +kernel, by decide +kernel⟩, List.mem_of_getElem? (i := 27) (by decide +kernel), List.mem_of_getElem? (i := 657) (by decide +kernel), List.mem_of_getElem? (i := 658) (by decide +kernel)⟩
theorem lw_p19 : lw_okq (⟨"LastAwake$State", "ownTurnsWithin", "(III)I"⟩, 4) := ⟨⟨by decide +kernel, by decide +kernel⟩, List.mem_of_getElem? (i := 27) (by decide +kernel), List.mem_of_getElem? (i := 661) (by decide +kernel), List.mem_of_getElem? (i := 662) (by decide +kernel)⟩
theorem lw_p20 : lw_okq (⟨"LastAwake$State", "nextBurden", "(II)I"⟩, 4) := ⟨⟨by decide +kernel, by decide +kernel⟩, List.mem_of_getElem? (i := 27) (by decide +kernel), List.mem_of_getElem? (i := 665) (by decide +kernel), List.mem_of_getElem? (i := 666) (by decide +kernel)⟩
theorem lw_p21 : lw_okq (⟨"LastAwake", "setFraction", "(JJ)V"⟩, 9) := ⟨⟨by decide +kernel, by decide +kernel⟩, List.mem_of_getElem? (i := 19) (by decide +kernel), List.mem_of_getElem? (i := 680) (by decide +kernel), List.mem_of_getElem? (i := 681) (by decide +kernel)⟩
theorem lw_p22 : lw_okq (⟨"LastAwake$Notes", "liarsIf", "(I)I"⟩, 3) := ⟨⟨by decide +kernel, by decide +kernel⟩, List.mem_of_getElem? (i := 128) (by decide +kernel), List.mem_of_getElem? (i := 718) (by decide +kernel), List.mem_of_getElem? (i := 719) (by decide +kernel)⟩
theorem lw_p23 : lw_okq (⟨"LastAwake", "howMany", "(I)I"⟩, 9) := ⟨⟨by decide +kernel, by decide +kernel⟩, List.mem_of_getElem? (i := 19) (by decide +kernel), List.mem_of_getElem? (i := 762) (by decide +kernel), List.mem_of_getElem? (i := 763) (by decide +kernel)⟩
theorem lw_p24 : lw_okq (⟨"LastAwakeModel", "begins", "(III)V"⟩, 26) := ⟨⟨by decide +kernel, by decide +kernel⟩, List.mem_of_getElem? (i := 787) (by decide +kernel), List.mem_of_getElem? (i := 793) (by decide +kernel), List.mem_of_getElem? (i := 794) (by decide +kernel)⟩
theorem lw_p25 : lw_okq (⟨"LastAwakeModel", "bad", "()I"⟩, 26) := ⟨⟨by decide +kernel, by decide +kernel⟩, List.mem_of_getElem? (i := 787) (by decide +kernel), List.mem_of_getElem? (i := 885) (by decide +kernel), List.mem_of_getElem? (i := 886) (by decide +kernel)⟩
theorem lw_p26 : lw_okq (⟨"LastAwakeModel", "met", "(I)I"⟩, 26) := ⟨⟨by decide +kernel, by decide +kernel⟩, List.mem_of_getElem? (i := 787) (by decide +kernel), List.mem_of_getElem? (i := 889) (by decide +kernel), List.mem_of_getElem? (i := 890) (by decide +kernel)⟩
theorem lw_p27 : lw_okq (⟨"LastAwakeModel", "isCell", "(II)Z"⟩, 26) := ⟨⟨by decide +kernel, by decide +kernel⟩, List.mem_of_getElem? (i := 787) (by decide +kernel), List.mem_of_getElem? (i := 897) (by decide +kernel), List.mem_of_getElem? (i := 898) (by decide +kernel)⟩
theorem lw_p28 : lw_okq (⟨"LastAwakeModel", "becomes", "(II)I"⟩, 26) := ⟨⟨by decide +kernel, by decide +kernel⟩, List.mem_of_getElem? (i := 787) (by decide +kernel), List.mem_of_getElem? (i := 901) (by decide +kernel), List.mem_of_getElem? (i := 902) (by decide +kernel)⟩
theorem lw_p29 : lw_okq (⟨"LastAwakeModel", "comes", "(IIIIII)V"⟩, 26) := ⟨⟨by decide +kernel, by decide +kernel⟩, List.mem_of_getElem? (i := 787) (by decide +kernel), List.mem_of_getElem? (i := 927) (by decide +kernel), List.mem_of_getElem? (i := 928) (by decide +kernel)⟩
theorem lw_p30 : lw_okq (⟨"LastAwakeModel", "isOne", "(I)Z"⟩, 26) := ⟨⟨by decide +kernel, by decide +kernel⟩, List.mem_of_getElem? (i := 787) (by decide +kernel), List.mem_of_getElem? (i := 935) (by decide +kernel), List.mem_of_getElem? (i := 936) (by decide +kernel)⟩
theorem lw_p31 : lw_okq (⟨"LastAwakeModel", "badAs", "(I)I"⟩, 26) := ⟨⟨by decide +kernel, by decide +kernel⟩, List.mem_of_getElem? (i := 787) (by decide +kernel), List.mem_of_getElem? (i := 943) (by decide +kernel), List.mem_of_getElem? (i := 944) (by decide +kernel)⟩
def lw_privs_2 : List (MethodName × Nat) := [(⟨"LastAwake", "pairRests", "(II)Z"⟩, 9), (⟨"LastAwake$State", "burden", "(III)I"⟩, 4), (⟨"LastAwake$State", "turnsWithin", "(II)I"⟩, 4), (⟨"LastAwake$State", "ownTurnsWithin", "(III)I"⟩, 4), (⟨"LastAwake$State", "nextBurden", "(II)I"⟩, 4), (⟨"LastAwake", "setFraction", "(JJ)V"⟩, 9), (⟨"LastAwake$Notes", "liarsIf", "(I)I"⟩, 3), (⟨"LastAwake", "howMany", "(I)I"⟩, 9), (⟨"LastAwakeModel", "begins", "(III)V"⟩, 26), (⟨"LastAwakeModel", "bad", "()I"⟩, 26), (⟨"LastAwakeModel", "met", "(I)I"⟩, 26), (⟨"LastAwakeModel", "isCell", "(II)Z"⟩, 26), (⟨"LastAwakeModel", "becomes", "(II)I"⟩, 26), (⟨"LastAwakeModel", "comes", "(IIIIII)V"⟩, 26), (⟨"LastAwakeModel", "isOne", "(I)Z"⟩, 26), (⟨"LastAwakeModel", "badAs", "(I)I"⟩, 26)]
theorem lw_r2 : ∀ q ∈ lw_privs_2, lw_okq q := List.forall_mem_cons.mpr ⟨lw_p16, List.forall_mem_cons.mpr ⟨lw_p17, List.forall_mem_cons.mpr ⟨lw_p18, List.forall_mem_cons.mpr ⟨lw_p19, List.forall_mem_cons.mpr ⟨lw_p20, List.forall_mem_cons.mpr ⟨lw_p21, List.forall_mem_cons.mpr ⟨lw_p22, List.forall_mem_cons.mpr ⟨lw_p23, List.forall_mem_cons.mpr ⟨lw_p24, List.forall_mem_cons.mpr ⟨lw_p25, List.forall_mem_cons.mpr ⟨lw_p26, List.forall_mem_cons.mpr ⟨lw_p27, List.forall_mem_cons.mpr ⟨lw_p28, List.forall_mem_cons.mpr ⟨lw_p29, List.forall_mem_cons.mpr ⟨lw_p30, List.forall_mem_cons.mpr ⟨lw_p31, fun _ h => absurd h List.not_mem_nil⟩⟩⟩⟩⟩⟩⟩⟩⟩⟩⟩⟩⟩⟩⟩⟩
theorem lw_p32 : lw_okq (⟨"LastAwakeModel", "reads", "()Z"⟩, 26) := ⟨⟨by decide +kernel, by decide +kernel⟩, List.mem_of_getElem? (i := 787) (by decide +kernel), List.mem_of_getElem? (i := 959) (by decide +kernel), List.mem_of_getElem? (i := 960) (by decide +kernel)⟩
theorem lw_p33 : lw_okq (⟨"LastAwakeModel", "token", "()V"⟩, 26) := ⟨⟨by decide +kernel, by decide +kernel⟩, List.mem_of_getElem? (i := 787) (by decide +kernel), List.mem_of_getElem? (i := 963) (by decide +kernel), List.mem_of_getElem? (i := 964) (by decide +kernel)⟩
theorem lw_p34 : lw_okq (⟨"LastAwakeModel", "byteAt", "(I)I"⟩, 26) := ⟨⟨by decide +kernel, by decide +kernel⟩, List.mem_of_getElem? (i := 787) (by decide +kernel), List.mem_of_getElem? (i := 967) (by decide +kernel), List.mem_of_getElem? (i := 968) (by decide +kernel)⟩
theorem lw_p35 : lw_okq (⟨"LastAwakeModel", "wordNow", "()I"⟩, 26) := ⟨⟨by decide +kernel, by decide +kernel⟩, List.mem_of_getElem? (i := 787) (by decide +kernel), List.mem_of_getElem? (i := 975) (by decide +kernel), List.mem_of_getElem? (i := 976) (by decide +kernel)⟩
theorem lw_p36 : lw_okq (⟨"LastAwakeModel", "isNamed", "(IIIII)Z"⟩, 26) := ⟨⟨by decide +kernel, by decide +kernel⟩, List.mem_of_getElem? (i := 787) (by decide +kernel), List.mem_of_getElem? (i := 979) (by decide +kernel), List.mem_of_getElem? (i := 980) (by decide +kernel)⟩
theorem lw_p37 : lw_okq (⟨"LastAwakeModel", "takesItem", "(I)Z"⟩, 26) := ⟨⟨by decide +kernel, by decide +kernel⟩, List.mem_of_getElem? (i := 787) (by decide +kernel), List.mem_of_getElem? (i := 983) (by decide +kernel), List.mem_of_getElem? (i := 984) (by decide +kernel)⟩
theorem lw_p38 : lw_okq (⟨"LastAwakeModel", "takesRoom", "()Z"⟩, 26) := ⟨⟨by decide +kernel, by decide +kernel⟩, List.mem_of_getElem? (i := 787) (by decide +kernel), List.mem_of_getElem? (i := 987) (by decide +kernel), List.mem_of_getElem? (i := 988) (by decide +kernel)⟩
theorem lw_p39 : lw_okq (⟨"LastAwakeModel", "takes", "(II)Z"⟩, 26) := ⟨⟨by decide +kernel, by decide +kernel⟩, List.mem_of_getElem? (i := 787) (by decide +kernel), List.mem_of_getElem? (i := 991) (by decide +kernel), List.mem_of_getElem? (i := 992) (by decide +kernel)⟩
theorem lw_p40 : lw_okq (⟨"LastAwakeModel", "takesCell", "()Z"⟩, 26) := ⟨⟨by decide +kernel, by decide +kernel⟩, List.mem_of_getElem? (i := 787) (by decide +kernel), List.mem_of_getElem? (i := 995) (by decide +kernel), List.mem_of_getElem? (i := 996) (by decide +kernel)⟩
theorem lw_p41 : lw_okq (⟨"LastAwakeModel", "takesThing", "()Z"⟩, 26) := ⟨⟨by decide +kernel, by decide +kernel⟩, List.mem_of_getElem? (i := 787) (by decide +kernel), List.mem_of_getElem? (i := 999) (by decide +kernel), List.mem_of_getElem? (i := 1000) (by decide +kernel)⟩
theorem lw_p42 : lw_okq (⟨"LastAwakeModel", "takesSleeper", "()Z"⟩, 26) := ⟨⟨by decide +kernel, by decide +kernel⟩, List.mem_of_getElem? (i := 787) (by decide +kernel), List.mem_of_getElem? (i := 1003) (by decide +kernel), List.mem_of_getElem? (i := 1004) (by decide +kernel)⟩
theorem lw_p43 : lw_okq (⟨"LastAwakeModel", "takesUp", "()Z"⟩, 26) := ⟨⟨by decide +kernel, by decide +kernel⟩, List.mem_of_getElem? (i := 787) (by decide +kernel), List.mem_of_getElem? (i := 1007) (by decide +kernel), List.mem_of_getElem? (i := 1008) (by decide +kernel)⟩
theorem lw_p44 : lw_okq (⟨"LastAwakeModel", "copy", "(II)V"⟩, 26) := ⟨⟨by decide +kernel, by decide +kernel⟩, List.mem_of_getElem? (i := 787) (by decide +kernel), List.mem_of_getElem? (i := 1011) (by decide +kernel), List.mem_of_getElem? (i := 1012) (by decide +kernel)⟩
theorem lw_p45 : lw_okq (⟨"LastAwakeModel", "wayOf", "(II)I"⟩, 26) := ⟨⟨by decide +kernel, by decide +kernel⟩, List.mem_of_getElem? (i := 787) (by decide +kernel), List.mem_of_getElem? (i := 1019) (by decide +kernel), List.mem_of_getElem? (i := 1020) (by decide +kernel)⟩
theorem lw_p46 : lw_okq (⟨"LastAwakeModel", "areBeside", "(II)Z"⟩, 26) := ⟨⟨by decide +kernel, by decide +kernel⟩, List.mem_of_getElem? (i := 787) (by decide +kernel), List.mem_of_getElem? (i := 1024) (by decide +kernel), List.mem_of_getElem? (i := 1025) (by decide +kernel)⟩
theorem lw_p47 : lw_okq (⟨"LastAwakeModel", "stepTo", "(I)I"⟩, 26) := ⟨⟨by decide +kernel, by decide +kernel⟩, List.mem_of_getElem? (i := 787) (by decide +kernel), List.mem_of_getElem? (i := 1028) (by decide +kernel), List.mem_of_getElem? (i := 1029) (by decide +kernel)⟩
def lw_privs_3 : List (MethodName × Nat) := [(⟨"LastAwakeModel", "reads", "()Z"⟩, 26), (⟨"LastAwakeModel", "token", "()V"⟩, 26), (⟨"LastAwakeModel", "byteAt", "(I)I"⟩, 26), (⟨"LastAwakeModel", "wordNow", "()I"⟩, 26), (⟨"LastAwakeModel", "isNamed", "(IIIII)Z"⟩, 26), (⟨"LastAwakeModel", "takesItem", "(I)Z"⟩, 26), (⟨"LastAwakeModel", "takesRoom", "()Z"⟩, 26), (⟨"LastAwakeModel", "takes", "(II)Z"⟩, 26), (⟨"LastAwakeModel", "takesCell", "()Z"⟩, 26), (⟨"LastAwakeModel", "takesThing", "()Z"⟩, 26), (⟨"LastAwakeModel", "takesSleeper", "()Z"⟩, 26), (⟨"LastAwakeModel", "takesUp", "()Z"⟩, 26), (⟨"LastAwakeModel", "copy", "(II)V"⟩, 26), (⟨"LastAwakeModel", "wayOf", "(II)I"⟩, 26), (⟨"LastAwakeModel", "areBeside", "(II)Z"⟩, 26), (⟨"LastAwakeModel", "stepTo", "(I)I"⟩, 26)]
theorem lw_r3 : ∀ q ∈ lw_privs_3, lw_okq q := List.forall_mem_cons.mpr ⟨lw_p32, List.forall_mem_cons.mpr ⟨lw_p33, List.forall_mem_cons.mpr ⟨lw_p34, List.forall_mem_cons.mpr ⟨lw_p35, List.forall_mem_cons.mpr ⟨lw_p36, List.forall_mem_cons.mpr ⟨lw_p37, List.forall_mem_cons.mpr ⟨lw_p38, List.forall_mem_cons.mpr ⟨lw_p39, List.forall_mem_cons.mpr ⟨lw_p40, List.forall_mem_cons.mpr ⟨lw_p41, List.forall_mem_cons.mpr ⟨lw_p42, List.forall_mem_cons.mpr ⟨lw_p43, List.forall_mem_cons.mpr ⟨lw_p44, List.forall_mem_cons.mpr ⟨lw_p45, List.forall_mem_cons.mpr ⟨lw_p46, List.forall_mem_cons.mpr ⟨lw_p47, fun _ h => absurd h List.not_mem_nil⟩⟩⟩⟩⟩⟩⟩⟩⟩⟩⟩⟩⟩⟩⟩⟩
theorem lw_p48 : lw_okq (⟨"LastAwakeModel", "layNow", "()V"⟩, 26) := ⟨⟨by decide +kernel, by decide +kernel⟩, List.mem_of_getElem? (i := 787) (by decide +kernel), List.mem_of_getElem? (i := 1044) (by decide +kernel), List.mem_of_getElem? (i := 1045) (by decide +kernel)⟩
theorem lw_p49 : lw_okq (⟨"LastAwakeModel", "minds", "()V"⟩, 26) := ⟨⟨by decide +kernel, by decide +kernel⟩, List.mem_of_getElem? (i := 787) (by decide +kernel), List.mem_of_getElem? (i := 1048) (by decide +kernel), List.mem_of_getElem? (i := 1049) (by decide +kernel)⟩
theorem lw_p50 : lw_okq (⟨"LastAwakeModel", "goNight", "()V"⟩, 26) := ⟨⟨by decide +kernel, by decide +kernel⟩, List.mem_of_getElem? (i := 787) (by decide +kernel), List.mem_of_getElem? (i := 1052) (by decide +kernel), List.mem_of_getElem? (i := 1053) (by decide +kernel)⟩
theorem lw_p51 : lw_okq (⟨"LastAwakeModel", "waits", "(I)I"⟩, 26) := ⟨⟨by decide +kernel, by decide +kernel⟩, List.mem_of_getElem? (i := 787) (by decide +kernel), List.mem_of_getElem? (i := 1056) (by decide +kernel), List.mem_of_getElem? (i := 1057) (by decide +kernel)⟩
theorem lw_p52 : lw_okq (⟨"LastAwakeModel", "pays", "()V"⟩, 26) := ⟨⟨by decide +kernel, by decide +kernel⟩, List.mem_of_getElem? (i := 787) (by decide +kernel), List.mem_of_getElem? (i := 1060) (by decide +kernel), List.mem_of_getElem? (i := 1061) (by decide +kernel)⟩
theorem lw_p53 : lw_okq (⟨"LastAwakeModel", "costOf", "(I)I"⟩, 26) := ⟨⟨by decide +kernel, by decide +kernel⟩, List.mem_of_getElem? (i := 787) (by decide +kernel), List.mem_of_getElem? (i := 1064) (by decide +kernel), List.mem_of_getElem? (i := 1065) (by decide +kernel)⟩
theorem lw_p54 : lw_okq (⟨"LastAwakeModel", "feltBy", "(I)I"⟩, 26) := ⟨⟨by decide +kernel, by decide +kernel⟩, List.mem_of_getElem? (i := 787) (by decide +kernel), List.mem_of_getElem? (i := 1081) (by decide +kernel), List.mem_of_getElem? (i := 1082) (by decide +kernel)⟩
theorem lw_p55 : lw_okq (⟨"LastAwakeModel", "sumOf", "(I)I"⟩, 26) := ⟨⟨by decide +kernel, by decide +kernel⟩, List.mem_of_getElem? (i := 787) (by decide +kernel), List.mem_of_getElem? (i := 1098) (by decide +kernel), List.mem_of_getElem? (i := 1099) (by decide +kernel)⟩
theorem lw_p56 : lw_okq (⟨"LastAwakeModel", "layWithout", "()V"⟩, 26) := ⟨⟨by decide +kernel, by decide +kernel⟩, List.mem_of_getElem? (i := 787) (by decide +kernel), List.mem_of_getElem? (i := 1107) (by decide +kernel), List.mem_of_getElem? (i := 1108) (by decide +kernel)⟩
theorem lw_p57 : lw_okq (⟨"LastAwakeModel", "layCosts", "(II)V"⟩, 26) := ⟨⟨by decide +kernel, by decide +kernel⟩, List.mem_of_getElem? (i := 787) (by decide +kernel), List.mem_of_getElem? (i := 1120) (by decide +kernel), List.mem_of_getElem? (i := 1121) (by decide +kernel)⟩
theorem lw_p58 : lw_okq (⟨"LastAwakeModel", "mostBy", "(II)I"⟩, 26) := ⟨⟨by decide +kernel, by decide +kernel⟩, List.mem_of_getElem? (i := 787) (by decide +kernel), List.mem_of_getElem? (i := 1132) (by decide +kernel), List.mem_of_getElem? (i := 1133) (by decide +kernel)⟩
theorem lw_p59 : lw_okq (⟨"LastAwakeModel", "tells", "(JJ)V"⟩, 26) := ⟨⟨by decide +kernel, by decide +kernel⟩, List.mem_of_getElem? (i := 787) (by decide +kernel), List.mem_of_getElem? (i := 1144) (by decide +kernel), List.mem_of_getElem? (i := 1145) (by decide +kernel)⟩
theorem lw_p60 : lw_okq (⟨"LastAwakeModel", "liarsIf", "(I)I"⟩, 26) := ⟨⟨by decide +kernel, by decide +kernel⟩, List.mem_of_getElem? (i := 787) (by decide +kernel), List.mem_of_getElem? (i := 1171) (by decide +kernel), List.mem_of_getElem? (i := 1172) (by decide +kernel)⟩
theorem lw_p61 : lw_okq (⟨"LastAwakeModel", "countOf", "(I)I"⟩, 26) := ⟨⟨by decide +kernel, by decide +kernel⟩, List.mem_of_getElem? (i := 787) (by decide +kernel), List.mem_of_getElem? (i := 1205) (by decide +kernel), List.mem_of_getElem? (i := 1206) (by decide +kernel)⟩
theorem lw_p62 : lw_okq (⟨"LastAwakeModel", "mix", "(J)V"⟩, 26) := ⟨⟨by decide +kernel, by decide +kernel⟩, List.mem_of_getElem? (i := 787) (by decide +kernel), List.mem_of_getElem? (i := 1214) (by decide +kernel), List.mem_of_getElem? (i := 1215) (by decide +kernel)⟩
def lw_privs_4 : List (MethodName × Nat) := [(⟨"LastAwakeModel", "layNow", "()V"⟩, 26), (⟨"LastAwakeModel", "minds", "()V"⟩, 26), (⟨"LastAwakeModel", "goNight", "()V"⟩, 26), (⟨"LastAwakeModel", "waits", "(I)I"⟩, 26), (⟨"LastAwakeModel", "pays", "()V"⟩, 26), (⟨"LastAwakeModel", "costOf", "(I)I"⟩, 26), (⟨"LastAwakeModel", "feltBy", "(I)I"⟩, 26), (⟨"LastAwakeModel", "sumOf", "(I)I"⟩, 26), (⟨"LastAwakeModel", "layWithout", "()V"⟩, 26), (⟨"LastAwakeModel", "layCosts", "(II)V"⟩, 26), (⟨"LastAwakeModel", "mostBy", "(II)I"⟩, 26), (⟨"LastAwakeModel", "tells", "(JJ)V"⟩, 26), (⟨"LastAwakeModel", "liarsIf", "(I)I"⟩, 26), (⟨"LastAwakeModel", "countOf", "(I)I"⟩, 26), (⟨"LastAwakeModel", "mix", "(J)V"⟩, 26)]
theorem lw_r4 : ∀ q ∈ lw_privs_4, lw_okq q := List.forall_mem_cons.mpr ⟨lw_p48, List.forall_mem_cons.mpr ⟨lw_p49, List.forall_mem_cons.mpr ⟨lw_p50, List.forall_mem_cons.mpr ⟨lw_p51, List.forall_mem_cons.mpr ⟨lw_p52, List.forall_mem_cons.mpr ⟨lw_p53, List.forall_mem_cons.mpr ⟨lw_p54, List.forall_mem_cons.mpr ⟨lw_p55, List.forall_mem_cons.mpr ⟨lw_p56, List.forall_mem_cons.mpr ⟨lw_p57, List.forall_mem_cons.mpr ⟨lw_p58, List.forall_mem_cons.mpr ⟨lw_p59, List.forall_mem_cons.mpr ⟨lw_p60, List.forall_mem_cons.mpr ⟨lw_p61, List.forall_mem_cons.mpr ⟨lw_p62, fun _ h => absurd h List.not_mem_nil⟩⟩⟩⟩⟩⟩⟩⟩⟩⟩⟩⟩⟩⟩⟩
def lw_privs : List (MethodName × Nat) := lw_privs_1 ++ (lw_privs_2 ++ (lw_privs_3 ++ (lw_privs_4)))
def lw_tbl : List Cond := k2_sels lw_privs ++ tables_1
theorem lw_privs_ok : ∀ q ∈ lw_privs, lw_okq q := by
  show ∀ q ∈ lw_privs_1 ++ (lw_privs_2 ++ (lw_privs_3 ++ (lw_privs_4))), lw_okq q
  exact List.forall_mem_append.mpr ⟨lw_r1, List.forall_mem_append.mpr ⟨lw_r2, List.forall_mem_append.mpr ⟨lw_r3, lw_r4⟩⟩⟩
def RX0 : String := "LastAwake$Beds"
def TX0 : u_T := fun k => match k with
  | 0 => ("LastAwake$Beds", "sleepers", "[LLastAwake$Sleeper;", true)
  | 1 => ("LastAwake$Beds", "size", "I", false)
  | 2 => ("LastAwake$Beds", "nights", "I", false)
  | 3 => ("LastAwake$Beds", "undoable", "I", false)
  | _ => ("LastAwake$Beds", "past", "[[I", true)
def tyX0 : Nat → FieldType := fun k => match k with
  | 0 => .array (.object "LastAwake$Sleeper")
  | 1 => .int
  | 2 => .int
  | 3 => .int
  | _ => .array (.array .int)
abbrev wsX00 : List Cond := u_ws RX0 TX0 5
theorem nmX0 : ∀ a, a < 5 → ∀ b, b < 5 → a ≠ b → (TX0 a).2.1 ≠ (TX0 b).2.1 := by decide +kernel
theorem tyX0_ok : ∀ k, k < 5 → parseFieldDescriptor (TX0 k).2.2.1 = some (tyX0 k) := by decide +kernel
abbrev cX0_init : ByteArray := prog_2_method_1_code
def yX0_init : MethodName := ⟨RX0, "<init>", "()V"⟩
abbrev cX0_startAnew : ByteArray := prog_2_method_2_code
def yX0_startAnew : MethodName := ⟨RX0, "startAnew", "()V"⟩
abbrev cX0_copyFrom : ByteArray := prog_2_method_3_code
def yX0_copyFrom : MethodName := ⟨RX0, "copyFrom", "(LLastAwake$Beds;)V"⟩
abbrev cX0_has : ByteArray := prog_2_method_4_code
def yX0_has : MethodName := ⟨RX0, "has", "(I)Z"⟩
abbrev cX0_welcome : ByteArray := prog_2_method_5_code
def yX0_welcome : MethodName := ⟨RX0, "welcome", "(IIIII)I"⟩
abbrev cX0_leastCount : ByteArray := prog_2_method_6_code
def yX0_leastCount : MethodName := ⟨RX0, "leastCount", "()I"⟩
abbrev cX0_sum : ByteArray := prog_2_method_7_code
def yX0_sum : MethodName := ⟨RX0, "sum", "(I)I"⟩
abbrev cX0_feltBy : ByteArray := prog_2_method_8_code
def yX0_feltBy : MethodName := ⟨RX0, "feltBy", "(I)I"⟩
abbrev cX0_foresee : ByteArray := prog_2_method_9_code
def yX0_foresee : MethodName := ⟨RX0, "foresee", "(LLastAwake$Night;)V"⟩
abbrev cX0_rememberNight : ByteArray := prog_2_method_10_code
def yX0_rememberNight : MethodName := ⟨RX0, "rememberNight", "()V"⟩
abbrev cX0_forgetNight : ByteArray := prog_2_method_11_code
def yX0_forgetNight : MethodName := ⟨RX0, "forgetNight", "()V"⟩
abbrev cX0_drawUps : ByteArray := prog_2_method_12_code
def yX0_drawUps : MethodName := ⟨RX0, "drawUps", "(J)J"⟩
abbrev cX0_mixInto : ByteArray := prog_2_method_13_code
def yX0_mixInto : MethodName := ⟨RX0, "mixInto", "(J)J"⟩
def RX1 : String := "LastAwake$Floor"
def TX1 : u_T := fun k => match k with
  | 0 => ("LastAwake$Floor", "w", "I", false)
  | 1 => ("LastAwake$Floor", "h", "I", false)
  | 2 => ("LastAwake$Floor", "switchCell", "I", false)
  | 3 => ("LastAwake$Floor", "bedCell", "I", false)
  | 4 => ("LastAwake$Floor", "moonlit", "I", false)
  | 5 => ("LastAwake$Floor", "cords", "I", false)
  | 6 => ("LastAwake$Floor", "things", "[I", true)
  | 7 => ("LastAwake$Floor", "ways", "[I", true)
  | _ => ("LastAwake$Floor", "walk", "I", false)
def tyX1 : Nat → FieldType := fun k => match k with
  | 0 => .int
  | 1 => .int
  | 2 => .int
  | 3 => .int
  | 4 => .int
  | 5 => .int
  | 6 => .array .int
  | 7 => .array .int
  | _ => .int
abbrev wsX10 : List Cond := u_ws RX1 TX1 9
theorem nmX1 : ∀ a, a < 9 → ∀ b, b < 9 → a ≠ b → (TX1 a).2.1 ≠ (TX1 b).2.1 := by decide +kernel
theorem tyX1_ok : ∀ k, k < 9 → parseFieldDescriptor (TX1 k).2.2.1 = some (tyX1 k) := by decide +kernel
abbrev cX1_init : ByteArray := prog_3_method_1_code
def yX1_init : MethodName := ⟨RX1, "<init>", "()V"⟩
abbrev cX1_layOut : ByteArray := prog_3_method_2_code
def yX1_layOut : MethodName := ⟨RX1, "layOut", "(II)V"⟩
abbrev cX1_copyFrom : ByteArray := prog_3_method_3_code
def yX1_copyFrom : MethodName := ⟨RX1, "copyFrom", "(LLastAwake$Floor;)V"⟩
abbrev cX1_has : ByteArray := prog_3_method_4_code
def yX1_has : MethodName := ⟨RX1, "has", "(I)Z"⟩
abbrev cX1_putSwitch : ByteArray := prog_3_method_5_code
def yX1_putSwitch : MethodName := ⟨RX1, "putSwitch", "(I)V"⟩
abbrev cX1_putBed : ByteArray := prog_3_method_6_code
def yX1_putBed : MethodName := ⟨RX1, "putBed", "(I)V"⟩
abbrev cX1_putThings : ByteArray := prog_3_method_7_code
def yX1_putThings : MethodName := ⟨RX1, "putThings", "(II)V"⟩
abbrev cX1_shineOn : ByteArray := prog_3_method_8_code
def yX1_shineOn : MethodName := ⟨RX1, "shineOn", "(I)V"⟩
abbrev cX1_measureWalk : ByteArray := prog_3_method_9_code
def yX1_measureWalk : MethodName := ⟨RX1, "measureWalk", "()V"⟩
abbrev cX1_wayBetween : ByteArray := prog_3_method_10_code
def yX1_wayBetween : MethodName := ⟨RX1, "wayBetween", "(II)I"⟩
abbrev cX1_nearestBed : ByteArray := prog_3_method_11_code
def yX1_nearestBed : MethodName := ⟨RX1, "nearestBed", "()I"⟩
abbrev cX1_measureWaysTo : ByteArray := prog_3_method_12_code
def yX1_measureWaysTo : MethodName := ⟨RX1, "measureWaysTo", "(I)V"⟩
abbrev cX1_shorten : ByteArray := prog_3_method_13_code
def yX1_shorten : MethodName := ⟨RX1, "shorten", "(II)Z"⟩
abbrev cX1_wayOver : ByteArray := prog_3_method_14_code
def yX1_wayOver : MethodName := ⟨RX1, "wayOver", "(II)I"⟩
abbrev cX1_mixInto : ByteArray := prog_3_method_15_code
def yX1_mixInto : MethodName := ⟨RX1, "mixInto", "(J)J"⟩
def RX2 : String := "LastAwake$Night"
def TX2 : u_T := fun k => match k with
  | 0 => ("LastAwake$Night", "minute", "I", false)
  | 1 => ("LastAwake$Night", "putOutBy", "I", false)
  | _ => ("LastAwake$Night", "anyhow", "Z", false)
def tyX2 : Nat → FieldType := fun k => match k with
  | 0 => .int
  | 1 => .int
  | _ => .boolean
abbrev wsX20 : List Cond := u_ws RX2 TX2 3
theorem nmX2 : ∀ a, a < 3 → ∀ b, b < 3 → a ≠ b → (TX2 a).2.1 ≠ (TX2 b).2.1 := by decide +kernel
theorem tyX2_ok : ∀ k, k < 3 → parseFieldDescriptor (TX2 k).2.2.1 = some (tyX2 k) := by decide +kernel
abbrev cX2_init : ByteArray := prog_4_method_1_code
def yX2_init : MethodName := ⟨RX2, "<init>", "()V"⟩
abbrev cX2_endAt : ByteArray := prog_4_method_2_code
def yX2_endAt : MethodName := ⟨RX2, "endAt", "(IIZ)V"⟩
def RX3 : String := "LastAwake$Notes"
def TX3 : u_T := fun k => match k with
  | 0 => ("LastAwake$Notes", "size", "I", false)
  | 1 => ("LastAwake$Notes", "writers", "[I", true)
  | _ => ("LastAwake$Notes", "named", "[I", true)
def tyX3 : Nat → FieldType := fun k => match k with
  | 0 => .int
  | 1 => .array .int
  | _ => .array .int
abbrev wsX30 : List Cond := u_ws RX3 TX3 3
theorem nmX3 : ∀ a, a < 3 → ∀ b, b < 3 → a ≠ b → (TX3 a).2.1 ≠ (TX3 b).2.1 := by decide +kernel
theorem tyX3_ok : ∀ k, k < 3 → parseFieldDescriptor (TX3 k).2.2.1 = some (tyX3 k) := by decide +kernel
abbrev cX3_init : ByteArray := prog_5_method_1_code
def yX3_init : MethodName := ⟨RX3, "<init>", "()V"⟩
abbrev cX3_copyFrom : ByteArray := prog_5_method_2_code
def yX3_copyFrom : MethodName := ⟨RX3, "copyFrom", "(LLastAwake$Notes;)V"⟩
abbrev cX3_write : ByteArray := prog_5_method_3_code
def yX3_write : MethodName := ⟨RX3, "write", "(II)I"⟩
abbrev cX3_suspects : ByteArray := prog_5_method_4_code
def yX3_suspects : MethodName := ⟨RX3, "suspects", "(II)I"⟩
abbrev cX3_liarsIf : ByteArray := prog_5_method_5_code
def yX3_liarsIf : MethodName := ⟨RX3, "liarsIf", "(I)I"⟩
abbrev cX3_mixInto : ByteArray := prog_5_method_6_code
def yX3_mixInto : MethodName := ⟨RX3, "mixInto", "(J)J"⟩
def RX4 : String := "LastAwake$Script"
def TX4 : u_T := fun k => match k with
  | 0 => ("LastAwake$Script", "length", "I", false)
  | 1 => ("LastAwake$Script", "bytes", "[B", true)
  | 2 => ("LastAwake$Script", "numbers", "[I", true)
  | 3 => ("LastAwake$Script", "token", "I", false)
  | 4 => ("LastAwake$Script", "start", "I", false)
  | 5 => ("LastAwake$Script", "end", "I", false)
  | _ => ("LastAwake$Script", "value", "I", false)
def tyX4 : Nat → FieldType := fun k => match k with
  | 0 => .int
  | 1 => .array .byte
  | 2 => .array .int
  | 3 => .int
  | 4 => .int
  | 5 => .int
  | _ => .int
abbrev wsX40 : List Cond := u_ws RX4 TX4 7
theorem nmX4 : ∀ a, a < 7 → ∀ b, b < 7 → a ≠ b → (TX4 a).2.1 ≠ (TX4 b).2.1 := by decide +kernel
theorem tyX4_ok : ∀ k, k < 7 → parseFieldDescriptor (TX4 k).2.2.1 = some (tyX4 k) := by decide +kernel
abbrev cX4_init : ByteArray := prog_6_method_1_code
def yX4_init : MethodName := ⟨RX4, "<init>", "()V"⟩
abbrev cX4_append : ByteArray := prog_6_method_2_code
def yX4_append : MethodName := ⟨RX4, "append", "(I)V"⟩
abbrev cX4_tellRoom : ByteArray := prog_6_method_3_code
def yX4_tellRoom : MethodName := ⟨RX4, "tellRoom", "(LLastAwake$State;)I"⟩
abbrev cX4_itemStands : ByteArray := prog_6_method_4_code
def yX4_itemStands : MethodName := ⟨RX4, "itemStands", "(LLastAwake$State;Z)Z"⟩
abbrev cX4_itemOfWord : ByteArray := prog_6_method_5_code
def yX4_itemOfWord : MethodName := ⟨RX4, "itemOfWord", "()I"⟩
abbrev cX4_wordIs : ByteArray := prog_6_method_6_code
def yX4_wordIs : MethodName := ⟨RX4, "wordIs", "(Ljava/lang/String;)Z"⟩
abbrev cX4_mostOfNumber : ByteArray := prog_6_method_7_code
def yX4_mostOfNumber : MethodName := ⟨RX4, "mostOfNumber", "(LLastAwake$State;II)I"⟩
abbrev cX4_apply : ByteArray := prog_6_method_8_code
def yX4_apply : MethodName := ⟨RX4, "apply", "(LLastAwake$State;I)V"⟩
abbrev cX4_nextToken : ByteArray := prog_6_method_9_code
def yX4_nextToken : MethodName := ⟨RX4, "nextToken", "()V"⟩
abbrev cX4_takeWord : ByteArray := prog_6_method_10_code
def yX4_takeWord : MethodName := ⟨RX4, "takeWord", "()V"⟩
abbrev cX4_takeNumber : ByteArray := prog_6_method_11_code
def yX4_takeNumber : MethodName := ⟨RX4, "takeNumber", "()V"⟩
abbrev cX4_isLetter : ByteArray := prog_6_method_12_code
def yX4_isLetter : MethodName := ⟨RX4, "isLetter", "(I)Z"⟩
abbrev cX4_isFigure : ByteArray := prog_6_method_13_code
def yX4_isFigure : MethodName := ⟨RX4, "isFigure", "(I)Z"⟩
def RX5 : String := "LastAwake$Sleeper"
def TX5 : u_T := fun k => match k with
  | _ => ("LastAwake$Sleeper", "traits", "[I", true)
def tyX5 : Nat → FieldType := fun k => match k with
  | _ => .array .int
abbrev wsX50 : List Cond := u_ws RX5 TX5 1
theorem nmX5 : ∀ a, a < 1 → ∀ b, b < 1 → a ≠ b → (TX5 a).2.1 ≠ (TX5 b).2.1 := by decide +kernel
theorem tyX5_ok : ∀ k, k < 1 → parseFieldDescriptor (TX5 k).2.2.1 = some (tyX5 k) := by decide +kernel
abbrev cX5_init : ByteArray := prog_7_method_1_code
def yX5_init : MethodName := ⟨RX5, "<init>", "()V"⟩
abbrev cX5_waits : ByteArray := prog_7_method_2_code
def yX5_waits : MethodName := ⟨RX5, "waits", "(I)I"⟩
abbrev cX5_isUpAnyhow : ByteArray := prog_7_method_3_code
def yX5_isUpAnyhow : MethodName := ⟨RX5, "isUpAnyhow", "()Z"⟩
abbrev cX5_lightCost : ByteArray := prog_7_method_4_code
def yX5_lightCost : MethodName := ⟨RX5, "lightCost", "(I)I"⟩
def RX6 : String := "LastAwake$State"
def TX6 : u_T := fun k => match k with
  | 0 => ("LastAwake$State", "floor", "LLastAwake$Floor;", true)
  | 1 => ("LastAwake$State", "beds", "LLastAwake$Beds;", true)
  | 2 => ("LastAwake$State", "notes", "LLastAwake$Notes;", true)
  | _ => ("LastAwake$State", "night", "LLastAwake$Night;", true)
def tyX6 : Nat → FieldType := fun k => match k with
  | 0 => .object "LastAwake$Floor"
  | 1 => .object "LastAwake$Beds"
  | 2 => .object "LastAwake$Notes"
  | _ => .object "LastAwake$Night"
abbrev wsX60 : List Cond := u_ws RX6 TX6 4
theorem nmX6 : ∀ a, a < 4 → ∀ b, b < 4 → a ≠ b → (TX6 a).2.1 ≠ (TX6 b).2.1 := by decide +kernel
theorem tyX6_ok : ∀ k, k < 4 → parseFieldDescriptor (TX6 k).2.2.1 = some (tyX6 k) := by decide +kernel
abbrev cX6_init : ByteArray := prog_8_method_1_code
def yX6_init : MethodName := ⟨RX6, "<init>", "()V"⟩
abbrev cX6_startAnew : ByteArray := prog_8_method_2_code
def yX6_startAnew : MethodName := ⟨RX6, "startAnew", "(II)V"⟩
abbrev cX6_copyFrom : ByteArray := prog_8_method_3_code
def yX6_copyFrom : MethodName := ⟨RX6, "copyFrom", "(LLastAwake$State;)V"⟩
abbrev cX6_foresee : ByteArray := prog_8_method_4_code
def yX6_foresee : MethodName := ⟨RX6, "foresee", "()V"⟩
abbrev cX6_spendNight : ByteArray := prog_8_method_5_code
def yX6_spendNight : MethodName := ⟨RX6, "spendNight", "()I"⟩
abbrev cX6_costTonight : ByteArray := prog_8_method_6_code
def yX6_costTonight : MethodName := ⟨RX6, "costTonight", "(I)I"⟩
abbrev cX6_errandTonight : ByteArray := prog_8_method_7_code
def yX6_errandTonight : MethodName := ⟨RX6, "errandTonight", "()I"⟩
abbrev cX6_errandOf : ByteArray := prog_8_method_8_code
def yX6_errandOf : MethodName := ⟨RX6, "errandOf", "(IZ)I"⟩
abbrev cX6_burden : ByteArray := prog_8_method_9_code
def yX6_burden : MethodName := ⟨RX6, "burden", "(III)I"⟩
abbrev cX6_leastOfTurns : ByteArray := prog_8_method_10_code
def yX6_leastOfTurns : MethodName := ⟨RX6, "leastOfTurns", "(I)I"⟩
abbrev cX6_turnsWithin : ByteArray := prog_8_method_11_code
def yX6_turnsWithin : MethodName := ⟨RX6, "turnsWithin", "(II)I"⟩
abbrev cX6_ownTurnsWithin : ByteArray := prog_8_method_12_code
def yX6_ownTurnsWithin : MethodName := ⟨RX6, "ownTurnsWithin", "(III)I"⟩
abbrev cX6_nextBurden : ByteArray := prog_8_method_13_code
def yX6_nextBurden : MethodName := ⟨RX6, "nextBurden", "(II)I"⟩
abbrev cX6_whoseTurn : ByteArray := prog_8_method_14_code
def yX6_whoseTurn : MethodName := ⟨RX6, "whoseTurn", "(III)I"⟩
def RX7 : String := "LastAwake"
def TX7 : u_T := fun k => match k with
  | 0 => ("LastAwake", "state", "LLastAwake$State;", true)
  | 1 => ("LastAwake", "trial", "LLastAwake$State;", true)
  | 2 => ("LastAwake", "images", "[LLastAwake$State;", true)
  | 3 => ("LastAwake", "script", "LLastAwake$Script;", true)
  | 4 => ("LastAwake", "refused", "[I", true)
  | 5 => ("LastAwake", "costsOfOne", "[[I", true)
  | 6 => ("LastAwake", "costsOfOther", "[[I", true)
  | 7 => ("LastAwake", "above", "J", false)
  | _ => ("LastAwake", "below", "J", false)
def tyX7 : Nat → FieldType := fun k => match k with
  | 0 => .object "LastAwake$State"
  | 1 => .object "LastAwake$State"
  | 2 => .array (.object "LastAwake$State")
  | 3 => .object "LastAwake$Script"
  | 4 => .array .int
  | 5 => .array (.array .int)
  | 6 => .array (.array .int)
  | 7 => .long
  | _ => .long
abbrev wsX70 : List Cond := u_ws RX7 TX7 9
theorem nmX7 : ∀ a, a < 9 → ∀ b, b < 9 → a ≠ b → (TX7 a).2.1 ≠ (TX7 b).2.1 := by decide +kernel
theorem tyX7_ok : ∀ k, k < 9 → parseFieldDescriptor (TX7 k).2.2.1 = some (tyX7 k) := by decide +kernel
abbrev cX7_init : ByteArray := prog_1_method_1_code
def yX7_init : MethodName := ⟨RX7, "<init>", "()V"⟩
abbrev cX7_room : ByteArray := prog_1_method_2_code
def yX7_room : MethodName := ⟨RX7, "room", "(II)I"⟩
abbrev cX7_place : ByteArray := prog_1_method_3_code
def yX7_place : MethodName := ⟨RX7, "place", "(II)I"⟩
abbrev cX7_things : ByteArray := prog_1_method_4_code
def yX7_things : MethodName := ⟨RX7, "things", "(II)I"⟩
abbrev cX7_moon : ByteArray := prog_1_method_5_code
def yX7_moon : MethodName := ⟨RX7, "moon", "(I)I"⟩
abbrev cX7_cord : ByteArray := prog_1_method_6_code
def yX7_cord : MethodName := ⟨RX7, "cord", "(I)I"⟩
abbrev cX7_sleeper : ByteArray := prog_1_method_7_code
def yX7_sleeper : MethodName := ⟨RX7, "sleeper", "(IIIII)I"⟩
abbrev cX7_become : ByteArray := prog_1_method_8_code
def yX7_become : MethodName := ⟨RX7, "become", "(III)I"⟩
abbrev cX7_type : ByteArray := prog_1_method_9_code
def yX7_type : MethodName := ⟨RX7, "type", "(I)I"⟩
abbrev cX7_clear : ByteArray := prog_1_method_10_code
def yX7_clear : MethodName := ⟨RX7, "clear", "()I"⟩
abbrev cX7_read : ByteArray := prog_1_method_11_code
def yX7_read : MethodName := ⟨RX7, "read", "()I"⟩
abbrev cX7_pass : ByteArray := prog_1_method_12_code
def yX7_pass : MethodName := ⟨RX7, "pass", "(I)I"⟩
abbrev cX7_undo : ByteArray := prog_1_method_13_code
def yX7_undo : MethodName := ⟨RX7, "undo", "()I"⟩
abbrev cX7_about : ByteArray := prog_1_method_14_code
def yX7_about : MethodName := ⟨RX7, "about", "(II)I"⟩
abbrev cX7_way : ByteArray := prog_1_method_15_code
def yX7_way : MethodName := ⟨RX7, "way", "(II)I"⟩
abbrev cX7_bed : ByteArray := prog_1_method_16_code
def yX7_bed : MethodName := ⟨RX7, "bed", "()I"⟩
abbrev cX7_tonight : ByteArray := prog_1_method_17_code
def yX7_tonight : MethodName := ⟨RX7, "tonight", "(I)I"⟩
abbrev cX7_cost : ByteArray := prog_1_method_18_code
def yX7_cost : MethodName := ⟨RX7, "cost", "(I)I"⟩
abbrev cX7_foretold : ByteArray := prog_1_method_19_code
def yX7_foretold : MethodName := ⟨RX7, "foretold", "(III)I"⟩
abbrev cX7_worth : ByteArray := prog_1_method_20_code
def yX7_worth : MethodName := ⟨RX7, "worth", "(I)I"⟩
abbrev cX7_reading : ByteArray := prog_1_method_21_code
def yX7_reading : MethodName := ⟨RX7, "reading", "(I)I"⟩
abbrev cX7_waiting : ByteArray := prog_1_method_22_code
def yX7_waiting : MethodName := ⟨RX7, "waiting", "(III)I"⟩
abbrev cX7_turns : ByteArray := prog_1_method_23_code
def yX7_turns : MethodName := ⟨RX7, "turns", "(II)I"⟩
abbrev cX7_shoe : ByteArray := prog_1_method_24_code
def yX7_shoe : MethodName := ⟨RX7, "shoe", "(III)I"⟩
abbrev cX7_clap : ByteArray := prog_1_method_25_code
def yX7_clap : MethodName := ⟨RX7, "clap", "(III)I"⟩
abbrev cX7_asleep : ByteArray := prog_1_method_26_code
def yX7_asleep : MethodName := ⟨RX7, "asleep", "(IIIII)I"⟩
abbrev cX7_note : ByteArray := prog_1_method_27_code
def yX7_note : MethodName := ⟨RX7, "note", "(II)I"⟩
abbrev cX7_burn : ByteArray := prog_1_method_28_code
def yX7_burn : MethodName := ⟨RX7, "burn", "()I"⟩
abbrev cX7_who : ByteArray := prog_1_method_29_code
def yX7_who : MethodName := ⟨RX7, "who", "(I)I"⟩
abbrev cX7_drawn : ByteArray := prog_1_method_30_code
def yX7_drawn : MethodName := ⟨RX7, "drawn", "(III)I"⟩
abbrev cX7_part : ByteArray := prog_1_method_31_code
def yX7_part : MethodName := ⟨RX7, "part", "(I)J"⟩
abbrev cX7_image : ByteArray := prog_1_method_32_code
def yX7_image : MethodName := ⟨RX7, "image", "(I)I"⟩
abbrev cX7_from : ByteArray := prog_1_method_33_code
def yX7_from : MethodName := ⟨RX7, "from", "(I)I"⟩
abbrev cX7_status : ByteArray := prog_1_method_34_code
def yX7_status : MethodName := ⟨RX7, "status", "(I)I"⟩
abbrev cX7_count : ByteArray := prog_1_method_35_code
def yX7_count : MethodName := ⟨RX7, "count", "(I)I"⟩
abbrev cX7_digest : ByteArray := prog_1_method_36_code
def yX7_digest : MethodName := ⟨RX7, "digest", "()J"⟩
abbrev cX7_within : ByteArray := prog_1_method_37_code
def yX7_within : MethodName := ⟨RX7, "within", "(III)Z"⟩
abbrev cX7_fitsTrait : ByteArray := prog_1_method_38_code
def yX7_fitsTrait : MethodName := ⟨RX7, "fitsTrait", "(II)Z"⟩
abbrev cX7_bad : ByteArray := prog_1_method_39_code
def yX7_bad : MethodName := ⟨RX7, "bad", "(I)I"⟩
abbrev cX7_no : ByteArray := prog_1_method_40_code
def yX7_no : MethodName := ⟨RX7, "no", "()I"⟩
abbrev cX7_full : ByteArray := prog_1_method_41_code
def yX7_full : MethodName := ⟨RX7, "full", "()I"⟩
abbrev cX7_howMany : ByteArray := prog_1_method_42_code
def yX7_howMany : MethodName := ⟨RX7, "howMany", "(I)I"⟩
abbrev cX7_joyOfReading : ByteArray := prog_1_method_43_code
def yX7_joyOfReading : MethodName := ⟨RX7, "joyOfReading", "(II)I"⟩
abbrev cX7_fillCosts : ByteArray := prog_1_method_44_code
def yX7_fillCosts : MethodName := ⟨RX7, "fillCosts", "(II)V"⟩
abbrev cX7_pairRests : ByteArray := prog_1_method_45_code
def yX7_pairRests : MethodName := ⟨RX7, "pairRests", "(II)Z"⟩
abbrev cX7_turnedAbout : ByteArray := prog_1_method_46_code
def yX7_turnedAbout : MethodName := ⟨RX7, "turnedAbout", "(JJI)J"⟩
abbrev cX7_setFraction : ByteArray := prog_1_method_47_code
def yX7_setFraction : MethodName := ⟨RX7, "setFraction", "(JJ)V"⟩
abbrev cX7_commonDivisor : ByteArray := prog_1_method_48_code
def yX7_commonDivisor : MethodName := ⟨RX7, "commonDivisor", "(JJ)J"⟩
def RX8 : String := "LastAwakeModel"
def TX8 : u_T := fun k => match k with
  | 0 => ("LastAwakeModel", "w", "[I", true)
  | 1 => ("LastAwakeModel", "isKept", "[Z", true)
  | 2 => ("LastAwakeModel", "text", "[I", true)
  | 3 => ("LastAwakeModel", "texted", "I", false)
  | 4 => ("LastAwakeModel", "refused", "[I", true)
  | 5 => ("LastAwakeModel", "above", "J", false)
  | 6 => ("LastAwakeModel", "below", "J", false)
  | 7 => ("LastAwakeModel", "at", "I", false)
  | 8 => ("LastAwakeModel", "start", "I", false)
  | 9 => ("LastAwakeModel", "isFigures", "Z", false)
  | 10 => ("LastAwakeModel", "isWord", "Z", false)
  | 11 => ("LastAwakeModel", "value", "I", false)
  | 12 => ("LastAwakeModel", "items", "I", false)
  | 13 => ("LastAwakeModel", "far", "[I", true)
  | 14 => ("LastAwakeModel", "ups", "[I", true)
  | 15 => ("LastAwakeModel", "counts", "[I", true)
  | 16 => ("LastAwakeModel", "paid", "[I", true)
  | 17 => ("LastAwakeModel", "bedWay", "I", false)
  | 18 => ("LastAwakeModel", "cordNow", "I", false)
  | 19 => ("LastAwakeModel", "minute", "I", false)
  | 20 => ("LastAwakeModel", "whoNow", "I", false)
  | 21 => ("LastAwakeModel", "anyhow", "I", false)
  | 22 => ("LastAwakeModel", "without", "[I", true)
  | 23 => ("LastAwakeModel", "costsOne", "[I", true)
  | 24 => ("LastAwakeModel", "costsOther", "[I", true)
  | _ => ("LastAwakeModel", "h", "J", false)
def tyX8 : Nat → FieldType := fun k => match k with
  | 0 => .array .int
  | 1 => .array .boolean
  | 2 => .array .int
  | 3 => .int
  | 4 => .array .int
  | 5 => .long
  | 6 => .long
  | 7 => .int
  | 8 => .int
  | 9 => .boolean
  | 10 => .boolean
  | 11 => .int
  | 12 => .int
  | 13 => .array .int
  | 14 => .array .int
  | 15 => .array .int
  | 16 => .array .int
  | 17 => .int
  | 18 => .int
  | 19 => .int
  | 20 => .int
  | 21 => .int
  | 22 => .array .int
  | 23 => .array .int
  | 24 => .array .int
  | _ => .long
abbrev wsX80 : List Cond := u_ws RX8 TX8 26
theorem nmX8 : ∀ a, a < 26 → ∀ b, b < 26 → a ≠ b → (TX8 a).2.1 ≠ (TX8 b).2.1 := by decide +kernel
theorem tyX8_ok : ∀ k, k < 26 → parseFieldDescriptor (TX8 k).2.2.1 = some (tyX8 k) := by decide +kernel
abbrev cX8_init : ByteArray := prog_10_method_1_code
def yX8_init : MethodName := ⟨RX8, "<init>", "()V"⟩
abbrev cX8_in : ByteArray := prog_10_method_3_code
def yX8_in : MethodName := ⟨RX8, "in", "(JJJ)Z"⟩
abbrev cX8_has : ByteArray := prog_10_method_4_code
def yX8_has : MethodName := ⟨RX8, "has", "(II)Z"⟩
abbrev cX8_more : ByteArray := prog_10_method_5_code
def yX8_more : MethodName := ⟨RX8, "more", "(II)I"⟩
abbrev cX8_met : ByteArray := prog_10_method_6_code
def yX8_met : MethodName := ⟨RX8, "met", "(I)I"⟩
abbrev cX8_bad : ByteArray := prog_10_method_7_code
def yX8_bad : MethodName := ⟨RX8, "bad", "()I"⟩
abbrev cX8_badAs : ByteArray := prog_10_method_8_code
def yX8_badAs : MethodName := ⟨RX8, "badAs", "(I)I"⟩
abbrev cX8_copy : ByteArray := prog_10_method_9_code
def yX8_copy : MethodName := ⟨RX8, "copy", "(II)V"⟩
abbrev cX8_begins : ByteArray := prog_10_method_10_code
def yX8_begins : MethodName := ⟨RX8, "begins", "(III)V"⟩
abbrev cX8_isCell : ByteArray := prog_10_method_11_code
def yX8_isCell : MethodName := ⟨RX8, "isCell", "(II)Z"⟩
abbrev cX8_isOne : ByteArray := prog_10_method_12_code
def yX8_isOne : MethodName := ⟨RX8, "isOne", "(I)Z"⟩
abbrev cX8_most : ByteArray := prog_10_method_13_code
def yX8_most : MethodName := ⟨RX8, "most", "(I)I"⟩
abbrev cX8_comes : ByteArray := prog_10_method_14_code
def yX8_comes : MethodName := ⟨RX8, "comes", "(IIIIII)V"⟩
abbrev cX8_room : ByteArray := prog_10_method_15_code
def yX8_room : MethodName := ⟨RX8, "room", "(II)I"⟩
abbrev cX8_becomes : ByteArray := prog_10_method_16_code
def yX8_becomes : MethodName := ⟨RX8, "becomes", "(II)I"⟩
abbrev cX8_place : ByteArray := prog_10_method_17_code
def yX8_place : MethodName := ⟨RX8, "place", "(II)I"⟩
abbrev cX8_things : ByteArray := prog_10_method_18_code
def yX8_things : MethodName := ⟨RX8, "things", "(II)I"⟩
abbrev cX8_moon : ByteArray := prog_10_method_19_code
def yX8_moon : MethodName := ⟨RX8, "moon", "(I)I"⟩
abbrev cX8_cord : ByteArray := prog_10_method_20_code
def yX8_cord : MethodName := ⟨RX8, "cord", "(I)I"⟩
abbrev cX8_sleeper : ByteArray := prog_10_method_21_code
def yX8_sleeper : MethodName := ⟨RX8, "sleeper", "(IIIII)I"⟩
abbrev cX8_become : ByteArray := prog_10_method_22_code
def yX8_become : MethodName := ⟨RX8, "become", "(III)I"⟩
abbrev cX8_type : ByteArray := prog_10_method_23_code
def yX8_type : MethodName := ⟨RX8, "type", "(I)I"⟩
abbrev cX8_clear : ByteArray := prog_10_method_24_code
def yX8_clear : MethodName := ⟨RX8, "clear", "()I"⟩
abbrev cX8_byteAt : ByteArray := prog_10_method_25_code
def yX8_byteAt : MethodName := ⟨RX8, "byteAt", "(I)I"⟩
abbrev cX8_token : ByteArray := prog_10_method_26_code
def yX8_token : MethodName := ⟨RX8, "token", "()V"⟩
abbrev cX8_takes : ByteArray := prog_10_method_27_code
def yX8_takes : MethodName := ⟨RX8, "takes", "(II)Z"⟩
abbrev cX8_isNamed : ByteArray := prog_10_method_28_code
def yX8_isNamed : MethodName := ⟨RX8, "isNamed", "(IIIII)Z"⟩
abbrev cX8_wordNow : ByteArray := prog_10_method_29_code
def yX8_wordNow : MethodName := ⟨RX8, "wordNow", "()I"⟩
abbrev cX8_takesRoom : ByteArray := prog_10_method_30_code
def yX8_takesRoom : MethodName := ⟨RX8, "takesRoom", "()Z"⟩
abbrev cX8_takesCell : ByteArray := prog_10_method_31_code
def yX8_takesCell : MethodName := ⟨RX8, "takesCell", "()Z"⟩
abbrev cX8_takesSleeper : ByteArray := prog_10_method_32_code
def yX8_takesSleeper : MethodName := ⟨RX8, "takesSleeper", "()Z"⟩
abbrev cX8_takesThing : ByteArray := prog_10_method_33_code
def yX8_takesThing : MethodName := ⟨RX8, "takesThing", "()Z"⟩
abbrev cX8_takesUp : ByteArray := prog_10_method_34_code
def yX8_takesUp : MethodName := ⟨RX8, "takesUp", "()Z"⟩
abbrev cX8_takesItem : ByteArray := prog_10_method_35_code
def yX8_takesItem : MethodName := ⟨RX8, "takesItem", "(I)Z"⟩
abbrev cX8_reads : ByteArray := prog_10_method_36_code
def yX8_reads : MethodName := ⟨RX8, "reads", "()Z"⟩
abbrev cX8_read : ByteArray := prog_10_method_37_code
def yX8_read : MethodName := ⟨RX8, "read", "()I"⟩
abbrev cX8_stepTo : ByteArray := prog_10_method_38_code
def yX8_stepTo : MethodName := ⟨RX8, "stepTo", "(I)I"⟩
abbrev cX8_areBeside : ByteArray := prog_10_method_39_code
def yX8_areBeside : MethodName := ⟨RX8, "areBeside", "(II)Z"⟩
abbrev cX8_wayOf : ByteArray := prog_10_method_40_code
def yX8_wayOf : MethodName := ⟨RX8, "wayOf", "(II)I"⟩
abbrev cX8_way : ByteArray := prog_10_method_41_code
def yX8_way : MethodName := ⟨RX8, "way", "(II)I"⟩
abbrev cX8_bed : ByteArray := prog_10_method_42_code
def yX8_bed : MethodName := ⟨RX8, "bed", "()I"⟩
abbrev cX8_layNow : ByteArray := prog_10_method_43_code
def yX8_layNow : MethodName := ⟨RX8, "layNow", "()V"⟩
abbrev cX8_waits : ByteArray := prog_10_method_44_code
def yX8_waits : MethodName := ⟨RX8, "waits", "(I)I"⟩
abbrev cX8_goNight : ByteArray := prog_10_method_45_code
def yX8_goNight : MethodName := ⟨RX8, "goNight", "()V"⟩
abbrev cX8_costOf : ByteArray := prog_10_method_46_code
def yX8_costOf : MethodName := ⟨RX8, "costOf", "(I)I"⟩
abbrev cX8_pays : ByteArray := prog_10_method_47_code
def yX8_pays : MethodName := ⟨RX8, "pays", "()V"⟩
abbrev cX8_minds : ByteArray := prog_10_method_48_code
def yX8_minds : MethodName := ⟨RX8, "minds", "()V"⟩
abbrev cX8_pass : ByteArray := prog_10_method_49_code
def yX8_pass : MethodName := ⟨RX8, "pass", "(I)I"⟩
abbrev cX8_undo : ByteArray := prog_10_method_50_code
def yX8_undo : MethodName := ⟨RX8, "undo", "()I"⟩
abbrev cX8_feltBy : ByteArray := prog_10_method_51_code
def yX8_feltBy : MethodName := ⟨RX8, "feltBy", "(I)I"⟩
abbrev cX8_about : ByteArray := prog_10_method_52_code
def yX8_about : MethodName := ⟨RX8, "about", "(II)I"⟩
abbrev cX8_tonight : ByteArray := prog_10_method_53_code
def yX8_tonight : MethodName := ⟨RX8, "tonight", "(I)I"⟩
abbrev cX8_cost : ByteArray := prog_10_method_54_code
def yX8_cost : MethodName := ⟨RX8, "cost", "(I)I"⟩
abbrev cX8_sumOf : ByteArray := prog_10_method_55_code
def yX8_sumOf : MethodName := ⟨RX8, "sumOf", "(I)I"⟩
abbrev cX8_foretold : ByteArray := prog_10_method_56_code
def yX8_foretold : MethodName := ⟨RX8, "foretold", "(III)I"⟩
abbrev cX8_layWithout : ByteArray := prog_10_method_57_code
def yX8_layWithout : MethodName := ⟨RX8, "layWithout", "()V"⟩
abbrev cX8_worth : ByteArray := prog_10_method_58_code
def yX8_worth : MethodName := ⟨RX8, "worth", "(I)I"⟩
abbrev cX8_reading : ByteArray := prog_10_method_59_code
def yX8_reading : MethodName := ⟨RX8, "reading", "(I)I"⟩
abbrev cX8_layCosts : ByteArray := prog_10_method_60_code
def yX8_layCosts : MethodName := ⟨RX8, "layCosts", "(II)V"⟩
abbrev cX8_waiting : ByteArray := prog_10_method_61_code
def yX8_waiting : MethodName := ⟨RX8, "waiting", "(III)I"⟩
abbrev cX8_power : ByteArray := prog_10_method_62_code
def yX8_power : MethodName := ⟨RX8, "power", "(II)I"⟩
abbrev cX8_mostBy : ByteArray := prog_10_method_63_code
def yX8_mostBy : MethodName := ⟨RX8, "mostBy", "(II)I"⟩
abbrev cX8_turns : ByteArray := prog_10_method_64_code
def yX8_turns : MethodName := ⟨RX8, "turns", "(II)I"⟩
abbrev cX8_tells : ByteArray := prog_10_method_65_code
def yX8_tells : MethodName := ⟨RX8, "tells", "(JJ)V"⟩
abbrev cX8_raised : ByteArray := prog_10_method_66_code
def yX8_raised : MethodName := ⟨RX8, "raised", "(JI)J"⟩
abbrev cX8_shoe : ByteArray := prog_10_method_67_code
def yX8_shoe : MethodName := ⟨RX8, "shoe", "(III)I"⟩
abbrev cX8_clap : ByteArray := prog_10_method_68_code
def yX8_clap : MethodName := ⟨RX8, "clap", "(III)I"⟩
abbrev cX8_asleep : ByteArray := prog_10_method_69_code
def yX8_asleep : MethodName := ⟨RX8, "asleep", "(IIIII)I"⟩
abbrev cX8_note : ByteArray := prog_10_method_70_code
def yX8_note : MethodName := ⟨RX8, "note", "(II)I"⟩
abbrev cX8_burn : ByteArray := prog_10_method_71_code
def yX8_burn : MethodName := ⟨RX8, "burn", "()I"⟩
abbrev cX8_liarsIf : ByteArray := prog_10_method_72_code
def yX8_liarsIf : MethodName := ⟨RX8, "liarsIf", "(I)I"⟩
abbrev cX8_who : ByteArray := prog_10_method_73_code
def yX8_who : MethodName := ⟨RX8, "who", "(I)I"⟩
abbrev cX8_drawn : ByteArray := prog_10_method_74_code
def yX8_drawn : MethodName := ⟨RX8, "drawn", "(III)I"⟩
abbrev cX8_part : ByteArray := prog_10_method_75_code
def yX8_part : MethodName := ⟨RX8, "part", "(I)J"⟩
abbrev cX8_image : ByteArray := prog_10_method_76_code
def yX8_image : MethodName := ⟨RX8, "image", "(I)I"⟩
abbrev cX8_from : ByteArray := prog_10_method_77_code
def yX8_from : MethodName := ⟨RX8, "from", "(I)I"⟩
abbrev cX8_status : ByteArray := prog_10_method_78_code
def yX8_status : MethodName := ⟨RX8, "status", "(I)I"⟩
abbrev cX8_countOf : ByteArray := prog_10_method_79_code
def yX8_countOf : MethodName := ⟨RX8, "countOf", "(I)I"⟩
abbrev cX8_count : ByteArray := prog_10_method_80_code
def yX8_count : MethodName := ⟨RX8, "count", "(I)I"⟩
abbrev cX8_mix : ByteArray := prog_10_method_81_code
def yX8_mix : MethodName := ⟨RX8, "mix", "(J)V"⟩
abbrev cX8_digest : ByteArray := prog_10_method_82_code
def yX8_digest : MethodName := ⟨RX8, "digest", "()J"⟩
def RJ6 : String := "java/lang/Integer"
abbrev cJ6_bitCount_0f7a4 : ByteArray := prog_11_method_49_code
def yJ6_bitCount_0f7a4 : MethodName := ⟨RJ6, "bitCount", "(I)I"⟩
def RJ9 : String := "java/lang/Math"
abbrev cJ9_max_7cf53 : ByteArray := prog_12_method_65_code
def yJ9_max_7cf53 : MethodName := ⟨RJ9, "max", "(II)I"⟩
abbrev cJ9_min_7cf53 : ByteArray := prog_12_method_69_code
def yJ9_min_7cf53 : MethodName := ⟨RJ9, "min", "(II)I"⟩
def RJ0 : String := "java/lang/String"
abbrev cJ0_length_8abf5 : ByteArray := prog_13_method_54_code
def yJ0_length_8abf5 : MethodName := ⟨RJ0, "length", "()I"⟩
abbrev cJ0_charAt_5068e : ByteArray := prog_13_method_56_code
def yJ0_charAt_5068e : MethodName := ⟨RJ0, "charAt", "(I)C"⟩
abbrev cJ0_coder_7d493 : ByteArray := prog_13_method_152_code
def yJ0_coder_7d493 : MethodName := ⟨RJ0, "coder", "()B"⟩
abbrev cJ0_isLatin1_aae02 : ByteArray := prog_13_method_154_code
def yJ0_isLatin1_aae02 : MethodName := ⟨RJ0, "isLatin1", "()Z"⟩
abbrev cJ0_checkIndex_df160 : ByteArray := prog_13_method_155_code
def yJ0_checkIndex_df160 : MethodName := ⟨RJ0, "checkIndex", "(II)V"⟩
def RJ1 : String := "java/lang/StringLatin1"
abbrev cJ1_charAt_3b067 : ByteArray := prog_14_method_2_code
def yJ1_charAt_3b067 : MethodName := ⟨RJ1, "charAt", "([BI)C"⟩
def RJ2 : String := "java/lang/StringUTF16"
abbrev cJ2_getChar_3b067 : ByteArray := prog_15_method_5_code
def yJ2_getChar_3b067 : MethodName := ⟨RJ2, "getChar", "([BI)C"⟩
abbrev cJ2_length_9d52b : ByteArray := prog_15_method_6_code
def yJ2_length_9d52b : MethodName := ⟨RJ2, "length", "([B)I"⟩
abbrev cJ2_charAt_3b067 : ByteArray := prog_15_method_83_code
def yJ2_charAt_3b067 : MethodName := ⟨RJ2, "charAt", "([BI)C"⟩
abbrev cJ2_checkIndex_2214a : ByteArray := prog_15_method_91_code
def yJ2_checkIndex_2214a : MethodName := ⟨RJ2, "checkIndex", "(I[B)V"⟩
def RJ10 : String := "java/lang/System"
def RJ7 : String := "java/util/Arrays"
abbrev cJ7_fill_53178 : ByteArray := prog_17_method_103_code
def yJ7_fill_53178 : MethodName := ⟨RJ7, "fill", "([II)V"⟩
def RJ3 : String := "jdk/internal/util/Preconditions"
abbrev cJ3_checkIndex_8e157 : ByteArray := prog_18_method_11_code
def yJ3_checkIndex_8e157 : MethodName := ⟨RJ3, "checkIndex", "(IILjava/util/function/BiFunction;)I"⟩
def RL : String := "LastAwakeLaw"
abbrev cL_law : ByteArray := code
def yL_law : MethodName := ⟨RL, "law", "([I)Z"⟩
abbrev vwCl : List vw_C := [(RX0, TX0, 5), (RX1, TX1, 9), (RX2, TX2, 3), (RX3, TX3, 3), (RX4, TX4, 7), (RX5, TX5, 1), (RX6, TX6, 4), (RX7, TX7, 9), (RX8, TX8, 26)]
end
section
/-! THE SMALL MACHINE: values are integers, the heap is a list of shapes (with the references in them) and one function for all numbers. Every method of the claim becomes a function over it. -/
abbrev AV : Type := Int ⊕ Int ⊕ Nat ⊕ Nat ⊕ Unit
abbrev vI (z : Int) : AV := Sum.inl z
abbrev vL (z : Int) : AV := Sum.inr (Sum.inl z)
abbrev vR (k : Nat) : AV := Sum.inr (Sum.inr (Sum.inl k))
abbrev vO (j : Nat) : AV := Sum.inr (Sum.inr (Sum.inr (Sum.inl j)))
abbrev vN : AV := Sum.inr (Sum.inr (Sum.inr (Sum.inr ())))
/-- kind (0..8 an object of that class, 9 int[], 10 byte[], 11 boolean[], 12 Sleeper[], 13 State[], 14 int[][]), how many places, the references in them -/
abbrev Sh : Type := Nat × Nat × (Nat → Option Nat)
abbrev Hp : Type := List Sh × (Nat → Int → Int)
abbrev St : Type := List AV × List (Option AV) × Hp
def n32 (z : Int) : Int := (z + 2147483648) % 4294967296 - 2147483648
def n64 (z : Int) : Int := (z + 9223372036854775808) % 18446744073709551616 - 9223372036854775808
theorem n32_id {z : Int} (h0 : -2147483648 ≤ z) (h1 : z < 2147483648) : n32 z = z := by unfold n32; omega
theorem n64_id {z : Int} (h0 : -9223372036854775808 ≤ z) (h1 : z < 9223372036854775808) : n64 z = z := by unfold n64; omega
theorem n32_lo (z : Int) : -2147483648 ≤ n32 z := by unfold n32; omega
theorem n32_hi (z : Int) : n32 z < 2147483648 := by unfold n32; omega
theorem n64_lo (z : Int) : -9223372036854775808 ≤ n64 z := by unfold n64; omega
theorem n64_hi (z : Int) : n64 z < 9223372036854775808 := by unfold n64; omega
theorem n32_n32 (z : Int) : n32 (n32 z) = n32 z := n32_id (n32_lo z) (n32_hi z)
def um (M : Nat → Int → Int) (a : Nat) (i v : Int) : Nat → Int → Int := fun a' i' => if a' = a ∧ i' = i then v else M a' i'
def uf (f : Nat → Option Nat) (k : Nat) (v : Option Nat) : Nat → Option Nat := fun j => if j = k then v else f j
def zm (M : Nat → Int → Int) (lo : Nat) : Nat → Int → Int := fun a i => if lo ≤ a then 0 else M a i
def cpm (M : Nat → Int → Int) (a d : Nat) (sp dp n : Int) : Nat → Int → Int := fun a' k => if a' = d ∧ dp ≤ k ∧ k < dp + n then M a (sp + (k - dp)) else M a' k
def rfv (r : Option Nat) : AV := match r with
  | some k => vR k
  | none => vN
/-- the type of a field: 0 a number, 1 a long, 2 a reference, 3 a truth value -/
def ftc (d : String) : Nat := if d = "I" then 0 else if d = "J" then 1 else if d = "Z" then 3 else 2
def clT (c : Nat) : u_T := match c with
  | 0 => TX0
  | 1 => TX1
  | 2 => TX2
  | 3 => TX3
  | 4 => TX4
  | 5 => TX5
  | 6 => TX6
  | 7 => TX7
  | _ => TX8
def clN (c : Nat) : Nat := match c with
  | 0 => 5
  | 1 => 9
  | 2 => 3
  | 3 => 3
  | 4 => 7
  | 5 => 1
  | 6 => 4
  | 7 => 9
  | _ => 26
def clS (c : Nat) : String := match c with
  | 0 => RX0
  | 1 => RX1
  | 2 => RX2
  | 3 => RX3
  | 4 => RX4
  | 5 => RX5
  | 6 => RX6
  | 7 => RX7
  | 8 => RX8
  | 9 => RL
  | 10 => RJ6
  | 11 => RJ9
  | 12 => RJ7
  | _ => RJ0
/-- field types, as numbers (held against the descriptors below) -/
def fT (c k : Nat) : Nat := match c with
  | 0 => (match k with | 0 => 2 | 4 => 2 | _ => 0)
  | 1 => (match k with | 6 => 2 | 7 => 2 | _ => 0)
  | 2 => (match k with | 2 => 3 | _ => 0)
  | 3 => (match k with | 0 => 0 | _ => 2)
  | 4 => (match k with | 1 => 2 | 2 => 2 | _ => 0)
  | 5 => 2
  | 6 => 2
  | 7 => (match k with | 7 => 1 | 8 => 1 | _ => 2)
  | _ => (match k with | 0 => 2 | 1 => 2 | 2 => 2 | 3 => 0 | 4 => 2 | 5 => 1 | 6 => 1 | 7 => 0 | 8 => 0 | 9 => 3 | 10 => 3 | 11 => 0 | 12 => 0 | 13 => 2 | 14 => 2 | 15 => 2 | 16 => 2 | 17 => 0 | 18 => 0 | 19 => 0 | 20 => 0 | 21 => 0 | 22 => 2 | 23 => 2 | 24 => 2 | _ => 1)
theorem fT_ok : ∀ c, c < 9 → ∀ k, k < clN c → fT c k = ftc (clT c k).2.2.1 := by decide +kernel
/-- what is only read: 0 the script, 1 MOST_OF_TRAIT, 2 NUMBERS_OF, 11 to 18 the letters of the eight words -/
def roL (S : List Int) (j : Nat) : List Int := match j with
  | 0 => S
  | 1 => [5, 120, 9, 20, 60, 120]
  | 2 => [2, 1, 1, 2, 1, 0, 5, 2]
  | 11 => [114, 111, 111, 109]
  | 12 => [115, 119, 105, 116, 99, 104]
  | 13 => [98, 101, 100]
  | 14 => [116, 104, 105, 110, 103]
  | 15 => [109, 111, 111, 110]
  | 16 => [99, 111, 114, 100]
  | 17 => [115, 108, 101, 101, 112, 101, 114]
  | 18 => [117, 112]
  | _ => []
-- one instruction each
def x_push (v : AV) (σ : St) : Option St := some (v :: σ.1, σ.2)
def x_ild (k : Nat) (σ : St) : Option St := match σ.2.1[k]? with
  | some (some (.inl z)) => some (.inl z :: σ.1, σ.2)
  | _ => none
def x_lld (k : Nat) (σ : St) : Option St := match σ.2.1[k]? with
  | some (some (.inr (.inl z))) => some (.inr (.inl z) :: σ.1, σ.2)
  | _ => none
def x_ald (k : Nat) (σ : St) : Option St := match σ.2.1[k]? with
  | some (some (.inr (.inr r))) => some (.inr (.inr r) :: σ.1, σ.2)
  | _ => none
def clr (L : List (Option AV)) (k : Nat) : List (Option AV) := match k with
  | 0 => L
  | j + 1 => match L[j]? with
    | some (some (.inr (.inl _))) => L.set j none
    | _ => L
def st1 (L : List (Option AV)) (k : Nat) (v : AV) : List (Option AV) := (clr L k).set k (some v)
def st2 (L : List (Option AV)) (k : Nat) (v : AV) : List (Option AV) := ((clr L k).set k (some v)).set (k + 1) none
def x_ist (k : Nat) (σ : St) : Option St := match σ.1 with
  | .inl z :: st => if k < σ.2.1.length then some (st, st1 σ.2.1 k (.inl z), σ.2.2) else none
  | _ => none
def x_lst (k : Nat) (σ : St) : Option St := match σ.1 with
  | .inr (.inl z) :: st => if k + 1 < σ.2.1.length then some (st, st2 σ.2.1 k (.inr (.inl z)), σ.2.2) else none
  | _ => none
def x_ast (k : Nat) (σ : St) : Option St := match σ.1 with
  | .inr (.inr z) :: st => if k < σ.2.1.length then some (st, st1 σ.2.1 k (.inr (.inr z)), σ.2.2) else none
  | _ => none
def x_inc (k : Nat) (n : Int) (σ : St) : Option St := match σ.2.1[k]? with
  | some (some (.inl z)) => some (σ.1, st1 σ.2.1 k (.inl (z + n)), σ.2.2)
  | _ => none
def x_ii (f : Int → Int → Int) (σ : St) : Option St := match σ.1 with
  | .inl y :: .inl x :: st => some (.inl (f x y) :: st, σ.2)
  | _ => none
def x_id (f : Int → Int → Int) (σ : St) : Option St := match σ.1 with
  | .inl y :: .inl x :: st => if n32 y = 0 then none else some (.inl (f (n32 x) (n32 y)) :: st, σ.2)
  | _ => none
def x_ll (f : Int → Int → Int) (σ : St) : Option St := match σ.1 with
  | .inr (.inl y) :: .inr (.inl x) :: st => some (.inr (.inl (f x y)) :: st, σ.2)
  | _ => none
def x_ld (f : Int → Int → Int) (σ : St) : Option St := match σ.1 with
  | .inr (.inl y) :: .inr (.inl x) :: st => if n64 y = 0 then none else some (.inr (.inl (f (n64 x) (n64 y))) :: st, σ.2)
  | _ => none
def x_lcmp (σ : St) : Option St := match σ.1 with
  | .inr (.inl y) :: .inr (.inl x) :: st => some (.inl (if n64 y < n64 x then 1 else if n64 x = n64 y then 0 else -1) :: st, σ.2)
  | _ => none
def x_i (f : Int → Int) (σ : St) : Option St := match σ.1 with
  | .inl x :: st => some (.inl (f x) :: st, σ.2)
  | _ => none
def x_i2l (σ : St) : Option St := match σ.1 with
  | .inl x :: st => some (.inr (.inl (n32 x)) :: st, σ.2)
  | _ => none
def x_l2i (σ : St) : Option St := match σ.1 with
  | .inr (.inl x) :: st => some (.inl x :: st, σ.2)
  | _ => none
def o_shl (x y : Int) : Int := (Int32.ofInt x <<< (Int32.ofInt y &&& 31)).toInt
def o_shr (x y : Int) : Int := (Int32.ofInt x >>> (Int32.ofInt y &&& 31)).toInt
def o_ushr (x y : Int) : Int := ((Int32.ofInt x).toUInt32 >>> ((Int32.ofInt y).toUInt32 &&& Int32.toUInt32 31)).toInt32.toInt
def o_and (x y : Int) : Int := (Int32.ofInt x &&& Int32.ofInt y).toInt
def o_or (x y : Int) : Int := (Int32.ofInt x ||| Int32.ofInt y).toInt
def o_i2b (x : Int) : Int := (Int32.ofInt x).toInt8.toInt32.toInt
def o_i2c (x : Int) : Int := ((Int32.ofInt x).toUInt32 % 65536).toInt32.toInt
def o_nz (x : Int) : Int := (vp_nar .boolean (Int32.ofInt x)).toInt
def cat1 (v : AV) : Bool := match v with
  | .inr (.inl _) => false
  | _ => true
def x_dup (σ : St) : Option St := match σ.1 with
  | v :: st => if cat1 v then some (v :: v :: st, σ.2) else none
  | _ => none
def x_dup2 (σ : St) : Option St := match σ.1 with
  | v :: w :: st => if cat1 v && cat1 w then some (v :: w :: v :: w :: st, σ.2) else none
  | _ => none
def x_pop (σ : St) : Option St := match σ.1 with
  | v :: st => if cat1 v then some (st, σ.2) else none
  | _ => none
def x_get (c k : Nat) (σ : St) : Option St := match σ.1 with
  | .inr (.inr (.inl a)) :: st => match σ.2.2.1[a]? with
    | some (c', n, r) => if c' = c ∧ n = clN c then
        (if fT c k = 1 then some (.inr (.inl (σ.2.2.2 a k)) :: st, σ.2) else if fT c k = 2 then some (rfv (r k) :: st, σ.2) else some (.inl (σ.2.2.2 a k) :: st, σ.2))
      else none
    | none => none
  | _ => none
def x_puti (c k : Nat) (σ : St) : Option St := match σ.1 with
  | .inl z :: .inr (.inr (.inl a)) :: st => match σ.2.2.1[a]? with
    | some (c', n, _) => if c' = c ∧ n = clN c ∧ (fT c k = 3 → z = 0 ∨ z = 1) then some (st, σ.2.1, σ.2.2.1, um σ.2.2.2 a k z) else none
    | none => none
  | _ => none
def x_putl (c k : Nat) (σ : St) : Option St := match σ.1 with
  | .inr (.inl z) :: .inr (.inr (.inl a)) :: st => match σ.2.2.1[a]? with
    | some (c', n, _) => if c' = c ∧ n = clN c then some (st, σ.2.1, σ.2.2.1, um σ.2.2.2 a k z) else none
    | none => none
  | _ => none
def x_putr (c k : Nat) (σ : St) : Option St := match σ.1 with
  | .inr (.inr (.inl v)) :: .inr (.inr (.inl a)) :: st => match σ.2.2.1[a]? with
    | some (c', n, r) => if c' = c ∧ n = clN c then some (st, σ.2.1, σ.2.2.1.set a (c, n, uf r k (some v)), σ.2.2.2) else none
    | none => none
  | _ => none
def x_iald (S : List Int) (σ : St) : Option St := match σ.1 with
  | .inl i :: .inr (.inr (.inl a)) :: st => match σ.2.2.1[a]? with
    | some (k', n, _) => if k' = 9 ∧ 0 ≤ n32 i ∧ n32 i < (n : Int) then some (.inl (σ.2.2.2 a (n32 i)) :: st, σ.2) else none
    | none => none
  | .inl i :: .inr (.inr (.inr (.inl j))) :: st => if j < 3 ∧ 0 ≤ n32 i ∧ n32 i < ((roL S j).length : Int) then some (.inl ((roL S j).getD (n32 i).toNat 0) :: st, σ.2) else none
  | _ => none
def x_bald (S : List Int) (σ : St) : Option St := match σ.1 with
  | .inl i :: .inr (.inr (.inl a)) :: st => match σ.2.2.1[a]? with
    | some (k', n, _) => if (k' = 10 ∨ k' = 11) ∧ 0 ≤ n32 i ∧ n32 i < (n : Int) then some (.inl (σ.2.2.2 a (n32 i)) :: st, σ.2) else none
    | none => none
  | .inl i :: .inr (.inr (.inr (.inl j))) :: st => if (11 ≤ j ∧ j < 19) ∧ 0 ≤ n32 i ∧ n32 i < ((roL S j).length : Int) then some (.inl ((roL S j).getD (n32 i).toNat 0) :: st, σ.2) else none
  | _ => none
def x_iast (σ : St) : Option St := match σ.1 with
  | .inl z :: .inl i :: .inr (.inr (.inl a)) :: st => match σ.2.2.1[a]? with
    | some (k', n, _) => if k' = 9 ∧ 0 ≤ n32 i ∧ n32 i < (n : Int) then some (st, σ.2.1, σ.2.2.1, um σ.2.2.2 a (n32 i) z) else none
    | none => none
  | _ => none
def x_bast (σ : St) : Option St := match σ.1 with
  | .inl z :: .inl i :: .inr (.inr (.inl a)) :: st => match σ.2.2.1[a]? with
    | some (k', n, _) => if (k' = 10 ∨ k' = 11) ∧ 0 ≤ n32 i ∧ n32 i < (n : Int) then some (st, σ.2.1, σ.2.2.1, um σ.2.2.2 a (n32 i) (if k' = 10 then o_i2b z else o_nz z)) else none
    | none => none
  | _ => none
def x_aald (σ : St) : Option St := match σ.1 with
  | .inl i :: .inr (.inr (.inl a)) :: st => match σ.2.2.1[a]? with
    | some (k', n, r) => if (12 ≤ k' ∧ k' < 15) ∧ 0 ≤ n32 i ∧ n32 i < (n : Int) then some (rfv (r (n32 i).toNat) :: st, σ.2) else none
    | none => none
  | _ => none
def x_aast (σ : St) : Option St := match σ.1 with
  | .inr (.inr (.inl v)) :: .inl i :: .inr (.inr (.inl a)) :: st => match σ.2.2.1[a]? with
    | some (k', n, r) => match σ.2.2.1[v]? with
      | some (c', n', _) => if ((k' = 12 ∧ c' = 5) ∨ (k' = 13 ∧ c' = 6)) ∧ 0 ≤ n32 i ∧ n32 i < (n : Int) ∧ n' = clN c' then some (st, σ.2.1, σ.2.2.1.set a (k', n, uf r (n32 i).toNat (some v)), σ.2.2.2) else none
      | none => none
    | none => none
  | _ => none
def x_alen (S : List Int) (σ : St) : Option St := match σ.1 with
  | .inr (.inr (.inl a)) :: st => match σ.2.2.1[a]? with
    | some (kd, n, _) => if 9 ≤ kd ∧ kd < 15 then some (.inl (n : Int) :: st, σ.2) else none
    | none => none
  | .inr (.inr (.inr (.inl j))) :: st => if j < 3 ∨ (11 ≤ j ∧ j < 19) then some (.inl ((roL S j).length : Int) :: st, σ.2) else none
  | _ => none
/-- a field of a word: 0 its letters, 1 how they are coded -/
def x_gstr (k : Nat) (σ : St) : Option St := match σ.1 with
  | .inr (.inr (.inr (.inl j))) :: st => if 3 ≤ j ∧ j < 11 then some ((if k = 0 then vO (j + 8) else vI 0) :: st, σ.2) else none
  | _ => none
def nor : Nat → Option Nat := fun _ => none
def x_new (c : Nat) (σ : St) : Option St := some (.inr (.inr (.inl σ.2.2.1.length)) :: σ.1, σ.2.1, σ.2.2.1 ++ [(c, clN c, nor)], zm σ.2.2.2 σ.2.2.1.length)
def x_newa (kd : Nat) (σ : St) : Option St := match σ.1 with
  | .inl z :: st => if (9 ≤ kd ∧ kd < 14) ∧ 0 ≤ n32 z ∧ n32 z ≤ 1000 then some (.inr (.inr (.inl σ.2.2.1.length)) :: st, σ.2.1, σ.2.2.1 ++ [(kd, (n32 z).toNat, nor)], zm σ.2.2.2 σ.2.2.1.length) else none
  | _ => none
def x_mna (σ : St) : Option St := match σ.1 with
  | .inl y :: .inl z :: st => if 0 ≤ n32 z ∧ n32 z ≤ 1000 ∧ 0 ≤ n32 y ∧ n32 y ≤ 1000 then
      some (.inr (.inr (.inl σ.2.2.1.length)) :: st, σ.2.1, σ.2.2.1 ++ (14, (n32 z).toNat, fun i => if i < (n32 z).toNat then some (σ.2.2.1.length + 1 + i) else none) :: List.replicate (n32 z).toNat (9, (n32 y).toNat, nor), zm σ.2.2.2 σ.2.2.1.length) else none
  | _ => none
def x_acp (σ : St) : Option St := match σ.1 with
  | .inl n :: .inl dp :: .inr (.inr (.inl d)) :: .inl sp :: [.inr (.inr (.inl a))] => match σ.2.2.1[a]?, σ.2.2.1[d]? with
    | some (k0, n0, _), some (k1, n1, _) => if k0 = 9 ∧ k1 = 9 ∧ 0 ≤ n32 sp ∧ 0 ≤ n32 dp ∧ 0 ≤ n32 n ∧ n32 sp + n32 n ≤ (n0 : Int) ∧ n32 dp + n32 n ≤ (n1 : Int) then some ([], σ.2.1, σ.2.2.1, cpm σ.2.2.2 a d (n32 sp) (n32 dp) (n32 n)) else none
    | _, _ => none
  | _ => none
def x_oin (σ : St) : Option St := match σ.1 with
  | [.inr (.inr (.inl _))] => some ([], σ.2)
  | _ => none
/-- an instruction by its number (the JVM's own, or 200 on), with two numbers -/
def ex (S : List Int) (i : Nat × Int × Int) : St → Option St := match i.1 with
  | 2 => x_push (vI i.2.1)
  | 16 => x_push (vI i.2.1)
  | 17 => x_push (vI i.2.1)
  | 18 => x_push (vI i.2.1)
  | 19 => x_push (vI i.2.1)
  | 9 => x_push (vL i.2.1)
  | 20 => x_push (vL i.2.1)
  | 21 => x_ild i.2.1.toNat
  | 22 => x_lld i.2.1.toNat
  | 25 => x_ald i.2.1.toNat
  | 54 => x_ist i.2.1.toNat
  | 55 => x_lst i.2.1.toNat
  | 58 => x_ast i.2.1.toNat
  | 132 => x_inc i.2.1.toNat i.2.2
  | 96 => x_ii (fun x y => x + y)
  | 100 => x_ii (fun x y => x - y)
  | 104 => x_ii (fun x y => x * y)
  | 120 => x_ii o_shl
  | 122 => x_ii o_shr
  | 124 => x_ii o_ushr
  | 126 => x_ii o_and
  | 128 => x_ii o_or
  | 108 => x_id Int.tdiv
  | 112 => x_id Int.tmod
  | 116 => x_i (fun x => -x)
  | 145 => x_i o_i2b
  | 97 => x_ll (fun x y => x + y)
  | 101 => x_ll (fun x y => x - y)
  | 105 => x_ll (fun x y => x * y)
  | 109 => x_ld Int.tdiv
  | 113 => x_ld Int.tmod
  | 148 => x_lcmp
  | 133 => x_i2l
  | 136 => x_l2i
  | 89 => x_dup
  | 92 => x_dup2
  | 87 => x_pop
  | 180 => x_get (i.2.1.toNat / 100) (i.2.1.toNat % 100)
  | 181 => if fT (i.2.1.toNat / 100) (i.2.1.toNat % 100) = 1 then x_putl (i.2.1.toNat / 100) (i.2.1.toNat % 100) else if fT (i.2.1.toNat / 100) (i.2.1.toNat % 100) = 2 then x_putr (i.2.1.toNat / 100) (i.2.1.toNat % 100) else x_puti (i.2.1.toNat / 100) (i.2.1.toNat % 100)
  | 46 => x_iald S
  | 51 => x_bald S
  | 50 => x_aald
  | 79 => x_iast
  | 84 => x_bast
  | 83 => x_aast
  | 190 => x_alen S
  | 146 => x_i o_i2c
  | 205 => x_gstr i.2.1.toNat
  | 178 => x_push (vO i.2.1.toNat)
  | 200 => x_push (vO i.2.1.toNat)
  | 187 => x_new i.2.1.toNat
  | 188 => x_newa i.2.1.toNat
  | 189 => x_newa i.2.1.toNat
  | 197 => x_mna
  | 201 => x_acp
  | 202 => x_oin
  | _ => fun _ => none
abbrev In : Type := Nat × Int × Int
def exL (S : List Int) (is : List In) (σ : St) : Option St := match is with
  | [] => some σ
  | i :: r => (ex S i σ).bind (exL S r)
-- where it goes on: the place, and the state there
abbrev Fn : Type := St → Option (Nat × St)
def j_to (q : Nat) : Fn := fun σ => some (q, σ)
def c1 (op : Nat) (z : Int) : Bool := match op with
  | 0 => decide (z = 0)
  | 1 => decide (z ≠ 0)
  | 2 => decide (z < 0)
  | 3 => decide (0 ≤ z)
  | 4 => decide (0 < z)
  | _ => decide (z ≤ 0)
def c2 (op : Nat) (x y : Int) : Bool := match op with
  | 0 => decide (x = y)
  | 1 => decide (x ≠ y)
  | 2 => decide (x < y)
  | 3 => decide (y ≤ x)
  | 4 => decide (y < x)
  | _ => decide (x ≤ y)
def j_if (op q n : Nat) : Fn := fun σ => match σ.1 with
  | .inl z :: st => some (if c1 op (n32 z) then q else n, st, σ.2)
  | _ => none
def j_cmp (op q n : Nat) : Fn := fun σ => match σ.1 with
  | .inl y :: .inl x :: st => some (if c2 op (n32 x) (n32 y) then q else n, st, σ.2)
  | _ => none
def j_nn (q n : Nat) : Fn := fun σ => match σ.1 with
  | .inr (.inr (.inl _)) :: st => some (q, st, σ.2)
  | .inr (.inr (.inr (.inr _))) :: st => some (n, st, σ.2)
  | _ => none
def j_sw (lo : Int) (qs : List Nat) (d : Nat) : Fn := fun σ => match σ.1 with
  | .inl z :: st => some (if lo ≤ n32 z then qs.getD (n32 z - lo).toNat d else d, st, σ.2)
  | _ => none
/-- how a stretch ends: 0 it goes on at a; 1 goto a; 2 if<z> a else b; 3 if_icmp<z> a else b; 4 ifnonnull a else b; 5 a switch from z on; 6 a return; 7 a call of method a, then on at b, of z arguments -/
abbrev Tn : Type := Nat × Nat × Nat × Int × List Nat
abbrev Bk : Type := Nat × List In × Tn
def jmp (t : Tn) : Fn := match t.1 with
  | 0 => j_to t.2.1
  | 1 => j_to t.2.1
  | 2 => j_if t.2.2.2.1.toNat t.2.1 t.2.2.1
  | 3 => j_cmp t.2.2.2.1.toNat t.2.1 t.2.2.1
  | 4 => j_nn t.2.1 t.2.2.1
  | 5 => j_sw t.2.2.2.1 t.2.2.2.2 t.2.1
  | 8 => j_sw t.2.2.2.1 t.2.2.2.2 t.2.1
  | _ => fun _ => none
/-- the object that is called is of that class (13: a word) -/
def isC (k : Nat) (vs : List AV) (T : List Sh) : Bool := match vs with
  | .inr (.inr (.inl a)) :: _ => (match T[a]? with
    | some (k', n, _) => decide (k' = k ∧ n = clN k ∧ k < 9)
    | none => false)
  | .inr (.inr (.inr (.inl j))) :: _ => decide (k = 13 ∧ 3 ≤ j ∧ j < 11)
  | _ => false
def isR (vs : List AV) : Bool := match vs with
  | .inr (.inr (.inl _)) :: _ => true
  | _ => false
/-- who is called: 0 nobody, 1 an object of that class, 2 a new object -/
def rcv (k r : Nat) (vs : List AV) (T : List Sh) : Bool := match k with
  | 0 => true
  | 1 => isC r vs T
  | _ => isR vs
def lvs (vs : List AV) : List (Option AV) := vs.flatMap (fun v => if cat1 v then [some v] else [some v, none])
def ini (nL : Nat) (vs : List AV) : Option (List (Option AV)) := if (lvs vs).length ≤ nL then some (lvs vs ++ List.replicate (nL - (lvs vs).length) none) else none
/-- what is returned: 0 nothing, 1 a number, 2 a long, 3 a truth value, 4 a byte, 5 a sign -/
def okr (k : Nat) (z : Int) : Bool := match k with
  | 1 => true
  | 3 => decide (z = 0 ∨ z = 1)
  | 4 => decide (z = 0)
  | 5 => decide (0 ≤ z ∧ z < 65536)
  | _ => false
def rtv (k : Nat) (σ : St) : Option (Option AV × Hp) := match σ.1 with
  | [] => if k = 0 then some (none, σ.2.2) else none
  | [.inl z] => if okr k z then some (some (.inl z), σ.2.2) else none
  | [.inr (.inl z)] => if k = 2 then some (some (.inr (.inl z)), σ.2.2) else none
  | _ => none
end
section
/-! THE SMALL MACHINE'S STATES AS THE JVM HAS THEM -/
theorem i32_toInt (z : Int) : (Int32.ofInt z).toInt = n32 z := by
  rw [Int32.toInt_ofInt]
  have h : (Int32.size : Nat) = 4294967296 := rfl
  rw [h]
  unfold Int.bmod n32
  simp only []
  split <;> omega
theorem i64_toInt (z : Int) : (Int64.ofInt z).toInt = n64 z := by
  rw [Int64.toInt_ofInt]
  have h : (Int64.size : Nat) = 18446744073709551616 := rfl
  rw [h]
  unfold Int.bmod n64
  simp only []
  split <;> omega
theorem i32_n32 (z : Int) : Int32.ofInt (n32 z) = Int32.ofInt z := by rw [← i32_toInt, Int32.ofInt_toInt]
theorem i64_n64 (z : Int) : Int64.ofInt (n64 z) = Int64.ofInt z := by rw [← i64_toInt, Int64.ofInt_toInt]
theorem i32_clamp (z : Int) : (Int32.ofInt z).toNatClampNeg = (n32 z).toNat := by rw [← i32_toInt]; rfl
theorem i32_in {z : Int} {n : Nat} (h0 : 0 ≤ n32 z) (h1 : n32 z < (n : Int)) : vp_in (Int32.ofInt z) n := by
  rw [vp_in_iff, i32_toInt]; exact ⟨h0, h1⟩
theorem i32_lt (x y : Int) : Int32.ofInt x < Int32.ofInt y ↔ n32 x < n32 y := by rw [Int32.lt_iff_toInt_lt, i32_toInt, i32_toInt]
theorem i32_le (x y : Int) : Int32.ofInt x ≤ Int32.ofInt y ↔ n32 x ≤ n32 y := by rw [Int32.le_iff_toInt_le, i32_toInt, i32_toInt]
theorem i32_eq (x y : Int) : Int32.ofInt x = Int32.ofInt y ↔ n32 x = n32 y := by rw [← Int32.toInt_inj, i32_toInt, i32_toInt]
theorem i64_lt (x y : Int) : Int64.ofInt x < Int64.ofInt y ↔ n64 x < n64 y := by rw [Int64.lt_iff_toInt_lt, i64_toInt, i64_toInt]
theorem i64_eq (x y : Int) : Int64.ofInt x = Int64.ofInt y ↔ n64 x = n64 y := by rw [← Int64.toInt_inj, i64_toInt, i64_toInt]
theorem i32_0 : (0 : Int32) = Int32.ofInt 0 := by decide
theorem n32_0 : n32 0 = 0 := by decide
theorem n64_0 : n64 0 = 0 := by decide
theorem i32_eq0 (x : Int) : Int32.ofInt x = 0 ↔ n32 x = 0 := by rw [i32_0, i32_eq, n32_0]
theorem i64_0 : (0 : Int64) = Int64.ofInt 0 := by decide
theorem i64_eq0 (x : Int) : Int64.ofInt x = 0 ↔ n64 x = 0 := by rw [i64_0, i64_eq, n64_0]
theorem i32_bm (z : Int) : z.bmod (2 ^ 32) = n32 z := by
  unfold Int.bmod n32
  simp only [Nat.reducePow]
  split <;> omega
theorem i64_bm (z : Int) : z.bmod (2 ^ 64) = n64 z := by
  unfold Int.bmod n64
  simp only [Nat.reducePow]
  split <;> omega
theorem i32_div (x y : Int) : Int32.ofInt (Int.tdiv (n32 x) (n32 y)) = Int32.ofInt x / Int32.ofInt y := by
  rw [← Int32.toInt_inj, i32_toInt, Int32.toInt_div, i32_bm, i32_toInt, i32_toInt]
theorem i64_div (x y : Int) : Int64.ofInt (Int.tdiv (n64 x) (n64 y)) = Int64.ofInt x / Int64.ofInt y := by
  rw [← Int64.toInt_inj, i64_toInt, Int64.toInt_div, i64_bm, i64_toInt, i64_toInt]
theorem i32_mod (x y : Int) : Int32.ofInt (Int.tmod (n32 x) (n32 y)) = Int32.ofInt x - Int32.ofInt x / Int32.ofInt y * Int32.ofInt y := by
  rw [Int.tmod_def, Int32.ofInt_sub, Int32.ofInt_mul, i32_div, i32_n32, i32_n32, Int32.mul_comm]
theorem i64_mod (x y : Int) : Int64.ofInt (Int.tmod (n64 x) (n64 y)) = Int64.ofInt x - Int64.ofInt x / Int64.ofInt y * Int64.ofInt y := by
  rw [Int.tmod_def, Int64.ofInt_sub, Int64.ofInt_mul, i64_div, i64_n64, i64_n64, Int64.mul_comm]
theorem i32_64 (x : Int) : (Int32.ofInt x).toInt64 = Int64.ofInt (n32 x) := by
  rw [← Int64.toInt_inj, Int32.toInt_toInt64, i32_toInt, i64_toInt]
  have := n32_lo x
  have := n32_hi x
  rw [n64_id (by omega) (by omega)]
theorem i64_cmp (x y : Int) : lg_cmp (Int64.ofInt x) (Int64.ofInt y) = Int32.ofInt (if n64 y < n64 x then 1 else if n64 x = n64 y then 0 else -1) := by
  unfold lg_cmp
  simp only [gt_iff_lt, i64_lt, i64_eq]
  split
  · rfl
  · split <;> rfl
-- base, class numbers and slots, array classes, what is only read
abbrev Par : Type := Nat × va_G × (Nat → ClassId) × (Nat → Option Nat)
def cV (P : Par) (v : AV) : Value := match v with
  | .inl z => .int (Int32.ofInt z)
  | .inr (.inl z) => .long (Int64.ofInt z)
  | .inr (.inr (.inl k)) => .ref (P.1 + k)
  | .inr (.inr (.inr (.inl j))) => va_rf (P.2.2.2 j)
  | .inr (.inr (.inr (.inr _))) => .null
def fV (P : Par) (c : Nat) (m : Int → Int) (r : Nat → Option Nat) (k : Nat) : Value :=
  if fT c k = 1 then .long (Int64.ofInt (m k)) else if fT c k = 2 then cV P (rfv (r k)) else .int (Int32.ofInt (m k))
def eC (P : Par) (sh : Sh) (m : Int → Int) : va_E :=
  if sh.1 < 9 then .inr (sh.1, (List.range sh.2.1).map (fV P sh.1 m sh.2.2))
  else if sh.1 < 12 then .inl (P.2.2.1 sh.1, sh.2.1, .inl (fun i => Int32.ofInt (m i)))
  else .inl (P.2.2.1 sh.1, sh.2.1, .inr (.inr (.inr (.inr (fun i => (sh.2.2 i).map (fun k => P.1 + k))))))
def wsOf (P : Par) (h : Hp) : va_W := h.1.mapIdx (fun k sh => (P.1 + k, eC P sh (h.2 k)))
theorem ws_get (P : Par) (h : Hp) (k : Nat) : (wsOf P h)[k]? = (h.1[k]?).map (fun sh => (P.1 + k, eC P sh (h.2 k))) := by
  unfold wsOf
  rw [List.getElem?_mapIdx]
theorem ws_at {P : Par} {h : Hp} {k : Nat} {sh : Sh} (e : h.1[k]? = some sh) : (wsOf P h)[k]? = some (P.1 + k, eC P sh (h.2 k)) := by rw [ws_get, e]; rfl
theorem ws_len (P : Par) (h : Hp) : (wsOf P h).length = h.1.length := by unfold wsOf; rw [List.length_mapIdx]
abbrev aA (P : Par) : Nat → Prop := fun q => P.1 ≤ q
theorem ws_D (P : Par) (h : Hp) : va_D (aA P) (wsOf P h) := by
  refine ⟨fun i j x y hi hj hxy => ?_, fun k q hk => ?_⟩
  · rw [ws_get] at hi hj
    cases e1 : h.1[i]? with
    | none => rw [e1] at hi; cases hi
    | some s1 =>
      cases e2 : h.1[j]? with
      | none => rw [e2] at hj; cases hj
      | some s2 =>
        rw [e1] at hi; rw [e2] at hj
        cases hi; cases hj
        have h9 : P.1 + i = P.1 + j := hxy
        omega
  · rw [ws_get] at hk
    cases e1 : h.1[k]? with
    | none => rw [e1] at hk; cases hk
    | some s1 =>
      rw [e1] at hk
      cases hk
      exact Nat.le_add_right _ _
def hR (P : Par) (h : Hp) (H : Heap) : Prop := H.size = P.1 + h.1.length ∧ va_P P.2.1 vwCl (wsOf P h) H
def lR (P : Par) (nL : Nat) (L : List (Option AV)) (ls : Array Slot) : Prop := L.length = nL ∧ ls.size = nL ∧ lv_wf ls ∧ ∀ (k : Nat) (v : AV), L[k]? = some (some v) → ls[k]? = some (.val (cV P v))
def sz (T : List Sh) : Nat := (T.map (fun s => s.2.1)).sum
def LeT (T T' : List Sh) : Prop := T.length ≤ T'.length ∧ sz T ≤ sz T'
theorem LeT.rf (T : List Sh) : LeT T T := ⟨Nat.le_refl _, Nat.le_refl _⟩
theorem LeT.tr {a b c : List Sh} (h : LeT a b) (g : LeT b c) : LeT a c := ⟨Nat.le_trans h.1 g.1, Nat.le_trans h.2 g.2⟩
-- the words of the tables
def tG : List Cond := lw_tbl.filter goodWord
def isN : Cond → Bool
  | .methodLinkNest .. => true
  | .fieldLinkNest .. => true
  | .arrayOver _ => true
  | _ => false
def nW : List Cond := lw_tbl.filter isN
theorem tG_good : ∀ w ∈ tG, w ∈ lw_tbl ∧ goodWord w = true := fun w hw => List.mem_filter.mp hw
theorem nW_in : ∀ w ∈ nW, w ∈ lw_tbl ∧ isN w = true := fun w hw => List.mem_filter.mp hw
theorem tG_of {w : Cond} (h : w ∈ lw_tbl) (g : goodWord w = true) : w ∈ tG := List.mem_filter.mpr ⟨h, g⟩
abbrev tyL (P : Par) : List (ClassId × FieldType) := [(P.2.2.1 9, .int), (P.2.2.1 10, .byte), (P.2.2.1 11, .boolean), (P.2.2.1 12, .object RX5), (P.2.2.1 13, .object RX6), (P.2.2.1 14, .array .int)]
def sLen : List Nat := [4, 6, 3, 5, 4, 4, 7, 2]
theorem rf_or (P : Par) (z : Nat ⊕ Nat ⊕ Unit) : (∃ a, cV P (.inr (.inr z)) = .ref a) ∨ cV P (.inr (.inr z)) = .null := by
  rcases z with z | z | z
  · exact Or.inl ⟨_, rfl⟩
  · show (∃ a, va_rf (P.2.2.2 z) = .ref a) ∨ va_rf (P.2.2.2 z) = .null
    cases P.2.2.2 z with
    | none => exact Or.inr rfl
    | some a => exact Or.inl ⟨a, rfl⟩
  · exact Or.inr rfl
def sByt : List (List Int32) := [[114, 111, 111, 109], [115, 119, 105, 116, 99, 104], [98, 101, 100], [116, 104, 105, 110, 103], [109, 111, 111, 110], [99, 111, 114, 100], [115, 108, 101, 101, 112, 101, 114], [117, 112]]
/-- the constants of the program below the base: the script, two rows of numbers, the words -/
def Wc (S : List Int) (P : Par) (U : State) (H : Heap) : Prop :=
  ∃ ad : Nat → Nat, (∀ j, j < 19 → P.2.2.2 j = some (ad j)) ∧ va_Z "LastAwake" "MOST_OF_TRAIT" "[I" (.ref (ad 1)) (aA P) U H ∧ va_Z "LastAwake$Script" "NUMBERS_OF" "[I" (.ref (ad 2)) (aA P) U H ∧
  (∀ j, j < 3 → va_T .int (ad j) (roL S j).length (fun i => .int (Int32.ofInt ((roL S j).getD i 0))) (aA P) U H) ∧
  va_Z "java/lang/String" "COMPACT_STRINGS" "Z" (.int 1) (aA P) U H ∧ va_Z "jdk/internal/util/Preconditions" "SIOOBE_FORMATTER" "Ljava/util/function/BiFunction;" (va_rf (P.2.2.2 19)) (aA P) U H ∧ vk_S 8 sLen sByt (fun i => ad (3 + i)) (fun i => ad (11 + i)) (aA P) U H
theorem Wc.moved {S : List Int} {P : Par} {u U : State} {H : Heap} (hvm : u.vm.Alike U.vm) (h : Wc S P u H) : Wc S P U H := by
  obtain ⟨ad, h0, h1, h2, h3, h4, h5, h6⟩ := h
  exact ⟨ad, h0, h1.moved hvm, h2.moved hvm, fun j hj => (h3 j hj).moved hvm, h4.moved hvm, h5.moved hvm, h6.moved hvm⟩
theorem Wc.kept {S : List Int} {P : Par} {U : State} {H H1 : Heap} (h : Wc S P U H) (hq : ∀ a : Nat, a < H.size → ¬ aA P a → H1[a]? = H[a]?) : Wc S P U H1 := by
  obtain ⟨ad, h0, h1, h2, h3, h4, h5, h6⟩ := h
  exact ⟨ad, h0, h1.kept hq, h2.kept hq, fun j hj => (h3 j hj).kept hq, h4.kept hq, h5.kept hq, h6.kept hq⟩
/-- the pool's places of the eight words -/
def sIdx : List (Nat × String) := [(72, "room"), (78, "switch"), (80, "bed"), (82, "thing"), (84, "moon"), (86, "cord"), (88, "sleeper"), (90, "up")]
def Wr (P : Par) (U : State) : Prop := ∀ (i : Nat) (q : Nat × String), sIdx[i]? = some q → ∃ a, P.2.2.2 (3 + i) = some a ∧ vk_R RX4 q.1 q.2 a U
def Wn (U : State) : Prop := ∀ w ∈ nW, va_Nw w U
theorem Wn.warm {s U : State} (hW : s.WarmedH U.vm) (h : Wn s) : Wn U := by
  intro w hw
  have h1 := h w hw
  have h2 := (nW_in w hw).2
  cases w with
  | methodLinkNest a b c d => exact h1.warmM hW
  | fieldLinkNest a b c d e f => exact h1.warmF hW
  | arrayOver t => exact Cond.overAtom_setVm (args := #[]) (s := s) (vm' := U.vm) hW.alike (.arrayOver t) rfl h1
  | _ => cases h2
def Wd (S : List Int) (P : Par) (U : State) : Prop := va_K P.2.1 vwCl (tyL P) U ∧ Wn U ∧ Wr P U ∧ Wc S P U U.heap
theorem Wd.goes {S : List Int} {P : Par} {s U : State} (hW : s.WarmedH U.vm) (hq : ∀ a : Nat, a < s.heap.size → ¬ aA P a → U.heap[a]? = s.heap[a]?) (h : Wd S P s) : Wd S P U := by
  obtain ⟨h1, h2, h3, h4⟩ := h
  exact ⟨va_K.moved hW.alike h1, h2.warm hW, fun i q hi => by obtain ⟨a, e1, e2⟩ := h3 i q hi; exact ⟨a, e1, e2.warm hW⟩, (h4.moved hW.alike).kept hq⟩
theorem Wd.calling {S : List Int} {P : Par} {U : State} {g : JFrame} {mk : MethodId} {a : Array Value} (h : Wd S P U) : Wd S P (U.calling g mk a) := by
  obtain ⟨h1, h2, h3, h4⟩ := h
  refine ⟨va_K.moved (u := U) (U := U.calling g mk a) (Vm.Alike.refl U.vm) h1, fun w hw => ?_, fun i q hi => ?_, ?_⟩
  · have h5 := h2 w hw
    have h6 := (nW_in w hw).2
    cases w with
    | methodLinkNest _ _ _ _ => exact va_Nw.same rfl rfl h5
    | fieldLinkNest _ _ _ _ _ _ => exact va_Nw.same rfl rfl h5
    | arrayOver t => exact h5
    | _ => cases h6
  · obtain ⟨b, e1, e2⟩ := h3 i q hi
    exact ⟨b, e1, vk_R.same (u := U) (U := U.calling g mk a) rfl e2⟩
  · exact h4.moved (U := U.calling g mk a) (Vm.Alike.refl U.vm)
end
section
/-! WHAT THE SMALL MACHINE DOES, THE JVM DOES -/
/-- a method: own class, name, code, locals, frames and words that are left to it -/
abbrev Mt : Type := Nat × String × ByteArray × Nat × Nat × Nat
def Cx (S : List Int) (K : Mt) (P : Par) (p : Program) (R : Room) (s : State) (m : MethodId) (args : Array Value) (meth : Method) (c : Code) : Prop :=
  p.tables.exec = Jvm.exec ∧ c.code = K.2.2.1 ∧ c.maxLocals = K.2.2.2.1 ∧ s.vm.findClass (clS K.1) = some m.cls ∧ (∀ w ∈ tG, w.before args s = true) ∧ meth.name = K.2.1 ∧ K.2.2.2.2.1 ≤ R.frames ∧ K.2.2.2.2.2 ≤ R.locals ∧ Wd S P s ∧ P.1 ≤ s.heap.size ∧ meth.locks = false
def Ats (S : List Int) (K : Mt) (P : Par) (p : Program) (l : Launch) (e : Env) (R : Room) (s : State) (m : MethodId) (args : Array Value) (below : List Frame) (meth : Method) (c : Code) (Q : State → Prop) (t0 z0 pc : Nat) (σ : St) : Prop :=
  ∀ (ls : Array Slot) (H : Heap) (locs : List Loc), lR P K.2.2.2.1 σ.2.1 ls → hR P σ.2.2 H → va_S (aA P) s.heap H locs → W p l e R s m args below meth c H locs (σ.2.2.1.length - t0) (sz σ.2.2.1 - z0) Q (F0 m pc ls (σ.1.map (cV P)))
/-- from σ at pc the machine comes to σ' at q -/
def Gos (S : List Int) (K : Mt) (pc q : Nat) (σ σ' : St) : Prop := LeT σ.2.2.1 σ'.2.2.1 ∧ ∀ (P : Par) (p : Program) (l : Launch) (e : Env) (R : Room) (s : State) (m : MethodId) (args : Array Value) (below : List Frame) (meth : Method) (c : Code) (Q : State → Prop) (t0 z0 : Nat),
  Cx S K P p R s m args meth c → (s.heap.size = P.1 + t0 ∧ t0 ≤ σ.2.2.1.length) → z0 ≤ sz σ.2.2.1 → σ'.2.2.1.length - t0 ≤ R.cells → sz σ'.2.2.1 - z0 ≤ R.slots → Ats S K P p l e R s m args below meth c Q t0 z0 q σ' → Ats S K P p l e R s m args below meth c Q t0 z0 pc σ
def Seg (S : List Int) (K : Mt) (pc q : Nat) (g : St → Option St) : Prop := ∀ σ σ', g σ = some σ' → Gos S K pc q σ σ'
def Imp (S : List Int) (K : Mt) (pc : Nat) (f : Fn) : Prop := ∀ σ q σ', f σ = some (q, σ') → Gos S K pc q σ σ'
theorem Gos.rf (S : List Int) (K : Mt) (pc : Nat) (σ : St) : Gos S K pc pc σ σ := ⟨LeT.rf _, fun _ _ _ _ _ _ _ _ _ _ _ _ _ _ _ _ _ _ _ h => h⟩
theorem Gos.tr {S : List Int} {K : Mt} {a b d : Nat} {σ τ υ : St} (h : Gos S K a b σ τ) (g : Gos S K b d τ υ) : Gos S K a d σ υ :=
  ⟨h.1.tr g.1, fun P p l e R s m args below meth c Q t0 z0 C h1 h2 h3 h4 k => h.2 P p l e R s m args below meth c Q t0 z0 C h1 h2 (Nat.le_trans (Nat.sub_le_sub_right g.1.1 _) h3) (Nat.le_trans (Nat.sub_le_sub_right g.1.2 _) h4) (g.2 P p l e R s m args below meth c Q t0 z0 C ⟨h1.1, Nat.le_trans h1.2 h.1.1⟩ (Nat.le_trans h2 h.1.2) h3 h4 k)⟩
theorem imp_to (S : List Int) (K : Mt) (q : Nat) : Imp S K q (j_to q) := by
  intro σ q' υ e
  cases e
  exact Gos.rf _ _ _ _
/-- an instruction that leaves the heap as it is -/
theorem gos_same {S : List Int} {K : Mt} {pc q : Nat} {st st' : List AV} {L L' : List (Option AV)} {h : Hp}
    (k : ∀ (P : Par) (p : Program) (l : Launch) (e : Env) (R : Room) (s : State) (m : MethodId) (args : Array Value) (below : List Frame) (meth : Method) (c : Code) (Q : State → Prop) (H : Heap) (locs : List Loc) (cells slots : Nat) (ls : Array Slot),
      Cx S K P p R s m args meth c → hR P h H → va_S (aA P) s.heap H locs → lR P K.2.2.2.1 L ls → (∀ ls', lR P K.2.2.2.1 L' ls' → W p l e R s m args below meth c H locs cells slots Q (F0 m q ls' (st'.map (cV P)))) → W p l e R s m args below meth c H locs cells slots Q (F0 m pc ls (st.map (cV P)))) :
    Gos S K pc q (st, L, h) (st', L', h) :=
  ⟨LeT.rf _, fun P p l e R s m args below meth c Q t0 z0 C _ _ _ _ a ls H locs h1 h2 h3 => k P p l e R s m args below meth c Q H locs _ _ ls C h2 h3 h1 (fun ls' h => a ls' H locs h h2 h3)⟩
/-- an instruction that leaves the locals and the heap -/
theorem gos_st {S : List Int} {K : Mt} {pc q : Nat} {st st' : List AV} {L : List (Option AV)} {h : Hp}
    (k : ∀ (P : Par) (p : Program) (l : Launch) (e : Env) (R : Room) (s : State) (m : MethodId) (args : Array Value) (below : List Frame) (meth : Method) (c : Code) (Q : State → Prop) (H : Heap) (locs : List Loc) (cells slots : Nat) (ls : Array Slot),
      Cx S K P p R s m args meth c → hR P h H → va_S (aA P) s.heap H locs → lR P K.2.2.2.1 L ls → W p l e R s m args below meth c H locs cells slots Q (F0 m q ls (st'.map (cV P))) → W p l e R s m args below meth c H locs cells slots Q (F0 m pc ls (st.map (cV P)))) :
    Gos S K pc q (st, L, h) (st', L, h) :=
  gos_same (fun P p l e R s m args below meth c Q H locs cells slots ls C h2 h3 h1 a => k P p l e R s m args below meth c Q H locs cells slots ls C h2 h3 h1 (a ls h1))
section Ops
variable {S : List Int} {K : Mt} {pc : Nat}
theorem s_iconst {n : Int} (hd : decode K.2.2.1 pc = .ok (.iconst n, 1)) : Seg S K pc (pc + 1) (x_push (vI n)) := by
  rintro ⟨st, L, h⟩ σ' e
  cases e
  refine gos_st fun P p l e R s m args below meth c Q H locs cells slots ls C h2 h3 h1 a => ?_
  exact lv_iconst C.1 C.2.1 hd rfl a
theorem s_bipush {n : Int} (hd : decode K.2.2.1 pc = .ok (.bipush n, 2)) (hn : (Int8.ofInt n).toInt32 = Int32.ofInt n) : Seg S K pc (pc + 2) (x_push (vI n)) := by
  rintro ⟨st, L, h⟩ σ' e
  cases e
  refine gos_st fun P p l e R s m args below meth c Q H locs cells slots ls C h2 h3 h1 a => ?_
  exact lv_bipush C.1 C.2.1 hd hn a
theorem s_sipush {n : Int} (hd : decode K.2.2.1 pc = .ok (.sipush n, 3)) (hn : (Int16.ofInt n).toInt32 = Int32.ofInt n) : Seg S K pc (pc + 3) (x_push (vI n)) := by
  rintro ⟨st, L, h⟩ σ' e
  cases e
  refine gos_st fun P p l e R s m args below meth c Q H locs cells slots ls C h2 h3 h1 a => ?_
  exact lv_sipush C.1 C.2.1 hd hn a
theorem s_ldc {n : Int} {i : Nat} (hd : decode K.2.2.1 pc = .ok (.ldc i, 2)) (hn : Cond.constant (clS K.1) i (Int32.ofInt n) ∈ tG) : Seg S K pc (pc + 2) (x_push (vI n)) := by
  rintro ⟨st, L, h⟩ σ' e
  cases e
  refine gos_st fun P p l e R s m args below meth c Q H locs cells slots ls C h2 h3 h1 a => ?_
  exact lv_ldc C.1 C.2.1 C.2.2.2.1 (C.2.2.2.2.1 _ hn) hd a
theorem s_ldcw {n : Int} {i : Nat} (hd : decode K.2.2.1 pc = .ok (.ldc_w i, 3)) (hn : Cond.constant (clS K.1) i (Int32.ofInt n) ∈ tG) : Seg S K pc (pc + 3) (x_push (vI n)) := by
  rintro ⟨st, L, h⟩ σ' e
  cases e
  refine gos_st fun P p l e R s m args below meth c Q H locs cells slots ls C h2 h3 h1 a => ?_
  exact lv_ldcw C.1 C.2.1 C.2.2.2.1 (C.2.2.2.2.1 _ hn) hd a
theorem s_lconst {n : Fin 2} {z : Int} (hd : decode K.2.2.1 pc = .ok (.lconst n, 1)) (hz : Int64.ofNat (n : Nat) = Int64.ofInt z) : Seg S K pc (pc + 1) (x_push (vL z)) := by
  rintro ⟨st, L, h⟩ σ' e
  cases e
  refine gos_st fun P p l e R s m args below meth c Q H locs cells slots ls C h2 h3 h1 a => ?_
  exact lv_lconst C.1 C.2.1 hd hz a
theorem s_ldc2 {n : Int} {i : Nat} (hd : decode K.2.2.1 pc = .ok (.ldc2_w i, 3)) (hn : Cond.constantLong (clS K.1) i (Int64.ofInt n) ∈ tG) : Seg S K pc (pc + 3) (x_push (vL n)) := by
  rintro ⟨st, L, h⟩ σ' e
  cases e
  refine gos_st fun P p l e R s m args below meth c Q H locs cells slots ls C h2 h3 h1 a => ?_
  exact lv_ldc2 C.1 C.2.1 C.2.2.2.1 (C.2.2.2.2.1 _ hn) hd a
theorem s_iload_n {k : Fin 4} {i : Nat} (hd : decode K.2.2.1 pc = .ok (.iload_n k, 1)) (hi : (k : Nat) = i) : Seg S K pc (pc + 1) (x_ild i) := by
  rintro ⟨st, L, h⟩ σ' e
  unfold x_ild at e
  split at e
  · rename_i z hz
    cases e
    refine gos_st fun P p l e R s m args below meth c Q H locs cells slots ls C h2 h3 h1 a => ?_
    exact lv_iload_n C.1 C.2.1 hd hi (h1.2.2.2 i _ hz) a
  · cases e
theorem s_iload {i : Nat} (hd : decode K.2.2.1 pc = .ok (.iload i, 2)) : Seg S K pc (pc + 2) (x_ild i) := by
  rintro ⟨st, L, h⟩ σ' e
  unfold x_ild at e
  split at e
  · rename_i z hz
    cases e
    refine gos_st fun P p l e R s m args below meth c Q H locs cells slots ls C h2 h3 h1 a => ?_
    exact lv_iload C.1 C.2.1 hd (h1.2.2.2 i _ hz) a
  · cases e
theorem s_lload_n {k : Fin 4} {i : Nat} (hd : decode K.2.2.1 pc = .ok (.lload_n k, 1)) (hi : (k : Nat) = i) : Seg S K pc (pc + 1) (x_lld i) := by
  rintro ⟨st, L, h⟩ σ' e
  unfold x_lld at e
  split at e
  · rename_i z hz
    cases e
    refine gos_st fun P p l e R s m args below meth c Q H locs cells slots ls C h2 h3 h1 a => ?_
    exact lv_lload_n C.1 C.2.1 hd hi (h1.2.2.2 i _ hz) a
  · cases e
theorem s_lload {i : Nat} (hd : decode K.2.2.1 pc = .ok (.lload i, 2)) : Seg S K pc (pc + 2) (x_lld i) := by
  rintro ⟨st, L, h⟩ σ' e
  unfold x_lld at e
  split at e
  · rename_i z hz
    cases e
    refine gos_st fun P p l e R s m args below meth c Q H locs cells slots ls C h2 h3 h1 a => ?_
    exact lv_lload C.1 C.2.1 hd (h1.2.2.2 i _ hz) a
  · cases e
theorem s_aload_n {k : Fin 4} {i : Nat} (hd : decode K.2.2.1 pc = .ok (.aload_n k, 1)) (hi : (k : Nat) = i) : Seg S K pc (pc + 1) (x_ald i) := by
  rintro ⟨st, L, h⟩ σ' e
  unfold x_ald at e
  split at e
  · rename_i z hz
    cases e
    refine gos_st fun P p l e R s m args below meth c Q H locs cells slots ls C h2 h3 h1 a => ?_
    have h9 := h1.2.2.2 i _ hz
    rcases rf_or P z with ⟨b, hb⟩ | hb
    · rw [hb] at h9
      exact lv_aload_n C.1 C.2.1 hd hi h9 (by rw [← hb]; exact a)
    · rw [hb] at h9
      exact lv_aload_nN C.1 C.2.1 hd hi h9 (by rw [← hb]; exact a)
  · cases e
theorem s_aload {i : Nat} (hd : decode K.2.2.1 pc = .ok (.aload i, 2)) : Seg S K pc (pc + 2) (x_ald i) := by
  rintro ⟨st, L, h⟩ σ' e
  unfold x_ald at e
  split at e
  · rename_i z hz
    cases e
    refine gos_st fun P p l e R s m args below meth c Q H locs cells slots ls C h2 h3 h1 a => ?_
    have h9 := h1.2.2.2 i _ hz
    rcases rf_or P z with ⟨b, hb⟩ | hb
    · rw [hb] at h9
      exact lv_aload C.1 C.2.1 hd h9 (by rw [← hb]; exact a)
    · rw [hb] at h9
      exact lv_aloadN C.1 C.2.1 hd h9 (by rw [← hb]; exact a)
  · cases e
end Ops
end
section
/-! STORES, ARITHMETIC, JUMPS -/
def lvO (P : Par) (L : List (Option AV)) : List (Nat × Value) := (List.range L.length).filterMap (fun k => (L[k]?.join).map (fun v => (k, cV P v)))
theorem lvO_mem {P : Par} {L : List (Option AV)} {q : Nat × Value} : q ∈ lvO P L ↔ ∃ v, L[q.1]? = some (some v) ∧ q.2 = cV P v := by
  unfold lvO
  rw [List.mem_filterMap]
  constructor
  · rintro ⟨k, hk, h⟩
    cases e : L[k]? with
    | none => rw [e] at h; cases h
    | some o =>
      cases o with
      | none => rw [e] at h; cases h
      | some v =>
        rw [e] at h
        cases h
        exact ⟨v, e, rfl⟩
  · rintro ⟨v, h1, h2⟩
    refine ⟨q.1, List.mem_range.mpr (List.getElem?_eq_some_iff.mp h1).1, ?_⟩
    rw [h1]
    show some (q.1, cV P v) = some q
    rw [← h2]
theorem lR_has {P : Par} {nL : Nat} {L : List (Option AV)} {ls : Array Slot} (h : lR P nL L ls) : lv_has ls nL (lvO P L) := by
  refine ⟨h.2.1, h.2.2.1, fun q hq => ?_⟩
  obtain ⟨v, h1, h2⟩ := lvO_mem.mp hq
  rw [h2]
  exact h.2.2.2 _ _ h1
theorem cat1_c {P : Par} {v : AV} : (cV P v).category = 2 ↔ cat1 v = false := by
  rcases v with z | z | z
  · simp [cV, Value.category, cat1]
  · simp [cV, Value.category, cat1]
  · rcases rf_or P z with ⟨a, h⟩ | h
    · rw [h]; rcases z with z | z | z <;> simp [Value.category, cat1]
    · rw [h]; rcases z with z | z | z <;> simp [Value.category, cat1]
theorem clr_len (L : List (Option AV)) (k : Nat) : (clr L k).length = L.length := by
  unfold clr
  split
  · rfl
  · split
    · rw [List.length_set]
    · rfl
theorem clr_get {L : List (Option AV)} {i k : Nat} {v : AV} (h : (clr L i)[k]? = some (some v)) : L[k]? = some (some v) ∧ (k + 1 = i → cat1 v = true) := by
  unfold clr at h
  split at h
  · exact ⟨h, fun q => by omega⟩
  · rename_i j
    split at h
    · rename_i z hz
      rw [List.getElem?_set] at h
      split at h
      · split at h <;> cases h
      · rename_i hne
        exact ⟨h, fun q => by omega⟩
    · rename_i hno
      refine ⟨h, fun q => ?_⟩
      have hk : k = j := by omega
      subst hk
      rcases v with z | z | z
      · rfl
      · exact absurd h (hno z)
      · rfl
theorem lR_st1 {P : Par} {nL i : Nat} {L : List (Option AV)} {v : AV} {ls ls' : Array Slot} (h : lR P nL L ls) (h' : lv_has ls' nL ((i, cV P v) :: (lvO P L).filter (fun q => !(q.1 == i) && !(q.1 + 1 == i && q.2.category == 2)))) : lR P nL (st1 L i v) ls' := by
  refine ⟨by unfold st1; rw [List.length_set, clr_len]; exact h.1, h'.1, h'.2.1, fun k w hw => ?_⟩
  unfold st1 at hw
  rw [List.getElem?_set] at hw
  split at hw
  · rename_i hki
    subst hki
    split at hw
    · cases hw
      exact h'.2.2 (i, cV P v) List.mem_cons_self
    · cases hw
  · rename_i hne
    obtain ⟨g1, g2⟩ := clr_get hw
    refine h'.2.2 (k, cV P w) (List.mem_cons_of_mem _ (List.mem_filter.mpr ⟨lvO_mem.mpr ⟨w, g1, rfl⟩, ?_⟩))
    have a1 : (k == i) = false := by simpa using fun q => hne q.symm
    have a2 : (k + 1 == i && (cV P w).category == 2) = false := by
      by_cases q : k + 1 = i
      · have := g2 q
        have : ¬ (cV P w).category = 2 := fun z => by rw [cat1_c.mp z] at this; cases this
        simp [this]
      · simp [q]
    show (!(k == i) && !(k + 1 == i && (cV P w).category == 2)) = true
    rw [a1, a2]
    rfl
theorem lR_st2 {P : Par} {nL i : Nat} {L : List (Option AV)} {v : AV} {ls ls' : Array Slot} (h : lR P nL L ls) (h' : lv_has ls' nL ((i, cV P v) :: (lvO P L).filter (fun q => !(q.1 == i) && (!(q.1 == i + 1) && !(q.1 + 1 == i && q.2.category == 2))))) : lR P nL (st2 L i v) ls' := by
  refine ⟨by unfold st2; rw [List.length_set, List.length_set, clr_len]; exact h.1, h'.1, h'.2.1, fun k w hw => ?_⟩
  unfold st2 at hw
  rw [List.getElem?_set] at hw
  split at hw
  · split at hw <;> cases hw
  · rename_i hne1
    rw [List.getElem?_set] at hw
    split at hw
    · rename_i hki
      subst hki
      split at hw
      · cases hw
        exact h'.2.2 (i, cV P v) List.mem_cons_self
      · cases hw
    · rename_i hne
      obtain ⟨g1, g2⟩ := clr_get hw
      refine h'.2.2 (k, cV P w) (List.mem_cons_of_mem _ (List.mem_filter.mpr ⟨lvO_mem.mpr ⟨w, g1, rfl⟩, ?_⟩))
      have a1 : (k == i) = false := by simpa using fun q => hne q.symm
      have a3 : (k == i + 1) = false := by simpa using fun q => hne1 q.symm
      have a2 : (k + 1 == i && (cV P w).category == 2) = false := by
        by_cases q : k + 1 = i
        · have := g2 q
          have : ¬ (cV P w).category = 2 := fun z => by rw [cat1_c.mp z] at this; cases this
          simp [this]
        · simp [q]
      show (!(k == i) && (!(k == i + 1) && !(k + 1 == i && (cV P w).category == 2))) = true
      rw [a1, a2, a3]
      rfl
theorem cat1_k {P : Par} {v : AV} (h : cat1 v = true) : (cV P v).category = 1 := by
  have h2 : ¬ (cV P v).category = 2 := fun q => by rw [cat1_c.mp q] at h; cases h
  cases hv : cV P v <;> rw [hv] at h2 <;> first | rfl | exact absurd rfl h2
theorem cj1_eq {z : Int} : c1 0 (n32 z) = true ↔ Int32.ofInt z = 0 := by
  unfold c1
  rw [i32_0]
  simp only [decide_eq_true_eq, i32_eq, i32_lt, i32_le, n32_0, ne_eq]
theorem cj2_eq {x y : Int} : c2 0 (n32 x) (n32 y) = true ↔ Int32.ofInt x = Int32.ofInt y := by
  unfold c2
  simp only [decide_eq_true_eq, i32_eq, i32_lt, i32_le, ne_eq]
theorem cj1_ne {z : Int} : c1 1 (n32 z) = true ↔ ¬ Int32.ofInt z = 0 := by
  unfold c1
  rw [i32_0]
  simp only [decide_eq_true_eq, i32_eq, i32_lt, i32_le, n32_0, ne_eq]
theorem cj2_ne {x y : Int} : c2 1 (n32 x) (n32 y) = true ↔ ¬ Int32.ofInt x = Int32.ofInt y := by
  unfold c2
  simp only [decide_eq_true_eq, i32_eq, i32_lt, i32_le, ne_eq]
theorem cj1_lt {z : Int} : c1 2 (n32 z) = true ↔ Int32.ofInt z < 0 := by
  unfold c1
  rw [i32_0]
  simp only [decide_eq_true_eq, i32_eq, i32_lt, i32_le, n32_0, ne_eq]
theorem cj2_lt {x y : Int} : c2 2 (n32 x) (n32 y) = true ↔ Int32.ofInt x < Int32.ofInt y := by
  unfold c2
  simp only [decide_eq_true_eq, i32_eq, i32_lt, i32_le, ne_eq]
theorem cj1_ge {z : Int} : c1 3 (n32 z) = true ↔ 0 ≤ Int32.ofInt z := by
  unfold c1
  rw [i32_0]
  simp only [decide_eq_true_eq, i32_eq, i32_lt, i32_le, n32_0, ne_eq]
theorem cj2_ge {x y : Int} : c2 3 (n32 x) (n32 y) = true ↔ Int32.ofInt y ≤ Int32.ofInt x := by
  unfold c2
  simp only [decide_eq_true_eq, i32_eq, i32_lt, i32_le, ne_eq]
theorem cj1_gt {z : Int} : c1 4 (n32 z) = true ↔ 0 < Int32.ofInt z := by
  unfold c1
  rw [i32_0]
  simp only [decide_eq_true_eq, i32_eq, i32_lt, i32_le, n32_0, ne_eq]
theorem cj2_gt {x y : Int} : c2 4 (n32 x) (n32 y) = true ↔ Int32.ofInt y < Int32.ofInt x := by
  unfold c2
  simp only [decide_eq_true_eq, i32_eq, i32_lt, i32_le, ne_eq]
theorem cj1_le {z : Int} : c1 5 (n32 z) = true ↔ Int32.ofInt z ≤ 0 := by
  unfold c1
  rw [i32_0]
  simp only [decide_eq_true_eq, i32_eq, i32_lt, i32_le, n32_0, ne_eq]
theorem cj2_le {x y : Int} : c2 5 (n32 x) (n32 y) = true ↔ Int32.ofInt x ≤ Int32.ofInt y := by
  unfold c2
  simp only [decide_eq_true_eq, i32_eq, i32_lt, i32_le, ne_eq]
section Ops2
variable {S : List Int} {K : Mt} {pc : Nat}
theorem s_istore {i : Nat} (hd : decode K.2.2.1 pc = .ok (.istore i, 2)) : Seg S K pc (pc + 2) (x_ist i) := by
  rintro ⟨st, L, h⟩ σ' e
  unfold x_ist at e
  split at e
  · rename_i z st0 hz
    simp only at hz
    subst hz
    split at e
    · rename_i hlt
      cases e
      refine gos_same fun P p l e R s m args below meth c Q H locs cells slots ls C h2 h3 h1 a => ?_
      exact lv_istore C.1 C.2.1 hd (lR_has h1) (by rw [← h1.1]; exact hlt) rfl (fun ls' h' => a ls' (lR_st1 (v := .inl z) h1 h'))
    · cases e
  · cases e
theorem s_istore_n {k : Fin 4} {i : Nat} (hd : decode K.2.2.1 pc = .ok (.istore_n k, 1)) (hi : (k : Nat) = i) : Seg S K pc (pc + 1) (x_ist i) := by
  rintro ⟨st, L, h⟩ σ' e
  unfold x_ist at e
  split at e
  · rename_i z st0 hz
    simp only at hz
    subst hz
    split at e
    · rename_i hlt
      cases e
      refine gos_same fun P p l e R s m args below meth c Q H locs cells slots ls C h2 h3 h1 a => ?_
      exact lv_istore_n C.1 C.2.1 hd hi (lR_has h1) (by rw [← h1.1]; exact hlt) rfl (fun ls' h' => a ls' (lR_st1 (v := .inl z) h1 h'))
    · cases e
  · cases e
theorem s_lstore {i : Nat} (hd : decode K.2.2.1 pc = .ok (.lstore i, 2)) : Seg S K pc (pc + 2) (x_lst i) := by
  rintro ⟨st, L, h⟩ σ' e
  unfold x_lst at e
  split at e
  · rename_i z st0 hz
    simp only at hz
    subst hz
    split at e
    · rename_i hlt
      cases e
      refine gos_same fun P p l e R s m args below meth c Q H locs cells slots ls C h2 h3 h1 a => ?_
      exact lv_lstore C.1 C.2.1 hd (lR_has h1) (by rw [← h1.1]; exact hlt) rfl (fun ls' h' => a ls' (lR_st2 (v := .inr (.inl z)) h1 h'))
    · cases e
  · cases e
theorem s_lstore_n {k : Fin 4} {i : Nat} (hd : decode K.2.2.1 pc = .ok (.lstore_n k, 1)) (hi : (k : Nat) = i) : Seg S K pc (pc + 1) (x_lst i) := by
  rintro ⟨st, L, h⟩ σ' e
  unfold x_lst at e
  split at e
  · rename_i z st0 hz
    simp only at hz
    subst hz
    split at e
    · rename_i hlt
      cases e
      refine gos_same fun P p l e R s m args below meth c Q H locs cells slots ls C h2 h3 h1 a => ?_
      exact lv_lstore_n C.1 C.2.1 hd hi (lR_has h1) (by rw [← h1.1]; exact hlt) rfl (fun ls' h' => a ls' (lR_st2 (v := .inr (.inl z)) h1 h'))
    · cases e
  · cases e
theorem s_astore {i : Nat} (hd : decode K.2.2.1 pc = .ok (.astore i, 2)) : Seg S K pc (pc + 2) (x_ast i) := by
  rintro ⟨st, L, h⟩ σ' e
  unfold x_ast at e
  split at e
  · rename_i z st0 hz
    simp only at hz
    subst hz
    split at e
    · rename_i hlt
      cases e
      refine gos_same fun P p l e R s m args below meth c Q H locs cells slots ls C h2 h3 h1 a => ?_
      rcases rf_or P z with ⟨b, hb⟩ | hb
      · refine W.eq (show _ = F0 m pc ls (.ref b :: st0.map (cV P)) by rw [← hb]; rfl) ?_
        exact lv_astore C.1 C.2.1 hd (lR_has h1) (by rw [← h1.1]; exact hlt) rfl (fun ls' h' => a ls' (lR_st1 (v := .inr (.inr z)) h1 (by rw [hb]; exact h')))
      · refine W.eq (show _ = F0 m pc ls (.null :: st0.map (cV P)) by rw [← hb]; rfl) ?_
        exact lv_astoreN C.1 C.2.1 hd (lR_has h1) (by rw [← h1.1]; exact hlt) rfl (fun ls' h' => a ls' (lR_st1 (v := .inr (.inr z)) h1 (by rw [hb]; exact h')))
    · cases e
  · cases e
theorem s_astore_n {k : Fin 4} {i : Nat} (hd : decode K.2.2.1 pc = .ok (.astore_n k, 1)) (hi : (k : Nat) = i) : Seg S K pc (pc + 1) (x_ast i) := by
  rintro ⟨st, L, h⟩ σ' e
  unfold x_ast at e
  split at e
  · rename_i z st0 hz
    simp only at hz
    subst hz
    split at e
    · rename_i hlt
      cases e
      refine gos_same fun P p l e R s m args below meth c Q H locs cells slots ls C h2 h3 h1 a => ?_
      rcases rf_or P z with ⟨b, hb⟩ | hb
      · refine W.eq (show _ = F0 m pc ls (.ref b :: st0.map (cV P)) by rw [← hb]; rfl) ?_
        exact lv_astore_n C.1 C.2.1 hd hi (lR_has h1) (by rw [← h1.1]; exact hlt) rfl (fun ls' h' => a ls' (lR_st1 (v := .inr (.inr z)) h1 (by rw [hb]; exact h')))
      · refine W.eq (show _ = F0 m pc ls (.null :: st0.map (cV P)) by rw [← hb]; rfl) ?_
        exact lv_astore_nN C.1 C.2.1 hd hi (lR_has h1) (by rw [← h1.1]; exact hlt) rfl (fun ls' h' => a ls' (lR_st1 (v := .inr (.inr z)) h1 (by rw [hb]; exact h')))
    · cases e
  · cases e
theorem s_iinc {i : Nat} {n : Int} (hd : decode K.2.2.1 pc = .ok (.iinc i n, 3)) : Seg S K pc (pc + 3) (x_inc i n) := by
  rintro ⟨st, L, h⟩ σ' e
  unfold x_inc at e
  split at e
  · rename_i z hz
    simp only at hz
    cases e
    refine gos_same fun P p l e R s m args below meth c Q H locs cells slots ls C h2 h3 h1 a => ?_
    have hm : (i, Value.int (Int32.ofInt z)) ∈ lvO P L := lvO_mem.mpr ⟨.inl z, hz, rfl⟩
    obtain ⟨k, hk⟩ := List.getElem?_of_mem hm
    have hlt : i < K.2.2.2.1 := by rw [← h1.1]; exact (List.getElem?_eq_some_iff.mp hz).1
    exact lv_iinc C.1 C.2.1 hd (lR_has h1) hk (v := Int32.ofInt (z + n)) (by rw [Int32.ofInt_add]) hlt rfl (fun ls' h' => a ls' (lR_st1 (v := .inl (z + n)) h1 h'))
  · cases e
theorem s_iadd (hd : decode K.2.2.1 pc = .ok (.iadd, 1)) : Seg S K pc (pc + 1) (x_ii (fun x y => x + y)) := by
  rintro ⟨st, L, h⟩ σ' e
  unfold x_ii at e
  split at e
  · rename_i y x st0 hz
    simp only at hz
    subst hz
    cases e
    refine gos_st fun P p l e R s m args below meth c Q H locs cells slots ls C h2 h3 h1 a => ?_
    exact lv_iadd C.1 C.2.1 hd (by rw [← Int32.ofInt_add]; exact a)
  · cases e
theorem s_isub (hd : decode K.2.2.1 pc = .ok (.isub, 1)) : Seg S K pc (pc + 1) (x_ii (fun x y => x - y)) := by
  rintro ⟨st, L, h⟩ σ' e
  unfold x_ii at e
  split at e
  · rename_i y x st0 hz
    simp only at hz
    subst hz
    cases e
    refine gos_st fun P p l e R s m args below meth c Q H locs cells slots ls C h2 h3 h1 a => ?_
    exact lv_isub C.1 C.2.1 hd (by rw [← Int32.ofInt_sub]; exact a)
  · cases e
theorem s_imul (hd : decode K.2.2.1 pc = .ok (.imul, 1)) : Seg S K pc (pc + 1) (x_ii (fun x y => x * y)) := by
  rintro ⟨st, L, h⟩ σ' e
  unfold x_ii at e
  split at e
  · rename_i y x st0 hz
    simp only at hz
    subst hz
    cases e
    refine gos_st fun P p l e R s m args below meth c Q H locs cells slots ls C h2 h3 h1 a => ?_
    exact lv_imul C.1 C.2.1 hd (by rw [← Int32.ofInt_mul]; exact a)
  · cases e
theorem s_ishl (hd : decode K.2.2.1 pc = .ok (.ishl, 1)) : Seg S K pc (pc + 1) (x_ii o_shl) := by
  rintro ⟨st, L, h⟩ σ' e
  unfold x_ii at e
  split at e
  · rename_i y x st0 hz
    simp only at hz
    subst hz
    cases e
    refine gos_st fun P p l e R s m args below meth c Q H locs cells slots ls C h2 h3 h1 a => ?_
    exact lv_ishl C.1 C.2.1 hd (by rw [← Int32.ofInt_toInt (Int32.ofInt x <<< (Int32.ofInt y &&& 31))]; exact a)
  · cases e
theorem s_ishr (hd : decode K.2.2.1 pc = .ok (.ishr, 1)) : Seg S K pc (pc + 1) (x_ii o_shr) := by
  rintro ⟨st, L, h⟩ σ' e
  unfold x_ii at e
  split at e
  · rename_i y x st0 hz
    simp only at hz
    subst hz
    cases e
    refine gos_st fun P p l e R s m args below meth c Q H locs cells slots ls C h2 h3 h1 a => ?_
    exact lv_ishr C.1 C.2.1 hd (by rw [← Int32.ofInt_toInt (Int32.ofInt x >>> (Int32.ofInt y &&& 31))]; exact a)
  · cases e
theorem s_iand (hd : decode K.2.2.1 pc = .ok (.iand, 1)) : Seg S K pc (pc + 1) (x_ii o_and) := by
  rintro ⟨st, L, h⟩ σ' e
  unfold x_ii at e
  split at e
  · rename_i y x st0 hz
    simp only at hz
    subst hz
    cases e
    refine gos_st fun P p l e R s m args below meth c Q H locs cells slots ls C h2 h3 h1 a => ?_
    exact lv_iand C.1 C.2.1 hd (by rw [← Int32.ofInt_toInt (Int32.ofInt x &&& Int32.ofInt y)]; exact a)
  · cases e
theorem s_ior (hd : decode K.2.2.1 pc = .ok (.ior, 1)) : Seg S K pc (pc + 1) (x_ii o_or) := by
  rintro ⟨st, L, h⟩ σ' e
  unfold x_ii at e
  split at e
  · rename_i y x st0 hz
    simp only at hz
    subst hz
    cases e
    refine gos_st fun P p l e R s m args below meth c Q H locs cells slots ls C h2 h3 h1 a => ?_
    exact lv_ior C.1 C.2.1 hd (by rw [← Int32.ofInt_toInt (Int32.ofInt x ||| Int32.ofInt y)]; exact a)
  · cases e
theorem s_iushr (hd : decode K.2.2.1 pc = .ok (.iushr, 1)) : Seg S K pc (pc + 1) (x_ii o_ushr) := by
  rintro ⟨st, L, h⟩ σ' e
  unfold x_ii at e
  split at e
  · rename_i y x st0 hz
    simp only at hz
    subst hz
    cases e
    refine gos_st fun P p l e R s m args below meth c Q H locs cells slots ls C h2 h3 h1 a => ?_
    exact lv_iushr C.1 C.2.1 hd (Int32.ofInt_toInt _).symm a
  · cases e
theorem s_ladd (hd : decode K.2.2.1 pc = .ok (.ladd, 1)) : Seg S K pc (pc + 1) (x_ll (fun x y => x + y)) := by
  rintro ⟨st, L, h⟩ σ' e
  unfold x_ll at e
  split at e
  · rename_i y x st0 hz
    simp only at hz
    subst hz
    cases e
    refine gos_st fun P p l e R s m args below meth c Q H locs cells slots ls C h2 h3 h1 a => ?_
    exact lv_ladd C.1 C.2.1 hd (by rw [← Int64.ofInt_add]; exact a)
  · cases e
theorem s_lsub (hd : decode K.2.2.1 pc = .ok (.lsub, 1)) : Seg S K pc (pc + 1) (x_ll (fun x y => x - y)) := by
  rintro ⟨st, L, h⟩ σ' e
  unfold x_ll at e
  split at e
  · rename_i y x st0 hz
    simp only at hz
    subst hz
    cases e
    refine gos_st fun P p l e R s m args below meth c Q H locs cells slots ls C h2 h3 h1 a => ?_
    exact lv_lsub C.1 C.2.1 hd (by rw [← Int64.ofInt_sub]; exact a)
  · cases e
theorem s_lmul (hd : decode K.2.2.1 pc = .ok (.lmul, 1)) : Seg S K pc (pc + 1) (x_ll (fun x y => x * y)) := by
  rintro ⟨st, L, h⟩ σ' e
  unfold x_ll at e
  split at e
  · rename_i y x st0 hz
    simp only at hz
    subst hz
    cases e
    refine gos_st fun P p l e R s m args below meth c Q H locs cells slots ls C h2 h3 h1 a => ?_
    exact lv_lmul C.1 C.2.1 hd (by rw [← Int64.ofInt_mul]; exact a)
  · cases e
theorem s_lcmp (hd : decode K.2.2.1 pc = .ok (.lcmp, 1)) : Seg S K pc (pc + 1) (x_lcmp) := by
  rintro ⟨st, L, h⟩ σ' e
  unfold x_lcmp at e
  split at e
  · rename_i y x st0 hz
    simp only at hz
    subst hz
    cases e
    refine gos_st fun P p l e R s m args below meth c Q H locs cells slots ls C h2 h3 h1 a => ?_
    exact W.lcmp C.1 C.2.1 hd (by rw [i64_cmp]; exact a)
  · cases e
theorem s_idiv (hd : decode K.2.2.1 pc = .ok (.idiv, 1)) : Seg S K pc (pc + 1) (x_id Int.tdiv) := by
  rintro ⟨st, L, h⟩ σ' e
  unfold x_id at e
  split at e
  · rename_i y x st0 hz
    simp only at hz
    subst hz
    split at e
    · cases e
    · rename_i hne
      cases e
      refine gos_st fun P p l e R s m args below meth c Q H locs cells slots ls C h2 h3 h1 a => ?_
      exact lv_idiv C.1 C.2.1 hd (fun q => hne ((i32_eq0 y).mp q)) (by rw [← i32_div]; exact a)
  · cases e
theorem s_irem (hd : decode K.2.2.1 pc = .ok (.irem, 1)) : Seg S K pc (pc + 1) (x_id Int.tmod) := by
  rintro ⟨st, L, h⟩ σ' e
  unfold x_id at e
  split at e
  · rename_i y x st0 hz
    simp only at hz
    subst hz
    split at e
    · cases e
    · rename_i hne
      cases e
      refine gos_st fun P p l e R s m args below meth c Q H locs cells slots ls C h2 h3 h1 a => ?_
      exact lv_irem C.1 C.2.1 hd (fun q => hne ((i32_eq0 y).mp q)) (by rw [← i32_mod]; exact a)
  · cases e
theorem s_ldiv (hd : decode K.2.2.1 pc = .ok (.ldiv, 1)) : Seg S K pc (pc + 1) (x_ld Int.tdiv) := by
  rintro ⟨st, L, h⟩ σ' e
  unfold x_ld at e
  split at e
  · rename_i y x st0 hz
    simp only at hz
    subst hz
    split at e
    · cases e
    · rename_i hne
      cases e
      refine gos_st fun P p l e R s m args below meth c Q H locs cells slots ls C h2 h3 h1 a => ?_
      exact lv_ldiv C.1 C.2.1 hd (fun q => hne ((i64_eq0 y).mp q)) (by rw [← i64_div]; exact a)
  · cases e
theorem s_lrem (hd : decode K.2.2.1 pc = .ok (.lrem, 1)) : Seg S K pc (pc + 1) (x_ld Int.tmod) := by
  rintro ⟨st, L, h⟩ σ' e
  unfold x_ld at e
  split at e
  · rename_i y x st0 hz
    simp only at hz
    subst hz
    split at e
    · cases e
    · rename_i hne
      cases e
      refine gos_st fun P p l e R s m args below meth c Q H locs cells slots ls C h2 h3 h1 a => ?_
      exact lv_lrem C.1 C.2.1 hd (fun q => hne ((i64_eq0 y).mp q)) (by rw [← i64_mod]; exact a)
  · cases e
theorem s_ineg (hd : decode K.2.2.1 pc = .ok (.ineg, 1)) : Seg S K pc (pc + 1) (x_i (fun x => -x)) := by
  rintro ⟨st, L, h⟩ σ' e
  unfold x_i at e
  split at e
  · rename_i x st0 hz
    simp only at hz
    subst hz
    cases e
    refine gos_st fun P p l e R s m args below meth c Q H locs cells slots ls C h2 h3 h1 a => ?_
    exact lv_ineg C.1 C.2.1 hd (by rw [← Int32.ofInt_neg]; exact a)
  · cases e
theorem s_i2b (hd : decode K.2.2.1 pc = .ok (.i2b, 1)) : Seg S K pc (pc + 1) (x_i o_i2b) := by
  rintro ⟨st, L, h⟩ σ' e
  unfold x_i at e
  split at e
  · rename_i x st0 hz
    simp only at hz
    subst hz
    cases e
    refine gos_st fun P p l e R s m args below meth c Q H locs cells slots ls C h2 h3 h1 a => ?_
    exact lv_i2b C.1 C.2.1 hd (Int32.ofInt_toInt _).symm a
  · cases e
theorem s_i2c (hd : decode K.2.2.1 pc = .ok (.i2c, 1)) : Seg S K pc (pc + 1) (x_i o_i2c) := by
  rintro ⟨st, L, h⟩ σ' e
  unfold x_i at e
  split at e
  · rename_i x st0 hz
    simp only at hz
    subst hz
    cases e
    refine gos_st fun P p l e R s m args below meth c Q H locs cells slots ls C h2 h3 h1 a => ?_
    exact lv_i2c C.1 C.2.1 hd (Int32.ofInt_toInt _).symm a
  · cases e
theorem s_i2l (hd : decode K.2.2.1 pc = .ok (.i2l, 1)) : Seg S K pc (pc + 1) (x_i2l) := by
  rintro ⟨st, L, h⟩ σ' e
  unfold x_i2l at e
  split at e
  · rename_i x st0 hz
    simp only at hz
    subst hz
    cases e
    refine gos_st fun P p l e R s m args below meth c Q H locs cells slots ls C h2 h3 h1 a => ?_
    exact lv_i2l C.1 C.2.1 hd (i32_64 x) a
  · cases e
theorem s_l2i (hd : decode K.2.2.1 pc = .ok (.l2i, 1)) : Seg S K pc (pc + 1) (x_l2i) := by
  rintro ⟨st, L, h⟩ σ' e
  unfold x_l2i at e
  split at e
  · rename_i x st0 hz
    simp only at hz
    subst hz
    cases e
    refine gos_st fun P p l e R s m args below meth c Q H locs cells slots ls C h2 h3 h1 a => ?_
    exact lv_l2i C.1 C.2.1 hd Int64.toInt32_ofInt a
  · cases e
theorem s_dup (hd : decode K.2.2.1 pc = .ok (.dup, 1)) : Seg S K pc (pc + 1) (x_dup) := by
  rintro ⟨st, L, h⟩ σ' e
  unfold x_dup at e
  split at e
  · rename_i v st0 hz
    simp only at hz
    subst hz
    split at e
    · rename_i hc
      cases e
      refine gos_st fun P p l e R s m args below meth c Q H locs cells slots ls C h2 h3 h1 a => ?_
      exact lv_dup C.1 C.2.1 hd (cat1_k hc) a
    · cases e
  · cases e
theorem s_pop (hd : decode K.2.2.1 pc = .ok (.pop, 1)) : Seg S K pc (pc + 1) (x_pop) := by
  rintro ⟨st, L, h⟩ σ' e
  unfold x_pop at e
  split at e
  · rename_i v st0 hz
    simp only at hz
    subst hz
    split at e
    · rename_i hc
      cases e
      refine gos_st fun P p l e R s m args below meth c Q H locs cells slots ls C h2 h3 h1 a => ?_
      exact lv_pop C.1 C.2.1 hd (cat1_k hc) a
    · cases e
  · cases e
theorem s_dup2 (hd : decode K.2.2.1 pc = .ok (.dup2, 1)) : Seg S K pc (pc + 1) (x_dup2) := by
  rintro ⟨st, L, h⟩ σ' e
  unfold x_dup2 at e
  split at e
  · rename_i v w st0 hz
    simp only at hz
    subst hz
    split at e
    · rename_i hc
      rw [Bool.and_eq_true] at hc
      cases e
      refine gos_st fun P p l e R s m args below meth c Q H locs cells slots ls C h2 h3 h1 a => ?_
      exact lv_dup2_11 C.1 C.2.1 hd (cat1_k hc.1) (cat1_k hc.2) a
    · cases e
  · cases e
theorem i_goto {q : Nat} {off : Int} (hd : decode K.2.2.1 pc = .ok (.goto off, 3)) (ht : (pc : Int) + off = (q : Int)) : Imp S K pc (j_to q) := by
  rintro ⟨st, L, h⟩ q' σ' e
  cases e
  refine gos_st fun P p l e R s m args below meth c Q H locs cells slots ls C h2 h3 h1 a => ?_
  exact lv_goto C.1 C.2.1 hd ht a
theorem i_if_eq {q : Nat} {off : Int} (hd : decode K.2.2.1 pc = .ok (.ifCond .eq off, 3)) (ht : (pc : Int) + off = (q : Int)) : Imp S K pc (j_if 0 q (pc + 3)) := by
  rintro ⟨st, L, h⟩ q' σ' e
  unfold j_if at e
  split at e
  · rename_i z st0 hz
    simp only at hz
    subst hz
    cases e
    refine gos_st fun P p l e R s m args below meth c Q H locs cells slots ls C h2 h3 h1 a => ?_
    refine lv_if_eq C.1 C.2.1 hd ht (fun hc => ?_) (fun hc => ?_)
    · rw [if_pos (cj1_eq.mpr hc)] at a; exact a
    · rw [if_neg (fun q => hc (cj1_eq.mp q))] at a; exact a
  · cases e
theorem i_if_ne {q : Nat} {off : Int} (hd : decode K.2.2.1 pc = .ok (.ifCond .ne off, 3)) (ht : (pc : Int) + off = (q : Int)) : Imp S K pc (j_if 1 q (pc + 3)) := by
  rintro ⟨st, L, h⟩ q' σ' e
  unfold j_if at e
  split at e
  · rename_i z st0 hz
    simp only at hz
    subst hz
    cases e
    refine gos_st fun P p l e R s m args below meth c Q H locs cells slots ls C h2 h3 h1 a => ?_
    refine lv_if_ne C.1 C.2.1 hd ht (fun hc => ?_) (fun hc => ?_)
    · rw [if_pos (cj1_ne.mpr hc)] at a; exact a
    · rw [if_neg (fun q => (cj1_ne.mp q) hc)] at a; exact a
  · cases e
theorem i_if_lt {q : Nat} {off : Int} (hd : decode K.2.2.1 pc = .ok (.ifCond .lt off, 3)) (ht : (pc : Int) + off = (q : Int)) : Imp S K pc (j_if 2 q (pc + 3)) := by
  rintro ⟨st, L, h⟩ q' σ' e
  unfold j_if at e
  split at e
  · rename_i z st0 hz
    simp only at hz
    subst hz
    cases e
    refine gos_st fun P p l e R s m args below meth c Q H locs cells slots ls C h2 h3 h1 a => ?_
    refine lv_if_lt C.1 C.2.1 hd ht (fun hc => ?_) (fun hc => ?_)
    · rw [if_pos (cj1_lt.mpr hc)] at a; exact a
    · rw [if_neg (fun q => hc (cj1_lt.mp q))] at a; exact a
  · cases e
theorem i_if_ge {q : Nat} {off : Int} (hd : decode K.2.2.1 pc = .ok (.ifCond .ge off, 3)) (ht : (pc : Int) + off = (q : Int)) : Imp S K pc (j_if 3 q (pc + 3)) := by
  rintro ⟨st, L, h⟩ q' σ' e
  unfold j_if at e
  split at e
  · rename_i z st0 hz
    simp only at hz
    subst hz
    cases e
    refine gos_st fun P p l e R s m args below meth c Q H locs cells slots ls C h2 h3 h1 a => ?_
    refine lv_if_ge C.1 C.2.1 hd ht (fun hc => ?_) (fun hc => ?_)
    · rw [if_pos (cj1_ge.mpr hc)] at a; exact a
    · rw [if_neg (fun q => hc (cj1_ge.mp q))] at a; exact a
  · cases e
theorem i_if_gt {q : Nat} {off : Int} (hd : decode K.2.2.1 pc = .ok (.ifCond .gt off, 3)) (ht : (pc : Int) + off = (q : Int)) : Imp S K pc (j_if 4 q (pc + 3)) := by
  rintro ⟨st, L, h⟩ q' σ' e
  unfold j_if at e
  split at e
  · rename_i z st0 hz
    simp only at hz
    subst hz
    cases e
    refine gos_st fun P p l e R s m args below meth c Q H locs cells slots ls C h2 h3 h1 a => ?_
    refine lv_if_gt C.1 C.2.1 hd ht (fun hc => ?_) (fun hc => ?_)
    · rw [if_pos (cj1_gt.mpr hc)] at a; exact a
    · rw [if_neg (fun q => hc (cj1_gt.mp q))] at a; exact a
  · cases e
theorem i_if_le {q : Nat} {off : Int} (hd : decode K.2.2.1 pc = .ok (.ifCond .le off, 3)) (ht : (pc : Int) + off = (q : Int)) : Imp S K pc (j_if 5 q (pc + 3)) := by
  rintro ⟨st, L, h⟩ q' σ' e
  unfold j_if at e
  split at e
  · rename_i z st0 hz
    simp only at hz
    subst hz
    cases e
    refine gos_st fun P p l e R s m args below meth c Q H locs cells slots ls C h2 h3 h1 a => ?_
    refine lv_if_le C.1 C.2.1 hd ht (fun hc => ?_) (fun hc => ?_)
    · rw [if_pos (cj1_le.mpr hc)] at a; exact a
    · rw [if_neg (fun q => hc (cj1_le.mp q))] at a; exact a
  · cases e
theorem i_icmp_eq {q : Nat} {off : Int} (hd : decode K.2.2.1 pc = .ok (.if_icmp .eq off, 3)) (ht : (pc : Int) + off = (q : Int)) : Imp S K pc (j_cmp 0 q (pc + 3)) := by
  rintro ⟨st, L, h⟩ q' σ' e
  unfold j_cmp at e
  split at e
  · rename_i y x st0 hz
    simp only at hz
    subst hz
    cases e
    refine gos_st fun P p l e R s m args below meth c Q H locs cells slots ls C h2 h3 h1 a => ?_
    refine lv_icmp_eq C.1 C.2.1 hd ht (fun hc => ?_) (fun hc => ?_)
    · rw [if_pos (cj2_eq.mpr hc)] at a; exact a
    · rw [if_neg (fun q => hc (cj2_eq.mp q))] at a; exact a
  · cases e
theorem i_icmp_ne {q : Nat} {off : Int} (hd : decode K.2.2.1 pc = .ok (.if_icmp .ne off, 3)) (ht : (pc : Int) + off = (q : Int)) : Imp S K pc (j_cmp 1 q (pc + 3)) := by
  rintro ⟨st, L, h⟩ q' σ' e
  unfold j_cmp at e
  split at e
  · rename_i y x st0 hz
    simp only at hz
    subst hz
    cases e
    refine gos_st fun P p l e R s m args below meth c Q H locs cells slots ls C h2 h3 h1 a => ?_
    refine lv_icmp_ne C.1 C.2.1 hd ht (fun hc => ?_) (fun hc => ?_)
    · rw [if_pos (cj2_ne.mpr hc)] at a; exact a
    · rw [if_neg (fun q => (cj2_ne.mp q) hc)] at a; exact a
  · cases e
theorem i_icmp_lt {q : Nat} {off : Int} (hd : decode K.2.2.1 pc = .ok (.if_icmp .lt off, 3)) (ht : (pc : Int) + off = (q : Int)) : Imp S K pc (j_cmp 2 q (pc + 3)) := by
  rintro ⟨st, L, h⟩ q' σ' e
  unfold j_cmp at e
  split at e
  · rename_i y x st0 hz
    simp only at hz
    subst hz
    cases e
    refine gos_st fun P p l e R s m args below meth c Q H locs cells slots ls C h2 h3 h1 a => ?_
    refine lv_icmp_lt C.1 C.2.1 hd ht (fun hc => ?_) (fun hc => ?_)
    · rw [if_pos (cj2_lt.mpr hc)] at a; exact a
    · rw [if_neg (fun q => hc (cj2_lt.mp q))] at a; exact a
  · cases e
theorem i_icmp_ge {q : Nat} {off : Int} (hd : decode K.2.2.1 pc = .ok (.if_icmp .ge off, 3)) (ht : (pc : Int) + off = (q : Int)) : Imp S K pc (j_cmp 3 q (pc + 3)) := by
  rintro ⟨st, L, h⟩ q' σ' e
  unfold j_cmp at e
  split at e
  · rename_i y x st0 hz
    simp only at hz
    subst hz
    cases e
    refine gos_st fun P p l e R s m args below meth c Q H locs cells slots ls C h2 h3 h1 a => ?_
    refine lv_icmp_ge C.1 C.2.1 hd ht (fun hc => ?_) (fun hc => ?_)
    · rw [if_pos (cj2_ge.mpr hc)] at a; exact a
    · rw [if_neg (fun q => hc (cj2_ge.mp q))] at a; exact a
  · cases e
theorem i_icmp_gt {q : Nat} {off : Int} (hd : decode K.2.2.1 pc = .ok (.if_icmp .gt off, 3)) (ht : (pc : Int) + off = (q : Int)) : Imp S K pc (j_cmp 4 q (pc + 3)) := by
  rintro ⟨st, L, h⟩ q' σ' e
  unfold j_cmp at e
  split at e
  · rename_i y x st0 hz
    simp only at hz
    subst hz
    cases e
    refine gos_st fun P p l e R s m args below meth c Q H locs cells slots ls C h2 h3 h1 a => ?_
    refine lv_icmp_gt C.1 C.2.1 hd ht (fun hc => ?_) (fun hc => ?_)
    · rw [if_pos (cj2_gt.mpr hc)] at a; exact a
    · rw [if_neg (fun q => hc (cj2_gt.mp q))] at a; exact a
  · cases e
theorem i_icmp_le {q : Nat} {off : Int} (hd : decode K.2.2.1 pc = .ok (.if_icmp .le off, 3)) (ht : (pc : Int) + off = (q : Int)) : Imp S K pc (j_cmp 5 q (pc + 3)) := by
  rintro ⟨st, L, h⟩ q' σ' e
  unfold j_cmp at e
  split at e
  · rename_i y x st0 hz
    simp only at hz
    subst hz
    cases e
    refine gos_st fun P p l e R s m args below meth c Q H locs cells slots ls C h2 h3 h1 a => ?_
    refine lv_icmp_le C.1 C.2.1 hd ht (fun hc => ?_) (fun hc => ?_)
    · rw [if_pos (cj2_le.mpr hc)] at a; exact a
    · rw [if_neg (fun q => hc (cj2_le.mp q))] at a; exact a
  · cases e
theorem i_nn {q : Nat} {off : Int} (hd : decode K.2.2.1 pc = .ok (.ifnonnull off, 3)) (ht : (pc : Int) + off = (q : Int)) : Imp S K pc (j_nn q (pc + 3)) := by
  rintro ⟨st, L, h⟩ q' σ' e
  unfold j_nn at e
  split at e
  · rename_i z st0 hz
    simp only at hz
    subst hz
    cases e
    refine gos_st fun P p l e R s m args below meth c Q H locs cells slots ls C h2 h3 h1 a => ?_
    exact lv_ifnonnull C.1 C.2.1 hd ht a
  · rename_i z st0 hz
    simp only at hz
    subst hz
    cases e
    refine gos_st fun P p l e R s m args below meth c Q H locs cells slots ls C h2 h3 h1 a => ?_
    exact lv_ifnonnullN C.1 C.2.1 hd a
  · cases e
theorem i_tsw {d lo hi : Int} {offs : Array Int} {len q : Nat} {qs : List Nat} (hd : decode K.2.2.1 pc = .ok (.tableswitch d lo hi offs, len)) (hq : (pc : Int) + d = (q : Int)) (hqs : offs.toList.map (fun o => (pc : Int) + o) = qs.map (fun k : Nat => (k : Int))) (hlen : hi = lo + (qs.length : Int) - 1) : Imp S K pc (j_sw lo qs q) := by
  rintro ⟨st, L, h⟩ q' σ' e
  unfold j_sw at e
  split at e
  · rename_i z st0 hz
    simp only at hz
    subst hz
    cases e
    refine gos_st fun P p l e R s m args below meth c Q H locs cells slots ls C h2 h3 h1 a => ?_
    by_cases h0 : lo ≤ n32 z
    · rw [if_pos h0] at a
      by_cases h9 : n32 z ≤ hi
      · have hk : (n32 z - lo).toNat < qs.length := by omega
        have e1 : qs.getD (n32 z - lo).toNat q = qs[(n32 z - lo).toNat] := by rw [List.getD_eq_getElem?_getD, List.getElem?_eq_getElem hk]; rfl
        rw [e1] at a
        have hl : offs.toList.length = qs.length := by have := congrArg List.length hqs; simpa using this
        have hk2 : (n32 z - lo).toNat < offs.toList.length := by omega
        have e2 := congrArg (fun l => l[(n32 z - lo).toNat]?) hqs
        simp only [List.getElem?_map, List.getElem?_eq_getElem hk, List.getElem?_eq_getElem hk2, Option.map_some, Option.some.injEq] at e2
        refine lv_tableIn C.1 C.2.1 hd (by rw [i32_toInt]; omega) (by rw [i32_toInt]; omega) (off := offs.toList[(n32 z - lo).toNat]) ?_ e2 a
        rw [i32_toInt, ← Array.getElem?_toList, List.getElem?_eq_getElem hk2]
      · have e1 : qs.getD (n32 z - lo).toNat q = q := by rw [List.getD_eq_getElem?_getD, List.getElem?_eq_none (by omega)]; rfl
        rw [e1] at a
        exact lv_tableOut C.1 C.2.1 hd (by rw [i32_toInt]; right; omega) hq a
    · rw [if_neg h0] at a
      exact lv_tableOut C.1 C.2.1 hd (by rw [i32_toInt]; left; omega) hq a
  · cases e
theorem i_lsw {d o0 o1 : Int} {len q q0 q1 : Nat} (hd : decode K.2.2.1 pc = .ok (.lookupswitch d #[(0, o0), (1, o1)], len)) (hq : (pc : Int) + d = (q : Int)) (h0 : (pc : Int) + o0 = (q0 : Int)) (h1 : (pc : Int) + o1 = (q1 : Int)) : Imp S K pc (j_sw 0 [q0, q1] q) := by
  rintro ⟨st, L, h⟩ q' σ' e
  unfold j_sw at e
  split at e
  · rename_i z st0 hz
    simp only at hz
    subst hz
    cases e
    refine gos_st fun P p l e R s m args below meth c Q H locs cells slots ls C h2 h3 h9 a => ?_
    by_cases e0 : n32 z = 0
    · rw [e0] at a
      exact lv_lookup C.1 C.2.1 hd rfl (off := o0) (by rw [i32_toInt, e0]; simp [Op.lookupswitch.offset_cons]) h0 a
    · by_cases e1 : n32 z = 1
      · rw [e1] at a
        exact lv_lookup C.1 C.2.1 hd rfl (off := o1) (by rw [i32_toInt, e1]; simp [Op.lookupswitch.offset_cons]) h1 a
      · have e2 : (if (0 : Int) ≤ n32 z then ([q0, q1] : List Nat).getD (n32 z - 0).toNat q else q) = q := by
          by_cases hp : (0 : Int) ≤ n32 z
          · rw [if_pos hp, List.getD_eq_getElem?_getD, List.getElem?_eq_none (by simp; omega)]; rfl
          · rw [if_neg hp]
        rw [e2] at a
        exact lv_lookup C.1 C.2.1 hd rfl (off := d) (by rw [i32_toInt]; simp [Op.lookupswitch.offset_cons, Op.lookupswitch.offset, e0, e1, Ne.symm e0, Ne.symm e1]) hq a
  · cases e
end Ops2
end
section
/-! THE HEAP'S INSTRUCTIONS -/
theorem cl_at : ∀ c, c < 9 → vwCl[c]? = some (clS c, clT c, clN c) := by
  intro c h
  match c, h with
  | 0, _ => rfl
  | 1, _ => rfl
  | 2, _ => rfl
  | 3, _ => rfl
  | 4, _ => rfl
  | 5, _ => rfl
  | 6, _ => rfl
  | 7, _ => rfl
  | 8, _ => rfl
  | _ + 9, h => omega
theorem cl_in : ∀ c, c < 9 → ∀ w ∈ u_ws (clS c) (clT c) (clN c), w ∈ lw_tbl ∧ goodWord w = true := by decide +kernel
theorem cl_tG {c : Nat} (h : c < 9) : ∀ w ∈ u_ws (clS c) (clT c) (clN c), w ∈ tG := fun w hw => tG_of (cl_in c h w hw).1 (cl_in c h w hw).2
def clY (c : Nat) : Nat → FieldType := match c with
  | 0 => tyX0
  | 1 => tyX1
  | 2 => tyX2
  | 3 => tyX3
  | 4 => tyX4
  | 5 => tyX5
  | 6 => tyX6
  | 7 => tyX7
  | _ => tyX8
theorem cl_ty : ∀ c, c < 9 → ∀ k, k < clN c → parseFieldDescriptor (clT c k).2.2.1 = some (clY c k) := by decide +kernel
theorem cl_nm : ∀ c, c < 9 → ∀ a, a < clN c → ∀ b, b < clN c → a ≠ b → (clT c a).2.1 ≠ (clT c b).2.1 := by decide +kernel
/-- the kind of a field's type -/
def kY (t : FieldType) : Nat := match t with
  | .int => 0
  | .long => 1
  | .boolean => 3
  | .object _ => 2
  | .array _ => 2
  | _ => 9
theorem kY_ok : ∀ c, c < 9 → ∀ k, k < clN c → kY (clY c k) = fT c k := by decide +kernel
theorem eC_o {P : Par} {c n : Nat} {r : Nat → Option Nat} {m : Int → Int} (h : c < 9) : eC P (c, n, r) m = .inr (c, (List.range n).map (fV P c m r)) := if_pos h
theorem eC_i {P : Par} {c n : Nat} {r : Nat → Option Nat} {m : Int → Int} (h : 9 ≤ c) (h2 : c < 12) : eC P (c, n, r) m = .inl (P.2.2.1 c, n, .inl (fun i => Int32.ofInt (m i))) := by
  unfold eC
  rw [if_neg (by show ¬ c < 9; omega), if_pos h2]
theorem eC_r {P : Par} {c n : Nat} {r : Nat → Option Nat} {m : Int → Int} (h : 12 ≤ c) : eC P (c, n, r) m = .inl (P.2.2.1 c, n, .inr (.inr (.inr (.inr (fun i => (r i).map (fun k => P.1 + k)))))) := by
  unfold eC
  rw [if_neg (by show ¬ c < 9; omega), if_neg (by show ¬ c < 12; omega)]
theorem fs_at {P : Par} {c n k : Nat} {r : Nat → Option Nat} {m : Int → Int} (h : k < n) : ((List.range n).map (fV P c m r))[k]? = some (fV P c m r k) := by
  rw [List.getElem?_map, List.getElem?_range h]; rfl
theorem fV_1 {P : Par} {c k : Nat} {r : Nat → Option Nat} {m : Int → Int} (h : fT c k = 1) : fV P c m r k = .long (Int64.ofInt (m k)) := if_pos h
theorem fV_2 {P : Par} {c k : Nat} {r : Nat → Option Nat} {m : Int → Int} (h : fT c k = 2) : fV P c m r k = cV P (rfv (r k)) := by
  unfold fV
  rw [if_neg (by omega), if_pos h]
theorem fV_0 {P : Par} {c k : Nat} {r : Nat → Option Nat} {m : Int → Int} (h1 : ¬ fT c k = 1) (h : ¬ fT c k = 2) : fV P c m r k = .int (Int32.ofInt (m k)) := by
  unfold fV
  rw [if_neg h1, if_neg h]
/-- two heaps' pictures are the same list -/
theorem ws_ext {P : Par} {h : Hp} {w : va_W} (hl : w.length = h.1.length) (ha : ∀ (k : Nat) (sh : Sh), h.1[k]? = some sh → w[k]? = some (P.1 + k, eC P sh (h.2 k))) : w = wsOf P h := by
  apply List.ext_getElem?
  intro k
  rw [ws_get]
  cases e : h.1[k]? with
  | none =>
    have := List.getElem?_eq_none_iff.mp e
    rw [List.getElem?_eq_none (by omega)]
    rfl
  | some sh => rw [ha k sh e]; rfl

theorem um_ne {M : Nat → Int → Int} {a j : Nat} {i z : Int} (h : ¬ a = j) : um M a i z j = M j := by
  funext q
  unfold um
  rw [if_neg (fun x => h x.1.symm)]
/-- one cell's picture changes -/
theorem ws_set {P : Par} {h h' : Hp} {a : Nat} {sh' : Sh} {x : va_E} (ha : a < h.1.length) (hl : h'.1.length = h.1.length) (hs : h'.1[a]? = some sh') (hx : eC P sh' (h'.2 a) = x) (ho : ∀ j, ¬ a = j → h'.1[j]? = h.1[j]? ∧ h'.2 j = h.2 j) :
    (wsOf P h).set a (P.1 + a, x) = wsOf P h' := by
  refine ws_ext (by rw [List.length_set, ws_len, hl]) (fun j sh hj => ?_)
  rw [List.getElem?_set]
  split
  · rename_i e
    subst e
    rw [if_pos (by rw [ws_len]; exact ha)]
    have e2 : sh = sh' := Option.some.inj (hj.symm.trans hs)
    rw [e2, hx]
  · rename_i hne
    obtain ⟨o1, o2⟩ := ho j hne
    rw [o1] at hj
    rw [ws_at hj, o2]
/-- one number of an object changes -/
theorem ws_um {P : Par} {T : List Sh} {M : Nat → Int → Int} {a c n : Nat} {r : Nat → Option Nat} {k : Nat} {z : Int} (hT : T[a]? = some (c, n, r)) (hc : c < 9) (hk : k < n) (v : Value) (hv : fV P c (um M a k z a) r k = v) (hn : ¬ fT c k = 2) :
    (wsOf P (T, M)).set a (P.1 + a, .inr (c, ((List.range n).map (fV P c (M a) r)).set k v)) = wsOf P (T, um M a k z) := by
  refine ws_set (h' := (T, um M a k z)) (List.getElem?_eq_some_iff.mp hT).1 rfl hT ?_ (fun j hj => ⟨rfl, um_ne hj⟩)
  rw [eC_o hc]
  congr 2
  apply List.ext_getElem?
  intro i
  rw [List.getElem?_set]
  split
  · rename_i e3
    subst e3
    rw [if_pos (by simpa using hk), fs_at hk, hv]
  · rename_i hne
    rw [List.getElem?_map, List.getElem?_map]
    by_cases hi : i < n
    · rw [List.getElem?_range hi]
      show some _ = some _
      congr 1
      unfold fV
      have e4 : um M a (k : Int) z a (i : Int) = M a (i : Int) := by
        unfold um
        rw [if_neg (fun q => hne (by have := q.2; omega))]
      simp only [e4]
    · rw [List.getElem?_eq_none (by simpa using hi)]; rfl
/-- one reference of an object changes -/
theorem ws_ur {P : Par} {T : List Sh} {M : Nat → Int → Int} {a c n : Nat} {r : Nat → Option Nat} {k v : Nat} (hT : T[a]? = some (c, n, r)) (hc : c < 9) (hk : k < n) (h2 : fT c k = 2) :
    (wsOf P (T, M)).set a (P.1 + a, .inr (c, ((List.range n).map (fV P c (M a) r)).set k (.ref (P.1 + v)))) = wsOf P (T.set a (c, n, uf r k (some v)), M) := by
  have hlt := (List.getElem?_eq_some_iff.mp hT).1
  refine ws_set (h' := (T.set a (c, n, uf r k (some v)), M)) (sh' := (c, n, uf r k (some v))) hlt (by simp) (by simp [hlt]) ?_ (fun j hj => ⟨by rw [List.getElem?_set_ne hj], rfl⟩)
  rw [eC_o hc]
  congr 2
  apply List.ext_getElem?
  intro i
  rw [List.getElem?_set]
  split
  · rename_i e3
    subst e3
    rw [if_pos (by simpa using hk), fs_at hk, fV_2 h2]
    unfold uf
    rw [if_pos rfl]
    rfl
  · rename_i hne
    rw [List.getElem?_map, List.getElem?_map]
    by_cases hi : i < n
    · rw [List.getElem?_range hi]
      show some _ = some _
      congr 1
      have e5 : uf r k (some v) i = r i := by
        unfold uf
        rw [if_neg (fun q => hne q.symm)]
      unfold fV
      simp only [e5]
    · rw [List.getElem?_eq_none (by simpa using hi)]; rfl
/-- one number of a row changes -/
theorem ws_ua {P : Par} {T : List Sh} {M : Nat → Int → Int} {a c n : Nat} {r : Nat → Option Nat} {i z : Int} {j : Nat} {v : Int32} (hT : T[a]? = some (c, n, r)) (h1 : 9 ≤ c) (h2 : c < 12) (hj : (j : Int) = i) (hv : Int32.ofInt z = v) :
    (wsOf P (T, M)).set a (P.1 + a, .inl (P.2.2.1 c, n, .inl (upd (fun q => Int32.ofInt (M a q)) j v))) = wsOf P (T, um M a i z) := by
  refine ws_set (h' := (T, um M a i z)) (List.getElem?_eq_some_iff.mp hT).1 rfl hT ?_ (fun j hj => ⟨rfl, um_ne hj⟩)
  rw [eC_i h1 h2]
  congr 4
  funext q
  show Int32.ofInt (um M a i z a q) = _
  unfold upd um
  by_cases e3 : q = j
  · rw [if_pos e3, if_pos ⟨rfl, by rw [e3]; exact hj⟩, hv]
  · rw [if_neg e3, if_neg (fun x => e3 (by have := x.2; omega))]
/-- one reference of a row changes -/
theorem ws_uq {P : Par} {T : List Sh} {M : Nat → Int → Int} {a c n : Nat} {r : Nat → Option Nat} {j v : Nat} (hT : T[a]? = some (c, n, r)) (h1 : 12 ≤ c) :
    (wsOf P (T, M)).set a (P.1 + a, .inl (P.2.2.1 c, n, .inr (.inr (.inr (.inr (va_up (fun i => (r i).map (fun k => P.1 + k)) j (some (P.1 + v)))))))) = wsOf P (T.set a (c, n, uf r j (some v)), M) := by
  have hlt := (List.getElem?_eq_some_iff.mp hT).1
  refine ws_set (h' := (T.set a (c, n, uf r j (some v)), M)) (sh' := (c, n, uf r j (some v))) hlt (by simp) (by simp [hlt]) ?_ (fun j hj => ⟨by rw [List.getElem?_set_ne hj], rfl⟩)
  rw [eC_r h1]
  congr 7
  funext i
  unfold va_up uf
  by_cases e : i = j
  · rw [if_pos e, if_pos e]; rfl
  · rw [if_neg e, if_neg e]
theorem sz_set {T : List Sh} {a c c' n : Nat} {r r' : Nat → Option Nat} (hT : T[a]? = some (c, n, r)) : sz (T.set a (c', n, r')) = sz T := by
  unfold sz
  rw [List.map_set]
  congr 1
  apply List.ext_getElem?
  intro i
  rw [List.getElem?_set]
  split
  · rename_i e
    subst e
    rw [List.getElem?_map, hT]
    simp only [List.length_map]
    rw [if_pos (List.getElem?_eq_some_iff.mp hT).1]
    rfl
  · rfl
theorem ws_lb {P : Par} {h : Hp} {H : Heap} (h0 : P.1 ≤ H.size) (hP : va_P P.2.1 vwCl (wsOf P h) H) : P.1 + h.1.length ≤ H.size := by
  cases hn : h.1.length with
  | zero => exact h0
  | succ n =>
    have hlt : n < h.1.length := by omega
    have e := ws_at (P := P) (h := h) (List.getElem?_eq_getElem hlt)
    have h9 : P.1 + n < H.size := (hP n _ e).lt
    omega
/-- an instruction that changes numbers or references of the heap, not how much there is -/
theorem gos_hp {S : List Int} {K : Mt} {pc q : Nat} {st st' : List AV} {L : List (Option AV)} {T T' : List Sh} {M M' : Nat → Int → Int} (hl : T'.length = T.length) (hz : sz T' = sz T)
    (k : ∀ (P : Par) (p : Program) (l : Launch) (e : Env) (R : Room) (s : State) (m : MethodId) (args : Array Value) (below : List Frame) (meth : Method) (c : Code) (Q : State → Prop) (H : Heap) (locs : List Loc) (cells slots : Nat) (ls : Array Slot),
      Cx S K P p R s m args meth c → hR P (T, M) H → va_S (aA P) s.heap H locs → lR P K.2.2.2.1 L ls → (∀ H' locs', va_P P.2.1 vwCl (wsOf P (T', M')) H' → va_S (aA P) s.heap H' locs' → W p l e R s m args below meth c H' locs' cells slots Q (F0 m q ls (st'.map (cV P)))) → W p l e R s m args below meth c H locs cells slots Q (F0 m pc ls (st.map (cV P)))) :
    Gos S K pc q (st, L, T, M) (st', L, T', M') :=
  ⟨⟨Nat.le_of_eq hl.symm, Nat.le_of_eq hz.symm⟩, fun P p l e R s m args below meth c Q t0 z0 C h0 _ _ _ a ls H locs h1 h2 h3 => k P p l e R s m args below meth c Q H locs _ _ ls C h2 h3 h1 (fun H' locs' e2 e3 X hX hSt => by
    have u1 := hSt.heapSize
    rw [hX] at u1
    have u2 := ws_lb (h := (T', M')) (Nat.le_trans (by rw [h0.1]; exact Nat.le_add_right _ _) e3.1) e2
    have u3 := h0.1
    have u4 := h0.2
    simp only at u1 u2 u4
    have := a ls H' locs' h1 ⟨by show H'.size = P.1 + T'.length; rw [hl] at u2 ⊢; omega, e2⟩ e3
    simp only [hl, hz] at this
    exact this X hX hSt)⟩

theorem ftc_lt (d : String) : ftc d < 4 := by
  unfold ftc
  by_cases h1 : d = "I"
  · rw [if_pos h1]; omega
  · rw [if_neg h1]
    by_cases h2 : d = "J"
    · rw [if_pos h2]; omega
    · rw [if_neg h2]
      by_cases h3 : d = "Z"
      · rw [if_pos h3]; omega
      · rw [if_neg h3]; omega
theorem b_fits {z : Int} (h : z = 0 ∨ z = 1) : narrow .boolean (.int (Int32.ofInt z)) = .int (Int32.ofInt z) ∧ fits .boolean (.int (Int32.ofInt z)) = true := by
  rcases h with rfl | rfl
  · exact ⟨by decide, by decide⟩
  · exact ⟨by decide, by decide⟩
section Ops3
variable {S : List Int} {K : Mt} {pc : Nat}

theorem s_get {c k i : Nat} (hd : decode K.2.2.1 pc = .ok (.getfield i, 3)) (hc : c < 9) (hk : k < clN c) (hw : Cond.fieldLink (clS K.1) i (clT c k).1 (clT c k).2.1 (clT c k).2.2.1 ∈ tG) : Seg S K pc (pc + 3) (x_get c k) := by
  rintro ⟨st, L, T, M⟩ σ' e
  unfold x_get at e
  split at e
  · rename_i a st0 hz
    simp only at hz
    subst hz
    split at e
    · rename_i c' n r hT
      split at e
      · rename_i hcn
        obtain ⟨rfl, rfl⟩ := hcn
        simp only at hT
        have key : ∀ v : AV, (∀ P : Par, cV P v = fV P c' (M a) r k) → Gos S K pc (pc + 3) (Sum.inr (Sum.inr (Sum.inl a)) :: st0, L, T, M) (v :: st0, L, T, M) := by
          intro v hv
          refine gos_st fun P p l e R s m args below meth c Q H locs cells slots ls C h2 h3 h1 x => ?_
          have hP := h2.2
          have he := ws_at (P := P) (h := (T, M)) hT
          rw [eC_o hc] at he
          exact va_get C.1 C.2.1 C.2.2.2.2.1 (cl_tG hc) C.2.2.2.1 C.2.2.2.2.2.2.2.2.1.1 hP a he (cl_at c' hc) k hk (C.2.2.2.2.1 _ hw) (fun _ h9 => h9) (fs_at hk) hd (by rw [← hv P]; exact x)
        split at e
        · rename_i f1
          cases e
          exact key _ (fun P => (fV_1 f1).symm)
        · rename_i f1
          split at e
          · rename_i f2
            cases e
            exact key _ (fun P => (fV_2 f2).symm)
          · rename_i f2
            cases e
            exact key _ (fun P => (fV_0 f1 f2).symm)
      · cases e
    · cases e
  · cases e

theorem s_puti {c k i : Nat} (hd : decode K.2.2.1 pc = .ok (.putfield i, 3)) (hc : c < 9) (hk : k < clN c) (hw : Cond.fieldLink (clS K.1) i (clT c k).1 (clT c k).2.1 (clT c k).2.2.1 ∈ tG) (hf : (clT c k).2.2.2 = false) (h1f : ¬ fT c k = 1) (h2f : ¬ fT c k = 2) : Seg S K pc (pc + 3) (x_puti c k) := by
  rintro ⟨st, L, T, M⟩ σ' e
  unfold x_puti at e
  split at e
  · rename_i z a st0 hz
    simp only at hz
    subst hz
    split at e
    · rename_i c' n r hT
      split at e
      · rename_i hcn
        simp only at hT
        obtain ⟨rfl, rfl, hb⟩ := hcn
        cases e
        refine gos_hp rfl rfl fun P p l e R s m args below meth c Q H locs cells slots ls C h2 h3 h1 x => ?_
        have he := ws_at (P := P) (h := (T, M)) hT
        rw [eC_o hc] at he
        have hY := kY_ok c' hc k hk
        have hnf : narrow (clY c' k) (.int (Int32.ofInt z)) = .int (Int32.ofInt z) ∧ fits (clY c' k) (.int (Int32.ofInt z)) = true := by
          cases hy : clY c' k with
          | int => exact ⟨rfl, rfl⟩
          | boolean => rw [hy] at hY; exact b_fits (hb hY.symm)
          | long => rw [hy] at hY; exact absurd hY.symm h1f
          | object _ => rw [hy] at hY; exact absurd hY.symm h2f
          | array _ => rw [hy] at hY; exact absurd hY.symm h2f
          | _ =>
            have h9 : fT c' k < 4 := by rw [fT_ok c' hc k hk]; exact ftc_lt _
            rw [hy] at hY
            have hY : 9 = fT c' k := hY
            omega
        refine va_put C.1 C.2.1 C.2.2.2.2.1 (cl_tG hc) (clY c') (cl_ty c' hc) (cl_nm c' hc) C.2.2.2.1 C.2.2.2.2.2.2.2.2.1.1 h2.2 (ws_D P (T, M)) h3 a he (cl_at c' hc) k hk (C.2.2.2.2.1 _ hw) (fun _ h9 => h9) hf (cl_ty c' hc k hk) hnf.1 hnf.2 (by simpa using hk) hd (fun H1 locs1 g1 g2 g3 => ?_)
        have e5 := ws_um (P := P) (M := M) (z := z) hT hc hk (.int (Int32.ofInt z)) (by rw [fV_0 h1f h2f]; unfold um; rw [if_pos ⟨rfl, rfl⟩]) h2f
        refine x H1 locs1 ?_ g3
        show va_P P.2.1 vwCl (wsOf P (T, um M a k z)) H1
        rw [← e5]
        exact g1
      · cases e
    · cases e
  · cases e

theorem s_putl {c k i : Nat} (hd : decode K.2.2.1 pc = .ok (.putfield i, 3)) (hc : c < 9) (hk : k < clN c) (hw : Cond.fieldLink (clS K.1) i (clT c k).1 (clT c k).2.1 (clT c k).2.2.1 ∈ tG) (hf : (clT c k).2.2.2 = false) (h1f : fT c k = 1) : Seg S K pc (pc + 3) (x_putl c k) := by
  rintro ⟨st, L, T, M⟩ σ' e
  unfold x_putl at e
  split at e
  · rename_i z a st0 hz
    simp only at hz
    subst hz
    split at e
    · rename_i c' n r hT
      split at e
      · rename_i hcn
        simp only at hT
        obtain ⟨rfl, rfl⟩ := hcn
        cases e
        refine gos_hp rfl rfl fun P p l e R s m args below meth c Q H locs cells slots ls C h2 h3 h1 x => ?_
        have he := ws_at (P := P) (h := (T, M)) hT
        rw [eC_o hc] at he
        have hY := kY_ok c' hc k hk
        have hnf : narrow (clY c' k) (.long (Int64.ofInt z)) = .long (Int64.ofInt z) ∧ fits (clY c' k) (.long (Int64.ofInt z)) = true := by
          cases hy : clY c' k with
          | long => exact ⟨rfl, rfl⟩
          | _ => rw [hy] at hY; exact absurd (hY.trans h1f) (by simp [kY])
        refine va_put C.1 C.2.1 C.2.2.2.2.1 (cl_tG hc) (clY c') (cl_ty c' hc) (cl_nm c' hc) C.2.2.2.1 C.2.2.2.2.2.2.2.2.1.1 h2.2 (ws_D P (T, M)) h3 a he (cl_at c' hc) k hk (C.2.2.2.2.1 _ hw) (fun _ h9 => h9) hf (cl_ty c' hc k hk) hnf.1 hnf.2 (by simpa using hk) hd (fun H1 locs1 g1 g2 g3 => ?_)
        have e5 := ws_um (P := P) (M := M) (z := z) hT hc hk (.long (Int64.ofInt z)) (by rw [fV_1 h1f]; unfold um; rw [if_pos ⟨rfl, rfl⟩]) (by omega)
        refine x H1 locs1 ?_ g3
        show va_P P.2.1 vwCl (wsOf P (T, um M a k z)) H1
        rw [← e5]
        exact g1
      · cases e
    · cases e
  · cases e

theorem s_putr {c k i : Nat} (hd : decode K.2.2.1 pc = .ok (.putfield i, 3)) (hc : c < 9) (hk : k < clN c) (hw : Cond.fieldLink (clS K.1) i (clT c k).1 (clT c k).2.1 (clT c k).2.2.1 ∈ tG) (hf : (clT c k).2.2.2 = true) (hn2 : K.2.1 = "<init>") (ho : (clT c k).1 = clS K.1) (h2f : fT c k = 2) : Seg S K pc (pc + 3) (x_putr c k) := by
  rintro ⟨st, L, T, M⟩ σ' e
  unfold x_putr at e
  split at e
  · rename_i v a st0 hz
    simp only at hz
    subst hz
    split at e
    · rename_i c' n r hT
      split at e
      · rename_i hcn
        simp only at hT
        obtain ⟨rfl, rfl⟩ := hcn
        cases e
        refine gos_hp (by simp) (sz_set hT) fun P p l e R s m args below meth c Q H locs cells slots ls C h2 h3 h1 x => ?_
        have he := ws_at (P := P) (h := (T, M)) hT
        rw [eC_o hc] at he
        have hY := kY_ok c' hc k hk
        have hnf : narrow (clY c' k) (.ref (P.1 + v)) = .ref (P.1 + v) ∧ fits (clY c' k) (.ref (P.1 + v)) = true := by
          cases hy : clY c' k with
          | object _ => exact ⟨rfl, rfl⟩
          | array _ => exact ⟨rfl, rfl⟩
          | _ => rw [hy] at hY; exact absurd (hY.trans h2f) (by simp [kY])
        refine va_putF C.1 C.2.1 C.2.2.2.2.1 (cl_tG hc) (clY c') (cl_ty c' hc) (cl_nm c' hc) C.2.2.2.1 C.2.2.2.2.2.2.2.2.1.1 h2.2 (ws_D P (T, M)) h3 a he (cl_at c' hc) k hk (C.2.2.2.2.1 _ hw) (fun _ h9 => h9) hf (C.2.2.2.2.2.1.trans hn2) ho (cl_ty c' hc k hk) hnf.1 hnf.2 (by simpa using hk) hd (fun H1 locs1 g1 g2 g3 => ?_)
        have e5 := ws_ur (P := P) (M := M) (v := v) hT hc hk h2f
        refine x H1 locs1 ?_ g3
        show va_P P.2.1 vwCl (wsOf P (T.set a (c', clN c', uf r k (some v)), M)) H1
        rw [← e5]
        exact g1
      · cases e
    · cases e
  · cases e

end Ops3
end
section
/-! ROWS OF NUMBERS AND OF REFERENCES, WORDS, WHAT IS MADE -/
def tyK (k : Nat) : FieldType := match k with
  | 9 => .int
  | 10 => .byte
  | 11 => .boolean
  | 12 => .object RX5
  | 13 => .object RX6
  | _ => .array .int
theorem ty_at (P : Par) : ∀ k, 9 ≤ k → k < 15 → (tyL P)[k - 9]? = some (P.2.2.1 k, tyK k) := by
  intro k h1 h2
  have h : k = 9 ∨ k = 10 ∨ k = 11 ∨ k = 12 ∨ k = 13 ∨ k = 14 := by omega
  rcases h with rfl | rfl | rfl | rfl | rfl | rfl <;> rfl
theorem i32_nat (n : Nat) : Int32.ofNat n = Int32.ofInt (n : Int) := by
  rw [← Int32.toInt_inj, i32_toInt, Int32.toInt_ofNat', ← i32_bm]
theorem c_ro {S : List Int} {P : Par} {U : State} {H : Heap} (h : Wc S P U H) {j : Nat} (hj : j < 3) : ∃ a, cV P (vO j) = .ref a ∧ va_T .int a (roL S j).length (fun i => .int (Int32.ofInt ((roL S j).getD i 0))) (aA P) U H := by
  obtain ⟨ad, h0, -, -, h3, -⟩ := h
  refine ⟨ad j, ?_, h3 j hj⟩
  show va_rf (P.2.2.2 j) = _
  rw [h0 j (by omega)]
  rfl
theorem sB_ok : ∀ i, i < 8 → ∀ j, j < 7 → (sByt.getD i []).getD j 0 = Int32.ofInt ((roL [] (11 + i)).getD j 0) := by decide +kernel
theorem sL_ok : ∀ i, i < 8 → sLen.getD i 0 = (roL [] (11 + i)).length ∧ sLen.getD i 0 ≤ 7 := by decide +kernel
theorem roL_S {S : List Int} {j : Nat} (h1 : 11 ≤ j) (h2 : j < 19) : roL S j = roL [] j := by
  have h : j = 11 ∨ j = 12 ∨ j = 13 ∨ j = 14 ∨ j = 15 ∨ j = 16 ∨ j = 17 ∨ j = 18 := by omega
  rcases h with rfl | rfl | rfl | rfl | rfl | rfl | rfl | rfl <;> rfl
theorem va_T.cg {ty : FieldType} {t N : Nat} {f g : Nat → Value} {A : Nat → Prop} {U : State} {H : Heap} (h : va_T ty t N f A U H) (e : ∀ j, j < N → f j = g j) : va_T ty t N g A U H := by
  obtain ⟨cell, h1, h2, h3, h4, h5, h6, h7⟩ := h
  exact ⟨cell, h1, h2, h3, h4, h5, fun j hj => by rw [h6 j hj, e j hj], h7⟩
theorem c_rb {S : List Int} {P : Par} {U : State} {H : Heap} (h : Wc S P U H) {j : Nat} (h1 : 11 ≤ j) (hj : j < 19) : ∃ a, cV P (vO j) = .ref a ∧ va_T .byte a (roL S j).length (fun i => .int (Int32.ofInt ((roL S j).getD i 0))) (aA P) U H := by
  obtain ⟨ad, h0, -, -, -, -, -, h6⟩ := h
  have e : j = 11 + (j - 11) := by omega
  have hi : j - 11 < 8 := by omega
  have h9 : va_T .byte (ad (11 + (j - 11))) (sLen.getD (j - 11) 0) (fun k => .int ((sByt.getD (j - 11) []).getD k 0)) (aA P) U H := (h6.1 (j - 11) hi).2.2.2
  obtain ⟨g1, g2⟩ := sL_ok (j - 11) hi
  refine ⟨ad j, ?_, ?_⟩
  · show va_rf (P.2.2.2 j) = _
    rw [h0 j (by omega)]
    rfl
  · rw [roL_S h1 hj]
    rw [g1, ← e] at h9
    refine h9.cg (fun i hi2 => ?_)
    have g3 : i < 7 := by rw [g1, ← e] at g2; omega
    have := sB_ok (j - 11) hi i g3
    rw [← e] at this
    exact congrArg Value.int this
theorem sz_app (T T' : List Sh) : sz (T ++ T') = sz T + sz T' := by
  unfold sz
  rw [List.map_append, List.sum_append]
theorem ws_push (P : Par) (T : List Sh) (M : Nat → Int → Int) (sh : Sh) : wsOf P (T, M) ++ [(P.1 + T.length, eC P sh (fun _ => 0))] = wsOf P (T ++ [sh], zm M T.length) := by
  refine ws_ext (by rw [List.length_append, ws_len]; simp) (fun k s hk => ?_)
  have hlt := (List.getElem?_eq_some_iff.mp hk).1
  simp only [List.length_append, List.length_singleton] at hlt
  by_cases hl : k < T.length
  · simp only at hk
    rw [List.getElem?_append_left hl] at hk
    rw [List.getElem?_append_left (by rw [ws_len]; exact hl), ws_at (h := (T, M)) hk]
    show some (_, eC P s (M k)) = some (_, eC P s (zm M T.length k))
    have e : zm M T.length k = M k := by
      funext i
      unfold zm
      rw [if_neg (by omega)]
    rw [e]
  · have e : k = T.length := by omega
    subst e
    simp only at hk
    rw [List.getElem?_append_right (Nat.le_refl _), Nat.sub_self] at hk
    cases hk
    rw [List.getElem?_append_right (by rw [ws_len]; exact Nat.le_refl _), ws_len, Nat.sub_self]
    show some (_, eC P sh (fun _ => 0)) = some (_, eC P sh (zm M T.length T.length))
    have e : zm M T.length T.length = fun _ => 0 := by
      funext i
      unfold zm
      rw [if_pos (Nat.le_refl _)]
    rw [e]
/-- an instruction that makes one thing -/
theorem gos_nw {S : List Int} {K : Mt} {pc q' : Nat} {st st' : List AV} {L : List (Option AV)} {T : List Sh} {M : Nat → Int → Int} (sh : Sh)
    (k : ∀ (P : Par) (p : Program) (l : Launch) (e : Env) (R : Room) (s : State) (m : MethodId) (args : Array Value) (below : List Frame) (meth : Method) (c : Code) (Q : State → Prop) (H : Heap) (locs : List Loc) (cells slots : Nat) (ls : Array Slot),
      Cx S K P p R s m args meth c → hR P (T, M) H → va_S (aA P) s.heap H locs → lR P K.2.2.2.1 L ls → cells + 1 ≤ R.cells → slots + sh.2.1 ≤ R.slots → (∀ (q : Nat) (H' : Heap), va_P P.2.1 vwCl (wsOf P (T, M) ++ [(q, eC P sh (fun _ => 0))]) H' → va_D (aA P) (wsOf P (T, M) ++ [(q, eC P sh (fun _ => 0))]) → va_S (aA P) s.heap H' locs → W p l e R s m args below meth c H' locs (cells + 1) (slots + sh.2.1) Q (F0 m q' ls (.ref q :: st'.map (cV P)))) → W p l e R s m args below meth c H locs cells slots Q (F0 m pc ls (st.map (cV P)))) :
    Gos S K pc q' (st, L, T, M) (vR T.length :: st', L, T ++ [sh], zm M T.length) := by
  refine ⟨⟨by simp, by simp only [sz_app]; omega⟩, fun P p l e R s m args below meth c Q t0 z0 C h0 hz0 hc hs a ls H locs h1 h2 h3 => ?_⟩
  have e1 : (T ++ [sh]).length - t0 = T.length - t0 + 1 := by
    have := h0.2
    simp only [List.length_append, List.length_singleton] at this ⊢
    omega
  have e0 : sz [sh] = sh.2.1 := by simp [sz]
  have e2 : sz (T ++ [sh]) - z0 = sz T - z0 + sh.2.1 := by
    simp only at hz0
    rw [sz_app, e0]
    omega
  simp only [e1, e2] at hc hs
  refine k P p l e R s m args below meth c Q H locs _ _ ls C h2 h3 h1 hc hs (fun q H' g1 g2 g3 X hX hSt => ?_)
  have u1 : H'.size ≤ s.heap.size + (T.length - t0 + 1) := by
    have := hSt.heapSize
    rw [hX] at this
    exact this
  have u3 := h0.1
  have u4 : t0 ≤ T.length := h0.2
  have hq : (wsOf P (T, M) ++ [(q, eC P sh (fun _ => 0))])[T.length]? = some (q, eC P sh (fun _ => 0)) := by
    rw [List.getElem?_append_right (by rw [ws_len]; exact Nat.le_refl _), ws_len, Nat.sub_self]; rfl
  have q1 : q < H'.size := (g1 _ _ hq).lt
  have q2 : P.1 ≤ q := g2.2 _ _ hq
  have q3 : q = P.1 + T.length := by
    rcases Nat.lt_or_ge q (P.1 + T.length) with hlt | hge
    · have hk : q - P.1 < T.length := by omega
      have e3 : (wsOf P (T, M) ++ [(q, eC P sh (fun _ => 0))])[q - P.1]? = some (P.1 + (q - P.1), eC P T[q - P.1] (M (q - P.1))) := by
        rw [List.getElem?_append_left (by rw [ws_len]; exact hk)]
        exact ws_at (h := (T, M)) (List.getElem?_eq_getElem hk)
      have := g2.1 _ _ _ _ hq e3 (by show q = P.1 + (q - P.1); omega)
      omega
    · omega
  subst q3
  rw [ws_push] at g1
  have := a ls H' locs h1 ⟨by show H'.size = P.1 + (T ++ [sh]).length; simp; omega, g1⟩ g3
  simp only [e1, e2] at this
  exact this X hX hSt
section Ops4
variable {S : List Int} {K : Mt} {pc : Nat}
theorem s_iaload (hd : decode K.2.2.1 pc = .ok (.iaload, 1)) : Seg S K pc (pc + 1) (x_iald S) := by
  rintro ⟨st, L, T, M⟩ σ' e
  unfold x_iald at e
  split at e
  · rename_i i a st0 hz
    simp only at hz
    subst hz
    split at e
    · rename_i k' n r hT
      split at e
      · rename_i hg
        obtain ⟨g0, g1, g2⟩ := hg
        simp only at hT
        cases e
        refine gos_st fun P p l e R s m args below meth c Q H locs cells slots ls C h2 h3 h1 x => ?_
        have he := ws_at (P := P) (h := (T, M)) hT
        subst g0
        rw [eC_i (by omega) (by omega)] at he
        refine va_iald C.1 C.2.1 C.2.2.2.2.2.2.2.2.1.1 h2.2 a 0 he rfl (i32_in g1 g2) hd ?_
        rw [i32_clamp, Int.toNat_of_nonneg g1]
        exact x
      · cases e
    · cases e
  · rename_i i j st0 hz
    simp only at hz
    subst hz
    split at e
    · rename_i hg
      obtain ⟨g0, g1, g2⟩ := hg
      cases e
      refine gos_st fun P p l e R s m args below meth c Q H locs cells slots ls C h2 h3 h1 x => ?_
      obtain ⟨b, hb, hT⟩ := c_ro C.2.2.2.2.2.2.2.2.1.2.2.2 g0
      refine W.eq (show _ = F0 m pc ls (.int (Int32.ofInt i) :: .ref b :: st0.map (cV P)) by rw [← hb]; rfl) ?_
      refine va_ti C.1 C.2.1 hT h3 (i32_in g1 g2) rfl hd ?_
      rw [i32_clamp]
      exact x
    · cases e
  · cases e
theorem s_baload (hd : decode K.2.2.1 pc = .ok (.baload, 1)) : Seg S K pc (pc + 1) (x_bald S) := by
  rintro ⟨st, L, T, M⟩ σ' e
  unfold x_bald at e
  split at e
  · rename_i i a st0 hz
    simp only at hz
    subst hz
    split at e
    · rename_i k' n r hT
      split at e
      · rename_i hg
        obtain ⟨g0, g1, g2⟩ := hg
        simp only at hT
        cases e
        refine gos_st fun P p l e R s m args below meth c Q H locs cells slots ls C h2 h3 h1 x => ?_
        have he := ws_at (P := P) (h := (T, M)) hT
        rcases g0 with rfl | rfl
        · rw [eC_i (by omega) (by omega)] at he
          refine va_bald C.1 C.2.1 C.2.2.2.2.2.2.2.2.1.1 h2.2 a 1 he rfl (i32_in g1 g2) hd ?_
          rw [i32_clamp, Int.toNat_of_nonneg g1]
          exact x
        · rw [eC_i (by omega) (by omega)] at he
          refine va_zald C.1 C.2.1 C.2.2.2.2.2.2.2.2.1.1 h2.2 a 2 he rfl (i32_in g1 g2) hd ?_
          rw [i32_clamp, Int.toNat_of_nonneg g1]
          exact x
      · cases e
    · cases e
  · rename_i i j st0 hz
    simp only at hz
    subst hz
    split at e
    · rename_i hg
      obtain ⟨g0, g1, g2⟩ := hg
      cases e
      refine gos_st fun P p l e R s m args below meth c Q H locs cells slots ls C h2 h3 h1 x => ?_
      obtain ⟨b, hb, hT⟩ := c_rb C.2.2.2.2.2.2.2.2.1.2.2.2 g0.1 g0.2
      refine W.eq (show _ = F0 m pc ls (.int (Int32.ofInt i) :: .ref b :: st0.map (cV P)) by rw [← hb]; rfl) ?_
      refine va_tb C.1 C.2.1 hT h3 (i32_in g1 g2) rfl hd ?_
      rw [i32_clamp]
      exact x
    · cases e
  · cases e
theorem s_iastore (hd : decode K.2.2.1 pc = .ok (.iastore, 1)) : Seg S K pc (pc + 1) x_iast := by
  rintro ⟨st, L, T, M⟩ σ' e
  unfold x_iast at e
  split at e
  · rename_i z i a st0 hz
    simp only at hz
    subst hz
    split at e
    · rename_i k' n r hT
      split at e
      · rename_i hg
        obtain ⟨g0, g1, g2⟩ := hg
        simp only at hT
        cases e
        subst g0
        refine gos_hp rfl rfl fun P p l e R s m args below meth c Q H locs cells slots ls C h2 h3 h1 x => ?_
        have he := ws_at (P := P) (h := (T, M)) hT
        rw [eC_i (by omega) (by omega)] at he
        refine va_iast C.1 C.2.1 C.2.2.2.2.2.2.2.2.1.1 h2.2 (ws_D P (T, M)) h3 a 0 he rfl (i32_in g1 g2) hd (fun H1 locs1 y1 y2 y3 => ?_)
        have e5 := ws_ua (P := P) (M := M) (i := n32 i) (z := z) (j := (Int32.ofInt i).toNatClampNeg) (v := Int32.ofInt z) hT (by omega) (by omega) (by rw [i32_clamp, Int.toNat_of_nonneg g1]) rfl
        refine x H1 locs1 ?_ y3
        show va_P P.2.1 vwCl (wsOf P (T, um M a (n32 i) (z))) H1
        rw [← e5]
        exact y1
      · cases e
    · cases e
  · cases e
theorem s_bastore (hd : decode K.2.2.1 pc = .ok (.bastore, 1)) : Seg S K pc (pc + 1) x_bast := by
  rintro ⟨st, L, T, M⟩ σ' e
  unfold x_bast at e
  split at e
  · rename_i z i a st0 hz
    simp only at hz
    subst hz
    split at e
    · rename_i k' n r hT
      split at e
      · rename_i hg
        obtain ⟨g0, g1, g2⟩ := hg
        simp only at hT
        cases e
        rcases g0 with rfl | rfl
        · refine gos_hp rfl rfl fun P p l e R s m args below meth c Q H locs cells slots ls C h2 h3 h1 x => ?_
          have he := ws_at (P := P) (h := (T, M)) hT
          rw [eC_i (by omega) (by omega)] at he
          refine va_bast C.1 C.2.1 C.2.2.2.2.2.2.2.2.1.1 h2.2 (ws_D P (T, M)) h3 a 1 he rfl (i32_in g1 g2) hd (fun H1 locs1 y1 y2 y3 => ?_)
          have e5 := ws_ua (P := P) (M := M) (i := n32 i) (z := o_i2b z) (j := (Int32.ofInt i).toNatClampNeg) (v := vp_nar .byte (Int32.ofInt z)) hT (by omega) (by omega) (by rw [i32_clamp, Int.toNat_of_nonneg g1]) (by rw [vp_nar_byte]; exact Int32.ofInt_toInt _)
          refine x H1 locs1 ?_ y3
          show va_P P.2.1 vwCl (wsOf P (T, um M a (n32 i) (o_i2b z))) H1
          rw [← e5]
          exact y1
        · refine gos_hp rfl rfl fun P p l e R s m args below meth c Q H locs cells slots ls C h2 h3 h1 x => ?_
          have he := ws_at (P := P) (h := (T, M)) hT
          rw [eC_i (by omega) (by omega)] at he
          refine va_zast C.1 C.2.1 C.2.2.2.2.2.2.2.2.1.1 h2.2 (ws_D P (T, M)) h3 a 2 he rfl (i32_in g1 g2) hd (fun H1 locs1 y1 y2 y3 => ?_)
          have e5 := ws_ua (P := P) (M := M) (i := n32 i) (z := o_nz z) (j := (Int32.ofInt i).toNatClampNeg) (v := vp_nar .boolean (Int32.ofInt z)) hT (by omega) (by omega) (by rw [i32_clamp, Int.toNat_of_nonneg g1]) (Int32.ofInt_toInt _)
          refine x H1 locs1 ?_ y3
          show va_P P.2.1 vwCl (wsOf P (T, um M a (n32 i) (o_nz z))) H1
          rw [← e5]
          exact y1
      · cases e
    · cases e
  · cases e
theorem s_aaload (hd : decode K.2.2.1 pc = .ok (.aaload, 1)) : Seg S K pc (pc + 1) x_aald := by
  rintro ⟨st, L, T, M⟩ σ' e
  unfold x_aald at e
  split at e
  · rename_i i a st0 hz
    simp only at hz
    subst hz
    split at e
    · rename_i k' n r hT
      split at e
      · rename_i hg
        obtain ⟨g0, g1, g2⟩ := hg
        simp only at hT
        cases e
        refine gos_st fun P p l e R s m args below meth c Q H locs cells slots ls C h2 h3 h1 x => ?_
        have he := ws_at (P := P) (h := (T, M)) hT
        rw [eC_r g0.1] at he
        have hlt : (n32 i).toNat < n := by omega
        have ev : va_rf ((r (n32 i).toNat).map (fun k => P.1 + k)) = cV P (rfv (r (n32 i).toNat)) := by
          cases r (n32 i).toNat <;> rfl
        refine W.aald (v := va_rf ((r (n32 i).toNat).map (fun k => P.1 + k))) (ty := tyK k') C.1 C.2.1 (h2.2 a _ he) ((C.2.2.2.2.2.2.2.2.1.1.2 (k' - 9) _ (ty_at P k' (by omega) g0.2)).1 n (fun j => va_rf ((r j).map (fun k => P.1 + k)))) ?_ (fun q => by cases q) ?_ ?_ rfl rfl hd ?_
        · have h : k' = 12 ∨ k' = 13 ∨ k' = 14 := by omega
          rcases h with rfl | rfl | rfl <;> rfl
        · show ¬ (Int32.ofInt i < 0 ∨ (arrV _ _ _).slots.size ≤ _)
          rw [arrV_size]
          exact i32_in g1 g2
        · show (arrV _ _ _).slots[_]? = _
          rw [i32_clamp, arrV_read _ _ hlt]
        · rw [ev]
          exact x
      · cases e
    · cases e
  · cases e
theorem s_aastore (hd : decode K.2.2.1 pc = .ok (.aastore, 1)) : Seg S K pc (pc + 1) x_aast := by
  rintro ⟨st, L, T, M⟩ σ' e
  unfold x_aast at e
  split at e
  · rename_i v i a st0 hz
    simp only at hz
    subst hz
    split at e
    · rename_i k' n r hT
      split at e
      · rename_i c' n' r' hV
        split at e
        · rename_i hg
          obtain ⟨g0, g1, g2, g3⟩ := hg
          simp only at hT hV
          cases e
          have hk : 12 ≤ k' ∧ k' < 15 := by omega
          have hc' : c' < 9 := by omega
          refine gos_hp (by simp) (sz_set hT) fun P p l e R s m args below meth c Q H locs cells slots ls C h2 h3 h1 x => ?_
          have he := ws_at (P := P) (h := (T, M)) hT
          rw [eC_r hk.1] at he
          have hv := ws_at (P := P) (h := (T, M)) hV
          rw [eC_o hc'] at hv
          subst g3
          have ht : (tyL P)[k' - 9]? = some (P.2.2.1 k', .object (clS c')) := by
            rcases g0 with ⟨rfl, rfl⟩ | ⟨rfl, rfl⟩ <;> rfl
          refine va_astq C.1 C.2.1 C.2.2.2.2.2.2.2.2.1.1 h2.2 (ws_D P (T, M)) h3 a (k' - 9) v c' he (r := (clS c', clT c', clN c')) ht hv (cl_at c' hc') (i32_in g1 g2) hd (fun H1 locs1 y1 y2 y3 => ?_)
          have e5 := ws_uq (P := P) (M := M) (v := v) (j := (Int32.ofInt i).toNatClampNeg) hT hk.1
          rw [i32_clamp] at e5 y1
          refine x H1 locs1 ?_ y3
          show va_P P.2.1 vwCl (wsOf P (T.set a (k', n, uf r (n32 i).toNat (some v)), M)) H1
          rw [← e5]
          exact y1
        · cases e
      · cases e
    · cases e
  · cases e
theorem s_alen (hd : decode K.2.2.1 pc = .ok (.arraylength, 1)) : Seg S K pc (pc + 1) (x_alen S) := by
  rintro ⟨st, L, T, M⟩ σ' e
  unfold x_alen at e
  split at e
  · rename_i a st0 hz
    simp only at hz
    subst hz
    split at e
    · rename_i k' n r hT
      split at e
      · rename_i hg
        simp only at hT
        cases e
        refine gos_st fun P p l e R s m args below meth c Q H locs cells slots ls C h2 h3 h1 x => ?_
        have he := ws_at (P := P) (h := (T, M)) hT
        by_cases h9 : k' < 12
        · rw [eC_i hg.1 h9] at he
          exact va_alen C.1 C.2.1 C.2.2.2.2.2.2.2.2.1.1 h2.2 a (k' - 9) he (ty_at P k' hg.1 hg.2) (i32_nat n) hd x
        · rw [eC_r (by omega)] at he
          exact va_alen C.1 C.2.1 C.2.2.2.2.2.2.2.2.1.1 h2.2 a (k' - 9) he (ty_at P k' hg.1 hg.2) (i32_nat n) hd x
      · cases e
    · cases e
  · rename_i j st0 hz
    simp only at hz
    subst hz
    split at e
    · rename_i hg
      cases e
      refine gos_st fun P p l e R s m args below meth c Q H locs cells slots ls C h2 h3 h1 x => ?_
      rcases hg with hg | hg
      · obtain ⟨b, hb, hT⟩ := c_ro C.2.2.2.2.2.2.2.2.1.2.2.2 hg
        refine W.eq (show _ = F0 m pc ls (.ref b :: st0.map (cV P)) by rw [← hb]; rfl) ?_
        exact va_tlen C.1 C.2.1 hT h3 (i32_nat _) hd x
      · obtain ⟨b, hb, hT⟩ := c_rb C.2.2.2.2.2.2.2.2.1.2.2.2 hg.1 hg.2
        refine W.eq (show _ = F0 m pc ls (.ref b :: st0.map (cV P)) by rw [← hb]; rfl) ?_
        exact va_tlen C.1 C.2.1 hT h3 (i32_nat _) hd x
    · cases e
  · cases e
theorem s_gstr {k i : Nat} (hd : decode K.2.2.1 pc = .ok (.getfield i, 3)) (hk : k < 2) (hw : Cond.fieldLink (clS K.1) i "java/lang/String" (if k = 0 then "value" else "coder") (if k = 0 then "[B" else "B") ∈ tG) : Seg S K pc (pc + 3) (x_gstr k) := by
  rintro ⟨st, L, T, M⟩ σ' e
  unfold x_gstr at e
  split at e
  · rename_i j st0 hz
    simp only at hz
    subst hz
    split at e
    · rename_i hg
      cases e
      refine gos_st fun P p l e R s m args below meth c Q H locs cells slots ls C h2 h3 h1 x => ?_
      obtain ⟨ad, h0, -, -, -, -, -, h6⟩ := C.2.2.2.2.2.2.2.2.1.2.2.2
      have hi : j - 3 < 8 := by omega
      obtain ⟨-, k1, k2, -⟩ := h6.1 (j - 3) hi
      have e3 : 3 + (j - 3) = j := by omega
      have e11 : 11 + (j - 3) = j + 8 := by omega
      simp only [e3, e11] at k1 k2
      have hb : cV P (vO j) = .ref (ad j) := by show va_rf (P.2.2.2 j) = _; rw [h0 j (by omega)]; rfl
      have hb8 : cV P (vO (j + 8)) = .ref (ad (j + 8)) := by show va_rf (P.2.2.2 (j + 8)) = _; rw [h0 (j + 8) (by omega)]; rfl
      refine W.eq (show _ = F0 m pc ls (.ref (ad j) :: st0.map (cV P)) by rw [← hb]; rfl) ?_
      have hk2 : k = 0 ∨ k = 1 := by omega
      rcases hk2 with rfl | rfl
      · refine vk_getf C.1 C.2.1 k2 h3 C.2.2.2.1 (C.2.2.2.2.1 _ hw) (fun _ h => h) hd ?_
        rw [← hb8]
        exact x
      · exact vk_getf C.1 C.2.1 k1 h3 C.2.2.2.1 (C.2.2.2.2.1 _ hw) (fun _ h => h) hd x
    · cases e
  · cases e
theorem s_gets_mt {i : Nat} (hd : decode K.2.2.1 pc = .ok (.getstatic i, 3)) (hw : Cond.fieldLink (clS K.1) i "LastAwake" "MOST_OF_TRAIT" "[I" ∈ tG) : Seg S K pc (pc + 3) (x_push (vO 1)) := by
  rintro ⟨st, L, h⟩ σ' e
  cases e
  refine gos_st fun P p l e R s m args below meth c Q H locs cells slots ls C h2 h3 h1 x => ?_
  obtain ⟨ad, h0, z1, z2, -, z4, z5, -⟩ := C.2.2.2.2.2.2.2.2.1.2.2.2
  refine va_gets C.1 C.2.1 z1 h3 C.2.2.2.1 (C.2.2.2.2.1 _ hw) (fun _ h => h) hd ?_
  have hb : cV P (vO 1) = .ref (ad 1) := by show va_rf (P.2.2.2 1) = _; rw [h0 1 (by omega)]; rfl
  rw [← hb]
  exact x
theorem s_gets_mtn {i : Nat} (hd : decode K.2.2.1 pc = .ok (.getstatic i, 3)) (hw : Cond.fieldLinkNest (clS K.1) i "LastAwake" "MOST_OF_TRAIT" "[I" "LastAwake" ∈ nW) : Seg S K pc (pc + 3) (x_push (vO 1)) := by
  rintro ⟨st, L, h⟩ σ' e
  cases e
  refine gos_st fun P p l e R s m args below meth c Q H locs cells slots ls C h2 h3 h1 x => ?_
  obtain ⟨ad, h0, z1, z2, -, z4, z5, -⟩ := C.2.2.2.2.2.2.2.2.1.2.2.2
  refine va_getsN C.1 C.2.1 z1 h3 C.2.2.2.1 ((C.2.2.2.2.2.2.2.2.1.2.1 _ hw).use rfl) (fun _ h => h) hd ?_
  have hb : cV P (vO 1) = .ref (ad 1) := by show va_rf (P.2.2.2 1) = _; rw [h0 1 (by omega)]; rfl
  rw [← hb]
  exact x
theorem s_gets_no {i : Nat} (hd : decode K.2.2.1 pc = .ok (.getstatic i, 3)) (hw : Cond.fieldLink (clS K.1) i "LastAwake$Script" "NUMBERS_OF" "[I" ∈ tG) : Seg S K pc (pc + 3) (x_push (vO 2)) := by
  rintro ⟨st, L, h⟩ σ' e
  cases e
  refine gos_st fun P p l e R s m args below meth c Q H locs cells slots ls C h2 h3 h1 x => ?_
  obtain ⟨ad, h0, z1, z2, -, z4, z5, -⟩ := C.2.2.2.2.2.2.2.2.1.2.2.2
  refine va_gets C.1 C.2.1 z2 h3 C.2.2.2.1 (C.2.2.2.2.1 _ hw) (fun _ h => h) hd ?_
  have hb : cV P (vO 2) = .ref (ad 2) := by show va_rf (P.2.2.2 2) = _; rw [h0 2 (by omega)]; rfl
  rw [← hb]
  exact x
theorem s_gets_cs {i : Nat} (hd : decode K.2.2.1 pc = .ok (.getstatic i, 3)) (hw : Cond.fieldLink (clS K.1) i "java/lang/String" "COMPACT_STRINGS" "Z" ∈ tG) : Seg S K pc (pc + 3) (x_push (vI 1)) := by
  rintro ⟨st, L, h⟩ σ' e
  cases e
  refine gos_st fun P p l e R s m args below meth c Q H locs cells slots ls C h2 h3 h1 x => ?_
  obtain ⟨ad, h0, z1, z2, -, z4, z5, -⟩ := C.2.2.2.2.2.2.2.2.1.2.2.2
  refine va_gets C.1 C.2.1 z4 h3 C.2.2.2.1 (C.2.2.2.2.1 _ hw) (fun _ h => h) hd ?_
  exact x
theorem s_gets_sf {i : Nat} (hd : decode K.2.2.1 pc = .ok (.getstatic i, 3)) (hw : Cond.fieldLink (clS K.1) i "jdk/internal/util/Preconditions" "SIOOBE_FORMATTER" "Ljava/util/function/BiFunction;" ∈ tG) : Seg S K pc (pc + 3) (x_push (vO 19)) := by
  rintro ⟨st, L, h⟩ σ' e
  cases e
  refine gos_st fun P p l e R s m args below meth c Q H locs cells slots ls C h2 h3 h1 x => ?_
  obtain ⟨ad, h0, z1, z2, -, z4, z5, -⟩ := C.2.2.2.2.2.2.2.2.1.2.2.2
  refine va_gets C.1 C.2.1 z5 h3 C.2.2.2.1 (C.2.2.2.2.1 _ hw) (fun _ h => h) hd ?_
  exact x
theorem s_ldcS {i idx : Nat} {tx : String} (hd : decode K.2.2.1 pc = .ok (.ldc idx, 2)) (hK : clS K.1 = RX4) (hi : sIdx[i]? = some (idx, tx)) : Seg S K pc (pc + 2) (x_push (vO (3 + i))) := by
  rintro ⟨st, L, h⟩ σ' e
  cases e
  refine gos_st fun P p l e R s m args below meth c Q H locs cells slots ls C h2 h3 h1 x => ?_
  obtain ⟨a, g1, g2⟩ := C.2.2.2.2.2.2.2.2.1.2.2.1 i _ hi
  refine va_ldcS C.1 C.2.1 (hK ▸ C.2.2.2.1) g2 hd ?_
  have hb : cV P (vO (3 + i)) = .ref a := by show va_rf (P.2.2.2 (3 + i)) = _; rw [g1]; rfl
  rw [← hb]
  exact x
theorem df_ok (P : Par) : ∀ c, c < 9 → ∀ k, k < clN c → defaultValue (clY c k) = vp_V ((List.range (clN c)).map (fV P c (fun _ => 0) nor)) k := by
  intro c hc k hk
  have hY := kY_ok c hc k hk
  unfold vp_V
  rw [List.getD_eq_getElem?_getD, fs_at hk]
  show _ = fV P c (fun _ => 0) nor k
  have h9 : fT c k < 4 := by rw [fT_ok c hc k hk]; exact ftc_lt _
  cases hy : clY c k with
  | int => rw [hy] at hY; rw [fV_0 (by rw [← hY]; decide) (by rw [← hY]; decide)]; rfl
  | boolean => rw [hy] at hY; rw [fV_0 (by rw [← hY]; decide) (by rw [← hY]; decide)]; rfl
  | long => rw [hy] at hY; rw [fV_1 hY.symm]; rfl
  | object _ => rw [hy] at hY; rw [fV_2 hY.symm]; rfl
  | array _ => rw [hy] at hY; rw [fV_2 hY.symm]; rfl
  | _ => rw [hy] at hY; have hY : 9 = fT c k := hY; omega
theorem s_new {c i : Nat} (hd : decode K.2.2.1 pc = .ok (.new i, 3)) (hc : c < 9) (hw : Cond.classLink (clS K.1) i (clS c) ∈ tG) (hi : Cond.instantiable (clS c) (clN c) ∈ tG) (hn : Cond.initialized (clS c) ∈ tG) : Seg S K pc (pc + 3) (x_new c) := by
  rintro ⟨st, L, T, M⟩ σ' e
  cases e
  refine gos_nw (c, clN c, nor) (fun P p l e R s m args below meth c9 Q H locs cells slots ls C h2 h3 h1 hcl hsl x => ?_)
  rw [eC_o hc] at x
  exact va_new C.1 C.2.1 C.2.2.2.2.1 (cl_tG hc) (clY c) (cl_ty c hc) C.2.2.2.1 (C.2.2.2.2.1 _ hw) (C.2.2.2.2.1 _ hi) (C.2.2.2.2.1 _ hn) C.2.2.2.2.2.2.2.2.1.1 h2.2 (ws_D P (T, M)) h3 (fun q hq => Nat.le_trans C.2.2.2.2.2.2.2.2.2.1 hq) (cl_at c hc) (df_ok P c hc) hcl hsl hd x
theorem i32_nn {z : Int} (h : 0 ≤ n32 z) : ¬ Int32.ofInt z < 0 := by
  rw [i32_0, i32_lt, n32_0]
  omega
theorem s_newa_i (hd : decode K.2.2.1 pc = .ok (.newarray .int, 2)) (hw : Cond.arrayClass .int ∈ tG) : Seg S K pc (pc + 2) (x_newa 9) := by
  rintro ⟨st, L, T, M⟩ σ' e
  unfold x_newa at e
  split at e
  · rename_i z st0 hz
    simp only at hz
    subst hz
    split at e
    · rename_i hg
      obtain ⟨-, g1, g2⟩ := hg
      cases e
      refine gos_nw (9, (n32 z).toNat, nor) (fun P p l e R s m args below meth c Q H locs cells slots ls C h2 h3 h1 hcl hsl x => ?_)
      rw [eC_i (by omega) (by omega)] at x
      refine va_newa C.1 C.2.1 (atype := .int) (ty := .int) (C.2.2.2.2.1 _ hw) rfl C.2.2.2.2.2.2.2.2.1.1 h2.2 (ws_D P (T, M)) h3 (fun q hq => Nat.le_trans C.2.2.2.2.2.2.2.2.2.1 hq) (a0 := ((n32 z).toNat, .inl (fun _ => 0))) (fun _ => rfl) (i32_nn g1) (i32_clamp z) (by show (n32 z).toNat * 4 ≤ 536870912; omega) hcl hsl hd (fun q cA H1 y0 y1 y2 y3 => ?_)
      have c1 : s.vm.findClass ("[" ++ (FieldType.int).toString) = some cA := (y0.2 6 _ rfl).2
      have c2 : s.vm.findClass ("[" ++ (FieldType.int).toString) = some (P.2.2.1 9) := (C.2.2.2.2.2.2.2.2.1.1.2 0 _ rfl).2
      have c3 : cA = P.2.2.1 9 := Option.some.inj (c1.symm.trans c2)
      subst c3
      exact x q H1 y1 y2 y3
    · cases e
  · cases e
theorem s_newa_b (hd : decode K.2.2.1 pc = .ok (.newarray .byte, 2)) (hw : Cond.arrayClass .byte ∈ tG) : Seg S K pc (pc + 2) (x_newa 10) := by
  rintro ⟨st, L, T, M⟩ σ' e
  unfold x_newa at e
  split at e
  · rename_i z st0 hz
    simp only at hz
    subst hz
    split at e
    · rename_i hg
      obtain ⟨-, g1, g2⟩ := hg
      cases e
      refine gos_nw (10, (n32 z).toNat, nor) (fun P p l e R s m args below meth c Q H locs cells slots ls C h2 h3 h1 hcl hsl x => ?_)
      rw [eC_i (by omega) (by omega)] at x
      refine va_newa C.1 C.2.1 (atype := .byte) (ty := .byte) (C.2.2.2.2.1 _ hw) rfl C.2.2.2.2.2.2.2.2.1.1 h2.2 (ws_D P (T, M)) h3 (fun q hq => Nat.le_trans C.2.2.2.2.2.2.2.2.2.1 hq) (a0 := ((n32 z).toNat, .inl (fun _ => 0))) (fun _ => rfl) (i32_nn g1) (i32_clamp z) (by show (n32 z).toNat * 1 ≤ 536870912; omega) hcl hsl hd (fun q cA H1 y0 y1 y2 y3 => ?_)
      have c1 : s.vm.findClass ("[" ++ (FieldType.byte).toString) = some cA := (y0.2 6 _ rfl).2
      have c2 : s.vm.findClass ("[" ++ (FieldType.byte).toString) = some (P.2.2.1 10) := (C.2.2.2.2.2.2.2.2.1.1.2 1 _ rfl).2
      have c3 : cA = P.2.2.1 10 := Option.some.inj (c1.symm.trans c2)
      subst c3
      exact x q H1 y1 y2 y3
    · cases e
  · cases e
theorem s_newa_z (hd : decode K.2.2.1 pc = .ok (.newarray .boolean, 2)) (hw : Cond.arrayClass .boolean ∈ tG) : Seg S K pc (pc + 2) (x_newa 11) := by
  rintro ⟨st, L, T, M⟩ σ' e
  unfold x_newa at e
  split at e
  · rename_i z st0 hz
    simp only at hz
    subst hz
    split at e
    · rename_i hg
      obtain ⟨-, g1, g2⟩ := hg
      cases e
      refine gos_nw (11, (n32 z).toNat, nor) (fun P p l e R s m args below meth c Q H locs cells slots ls C h2 h3 h1 hcl hsl x => ?_)
      rw [eC_i (by omega) (by omega)] at x
      refine va_newa C.1 C.2.1 (atype := .boolean) (ty := .boolean) (C.2.2.2.2.1 _ hw) rfl C.2.2.2.2.2.2.2.2.1.1 h2.2 (ws_D P (T, M)) h3 (fun q hq => Nat.le_trans C.2.2.2.2.2.2.2.2.2.1 hq) (a0 := ((n32 z).toNat, .inl (fun _ => 0))) (fun _ => rfl) (i32_nn g1) (i32_clamp z) (by show (n32 z).toNat * 1 ≤ 536870912; omega) hcl hsl hd (fun q cA H1 y0 y1 y2 y3 => ?_)
      have c1 : s.vm.findClass ("[" ++ (FieldType.boolean).toString) = some cA := (y0.2 6 _ rfl).2
      have c2 : s.vm.findClass ("[" ++ (FieldType.boolean).toString) = some (P.2.2.1 11) := (C.2.2.2.2.2.2.2.2.1.1.2 2 _ rfl).2
      have c3 : cA = P.2.2.1 11 := Option.some.inj (c1.symm.trans c2)
      subst c3
      exact x q H1 y1 y2 y3
    · cases e
  · cases e
theorem s_anew_sl {i : Nat} (hd : decode K.2.2.1 pc = .ok (.anewarray i, 3)) (hw : Cond.classLink (clS K.1) i RX5 ∈ tG) (hw2 : Cond.arrayOver (.object RX5) ∈ nW) : Seg S K pc (pc + 3) (x_newa 12) := by
  rintro ⟨st, L, T, M⟩ σ' e
  unfold x_newa at e
  split at e
  · rename_i z st0 hz
    simp only at hz
    subst hz
    split at e
    · rename_i hg
      obtain ⟨-, g1, g2⟩ := hg
      cases e
      refine gos_nw (12, (n32 z).toNat, nor) (fun P p l e R s m args below meth c Q H locs cells slots ls C h2 h3 h1 hcl hsl x => ?_)
      rw [eC_r (by omega)] at x
      refine va_newq C.1 C.2.1 C.2.2.2.1 (C.2.2.2.2.1 _ hw) (C.2.2.2.2.2.2.2.2.1.2.1 _ hw2) C.2.2.2.2.2.2.2.2.1.1 h2.2 (ws_D P (T, M)) h3 (fun q hq => Nat.le_trans C.2.2.2.2.2.2.2.2.2.1 hq) (i32_nn g1) (i32_clamp z) (by omega) hcl hsl hd (fun q cA H1 y0 y1 y2 y3 => ?_)
      have c1 : s.vm.findClass ("[" ++ (FieldType.object RX5).toString) = some cA := by
        obtain ⟨_, _, _, _, _, h⟩ := (y0.2 6 _ rfl).2
        exact h
      have c2 : s.vm.findClass ("[" ++ (FieldType.object RX5).toString) = some (P.2.2.1 12) := by
        obtain ⟨_, _, _, _, _, h⟩ := (C.2.2.2.2.2.2.2.2.1.1.2 3 _ rfl).2
        exact h
      have c3 : cA = P.2.2.1 12 := Option.some.inj (c1.symm.trans c2)
      subst c3
      exact x q H1 y1 y2 y3
    · cases e
  · cases e
theorem s_anew_st {i : Nat} (hd : decode K.2.2.1 pc = .ok (.anewarray i, 3)) (hw : Cond.classLink (clS K.1) i RX6 ∈ tG) (hw2 : Cond.arrayOver (.object RX6) ∈ nW) : Seg S K pc (pc + 3) (x_newa 13) := by
  rintro ⟨st, L, T, M⟩ σ' e
  unfold x_newa at e
  split at e
  · rename_i z st0 hz
    simp only at hz
    subst hz
    split at e
    · rename_i hg
      obtain ⟨-, g1, g2⟩ := hg
      cases e
      refine gos_nw (13, (n32 z).toNat, nor) (fun P p l e R s m args below meth c Q H locs cells slots ls C h2 h3 h1 hcl hsl x => ?_)
      rw [eC_r (by omega)] at x
      refine va_newq C.1 C.2.1 C.2.2.2.1 (C.2.2.2.2.1 _ hw) (C.2.2.2.2.2.2.2.2.1.2.1 _ hw2) C.2.2.2.2.2.2.2.2.1.1 h2.2 (ws_D P (T, M)) h3 (fun q hq => Nat.le_trans C.2.2.2.2.2.2.2.2.2.1 hq) (i32_nn g1) (i32_clamp z) (by omega) hcl hsl hd (fun q cA H1 y0 y1 y2 y3 => ?_)
      have c1 : s.vm.findClass ("[" ++ (FieldType.object RX6).toString) = some cA := by
        obtain ⟨_, _, _, _, _, h⟩ := (y0.2 6 _ rfl).2
        exact h
      have c2 : s.vm.findClass ("[" ++ (FieldType.object RX6).toString) = some (P.2.2.1 13) := by
        obtain ⟨_, _, _, _, _, h⟩ := (C.2.2.2.2.2.2.2.2.1.1.2 4 _ rfl).2
        exact h
      have c3 : cA = P.2.2.1 13 := Option.some.inj (c1.symm.trans c2)
      subst c3
      exact x q H1 y1 y2 y3
    · cases e
  · cases e
end Ops4
end
