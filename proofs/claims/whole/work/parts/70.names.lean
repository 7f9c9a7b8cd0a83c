/-! NAMES: the kit's starting texts (SKELETON part A; NAMES: names of classes, fields, methods) -/
-- ===== PART A: goes FIRST, ahead of the names: the tables' words, and 'selects' of the private methods out of them =====
/-- a private method of a class that the tables say can be made, by its rows of tables_1 -/
def lw_okq (q : MethodName × Nat) : Prop := (q.1.cls ≠ "java/lang/invoke/MethodHandle" ∧ q.1.cls ≠ "java/lang/invoke/VarHandle") ∧ Cond.instantiable q.1.cls q.2 ∈ tables_1 ∧ Cond.privateMethod q.1 ∈ tables_1 ∧ Cond.instanceMethod q.1 ∈ tables_1
theorem lw_p0 : lw_okq (⟨"WhoBowsLast", "finding", "(I)I"⟩, 8) := ⟨⟨by decide +kernel, by decide +kernel⟩, List.mem_of_getElem? (i := 16) (by decide +kernel), List.mem_of_getElem? (i := 249) (by decide +kernel), List.mem_of_getElem? (i := 250) (by decide +kernel)⟩
theorem lw_p1 : lw_okq (⟨"WhoBowsLast$Orders", "canFollow", "(II)Z"⟩, 16) := ⟨⟨by decide +kernel, by decide +kernel⟩, List.mem_of_getElem? (i := 102) (by decide +kernel), List.mem_of_getElem? (i := 387) (by decide +kernel), List.mem_of_getElem? (i := 388) (by decide +kernel)⟩
theorem lw_p2 : lw_okq (⟨"WhoBowsLast$Orders", "score", "(I)V"⟩, 16) := ⟨⟨by decide +kernel, by decide +kernel⟩, List.mem_of_getElem? (i := 102) (by decide +kernel), List.mem_of_getElem? (i := 395) (by decide +kernel), List.mem_of_getElem? (i := 396) (by decide +kernel)⟩
theorem lw_p3 : lw_okq (⟨"WhoBowsLast$Orders", "canStand", "(I)Z"⟩, 16) := ⟨⟨by decide +kernel, by decide +kernel⟩, List.mem_of_getElem? (i := 102) (by decide +kernel), List.mem_of_getElem? (i := 401) (by decide +kernel), List.mem_of_getElem? (i := 402) (by decide +kernel)⟩
theorem lw_p4 : lw_okq (⟨"WhoBowsLast$Orders", "findFollowers", "(I)V"⟩, 16) := ⟨⟨by decide +kernel, by decide +kernel⟩, List.mem_of_getElem? (i := 102) (by decide +kernel), List.mem_of_getElem? (i := 405) (by decide +kernel), List.mem_of_getElem? (i := 406) (by decide +kernel)⟩
theorem lw_p5 : lw_okq (⟨"WhoBowsLast$Orders", "mostBehind", "(I)I"⟩, 16) := ⟨⟨by decide +kernel, by decide +kernel⟩, List.mem_of_getElem? (i := 102) (by decide +kernel), List.mem_of_getElem? (i := 409) (by decide +kernel), List.mem_of_getElem? (i := 410) (by decide +kernel)⟩
theorem lw_p6 : lw_okq (⟨"WhoBowsLast$Orders", "firstBehind", "(I)I"⟩, 16) := ⟨⟨by decide +kernel, by decide +kernel⟩, List.mem_of_getElem? (i := 102) (by decide +kernel), List.mem_of_getElem? (i := 435) (by decide +kernel), List.mem_of_getElem? (i := 436) (by decide +kernel)⟩
theorem lw_p7 : lw_okq (⟨"WhoBowsLast", "worth", "(I)J"⟩, 8) := ⟨⟨by decide +kernel, by decide +kernel⟩, List.mem_of_getElem? (i := 16) (by decide +kernel), List.mem_of_getElem? (i := 537) (by decide +kernel), List.mem_of_getElem? (i := 538) (by decide +kernel)⟩
theorem lw_p8 : lw_okq (⟨"WhoBowsLast", "gainAt", "(I)I"⟩, 8) := ⟨⟨by decide +kernel, by decide +kernel⟩, List.mem_of_getElem? (i := 16) (by decide +kernel), List.mem_of_getElem? (i := 542) (by decide +kernel), List.mem_of_getElem? (i := 543) (by decide +kernel)⟩
theorem lw_p9 : lw_okq (⟨"WhoBowsLast$Tape", "cut", "()V"⟩, 10) := ⟨⟨by decide +kernel, by decide +kernel⟩, List.mem_of_getElem? (i := 161) (by decide +kernel), List.mem_of_getElem? (i := 613) (by decide +kernel), List.mem_of_getElem? (i := 614) (by decide +kernel)⟩
theorem lw_p10 : lw_okq (⟨"WhoBowsLast$Tape", "valueOf", "(I)I"⟩, 10) := ⟨⟨by decide +kernel, by decide +kernel⟩, List.mem_of_getElem? (i := 161) (by decide +kernel), List.mem_of_getElem? (i := 620) (by decide +kernel), List.mem_of_getElem? (i := 621) (by decide +kernel)⟩
theorem lw_p11 : lw_okq (⟨"WhoBowsLast$Tape", "wordAt", "(II)I"⟩, 10) := ⟨⟨by decide +kernel, by decide +kernel⟩, List.mem_of_getElem? (i := 161) (by decide +kernel), List.mem_of_getElem? (i := 624) (by decide +kernel), List.mem_of_getElem? (i := 625) (by decide +kernel)⟩
theorem lw_p12 : lw_okq (⟨"WhoBowsLast$Tape", "isWord", "(Ljava/lang/String;II)Z"⟩, 10) := ⟨⟨by decide +kernel, by decide +kernel⟩, List.mem_of_getElem? (i := 161) (by decide +kernel), List.mem_of_getElem? (i := 647) (by decide +kernel), List.mem_of_getElem? (i := 648) (by decide +kernel)⟩
theorem lw_p13 : lw_okq (⟨"WhoBowsLast$Tape", "numberAt", "(II)I"⟩, 10) := ⟨⟨by decide +kernel, by decide +kernel⟩, List.mem_of_getElem? (i := 161) (by decide +kernel), List.mem_of_getElem? (i := 699) (by decide +kernel), List.mem_of_getElem? (i := 700) (by decide +kernel)⟩
theorem lw_p14 : lw_okq (⟨"WhoBowsLast$Tape", "take", "(I)V"⟩, 10) := ⟨⟨by decide +kernel, by decide +kernel⟩, List.mem_of_getElem? (i := 161) (by decide +kernel), List.mem_of_getElem? (i := 704) (by decide +kernel), List.mem_of_getElem? (i := 705) (by decide +kernel)⟩
theorem lw_p15 : lw_okq (⟨"WhoBowsLast$Tape", "readItem", "(LWhoBowsLast$Scene;)Z"⟩, 10) := ⟨⟨by decide +kernel, by decide +kernel⟩, List.mem_of_getElem? (i := 161) (by decide +kernel), List.mem_of_getElem? (i := 708) (by decide +kernel), List.mem_of_getElem? (i := 709) (by decide +kernel)⟩
def lw_privs_1 : List (MethodName × Nat) := [(⟨"WhoBowsLast", "finding", "(I)I"⟩, 8), (⟨"WhoBowsLast$Orders", "canFollow", "(II)Z"⟩, 16), (⟨"WhoBowsLast$Orders", "score", "(I)V"⟩, 16), (⟨"WhoBowsLast$Orders", "canStand", "(I)Z"⟩, 16), (⟨"WhoBowsLast$Orders", "findFollowers", "(I)V"⟩, 16), (⟨"WhoBowsLast$Orders", "mostBehind", "(I)I"⟩, 16), (⟨"WhoBowsLast$Orders", "firstBehind", "(I)I"⟩, 16), (⟨"WhoBowsLast", "worth", "(I)J"⟩, 8), (⟨"WhoBowsLast", "gainAt", "(I)I"⟩, 8), (⟨"WhoBowsLast$Tape", "cut", "()V"⟩, 10), (⟨"WhoBowsLast$Tape", "valueOf", "(I)I"⟩, 10), (⟨"WhoBowsLast$Tape", "wordAt", "(II)I"⟩, 10), (⟨"WhoBowsLast$Tape", "isWord", "(Ljava/lang/String;II)Z"⟩, 10), (⟨"WhoBowsLast$Tape", "numberAt", "(II)I"⟩, 10), (⟨"WhoBowsLast$Tape", "take", "(I)V"⟩, 10), (⟨"WhoBowsLast$Tape", "readItem", "(LWhoBowsLast$Scene;)Z"⟩, 10)]
theorem lw_r1 : ∀ q ∈ lw_privs_1, lw_okq q := List.forall_mem_cons.mpr ⟨lw_p0, List.forall_mem_cons.mpr ⟨lw_p1, List.forall_mem_cons.mpr ⟨lw_p2, List.forall_mem_cons.mpr ⟨lw_p3, List.forall_mem_cons.mpr ⟨lw_p4, List.forall_mem_cons.mpr ⟨lw_p5, List.forall_mem_cons.mpr ⟨lw_p6, List.forall_mem_cons.mpr ⟨lw_p7, List.forall_mem_cons.mpr ⟨lw_p8, List.forall_mem_cons.mpr ⟨lw_p9, List.forall_mem_cons.mpr ⟨lw_p10, List.forall_mem_cons.mpr ⟨lw_p11, List.forall_mem_cons.mpr ⟨lw_p12, List.forall_mem_cons.mpr ⟨lw_p13, List.forall_mem_cons.mpr ⟨lw_p14, List.forall_mem_cons.mpr ⟨lw_p15, fun _ h => absurd h List.not_mem_nil⟩⟩⟩⟩⟩⟩⟩⟩⟩⟩⟩⟩⟩⟩⟩⟩
theorem lw_p16 : lw_okq (⟨"WhoBowsLast$Tape", "readBow", "(LWhoBowsLast$Scene;)Z"⟩, 10) := ⟨⟨by decide +kernel, by decide +kernel⟩, List.mem_of_getElem? (i := 161) (by decide +kernel), List.mem_of_getElem? (i := 713) (by decide +kernel), List.mem_of_getElem? (i := 714) (by decide +kernel)⟩
theorem lw_p17 : lw_okq (⟨"WhoBowsLast$Tape", "readPart", "(III[II)Z"⟩, 10) := ⟨⟨by decide +kernel, by decide +kernel⟩, List.mem_of_getElem? (i := 161) (by decide +kernel), List.mem_of_getElem? (i := 718) (by decide +kernel), List.mem_of_getElem? (i := 719) (by decide +kernel)⟩
theorem lw_p18 : lw_okq (⟨"WhoBowsLast$Tape", "isNumber", "(II)Z"⟩, 10) := ⟨⟨by decide +kernel, by decide +kernel⟩, List.mem_of_getElem? (i := 161) (by decide +kernel), List.mem_of_getElem? (i := 722) (by decide +kernel), List.mem_of_getElem? (i := 723) (by decide +kernel)⟩
theorem lw_p19 : lw_okq (⟨"WhoBowsLast$Tape", "readRule", "(LWhoBowsLast$Scene;)Z"⟩, 10) := ⟨⟨by decide +kernel, by decide +kernel⟩, List.mem_of_getElem? (i := 161) (by decide +kernel), List.mem_of_getElem? (i := 726) (by decide +kernel), List.mem_of_getElem? (i := 727) (by decide +kernel)⟩
theorem lw_p20 : lw_okq (⟨"WhoBowsLast$Tape", "readContract", "(LWhoBowsLast$Scene;)Z"⟩, 10) := ⟨⟨by decide +kernel, by decide +kernel⟩, List.mem_of_getElem? (i := 161) (by decide +kernel), List.mem_of_getElem? (i := 731) (by decide +kernel), List.mem_of_getElem? (i := 732) (by decide +kernel)⟩
theorem lw_p21 : lw_okq (⟨"WhoBowsLast", "firstThatCannot", "(I)I"⟩, 8) := ⟨⟨by decide +kernel, by decide +kernel⟩, List.mem_of_getElem? (i := 16) (by decide +kernel), List.mem_of_getElem? (i := 800) (by decide +kernel), List.mem_of_getElem? (i := 801) (by decide +kernel)⟩
theorem lw_p22 : lw_okq (⟨"WhoBowsLastModel", "no", "(I)I"⟩, 25) := ⟨⟨by decide +kernel, by decide +kernel⟩, List.mem_of_getElem? (i := 841) (by decide +kernel), List.mem_of_getElem? (i := 931) (by decide +kernel), List.mem_of_getElem? (i := 932) (by decide +kernel)⟩
theorem lw_p23 : lw_okq (⟨"WhoBowsLastModel", "addsBow", "(I)V"⟩, 25) := ⟨⟨by decide +kernel, by decide +kernel⟩, List.mem_of_getElem? (i := 841) (by decide +kernel), List.mem_of_getElem? (i := 936) (by decide +kernel), List.mem_of_getElem? (i := 937) (by decide +kernel)⟩
theorem lw_p24 : lw_okq (⟨"WhoBowsLastModel", "puts", "(III)V"⟩, 25) := ⟨⟨by decide +kernel, by decide +kernel⟩, List.mem_of_getElem? (i := 841) (by decide +kernel), List.mem_of_getElem? (i := 940) (by decide +kernel), List.mem_of_getElem? (i := 941) (by decide +kernel)⟩
theorem lw_p25 : lw_okq (⟨"WhoBowsLastModel", "isBow", "(I)Z"⟩, 25) := ⟨⟨by decide +kernel, by decide +kernel⟩, List.mem_of_getElem? (i := 841) (by decide +kernel), List.mem_of_getElem? (i := 948) (by decide +kernel), List.mem_of_getElem? (i := 949) (by decide +kernel)⟩
theorem lw_p26 : lw_okq (⟨"WhoBowsLastModel", "get", "(II)I"⟩, 25) := ⟨⟨by decide +kernel, by decide +kernel⟩, List.mem_of_getElem? (i := 841) (by decide +kernel), List.mem_of_getElem? (i := 952) (by decide +kernel), List.mem_of_getElem? (i := 953) (by decide +kernel)⟩
theorem lw_p27 : lw_okq (⟨"WhoBowsLastModel", "leaves", "(I)I"⟩, 25) := ⟨⟨by decide +kernel, by decide +kernel⟩, List.mem_of_getElem? (i := 841) (by decide +kernel), List.mem_of_getElem? (i := 956) (by decide +kernel), List.mem_of_getElem? (i := 957) (by decide +kernel)⟩
theorem lw_p28 : lw_okq (⟨"WhoBowsLastModel", "secondsOf", "(I)I"⟩, 25) := ⟨⟨by decide +kernel, by decide +kernel⟩, List.mem_of_getElem? (i := 841) (by decide +kernel), List.mem_of_getElem? (i := 960) (by decide +kernel), List.mem_of_getElem? (i := 961) (by decide +kernel)⟩
theorem lw_p29 : lw_okq (⟨"WhoBowsLastModel", "latest", "()I"⟩, 25) := ⟨⟨by decide +kernel, by decide +kernel⟩, List.mem_of_getElem? (i := 841) (by decide +kernel), List.mem_of_getElem? (i := 967) (by decide +kernel), List.mem_of_getElem? (i := 968) (by decide +kernel)⟩
theorem lw_p30 : lw_okq (⟨"WhoBowsLastModel", "whoAt", "(I)I"⟩, 25) := ⟨⟨by decide +kernel, by decide +kernel⟩, List.mem_of_getElem? (i := 841) (by decide +kernel), List.mem_of_getElem? (i := 971) (by decide +kernel), List.mem_of_getElem? (i := 972) (by decide +kernel)⟩
theorem lw_p31 : lw_okq (⟨"WhoBowsLastModel", "leftBy", "(I)I"⟩, 25) := ⟨⟨by decide +kernel, by decide +kernel⟩, List.mem_of_getElem? (i := 841) (by decide +kernel), List.mem_of_getElem? (i := 975) (by decide +kernel), List.mem_of_getElem? (i := 976) (by decide +kernel)⟩
def lw_privs_2 : List (MethodName × Nat) := [(⟨"WhoBowsLast$Tape", "readBow", "(LWhoBowsLast$Scene;)Z"⟩, 10), (⟨"WhoBowsLast$Tape", "readPart", "(III[II)Z"⟩, 10), (⟨"WhoBowsLast$Tape", "isNumber", "(II)Z"⟩, 10), (⟨"WhoBowsLast$Tape", "readRule", "(LWhoBowsLast$Scene;)Z"⟩, 10), (⟨"WhoBowsLast$Tape", "readContract", "(LWhoBowsLast$Scene;)Z"⟩, 10), (⟨"WhoBowsLast", "firstThatCannot", "(I)I"⟩, 8), (⟨"WhoBowsLastModel", "no", "(I)I"⟩, 25), (⟨"WhoBowsLastModel", "addsBow", "(I)V"⟩, 25), (⟨"WhoBowsLastModel", "puts", "(III)V"⟩, 25), (⟨"WhoBowsLastModel", "isBow", "(I)Z"⟩, 25), (⟨"WhoBowsLastModel", "get", "(II)I"⟩, 25), (⟨"WhoBowsLastModel", "leaves", "(I)I"⟩, 25), (⟨"WhoBowsLastModel", "secondsOf", "(I)I"⟩, 25), (⟨"WhoBowsLastModel", "latest", "()I"⟩, 25), (⟨"WhoBowsLastModel", "whoAt", "(I)I"⟩, 25), (⟨"WhoBowsLastModel", "leftBy", "(I)I"⟩, 25)]
theorem lw_r2 : ∀ q ∈ lw_privs_2, lw_okq q := List.forall_mem_cons.mpr ⟨lw_p16, List.forall_mem_cons.mpr ⟨lw_p17, List.forall_mem_cons.mpr ⟨lw_p18, List.forall_mem_cons.mpr ⟨lw_p19, List.forall_mem_cons.mpr ⟨lw_p20, List.forall_mem_cons.mpr ⟨lw_p21, List.forall_mem_cons.mpr ⟨lw_p22, List.forall_mem_cons.mpr ⟨lw_p23, List.forall_mem_cons.mpr ⟨lw_p24, List.forall_mem_cons.mpr ⟨lw_p25, List.forall_mem_cons.mpr ⟨lw_p26, List.forall_mem_cons.mpr ⟨lw_p27, List.forall_mem_cons.mpr ⟨lw_p28, List.forall_mem_cons.mpr ⟨lw_p29, List.forall_mem_cons.mpr ⟨lw_p30, List.forall_mem_cons.mpr ⟨lw_p31, fun _ h => absurd h List.not_mem_nil⟩⟩⟩⟩⟩⟩⟩⟩⟩⟩⟩⟩⟩⟩⟩⟩
theorem lw_p32 : lw_okq (⟨"WhoBowsLastModel", "noiseBy", "(II)I"⟩, 25) := ⟨⟨by decide +kernel, by decide +kernel⟩, List.mem_of_getElem? (i := 841) (by decide +kernel), List.mem_of_getElem? (i := 979) (by decide +kernel), List.mem_of_getElem? (i := 980) (by decide +kernel)⟩
theorem lw_p33 : lw_okq (⟨"WhoBowsLastModel", "allBows", "()I"⟩, 25) := ⟨⟨by decide +kernel, by decide +kernel⟩, List.mem_of_getElem? (i := 841) (by decide +kernel), List.mem_of_getElem? (i := 990) (by decide +kernel), List.mem_of_getElem? (i := 991) (by decide +kernel)⟩
theorem lw_p34 : lw_okq (⟨"WhoBowsLastModel", "stageSet", "()I"⟩, 25) := ⟨⟨by decide +kernel, by decide +kernel⟩, List.mem_of_getElem? (i := 841) (by decide +kernel), List.mem_of_getElem? (i := 1016) (by decide +kernel), List.mem_of_getElem? (i := 1017) (by decide +kernel)⟩
theorem lw_p35 : lw_okq (⟨"WhoBowsLastModel", "canBehind", "(II)Z"⟩, 25) := ⟨⟨by decide +kernel, by decide +kernel⟩, List.mem_of_getElem? (i := 841) (by decide +kernel), List.mem_of_getElem? (i := 1020) (by decide +kernel), List.mem_of_getElem? (i := 1021) (by decide +kernel)⟩
theorem lw_p36 : lw_okq (⟨"WhoBowsLastModel", "comes", "(I)I"⟩, 25) := ⟨⟨by decide +kernel, by decide +kernel⟩, List.mem_of_getElem? (i := 841) (by decide +kernel), List.mem_of_getElem? (i := 1024) (by decide +kernel), List.mem_of_getElem? (i := 1025) (by decide +kernel)⟩
theorem lw_p37 : lw_okq (⟨"WhoBowsLastModel", "canSet", "(I)I"⟩, 25) := ⟨⟨by decide +kernel, by decide +kernel⟩, List.mem_of_getElem? (i := 841) (by decide +kernel), List.mem_of_getElem? (i := 1044) (by decide +kernel), List.mem_of_getElem? (i := 1045) (by decide +kernel)⟩
theorem lw_p38 : lw_okq (⟨"WhoBowsLastModel", "fallsOfStage", "()I"⟩, 25) := ⟨⟨by decide +kernel, by decide +kernel⟩, List.mem_of_getElem? (i := 841) (by decide +kernel), List.mem_of_getElem? (i := 1048) (by decide +kernel), List.mem_of_getElem? (i := 1049) (by decide +kernel)⟩
theorem lw_p39 : lw_okq (⟨"WhoBowsLastModel", "findsBest", "(I)I"⟩, 25) := ⟨⟨by decide +kernel, by decide +kernel⟩, List.mem_of_getElem? (i := 841) (by decide +kernel), List.mem_of_getElem? (i := 1056) (by decide +kernel), List.mem_of_getElem? (i := 1057) (by decide +kernel)⟩
theorem lw_p40 : lw_okq (⟨"WhoBowsLastModel", "brings", "(III)I"⟩, 25) := ⟨⟨by decide +kernel, by decide +kernel⟩, List.mem_of_getElem? (i := 841) (by decide +kernel), List.mem_of_getElem? (i := 1061) (by decide +kernel), List.mem_of_getElem? (i := 1062) (by decide +kernel)⟩
theorem lw_p41 : lw_okq (⟨"WhoBowsLastModel", "findsRow", "(I)Z"⟩, 25) := ⟨⟨by decide +kernel, by decide +kernel⟩, List.mem_of_getElem? (i := 841) (by decide +kernel), List.mem_of_getElem? (i := 1069) (by decide +kernel), List.mem_of_getElem? (i := 1070) (by decide +kernel)⟩
theorem lw_p42 : lw_okq (⟨"WhoBowsLastModel", "countsWays", "()I"⟩, 25) := ⟨⟨by decide +kernel, by decide +kernel⟩, List.mem_of_getElem? (i := 841) (by decide +kernel), List.mem_of_getElem? (i := 1077) (by decide +kernel), List.mem_of_getElem? (i := 1078) (by decide +kernel)⟩
theorem lw_p43 : lw_okq (⟨"WhoBowsLastModel", "allAhead", "(I)I"⟩, 25) := ⟨⟨by decide +kernel, by decide +kernel⟩, List.mem_of_getElem? (i := 841) (by decide +kernel), List.mem_of_getElem? (i := 1096) (by decide +kernel), List.mem_of_getElem? (i := 1097) (by decide +kernel)⟩
theorem lw_p44 : lw_okq (⟨"WhoBowsLastModel", "findsFreed", "()I"⟩, 25) := ⟨⟨by decide +kernel, by decide +kernel⟩, List.mem_of_getElem? (i := 841) (by decide +kernel), List.mem_of_getElem? (i := 1120) (by decide +kernel), List.mem_of_getElem? (i := 1121) (by decide +kernel)⟩
theorem lw_p45 : lw_okq (⟨"WhoBowsLastModel", "isAsked", "(II)Z"⟩, 25) := ⟨⟨by decide +kernel, by decide +kernel⟩, List.mem_of_getElem? (i := 841) (by decide +kernel), List.mem_of_getElem? (i := 1136) (by decide +kernel), List.mem_of_getElem? (i := 1137) (by decide +kernel)⟩
theorem lw_p46 : lw_okq (⟨"WhoBowsLastModel", "worthFrom", "(I)J"⟩, 25) := ⟨⟨by decide +kernel, by decide +kernel⟩, List.mem_of_getElem? (i := 841) (by decide +kernel), List.mem_of_getElem? (i := 1148) (by decide +kernel), List.mem_of_getElem? (i := 1149) (by decide +kernel)⟩
theorem lw_p47 : lw_okq (⟨"WhoBowsLastModel", "silentAt", "(I)I"⟩, 25) := ⟨⟨by decide +kernel, by decide +kernel⟩, List.mem_of_getElem? (i := 841) (by decide +kernel), List.mem_of_getElem? (i := 1153) (by decide +kernel), List.mem_of_getElem? (i := 1154) (by decide +kernel)⟩
def lw_privs_3 : List (MethodName × Nat) := [(⟨"WhoBowsLastModel", "noiseBy", "(II)I"⟩, 25), (⟨"WhoBowsLastModel", "allBows", "()I"⟩, 25), (⟨"WhoBowsLastModel", "stageSet", "()I"⟩, 25), (⟨"WhoBowsLastModel", "canBehind", "(II)Z"⟩, 25), (⟨"WhoBowsLastModel", "comes", "(I)I"⟩, 25), (⟨"WhoBowsLastModel", "canSet", "(I)I"⟩, 25), (⟨"WhoBowsLastModel", "fallsOfStage", "()I"⟩, 25), (⟨"WhoBowsLastModel", "findsBest", "(I)I"⟩, 25), (⟨"WhoBowsLastModel", "brings", "(III)I"⟩, 25), (⟨"WhoBowsLastModel", "findsRow", "(I)Z"⟩, 25), (⟨"WhoBowsLastModel", "countsWays", "()I"⟩, 25), (⟨"WhoBowsLastModel", "allAhead", "(I)I"⟩, 25), (⟨"WhoBowsLastModel", "findsFreed", "()I"⟩, 25), (⟨"WhoBowsLastModel", "isAsked", "(II)Z"⟩, 25), (⟨"WhoBowsLastModel", "worthFrom", "(I)J"⟩, 25), (⟨"WhoBowsLastModel", "silentAt", "(I)I"⟩, 25)]
theorem lw_r3 : ∀ q ∈ lw_privs_3, lw_okq q := List.forall_mem_cons.mpr ⟨lw_p32, List.forall_mem_cons.mpr ⟨lw_p33, List.forall_mem_cons.mpr ⟨lw_p34, List.forall_mem_cons.mpr ⟨lw_p35, List.forall_mem_cons.mpr ⟨lw_p36, List.forall_mem_cons.mpr ⟨lw_p37, List.forall_mem_cons.mpr ⟨lw_p38, List.forall_mem_cons.mpr ⟨lw_p39, List.forall_mem_cons.mpr ⟨lw_p40, List.forall_mem_cons.mpr ⟨lw_p41, List.forall_mem_cons.mpr ⟨lw_p42, List.forall_mem_cons.mpr ⟨lw_p43, List.forall_mem_cons.mpr ⟨lw_p44, List.forall_mem_cons.mpr ⟨lw_p45, List.forall_mem_cons.mpr ⟨lw_p46, List.forall_mem_cons.mpr ⟨lw_p47, fun _ h => absurd h List.not_mem_nil⟩⟩⟩⟩⟩⟩⟩⟩⟩⟩⟩⟩⟩⟩⟩⟩
theorem lw_p48 : lw_okq (⟨"WhoBowsLastModel", "draw", "()I"⟩, 25) := ⟨⟨by decide +kernel, by decide +kernel⟩, List.mem_of_getElem? (i := 841) (by decide +kernel), List.mem_of_getElem? (i := 1168) (by decide +kernel), List.mem_of_getElem? (i := 1169) (by decide +kernel)⟩
theorem lw_p49 : lw_okq (⟨"WhoBowsLastModel", "setsAside", "()V"⟩, 25) := ⟨⟨by decide +kernel, by decide +kernel⟩, List.mem_of_getElem? (i := 841) (by decide +kernel), List.mem_of_getElem? (i := 1193) (by decide +kernel), List.mem_of_getElem? (i := 1194) (by decide +kernel)⟩
theorem lw_p50 : lw_okq (⟨"WhoBowsLastModel", "nextToken", "()V"⟩, 25) := ⟨⟨by decide +kernel, by decide +kernel⟩, List.mem_of_getElem? (i := 841) (by decide +kernel), List.mem_of_getElem? (i := 1197) (by decide +kernel), List.mem_of_getElem? (i := 1198) (by decide +kernel)⟩
theorem lw_p51 : lw_okq (⟨"WhoBowsLastModel", "readsItem", "()Z"⟩, 25) := ⟨⟨by decide +kernel, by decide +kernel⟩, List.mem_of_getElem? (i := 841) (by decide +kernel), List.mem_of_getElem? (i := 1212) (by decide +kernel), List.mem_of_getElem? (i := 1213) (by decide +kernel)⟩
theorem lw_p52 : lw_okq (⟨"WhoBowsLastModel", "wordOf", "([C)I"⟩, 25) := ⟨⟨by decide +kernel, by decide +kernel⟩, List.mem_of_getElem? (i := 841) (by decide +kernel), List.mem_of_getElem? (i := 1216) (by decide +kernel), List.mem_of_getElem? (i := 1217) (by decide +kernel)⟩
theorem lw_p53 : lw_okq (⟨"WhoBowsLastModel", "readsBow", "(I)Z"⟩, 25) := ⟨⟨by decide +kernel, by decide +kernel⟩, List.mem_of_getElem? (i := 841) (by decide +kernel), List.mem_of_getElem? (i := 1220) (by decide +kernel), List.mem_of_getElem? (i := 1221) (by decide +kernel)⟩
theorem lw_p54 : lw_okq (⟨"WhoBowsLastModel", "takesNumber", "(II)I"⟩, 25) := ⟨⟨by decide +kernel, by decide +kernel⟩, List.mem_of_getElem? (i := 841) (by decide +kernel), List.mem_of_getElem? (i := 1224) (by decide +kernel), List.mem_of_getElem? (i := 1225) (by decide +kernel)⟩
theorem lw_p55 : lw_okq (⟨"WhoBowsLastModel", "readsContract", "()Z"⟩, 25) := ⟨⟨by decide +kernel, by decide +kernel⟩, List.mem_of_getElem? (i := 841) (by decide +kernel), List.mem_of_getElem? (i := 1228) (by decide +kernel), List.mem_of_getElem? (i := 1229) (by decide +kernel)⟩
theorem lw_p56 : lw_okq (⟨"WhoBowsLastModel", "laysBack", "()V"⟩, 25) := ⟨⟨by decide +kernel, by decide +kernel⟩, List.mem_of_getElem? (i := 841) (by decide +kernel), List.mem_of_getElem? (i := 1232) (by decide +kernel), List.mem_of_getElem? (i := 1233) (by decide +kernel)⟩
theorem lw_p57 : lw_okq (⟨"WhoBowsLastModel", "wrongSheet", "(I)I"⟩, 25) := ⟨⟨by decide +kernel, by decide +kernel⟩, List.mem_of_getElem? (i := 841) (by decide +kernel), List.mem_of_getElem? (i := 1261) (by decide +kernel), List.mem_of_getElem? (i := 1262) (by decide +kernel)⟩
theorem lw_p58 : lw_okq (⟨"WhoBowsLastModel", "comeOf", "(I)I"⟩, 25) := ⟨⟨by decide +kernel, by decide +kernel⟩, List.mem_of_getElem? (i := 841) (by decide +kernel), List.mem_of_getElem? (i := 1277) (by decide +kernel), List.mem_of_getElem? (i := 1278) (by decide +kernel)⟩
def lw_privs_4 : List (MethodName × Nat) := [(⟨"WhoBowsLastModel", "draw", "()I"⟩, 25), (⟨"WhoBowsLastModel", "setsAside", "()V"⟩, 25), (⟨"WhoBowsLastModel", "nextToken", "()V"⟩, 25), (⟨"WhoBowsLastModel", "readsItem", "()Z"⟩, 25), (⟨"WhoBowsLastModel", "wordOf", "([C)I"⟩, 25), (⟨"WhoBowsLastModel", "readsBow", "(I)Z"⟩, 25), (⟨"WhoBowsLastModel", "takesNumber", "(II)I"⟩, 25), (⟨"WhoBowsLastModel", "readsContract", "()Z"⟩, 25), (⟨"WhoBowsLastModel", "laysBack", "()V"⟩, 25), (⟨"WhoBowsLastModel", "wrongSheet", "(I)I"⟩, 25), (⟨"WhoBowsLastModel", "comeOf", "(I)I"⟩, 25)]
theorem lw_r4 : ∀ q ∈ lw_privs_4, lw_okq q := List.forall_mem_cons.mpr ⟨lw_p48, List.forall_mem_cons.mpr ⟨lw_p49, List.forall_mem_cons.mpr ⟨lw_p50, List.forall_mem_cons.mpr ⟨lw_p51, List.forall_mem_cons.mpr ⟨lw_p52, List.forall_mem_cons.mpr ⟨lw_p53, List.forall_mem_cons.mpr ⟨lw_p54, List.forall_mem_cons.mpr ⟨lw_p55, List.forall_mem_cons.mpr ⟨lw_p56, List.forall_mem_cons.mpr ⟨lw_p57, List.forall_mem_cons.mpr ⟨lw_p58, fun _ h => absurd h List.not_mem_nil⟩⟩⟩⟩⟩⟩⟩⟩⟩⟩⟩
def lw_privs : List (MethodName × Nat) := lw_privs_1 ++ (lw_privs_2 ++ (lw_privs_3 ++ (lw_privs_4)))
def lw_tbl : List Cond := k2_sels lw_privs ++ tables_1
theorem lw_privs_ok : ∀ q ∈ lw_privs, lw_okq q := by
  show ∀ q ∈ lw_privs_1 ++ (lw_privs_2 ++ (lw_privs_3 ++ (lw_privs_4))), lw_okq q
  exact List.forall_mem_append.mpr ⟨lw_r1, List.forall_mem_append.mpr ⟨lw_r2, List.forall_mem_append.mpr ⟨lw_r3, lw_r4⟩⟩⟩
-- ===== end of PART A; then your names; then what follows =====
/-! ===== BEGIN words of one list among another's, by their places ===== -/
theorem goodIn_r {big : List Cond} (ws : List Cond) (ps : List Nat) (hp : ws = ps.filterMap (fun i => big[i]?)) (h : ws.all goodWord = true) : GoodIn big ws := by
  intro w hw
  have h1 := List.all_eq_true.mp h w hw
  rw [hp] at hw
  obtain ⟨i, -, hi⟩ := List.mem_filterMap.mp hw
  have hm : w ∈ big := by first | exact List.mem_of_getElem? hi | exact List.getElem?_mem hi
  exact ⟨hm, good_of_word h1⟩
theorem goodIn_app {big a b : List Cond} (ha : GoodIn big a) (hb : GoodIn big b) : GoodIn big (a ++ b) := fun w h => (List.mem_append.mp h).elim (ha w) (hb w)
theorem goodIn_ca {big a b : List Cond} {c : Cond} (ha : GoodIn big (c :: a)) (hb : GoodIn big b) : GoodIn big (c :: (a ++ b)) := fun w h => (List.mem_cons.mp h).elim (fun e => ha w (List.mem_cons.mpr (Or.inl e))) (fun h => (List.mem_append.mp h).elim (fun h => ha w (List.mem_cons.mpr (Or.inr h))) (hb w))
theorem goodIn_sub {big ws : List Cond} (hm : ∀ w ∈ ws, w ∈ big) (h : ws.all goodWord = true) : GoodIn big ws := fun w hw => ⟨hm w hw, good_of_word (List.all_eq_true.mp h w hw)⟩
/-! ===== END ===== -/

/-! ===== BEGIN printed: names, fields, word lists, decode rows ===== -/
def RX0 : String := "WhoBowsLast$Kinds"
def TX0 : u_T := fun k => match k with
  | _ => ("", "", "", false)
def tyX0 : Nat → FieldType := fun k => match k with
  | _ => .int
abbrev wsX00 : List Cond := u_ws RX0 TX0 0
theorem nmX0 : ∀ a, a < 0 → ∀ b, b < 0 → a ≠ b → (TX0 a).2.1 ≠ (TX0 b).2.1 := by decide +kernel
theorem tyX0_ok : ∀ k, k < 0 → parseFieldDescriptor (TX0 k).2.2.1 = some (tyX0 k) := by decide +kernel
abbrev cX0_noiseOf : ByteArray := prog_2_method_2_code
def yX0_noiseOf : MethodName := ⟨RX0, "noiseOf", "(III)I"⟩
abbrev cX0_fallingNoise : ByteArray := prog_2_method_3_code
def yX0_fallingNoise : MethodName := ⟨RX0, "fallingNoise", "(II)I"⟩
abbrev cX0_leftBy : ByteArray := prog_2_method_4_code
def yX0_leftBy : MethodName := ⟨RX0, "leftBy", "(II)I"⟩
abbrev cX0_lastedBy : ByteArray := prog_2_method_5_code
def yX0_lastedBy : MethodName := ⟨RX0, "lastedBy", "(II)I"⟩
abbrev cX0_isUnder : ByteArray := prog_2_method_6_code
def yX0_isUnder : MethodName := ⟨RX0, "isUnder", "(II)Z"⟩
def RX1 : String := "WhoBowsLast$Orders"
def TX1 : u_T := fun k => match k with
  | 0 => ("WhoBowsLast$Orders", "kinds", "[I", true)
  | 1 => ("WhoBowsLast$Orders", "loves", "[I", true)
  | 2 => ("WhoBowsLast$Orders", "aheads", "[I", true)
  | 3 => ("WhoBowsLast$Orders", "scores", "[I", true)
  | 4 => ("WhoBowsLast$Orders", "most", "[I", true)
  | 5 => ("WhoBowsLast$Orders", "followers", "[I", true)
  | 6 => ("WhoBowsLast$Orders", "mostThen", "[I", true)
  | 7 => ("WhoBowsLast$Orders", "many", "I", false)
  | 8 => ("WhoBowsLast$Orders", "bySet", "[I", true)
  | 9 => ("WhoBowsLast$Orders", "first", "[I", true)
  | 10 => ("WhoBowsLast$Orders", "bows", "I", false)
  | 11 => ("WhoBowsLast$Orders", "came", "I", false)
  | 12 => ("WhoBowsLast$Orders", "latest", "I", false)
  | 13 => ("WhoBowsLast$Orders", "full", "I", false)
  | 14 => ("WhoBowsLast$Orders", "freedOne", "I", false)
  | _ => ("WhoBowsLast$Orders", "freedMost", "I", false)
def tyX1 : Nat → FieldType := fun k => match k with
  | 0 => .array .int
  | 1 => .array .int
  | 2 => .array .int
  | 3 => .array .int
  | 4 => .array .int
  | 5 => .array .int
  | 6 => .array .int
  | 7 => .int
  | 8 => .array .int
  | 9 => .array .int
  | 10 => .int
  | 11 => .int
  | 12 => .int
  | 13 => .int
  | 14 => .int
  | _ => .int
abbrev wsX10 : List Cond := u_ws RX1 TX1 16
theorem nmX1 : ∀ a, a < 16 → ∀ b, b < 16 → a ≠ b → (TX1 a).2.1 ≠ (TX1 b).2.1 := by decide +kernel
theorem tyX1_ok : ∀ k, k < 16 → parseFieldDescriptor (TX1 k).2.2.1 = some (tyX1 k) := by decide +kernel
abbrev cX1_init : ByteArray := prog_3_method_1_code
def yX1_init : MethodName := ⟨RX1, "<init>", "()V"⟩
abbrev cX1_startFrom : ByteArray := prog_3_method_2_code
def yX1_startFrom : MethodName := ⟨RX1, "startFrom", "(LWhoBowsLast$Scene;)V"⟩
abbrev cX1_rest : ByteArray := prog_3_method_3_code
def yX1_rest : MethodName := ⟨RX1, "rest", "()I"⟩
abbrev cX1_canFollow : ByteArray := prog_3_method_4_code
def yX1_canFollow : MethodName := ⟨RX1, "canFollow", "(II)Z"⟩
abbrev cX1_haveWay : ByteArray := prog_3_method_5_code
def yX1_haveWay : MethodName := ⟨RX1, "haveWay", "()Z"⟩
abbrev cX1_canStand : ByteArray := prog_3_method_6_code
def yX1_canStand : MethodName := ⟨RX1, "canStand", "(I)Z"⟩
abbrev cX1_score : ByteArray := prog_3_method_7_code
def yX1_score : MethodName := ⟨RX1, "score", "(I)V"⟩
abbrev cX1_weigh : ByteArray := prog_3_method_8_code
def yX1_weigh : MethodName := ⟨RX1, "weigh", "(I)I"⟩
abbrev cX1_findFollowers : ByteArray := prog_3_method_9_code
def yX1_findFollowers : MethodName := ⟨RX1, "findFollowers", "(I)V"⟩
abbrev cX1_mostBehind : ByteArray := prog_3_method_10_code
def yX1_mostBehind : MethodName := ⟨RX1, "mostBehind", "(I)I"⟩
abbrev cX1_findFirst : ByteArray := prog_3_method_11_code
def yX1_findFirst : MethodName := ⟨RX1, "findFirst", "(I)V"⟩
abbrev cX1_firstBehind : ByteArray := prog_3_method_12_code
def yX1_firstBehind : MethodName := ⟨RX1, "firstBehind", "(I)I"⟩
abbrev cX1_countWays : ByteArray := prog_3_method_13_code
def yX1_countWays : MethodName := ⟨RX1, "countWays", "()I"⟩
abbrev cX1_lastOnes : ByteArray := prog_3_method_14_code
def yX1_lastOnes : MethodName := ⟨RX1, "lastOnes", "()I"⟩
abbrev cX1_allAhead : ByteArray := prog_3_method_15_code
def yX1_allAhead : MethodName := ⟨RX1, "allAhead", "(II)I"⟩
abbrev cX1_earliest : ByteArray := prog_3_method_16_code
def yX1_earliest : MethodName := ⟨RX1, "earliest", "(I)I"⟩
abbrev cX1_latest : ByteArray := prog_3_method_17_code
def yX1_latest : MethodName := ⟨RX1, "latest", "(I)I"⟩
abbrev cX1_fewestBroken : ByteArray := prog_3_method_18_code
def yX1_fewestBroken : MethodName := ⟨RX1, "fewestBroken", "()I"⟩
abbrev cX1_bestKind : ByteArray := prog_3_method_19_code
def yX1_bestKind : MethodName := ⟨RX1, "bestKind", "(I)I"⟩
abbrev cX1_freeOne : ByteArray := prog_3_method_20_code
def yX1_freeOne : MethodName := ⟨RX1, "freeOne", "()Z"⟩
def RX2 : String := "WhoBowsLast$Scene"
def TX2 : u_T := fun k => match k with
  | 0 => ("WhoBowsLast$Scene", "bows", "I", false)
  | 1 => ("WhoBowsLast$Scene", "kinds", "[I", true)
  | 2 => ("WhoBowsLast$Scene", "loves", "[I", true)
  | 3 => ("WhoBowsLast$Scene", "seconds", "[I", true)
  | 4 => ("WhoBowsLast$Scene", "aheads", "[I", true)
  | 5 => ("WhoBowsLast$Scene", "rules", "[I", true)
  | 6 => ("WhoBowsLast$Scene", "there", "I", false)
  | 7 => ("WhoBowsLast$Scene", "came", "I", false)
  | 8 => ("WhoBowsLast$Scene", "heard", "I", false)
  | 9 => ("WhoBowsLast$Scene", "clock", "I", false)
  | 10 => ("WhoBowsLast$Scene", "stage", "[I", true)
  | 11 => ("WhoBowsLast$Scene", "noises", "[I", true)
  | 12 => ("WhoBowsLast$Scene", "times", "[I", true)
  | 13 => ("WhoBowsLast$Scene", "z", "I", false)
  | _ => ("WhoBowsLast$Scene", "spots", "[I", true)
def tyX2 : Nat → FieldType := fun k => match k with
  | 0 => .int
  | 1 => .array .int
  | 2 => .array .int
  | 3 => .array .int
  | 4 => .array .int
  | 5 => .array .int
  | 6 => .int
  | 7 => .int
  | 8 => .int
  | 9 => .int
  | 10 => .array .int
  | 11 => .array .int
  | 12 => .array .int
  | 13 => .int
  | _ => .array .int
abbrev wsX20 : List Cond := u_ws RX2 TX2 15
theorem nmX2 : ∀ a, a < 15 → ∀ b, b < 15 → a ≠ b → (TX2 a).2.1 ≠ (TX2 b).2.1 := by decide +kernel
theorem tyX2_ok : ∀ k, k < 15 → parseFieldDescriptor (TX2 k).2.2.1 = some (tyX2 k) := by decide +kernel
abbrev cX2_init : ByteArray := prog_4_method_1_code
def yX2_init : MethodName := ⟨RX2, "<init>", "()V"⟩
abbrev cX2_become : ByteArray := prog_4_method_2_code
def yX2_become : MethodName := ⟨RX2, "become", "(LWhoBowsLast$Scene;)V"⟩
abbrev cX2_isBow : ByteArray := prog_4_method_3_code
def yX2_isBow : MethodName := ⟨RX2, "isBow", "(I)Z"⟩
abbrev cX2_isSetWithout : ByteArray := prog_4_method_4_code
def yX2_isSetWithout : MethodName := ⟨RX2, "isSetWithout", "(II)Z"⟩
abbrev cX2_addBow : ByteArray := prog_4_method_5_code
def yX2_addBow : MethodName := ⟨RX2, "addBow", "(I)I"⟩
abbrev cX2_noiseBy : ByteArray := prog_4_method_6_code
def yX2_noiseBy : MethodName := ⟨RX2, "noiseBy", "(II)I"⟩
abbrev cX2_leftBy : ByteArray := prog_4_method_7_code
def yX2_leftBy : MethodName := ⟨RX2, "leftBy", "(I)I"⟩
abbrev cX2_leftByLatest : ByteArray := prog_4_method_8_code
def yX2_leftByLatest : MethodName := ⟨RX2, "leftByLatest", "()I"⟩
abbrev cX2_lastedBy : ByteArray := prog_4_method_9_code
def yX2_lastedBy : MethodName := ⟨RX2, "lastedBy", "(I)I"⟩
abbrev cX2_hasCome : ByteArray := prog_4_method_10_code
def yX2_hasCome : MethodName := ⟨RX2, "hasCome", "(I)Z"⟩
abbrev cX2_couldCome : ByteArray := prog_4_method_11_code
def yX2_couldCome : MethodName := ⟨RX2, "couldCome", "(II)Z"⟩
abbrev cX2_comers : ByteArray := prog_4_method_12_code
def yX2_comers : MethodName := ⟨RX2, "comers", "()I"⟩
abbrev cX2_enter : ByteArray := prog_4_method_13_code
def yX2_enter : MethodName := ⟨RX2, "enter", "(I)I"⟩
abbrev cX2_leave : ByteArray := prog_4_method_14_code
def yX2_leave : MethodName := ⟨RX2, "leave", "()I"⟩
abbrev cX2_empty : ByteArray := prog_4_method_15_code
def yX2_empty : MethodName := ⟨RX2, "empty", "()V"⟩
abbrev cX2_falls : ByteArray := prog_4_method_16_code
def yX2_falls : MethodName := ⟨RX2, "falls", "()I"⟩
abbrev cX2_draw : ByteArray := prog_4_method_17_code
def yX2_draw : MethodName := ⟨RX2, "draw", "()I"⟩
abbrev cX2_contracts : ByteArray := prog_4_method_18_code
def yX2_contracts : MethodName := ⟨RX2, "contracts", "()I"⟩
abbrev cX2_lovesTogether : ByteArray := prog_4_method_19_code
def yX2_lovesTogether : MethodName := ⟨RX2, "lovesTogether", "()I"⟩
abbrev cX2_heldSpots : ByteArray := prog_4_method_20_code
def yX2_heldSpots : MethodName := ⟨RX2, "heldSpots", "()I"⟩
def RX3 : String := "WhoBowsLast$Sheets"
def TX3 : u_T := fun k => match k with
  | 0 => ("WhoBowsLast$Sheets", "bits", "[I", true)
  | 1 => ("WhoBowsLast$Sheets", "sizes", "[I", true)
  | _ => ("WhoBowsLast$Sheets", "numbers", "[I", true)
def tyX3 : Nat → FieldType := fun k => match k with
  | 0 => .array .int
  | 1 => .array .int
  | _ => .array .int
abbrev wsX30 : List Cond := u_ws RX3 TX3 3
theorem nmX3 : ∀ a, a < 3 → ∀ b, b < 3 → a ≠ b → (TX3 a).2.1 ≠ (TX3 b).2.1 := by decide +kernel
theorem tyX3_ok : ∀ k, k < 3 → parseFieldDescriptor (TX3 k).2.2.1 = some (tyX3 k) := by decide +kernel
abbrev cX3_init : ByteArray := prog_5_method_1_code
def yX3_init : MethodName := ⟨RX3, "<init>", "()V"⟩
abbrev cX3_isSheet : ByteArray := prog_5_method_2_code
def yX3_isSheet : MethodName := ⟨RX3, "isSheet", "(I)Z"⟩
abbrev cX3_wrongWith : ByteArray := prog_5_method_3_code
def yX3_wrongWith : MethodName := ⟨RX3, "wrongWith", "(I)I"⟩
abbrev cX3_lay : ByteArray := prog_5_method_4_code
def yX3_lay : MethodName := ⟨RX3, "lay", "(III)I"⟩
abbrev cX3_numberAt : ByteArray := prog_5_method_5_code
def yX3_numberAt : MethodName := ⟨RX3, "numberAt", "(II)I"⟩
abbrev cX3_set : ByteArray := prog_5_method_6_code
def yX3_set : MethodName := ⟨RX3, "set", "(III)V"⟩
abbrev cX3_hasPart : ByteArray := prog_5_method_7_code
def yX3_hasPart : MethodName := ⟨RX3, "hasPart", "(III)Z"⟩
abbrev cX3_move : ByteArray := prog_5_method_8_code
def yX3_move : MethodName := ⟨RX3, "move", "(IIIII)I"⟩
def RX4 : String := "WhoBowsLast$Tape"
def TX4 : u_T := fun k => match k with
  | 0 => ("WhoBowsLast$Tape", "bytes", "[I", true)
  | 1 => ("WhoBowsLast$Tape", "size", "I", false)
  | 2 => ("WhoBowsLast$Tape", "sorts", "[I", true)
  | 3 => ("WhoBowsLast$Tape", "starts", "[I", true)
  | 4 => ("WhoBowsLast$Tape", "lengths", "[I", true)
  | 5 => ("WhoBowsLast$Tape", "values", "[I", true)
  | 6 => ("WhoBowsLast$Tape", "tokens", "I", false)
  | 7 => ("WhoBowsLast$Tape", "at", "I", false)
  | 8 => ("WhoBowsLast$Tape", "sort", "I", false)
  | _ => ("WhoBowsLast$Tape", "value", "I", false)
def tyX4 : Nat → FieldType := fun k => match k with
  | 0 => .array .int
  | 1 => .int
  | 2 => .array .int
  | 3 => .array .int
  | 4 => .array .int
  | 5 => .array .int
  | 6 => .int
  | 7 => .int
  | 8 => .int
  | _ => .int
abbrev wsX40 : List Cond := u_ws RX4 TX4 10
theorem nmX4 : ∀ a, a < 10 → ∀ b, b < 10 → a ≠ b → (TX4 a).2.1 ≠ (TX4 b).2.1 := by decide +kernel
theorem tyX4_ok : ∀ k, k < 10 → parseFieldDescriptor (TX4 k).2.2.1 = some (tyX4 k) := by decide +kernel
abbrev cX4_init : ByteArray := prog_6_method_1_code
def yX4_init : MethodName := ⟨RX4, "<init>", "()V"⟩
abbrev cX4_hasRoom : ByteArray := prog_6_method_2_code
def yX4_hasRoom : MethodName := ⟨RX4, "hasRoom", "(I)Z"⟩
abbrev cX4_append : ByteArray := prog_6_method_3_code
def yX4_append : MethodName := ⟨RX4, "append", "(II)I"⟩
abbrev cX4_empty : ByteArray := prog_6_method_4_code
def yX4_empty : MethodName := ⟨RX4, "empty", "()I"⟩
abbrev cX4_readOnto : ByteArray := prog_6_method_5_code
def yX4_readOnto : MethodName := ⟨RX4, "readOnto", "(LWhoBowsLast$Scene;)I"⟩
abbrev cX4_readItem : ByteArray := prog_6_method_6_code
def yX4_readItem : MethodName := ⟨RX4, "readItem", "(LWhoBowsLast$Scene;)Z"⟩
abbrev cX4_readBow : ByteArray := prog_6_method_7_code
def yX4_readBow : MethodName := ⟨RX4, "readBow", "(LWhoBowsLast$Scene;)Z"⟩
abbrev cX4_readPart : ByteArray := prog_6_method_8_code
def yX4_readPart : MethodName := ⟨RX4, "readPart", "(III[II)Z"⟩
abbrev cX4_readRule : ByteArray := prog_6_method_9_code
def yX4_readRule : MethodName := ⟨RX4, "readRule", "(LWhoBowsLast$Scene;)Z"⟩
abbrev cX4_readContract : ByteArray := prog_6_method_10_code
def yX4_readContract : MethodName := ⟨RX4, "readContract", "(LWhoBowsLast$Scene;)Z"⟩
abbrev cX4_isNumber : ByteArray := prog_6_method_11_code
def yX4_isNumber : MethodName := ⟨RX4, "isNumber", "(II)Z"⟩
abbrev cX4_cut : ByteArray := prog_6_method_12_code
def yX4_cut : MethodName := ⟨RX4, "cut", "()V"⟩
abbrev cX4_valueOf : ByteArray := prog_6_method_13_code
def yX4_valueOf : MethodName := ⟨RX4, "valueOf", "(I)I"⟩
abbrev cX4_sortOf : ByteArray := prog_6_method_14_code
def yX4_sortOf : MethodName := ⟨RX4, "sortOf", "(I)I"⟩
abbrev cX4_take : ByteArray := prog_6_method_15_code
def yX4_take : MethodName := ⟨RX4, "take", "(I)V"⟩
abbrev cX4_wordAt : ByteArray := prog_6_method_16_code
def yX4_wordAt : MethodName := ⟨RX4, "wordAt", "(II)I"⟩
abbrev cX4_isWord : ByteArray := prog_6_method_17_code
def yX4_isWord : MethodName := ⟨RX4, "isWord", "(Ljava/lang/String;II)Z"⟩
abbrev cX4_numberAt : ByteArray := prog_6_method_18_code
def yX4_numberAt : MethodName := ⟨RX4, "numberAt", "(II)I"⟩
abbrev cX4_spelled : ByteArray := prog_6_method_19_code
def yX4_spelled : MethodName := ⟨RX4, "spelled", "(I)Ljava/lang/String;"⟩
def RX5 : String := "WhoBowsLast"
def TX5 : u_T := fun k => match k with
  | 0 => ("WhoBowsLast", "found", "[I", true)
  | 1 => ("WhoBowsLast", "scene", "LWhoBowsLast$Scene;", true)
  | 2 => ("WhoBowsLast", "kept", "LWhoBowsLast$Scene;", true)
  | 3 => ("WhoBowsLast", "draft", "LWhoBowsLast$Scene;", true)
  | 4 => ("WhoBowsLast", "orders", "LWhoBowsLast$Orders;", true)
  | 5 => ("WhoBowsLast", "tape", "LWhoBowsLast$Tape;", true)
  | 6 => ("WhoBowsLast", "sheets", "LWhoBowsLast$Sheets;", true)
  | _ => ("WhoBowsLast", "isKept", "Z", false)
def tyX5 : Nat → FieldType := fun k => match k with
  | 0 => .array .int
  | 1 => .object "WhoBowsLast$Scene"
  | 2 => .object "WhoBowsLast$Scene"
  | 3 => .object "WhoBowsLast$Scene"
  | 4 => .object "WhoBowsLast$Orders"
  | 5 => .object "WhoBowsLast$Tape"
  | 6 => .object "WhoBowsLast$Sheets"
  | _ => .boolean
abbrev wsX50 : List Cond := u_ws RX5 TX5 8
theorem nmX5 : ∀ a, a < 8 → ∀ b, b < 8 → a ≠ b → (TX5 a).2.1 ≠ (TX5 b).2.1 := by decide +kernel
theorem tyX5_ok : ∀ k, k < 8 → parseFieldDescriptor (TX5 k).2.2.1 = some (tyX5 k) := by decide +kernel
abbrev cX5_init : ByteArray := prog_1_method_1_code
def yX5_init : MethodName := ⟨RX5, "<init>", "()V"⟩
abbrev cX5_bow : ByteArray := prog_1_method_2_code
def yX5_bow : MethodName := ⟨RX5, "bow", "(I)I"⟩
abbrev cX5_of : ByteArray := prog_1_method_3_code
def yX5_of : MethodName := ⟨RX5, "of", "(II)I"⟩
abbrev cX5_change : ByteArray := prog_1_method_4_code
def yX5_change : MethodName := ⟨RX5, "change", "(III)I"⟩
abbrev cX5_contract : ByteArray := prog_1_method_5_code
def yX5_contract : MethodName := ⟨RX5, "contract", "(III)I"⟩
abbrev cX5_rule : ByteArray := prog_1_method_6_code
def yX5_rule : MethodName := ⟨RX5, "rule", "(II)I"⟩
abbrev cX5_noise : ByteArray := prog_1_method_7_code
def yX5_noise : MethodName := ⟨RX5, "noise", "(II)I"⟩
abbrev cX5_come : ByteArray := prog_1_method_8_code
def yX5_come : MethodName := ⟨RX5, "come", "(I)I"⟩
abbrev cX5_back : ByteArray := prog_1_method_9_code
def yX5_back : MethodName := ⟨RX5, "back", "()I"⟩
abbrev cX5_clear : ByteArray := prog_1_method_10_code
def yX5_clear : MethodName := ⟨RX5, "clear", "()I"⟩
abbrev cX5_stood : ByteArray := prog_1_method_11_code
def yX5_stood : MethodName := ⟨RX5, "stood", "(I)I"⟩
abbrev cX5_now : ByteArray := prog_1_method_12_code
def yX5_now : MethodName := ⟨RX5, "now", "(I)I"⟩
abbrev cX5_best : ByteArray := prog_1_method_13_code
def yX5_best : MethodName := ⟨RX5, "best", "(I)I"⟩
abbrev cX5_ith : ByteArray := prog_1_method_14_code
def yX5_ith : MethodName := ⟨RX5, "ith", "(II)I"⟩
abbrev cX5_ways : ByteArray := prog_1_method_15_code
def yX5_ways : MethodName := ⟨RX5, "ways", "()I"⟩
abbrev cX5_lasts : ByteArray := prog_1_method_16_code
def yX5_lasts : MethodName := ⟨RX5, "lasts", "()I"⟩
abbrev cX5_place : ByteArray := prog_1_method_17_code
def yX5_place : MethodName := ⟨RX5, "place", "(II)I"⟩
abbrev cX5_all : ByteArray := prog_1_method_18_code
def yX5_all : MethodName := ⟨RX5, "all", "(I)I"⟩
abbrev cX5_clash : ByteArray := prog_1_method_19_code
def yX5_clash : MethodName := ⟨RX5, "clash", "()I"⟩
abbrev cX5_broken : ByteArray := prog_1_method_20_code
def yX5_broken : MethodName := ⟨RX5, "broken", "()I"⟩
abbrev cX5_between : ByteArray := prog_1_method_21_code
def yX5_between : MethodName := ⟨RX5, "between", "(II)I"⟩
abbrev cX5_kindFor : ByteArray := prog_1_method_22_code
def yX5_kindFor : MethodName := ⟨RX5, "kindFor", "(I)I"⟩
abbrev cX5_freed : ByteArray := prog_1_method_23_code
def yX5_freed : MethodName := ⟨RX5, "freed", "()I"⟩
abbrev cX5_free : ByteArray := prog_1_method_24_code
def yX5_free : MethodName := ⟨RX5, "free", "()I"⟩
abbrev cX5_train : ByteArray := prog_1_method_25_code
def yX5_train : MethodName := ⟨RX5, "train", "()I"⟩
abbrev cX5_fits : ByteArray := prog_1_method_26_code
def yX5_fits : MethodName := ⟨RX5, "fits", "(III)I"⟩
abbrev cX5_love : ByteArray := prog_1_method_27_code
def yX5_love : MethodName := ⟨RX5, "love", "(III)I"⟩
abbrev cX5_curtain : ByteArray := prog_1_method_28_code
def yX5_curtain : MethodName := ⟨RX5, "curtain", "(II)J"⟩
abbrev cX5_stop : ByteArray := prog_1_method_29_code
def yX5_stop : MethodName := ⟨RX5, "stop", "()I"⟩
abbrev cX5_evening : ByteArray := prog_1_method_30_code
def yX5_evening : MethodName := ⟨RX5, "evening", "(I)I"⟩
abbrev cX5_lot : ByteArray := prog_1_method_31_code
def yX5_lot : MethodName := ⟨RX5, "lot", "()I"⟩
abbrev cX5_seed : ByteArray := prog_1_method_32_code
def yX5_seed : MethodName := ⟨RX5, "seed", "(I)I"⟩
abbrev cX5_feed : ByteArray := prog_1_method_33_code
def yX5_feed : MethodName := ⟨RX5, "feed", "(II)I"⟩
abbrev cX5_wipe : ByteArray := prog_1_method_34_code
def yX5_wipe : MethodName := ⟨RX5, "wipe", "()I"⟩
abbrev cX5_text : ByteArray := prog_1_method_35_code
def yX5_text : MethodName := ⟨RX5, "text", "()I"⟩
abbrev cX5_hold : ByteArray := prog_1_method_36_code
def yX5_hold : MethodName := ⟨RX5, "hold", "(II)I"⟩
abbrev cX5_as : ByteArray := prog_1_method_37_code
def yX5_as : MethodName := ⟨RX5, "as", "(II)I"⟩
abbrev cX5_sheet : ByteArray := prog_1_method_38_code
def yX5_sheet : MethodName := ⟨RX5, "sheet", "(III)I"⟩
abbrev cX5_write : ByteArray := prog_1_method_39_code
def yX5_write : MethodName := ⟨RX5, "write", "(III)I"⟩
abbrev cX5_copy : ByteArray := prog_1_method_40_code
def yX5_copy : MethodName := ⟨RX5, "copy", "(IIIII)I"⟩
abbrev cX5_load : ByteArray := prog_1_method_41_code
def yX5_load : MethodName := ⟨RX5, "load", "(I)I"⟩
abbrev cX5_judge : ByteArray := prog_1_method_42_code
def yX5_judge : MethodName := ⟨RX5, "judge", "(I)I"⟩
abbrev cX5_loud : ByteArray := prog_1_method_43_code
def yX5_loud : MethodName := ⟨RX5, "loud", "(I)I"⟩
abbrev cX5_image : ByteArray := prog_1_method_44_code
def yX5_image : MethodName := ⟨RX5, "image", "()I"⟩
abbrev cX5_undo : ByteArray := prog_1_method_45_code
def yX5_undo : MethodName := ⟨RX5, "undo", "()I"⟩
abbrev cX5_tear : ByteArray := prog_1_method_46_code
def yX5_tear : MethodName := ⟨RX5, "tear", "()I"⟩
abbrev cX5_count : ByteArray := prog_1_method_47_code
def yX5_count : MethodName := ⟨RX5, "count", "(I)I"⟩
abbrev cX5_status : ByteArray := prog_1_method_48_code
def yX5_status : MethodName := ⟨RX5, "status", "(I)I"⟩
abbrev cX5_finding : ByteArray := prog_1_method_49_code
def yX5_finding : MethodName := ⟨RX5, "finding", "(I)I"⟩
abbrev cX5_isIn : ByteArray := prog_1_method_50_code
def yX5_isIn : MethodName := ⟨RX5, "isIn", "(III)Z"⟩
abbrev cX5_put : ByteArray := prog_1_method_51_code
def yX5_put : MethodName := ⟨RX5, "put", "([III)I"⟩
abbrev cX5_memberOf : ByteArray := prog_1_method_52_code
def yX5_memberOf : MethodName := ⟨RX5, "memberOf", "(II)I"⟩
abbrev cX5_gainAt : ByteArray := prog_1_method_53_code
def yX5_gainAt : MethodName := ⟨RX5, "gainAt", "(I)I"⟩
abbrev cX5_partsFrom : ByteArray := prog_1_method_54_code
def yX5_partsFrom : MethodName := ⟨RX5, "partsFrom", "(I)J"⟩
abbrev cX5_worth : ByteArray := prog_1_method_55_code
def yX5_worth : MethodName := ⟨RX5, "worth", "(I)J"⟩
abbrev cX5_firstThatCannot : ByteArray := prog_1_method_56_code
def yX5_firstThatCannot : MethodName := ⟨RX5, "firstThatCannot", "(I)I"⟩
def RX6 : String := "WhoBowsLastModel"
def TX6 : u_T := fun k => match k with
  | 0 => ("WhoBowsLastModel", "s", "[I", true)
  | 1 => ("WhoBowsLastModel", "kept", "[I", true)
  | 2 => ("WhoBowsLastModel", "aside", "[I", true)
  | 3 => ("WhoBowsLastModel", "isKept", "Z", false)
  | 4 => ("WhoBowsLastModel", "found", "[I", true)
  | 5 => ("WhoBowsLastModel", "behind", "[I", true)
  | 6 => ("WhoBowsLastModel", "row", "[I", true)
  | 7 => ("WhoBowsLastModel", "rowMany", "I", false)
  | 8 => ("WhoBowsLastModel", "comesTo", "[I", true)
  | 9 => ("WhoBowsLastModel", "goesOn", "[I", true)
  | 10 => ("WhoBowsLastModel", "freedBy", "I", false)
  | 11 => ("WhoBowsLastModel", "tape", "[I", true)
  | 12 => ("WhoBowsLastModel", "taped", "I", false)
  | 13 => ("WhoBowsLastModel", "token", "I", false)
  | 14 => ("WhoBowsLastModel", "begun", "I", false)
  | 15 => ("WhoBowsLastModel", "ended", "I", false)
  | 16 => ("WhoBowsLastModel", "value", "J", false)
  | 17 => ("WhoBowsLastModel", "letters", "[C", true)
  | 18 => ("WhoBowsLastModel", "more", "[C", true)
  | 19 => ("WhoBowsLastModel", "others", "[C", true)
  | 20 => ("WhoBowsLastModel", "widths", "[I", true)
  | 21 => ("WhoBowsLastModel", "sizes", "[I", true)
  | 22 => ("WhoBowsLastModel", "cells", "[I", true)
  | 23 => ("WhoBowsLastModel", "carried", "[I", true)
  | _ => ("WhoBowsLastModel", "loudBy", "I", false)
def tyX6 : Nat → FieldType := fun k => match k with
  | 0 => .array .int
  | 1 => .array .int
  | 2 => .array .int
  | 3 => .boolean
  | 4 => .array .int
  | 5 => .array .int
  | 6 => .array .int
  | 7 => .int
  | 8 => .array .int
  | 9 => .array .int
  | 10 => .int
  | 11 => .array .int
  | 12 => .int
  | 13 => .int
  | 14 => .int
  | 15 => .int
  | 16 => .long
  | 17 => .array .char
  | 18 => .array .char
  | 19 => .array .char
  | 20 => .array .int
  | 21 => .array .int
  | 22 => .array .int
  | 23 => .array .int
  | _ => .int
abbrev wsX60 : List Cond := u_ws RX6 TX6 25
theorem nmX6 : ∀ a, a < 25 → ∀ b, b < 25 → a ≠ b → (TX6 a).2.1 ≠ (TX6 b).2.1 := by decide +kernel
theorem tyX6_ok : ∀ k, k < 25 → parseFieldDescriptor (TX6 k).2.2.1 = some (tyX6 k) := by decide +kernel
abbrev cX6_init : ByteArray := prog_8_method_1_code
def yX6_init : MethodName := ⟨RX6, "<init>", "()V"⟩
abbrev cX6_no : ByteArray := prog_8_method_2_code
def yX6_no : MethodName := ⟨RX6, "no", "(I)I"⟩
abbrev cX6_in1 : ByteArray := prog_8_method_3_code
def yX6_in1 : MethodName := ⟨RX6, "in1", "(III)Z"⟩
abbrev cX6_most : ByteArray := prog_8_method_4_code
def yX6_most : MethodName := ⟨RX6, "most", "(II)I"⟩
abbrev cX6_bits : ByteArray := prog_8_method_5_code
def yX6_bits : MethodName := ⟨RX6, "bits", "(I)I"⟩
abbrev cX6_isIn : ByteArray := prog_8_method_6_code
def yX6_isIn : MethodName := ⟨RX6, "isIn", "(II)Z"⟩
abbrev cX6_isBow : ByteArray := prog_8_method_7_code
def yX6_isBow : MethodName := ⟨RX6, "isBow", "(I)Z"⟩
abbrev cX6_get : ByteArray := prog_8_method_8_code
def yX6_get : MethodName := ⟨RX6, "get", "(II)I"⟩
abbrev cX6_puts : ByteArray := prog_8_method_9_code
def yX6_puts : MethodName := ⟨RX6, "puts", "(III)V"⟩
abbrev cX6_allBows : ByteArray := prog_8_method_10_code
def yX6_allBows : MethodName := ⟨RX6, "allBows", "()I"⟩
abbrev cX6_noiseOf : ByteArray := prog_8_method_11_code
def yX6_noiseOf : MethodName := ⟨RX6, "noiseOf", "(III)I"⟩
abbrev cX6_noiseBy : ByteArray := prog_8_method_12_code
def yX6_noiseBy : MethodName := ⟨RX6, "noiseBy", "(II)I"⟩
abbrev cX6_leaves : ByteArray := prog_8_method_13_code
def yX6_leaves : MethodName := ⟨RX6, "leaves", "(I)I"⟩
abbrev cX6_secondsOf : ByteArray := prog_8_method_14_code
def yX6_secondsOf : MethodName := ⟨RX6, "secondsOf", "(I)I"⟩
abbrev cX6_leftBy : ByteArray := prog_8_method_15_code
def yX6_leftBy : MethodName := ⟨RX6, "leftBy", "(I)I"⟩
abbrev cX6_whoAt : ByteArray := prog_8_method_16_code
def yX6_whoAt : MethodName := ⟨RX6, "whoAt", "(I)I"⟩
abbrev cX6_stageSet : ByteArray := prog_8_method_17_code
def yX6_stageSet : MethodName := ⟨RX6, "stageSet", "()I"⟩
abbrev cX6_latest : ByteArray := prog_8_method_18_code
def yX6_latest : MethodName := ⟨RX6, "latest", "()I"⟩
abbrev cX6_canBehind : ByteArray := prog_8_method_19_code
def yX6_canBehind : MethodName := ⟨RX6, "canBehind", "(II)Z"⟩
abbrev cX6_canSet : ByteArray := prog_8_method_20_code
def yX6_canSet : MethodName := ⟨RX6, "canSet", "(I)I"⟩
abbrev cX6_comes : ByteArray := prog_8_method_21_code
def yX6_comes : MethodName := ⟨RX6, "comes", "(I)I"⟩
abbrev cX6_addsBow : ByteArray := prog_8_method_22_code
def yX6_addsBow : MethodName := ⟨RX6, "addsBow", "(I)V"⟩
abbrev cX6_bow : ByteArray := prog_8_method_23_code
def yX6_bow : MethodName := ⟨RX6, "bow", "(I)I"⟩
abbrev cX6_of : ByteArray := prog_8_method_24_code
def yX6_of : MethodName := ⟨RX6, "of", "(II)I"⟩
abbrev cX6_change : ByteArray := prog_8_method_25_code
def yX6_change : MethodName := ⟨RX6, "change", "(III)I"⟩
abbrev cX6_contract : ByteArray := prog_8_method_26_code
def yX6_contract : MethodName := ⟨RX6, "contract", "(III)I"⟩
abbrev cX6_greatestRule : ByteArray := prog_8_method_27_code
def yX6_greatestRule : MethodName := ⟨RX6, "greatestRule", "(I)I"⟩
abbrev cX6_rule : ByteArray := prog_8_method_28_code
def yX6_rule : MethodName := ⟨RX6, "rule", "(II)I"⟩
abbrev cX6_noise : ByteArray := prog_8_method_29_code
def yX6_noise : MethodName := ⟨RX6, "noise", "(II)I"⟩
abbrev cX6_come : ByteArray := prog_8_method_30_code
def yX6_come : MethodName := ⟨RX6, "come", "(I)I"⟩
abbrev cX6_back : ByteArray := prog_8_method_31_code
def yX6_back : MethodName := ⟨RX6, "back", "()I"⟩
abbrev cX6_clear : ByteArray := prog_8_method_32_code
def yX6_clear : MethodName := ⟨RX6, "clear", "()I"⟩
abbrev cX6_stood : ByteArray := prog_8_method_33_code
def yX6_stood : MethodName := ⟨RX6, "stood", "(I)I"⟩
abbrev cX6_fallsOfStage : ByteArray := prog_8_method_34_code
def yX6_fallsOfStage : MethodName := ⟨RX6, "fallsOfStage", "()I"⟩
abbrev cX6_now : ByteArray := prog_8_method_35_code
def yX6_now : MethodName := ⟨RX6, "now", "(I)I"⟩
abbrev cX6_brings : ByteArray := prog_8_method_36_code
def yX6_brings : MethodName := ⟨RX6, "brings", "(III)I"⟩
abbrev cX6_findsBest : ByteArray := prog_8_method_37_code
def yX6_findsBest : MethodName := ⟨RX6, "findsBest", "(I)I"⟩
abbrev cX6_findsRow : ByteArray := prog_8_method_38_code
def yX6_findsRow : MethodName := ⟨RX6, "findsRow", "(I)Z"⟩
abbrev cX6_best : ByteArray := prog_8_method_39_code
def yX6_best : MethodName := ⟨RX6, "best", "(I)I"⟩
abbrev cX6_ith : ByteArray := prog_8_method_40_code
def yX6_ith : MethodName := ⟨RX6, "ith", "(II)I"⟩
abbrev cX6_countsWays : ByteArray := prog_8_method_41_code
def yX6_countsWays : MethodName := ⟨RX6, "countsWays", "()I"⟩
abbrev cX6_ways : ByteArray := prog_8_method_42_code
def yX6_ways : MethodName := ⟨RX6, "ways", "()I"⟩
abbrev cX6_lasts : ByteArray := prog_8_method_43_code
def yX6_lasts : MethodName := ⟨RX6, "lasts", "()I"⟩
abbrev cX6_place : ByteArray := prog_8_method_44_code
def yX6_place : MethodName := ⟨RX6, "place", "(II)I"⟩
abbrev cX6_allAhead : ByteArray := prog_8_method_45_code
def yX6_allAhead : MethodName := ⟨RX6, "allAhead", "(I)I"⟩
abbrev cX6_all : ByteArray := prog_8_method_46_code
def yX6_all : MethodName := ⟨RX6, "all", "(I)I"⟩
abbrev cX6_clash : ByteArray := prog_8_method_47_code
def yX6_clash : MethodName := ⟨RX6, "clash", "()I"⟩
abbrev cX6_broken : ByteArray := prog_8_method_48_code
def yX6_broken : MethodName := ⟨RX6, "broken", "()I"⟩
abbrev cX6_between : ByteArray := prog_8_method_49_code
def yX6_between : MethodName := ⟨RX6, "between", "(II)I"⟩
abbrev cX6_kindFor : ByteArray := prog_8_method_50_code
def yX6_kindFor : MethodName := ⟨RX6, "kindFor", "(I)I"⟩
abbrev cX6_findsFreed : ByteArray := prog_8_method_51_code
def yX6_findsFreed : MethodName := ⟨RX6, "findsFreed", "()I"⟩
abbrev cX6_freed : ByteArray := prog_8_method_52_code
def yX6_freed : MethodName := ⟨RX6, "freed", "()I"⟩
abbrev cX6_free : ByteArray := prog_8_method_53_code
def yX6_free : MethodName := ⟨RX6, "free", "()I"⟩
abbrev cX6_train : ByteArray := prog_8_method_54_code
def yX6_train : MethodName := ⟨RX6, "train", "()I"⟩
abbrev cX6_isAsked : ByteArray := prog_8_method_55_code
def yX6_isAsked : MethodName := ⟨RX6, "isAsked", "(II)Z"⟩
abbrev cX6_fits : ByteArray := prog_8_method_56_code
def yX6_fits : MethodName := ⟨RX6, "fits", "(III)I"⟩
abbrev cX6_love : ByteArray := prog_8_method_57_code
def yX6_love : MethodName := ⟨RX6, "love", "(III)I"⟩
abbrev cX6_silentAt : ByteArray := prog_8_method_58_code
def yX6_silentAt : MethodName := ⟨RX6, "silentAt", "(I)I"⟩
abbrev cX6_tens : ByteArray := prog_8_method_59_code
def yX6_tens : MethodName := ⟨RX6, "tens", "(I)J"⟩
abbrev cX6_worthFrom : ByteArray := prog_8_method_60_code
def yX6_worthFrom : MethodName := ⟨RX6, "worthFrom", "(I)J"⟩
abbrev cX6_curtain : ByteArray := prog_8_method_61_code
def yX6_curtain : MethodName := ⟨RX6, "curtain", "(II)J"⟩
abbrev cX6_stop : ByteArray := prog_8_method_62_code
def yX6_stop : MethodName := ⟨RX6, "stop", "()I"⟩
abbrev cX6_draw : ByteArray := prog_8_method_63_code
def yX6_draw : MethodName := ⟨RX6, "draw", "()I"⟩
abbrev cX6_evening : ByteArray := prog_8_method_64_code
def yX6_evening : MethodName := ⟨RX6, "evening", "(I)I"⟩
abbrev cX6_lot : ByteArray := prog_8_method_65_code
def yX6_lot : MethodName := ⟨RX6, "lot", "()I"⟩
abbrev cX6_seed : ByteArray := prog_8_method_66_code
def yX6_seed : MethodName := ⟨RX6, "seed", "(I)I"⟩
abbrev cX6_setsAside : ByteArray := prog_8_method_67_code
def yX6_setsAside : MethodName := ⟨RX6, "setsAside", "()V"⟩
abbrev cX6_laysBack : ByteArray := prog_8_method_68_code
def yX6_laysBack : MethodName := ⟨RX6, "laysBack", "()V"⟩
abbrev cX6_feed : ByteArray := prog_8_method_69_code
def yX6_feed : MethodName := ⟨RX6, "feed", "(II)I"⟩
abbrev cX6_wipe : ByteArray := prog_8_method_70_code
def yX6_wipe : MethodName := ⟨RX6, "wipe", "()I"⟩
abbrev cX6_isLetter : ByteArray := prog_8_method_71_code
def yX6_isLetter : MethodName := ⟨RX6, "isLetter", "(I)Z"⟩
abbrev cX6_isDigit : ByteArray := prog_8_method_72_code
def yX6_isDigit : MethodName := ⟨RX6, "isDigit", "(I)Z"⟩
abbrev cX6_nextToken : ByteArray := prog_8_method_73_code
def yX6_nextToken : MethodName := ⟨RX6, "nextToken", "()V"⟩
abbrev cX6_wordOf : ByteArray := prog_8_method_74_code
def yX6_wordOf : MethodName := ⟨RX6, "wordOf", "([C)I"⟩
abbrev cX6_takesNumber : ByteArray := prog_8_method_75_code
def yX6_takesNumber : MethodName := ⟨RX6, "takesNumber", "(II)I"⟩
abbrev cX6_readsBow : ByteArray := prog_8_method_76_code
def yX6_readsBow : MethodName := ⟨RX6, "readsBow", "(I)Z"⟩
abbrev cX6_readsContract : ByteArray := prog_8_method_77_code
def yX6_readsContract : MethodName := ⟨RX6, "readsContract", "()Z"⟩
abbrev cX6_readsItem : ByteArray := prog_8_method_78_code
def yX6_readsItem : MethodName := ⟨RX6, "readsItem", "()Z"⟩
abbrev cX6_text : ByteArray := prog_8_method_79_code
def yX6_text : MethodName := ⟨RX6, "text", "()I"⟩
abbrev cX6_isSpot : ByteArray := prog_8_method_80_code
def yX6_isSpot : MethodName := ⟨RX6, "isSpot", "(I)Z"⟩
abbrev cX6_hold : ByteArray := prog_8_method_81_code
def yX6_hold : MethodName := ⟨RX6, "hold", "(II)I"⟩
abbrev cX6_above : ByteArray := prog_8_method_82_code
def yX6_above : MethodName := ⟨RX6, "above", "(I)I"⟩
abbrev cX6_isSheet : ByteArray := prog_8_method_83_code
def yX6_isSheet : MethodName := ⟨RX6, "isSheet", "(I)Z"⟩
abbrev cX6_wrongSheet : ByteArray := prog_8_method_84_code
def yX6_wrongSheet : MethodName := ⟨RX6, "wrongSheet", "(I)I"⟩
abbrev cX6_as : ByteArray := prog_8_method_85_code
def yX6_as : MethodName := ⟨RX6, "as", "(II)I"⟩
abbrev cX6_sheet : ByteArray := prog_8_method_86_code
def yX6_sheet : MethodName := ⟨RX6, "sheet", "(III)I"⟩
abbrev cX6_write : ByteArray := prog_8_method_87_code
def yX6_write : MethodName := ⟨RX6, "write", "(III)I"⟩
abbrev cX6_copy : ByteArray := prog_8_method_88_code
def yX6_copy : MethodName := ⟨RX6, "copy", "(IIIII)I"⟩
abbrev cX6_load : ByteArray := prog_8_method_89_code
def yX6_load : MethodName := ⟨RX6, "load", "(I)I"⟩
abbrev cX6_comeOf : ByteArray := prog_8_method_90_code
def yX6_comeOf : MethodName := ⟨RX6, "comeOf", "(I)I"⟩
abbrev cX6_judge : ByteArray := prog_8_method_91_code
def yX6_judge : MethodName := ⟨RX6, "judge", "(I)I"⟩
abbrev cX6_loud : ByteArray := prog_8_method_92_code
def yX6_loud : MethodName := ⟨RX6, "loud", "(I)I"⟩
abbrev cX6_image : ByteArray := prog_8_method_93_code
def yX6_image : MethodName := ⟨RX6, "image", "()I"⟩
abbrev cX6_undo : ByteArray := prog_8_method_94_code
def yX6_undo : MethodName := ⟨RX6, "undo", "()I"⟩
abbrev cX6_tear : ByteArray := prog_8_method_95_code
def yX6_tear : MethodName := ⟨RX6, "tear", "()I"⟩
abbrev cX6_count : ByteArray := prog_8_method_96_code
def yX6_count : MethodName := ⟨RX6, "count", "(I)I"⟩
abbrev cX6_status : ByteArray := prog_8_method_97_code
def yX6_status : MethodName := ⟨RX6, "status", "(I)I"⟩
def RJ6 : String := "java/lang/Integer"
def TJ6 : u_T := fun k => match k with
  | _ => ("", "", "", false)
def tyJ6 : Nat → FieldType := fun k => match k with
  | _ => .int
abbrev wsJ60 : List Cond := u_ws RJ6 TJ6 0
theorem nmJ6 : ∀ a, a < 0 → ∀ b, b < 0 → a ≠ b → (TJ6 a).2.1 ≠ (TJ6 b).2.1 := by decide +kernel
theorem tyJ6_ok : ∀ k, k < 0 → parseFieldDescriptor (TJ6 k).2.2.1 = some (tyJ6 k) := by decide +kernel
abbrev cJ6_bitCount_0f7a4 : ByteArray := prog_9_method_49_code
def yJ6_bitCount_0f7a4 : MethodName := ⟨RJ6, "bitCount", "(I)I"⟩
def RJ9 : String := "java/lang/Math"
def TJ9 : u_T := fun k => match k with
  | _ => ("", "", "", false)
def tyJ9 : Nat → FieldType := fun k => match k with
  | _ => .int
abbrev wsJ90 : List Cond := u_ws RJ9 TJ9 0
theorem nmJ9 : ∀ a, a < 0 → ∀ b, b < 0 → a ≠ b → (TJ9 a).2.1 ≠ (TJ9 b).2.1 := by decide +kernel
theorem tyJ9_ok : ∀ k, k < 0 → parseFieldDescriptor (TJ9 k).2.2.1 = some (tyJ9 k) := by decide +kernel
abbrev cJ9_max_7cf53 : ByteArray := prog_10_method_65_code
def yJ9_max_7cf53 : MethodName := ⟨RJ9, "max", "(II)I"⟩
abbrev cJ9_max_f86c9 : ByteArray := prog_10_method_66_code
def yJ9_max_f86c9 : MethodName := ⟨RJ9, "max", "(JJ)J"⟩
abbrev cJ9_min_7cf53 : ByteArray := prog_10_method_69_code
def yJ9_min_7cf53 : MethodName := ⟨RJ9, "min", "(II)I"⟩
def RJ0 : String := "java/lang/String"
def TJ0 : u_T := fun k => match k with
  | _ => ("", "", "", false)
def tyJ0 : Nat → FieldType := fun k => match k with
  | _ => .int
abbrev wsJ00 : List Cond := u_ws RJ0 TJ0 0
theorem nmJ0 : ∀ a, a < 0 → ∀ b, b < 0 → a ≠ b → (TJ0 a).2.1 ≠ (TJ0 b).2.1 := by decide +kernel
theorem tyJ0_ok : ∀ k, k < 0 → parseFieldDescriptor (TJ0 k).2.2.1 = some (tyJ0 k) := by decide +kernel
abbrev cJ0_length_8abf5 : ByteArray := prog_11_method_54_code
def yJ0_length_8abf5 : MethodName := ⟨RJ0, "length", "()I"⟩
abbrev cJ0_charAt_5068e : ByteArray := prog_11_method_56_code
def yJ0_charAt_5068e : MethodName := ⟨RJ0, "charAt", "(I)C"⟩
abbrev cJ0_coder_7d493 : ByteArray := prog_11_method_152_code
def yJ0_coder_7d493 : MethodName := ⟨RJ0, "coder", "()B"⟩
abbrev cJ0_isLatin1_aae02 : ByteArray := prog_11_method_154_code
def yJ0_isLatin1_aae02 : MethodName := ⟨RJ0, "isLatin1", "()Z"⟩
abbrev cJ0_checkIndex_df160 : ByteArray := prog_11_method_155_code
def yJ0_checkIndex_df160 : MethodName := ⟨RJ0, "checkIndex", "(II)V"⟩
def RJ1 : String := "java/lang/StringLatin1"
def TJ1 : u_T := fun k => match k with
  | _ => ("", "", "", false)
def tyJ1 : Nat → FieldType := fun k => match k with
  | _ => .int
abbrev wsJ10 : List Cond := u_ws RJ1 TJ1 0
theorem nmJ1 : ∀ a, a < 0 → ∀ b, b < 0 → a ≠ b → (TJ1 a).2.1 ≠ (TJ1 b).2.1 := by decide +kernel
theorem tyJ1_ok : ∀ k, k < 0 → parseFieldDescriptor (TJ1 k).2.2.1 = some (tyJ1 k) := by decide +kernel
abbrev cJ1_charAt_3b067 : ByteArray := prog_12_method_2_code
def yJ1_charAt_3b067 : MethodName := ⟨RJ1, "charAt", "([BI)C"⟩
def RJ2 : String := "java/lang/StringUTF16"
def TJ2 : u_T := fun k => match k with
  | _ => ("", "", "", false)
def tyJ2 : Nat → FieldType := fun k => match k with
  | _ => .int
abbrev wsJ20 : List Cond := u_ws RJ2 TJ2 0
theorem nmJ2 : ∀ a, a < 0 → ∀ b, b < 0 → a ≠ b → (TJ2 a).2.1 ≠ (TJ2 b).2.1 := by decide +kernel
theorem tyJ2_ok : ∀ k, k < 0 → parseFieldDescriptor (TJ2 k).2.2.1 = some (tyJ2 k) := by decide +kernel
abbrev cJ2_getChar_3b067 : ByteArray := prog_13_method_5_code
def yJ2_getChar_3b067 : MethodName := ⟨RJ2, "getChar", "([BI)C"⟩
abbrev cJ2_length_9d52b : ByteArray := prog_13_method_6_code
def yJ2_length_9d52b : MethodName := ⟨RJ2, "length", "([B)I"⟩
abbrev cJ2_charAt_3b067 : ByteArray := prog_13_method_83_code
def yJ2_charAt_3b067 : MethodName := ⟨RJ2, "charAt", "([BI)C"⟩
abbrev cJ2_checkIndex_2214a : ByteArray := prog_13_method_91_code
def yJ2_checkIndex_2214a : MethodName := ⟨RJ2, "checkIndex", "(I[B)V"⟩
def RJ10 : String := "java/lang/System"
def TJ10 : u_T := fun k => match k with
  | _ => ("", "", "", false)
def tyJ10 : Nat → FieldType := fun k => match k with
  | _ => .int
abbrev wsJ100 : List Cond := u_ws RJ10 TJ10 0
theorem nmJ10 : ∀ a, a < 0 → ∀ b, b < 0 → a ≠ b → (TJ10 a).2.1 ≠ (TJ10 b).2.1 := by decide +kernel
theorem tyJ10_ok : ∀ k, k < 0 → parseFieldDescriptor (TJ10 k).2.2.1 = some (tyJ10 k) := by decide +kernel
def RJ3 : String := "jdk/internal/util/Preconditions"
def TJ3 : u_T := fun k => match k with
  | _ => ("", "", "", false)
def tyJ3 : Nat → FieldType := fun k => match k with
  | _ => .int
abbrev wsJ30 : List Cond := u_ws RJ3 TJ3 0
theorem nmJ3 : ∀ a, a < 0 → ∀ b, b < 0 → a ≠ b → (TJ3 a).2.1 ≠ (TJ3 b).2.1 := by decide +kernel
theorem tyJ3_ok : ∀ k, k < 0 → parseFieldDescriptor (TJ3 k).2.2.1 = some (tyJ3 k) := by decide +kernel
abbrev cJ3_checkIndex_8e157 : ByteArray := prog_15_method_11_code
def yJ3_checkIndex_8e157 : MethodName := ⟨RJ3, "checkIndex", "(IILjava/util/function/BiFunction;)I"⟩
def RL : String := "WhoBowsLastLaw"
abbrev cL_law : ByteArray := code
def yL_law : MethodName := ⟨RL, "law", "([I)Z"⟩
abbrev vwCl : List vw_C := [(RX1, TX1, 16), (RX2, TX2, 15), (RX3, TX3, 3), (RX4, TX4, 10), (RX5, TX5, 8), (RX6, TX6, 25)]
