section
-- ===== PART A: goes FIRST, ahead of the names: the tables' words, and 'selects' of the private methods out of them =====
/-- a private method of a class that the tables say can be made, by its rows of tables_1 -/
def lw_okq (q : MethodName × Nat) : Prop := (q.1.cls ≠ "java/lang/invoke/MethodHandle" ∧ q.1.cls ≠ "java/lang/invoke/VarHandle") ∧ Cond.instantiable q.1.cls q.2 ∈ tables_1 ∧ Cond.privateMethod q.1 ∈ tables_1 ∧ Cond.instanceMethod q.1 ∈ tables_1
theorem lw_p0 : lw_okq (⟨"AnswerShorter", "refuse", "(I)I"⟩, 11) := ⟨⟨by decide +kernel, by decide +kernel⟩, List.mem_of_getElem? (i := 19) (by decide +kernel), List.mem_of_getElem? (i := 240) (by decide +kernel), List.mem_of_getElem? (i := 241) (by decide +kernel)⟩
theorem lw_p1 : lw_okq (⟨"AnswerShorter$Letters", "behind", "(I)I"⟩, 2) := ⟨⟨by decide +kernel, by decide +kernel⟩, List.mem_of_getElem? (i := 27) (by decide +kernel), List.mem_of_getElem? (i := 256) (by decide +kernel), List.mem_of_getElem? (i := 257) (by decide +kernel)⟩
theorem lw_p2 : lw_okq (⟨"AnswerShorter$Letters", "sign", "(I)I"⟩, 2) := ⟨⟨by decide +kernel, by decide +kernel⟩, List.mem_of_getElem? (i := 27) (by decide +kernel), List.mem_of_getElem? (i := 260) (by decide +kernel), List.mem_of_getElem? (i := 261) (by decide +kernel)⟩
theorem lw_p3 : lw_okq (⟨"AnswerShorter$Letters", "behindTelling", "(I)I"⟩, 2) := ⟨⟨by decide +kernel, by decide +kernel⟩, List.mem_of_getElem? (i := 27) (by decide +kernel), List.mem_of_getElem? (i := 264) (by decide +kernel), List.mem_of_getElem? (i := 265) (by decide +kernel)⟩
theorem lw_p4 : lw_okq (⟨"AnswerShorter$Letters", "behindForm", "(ILjava/lang/String;)I"⟩, 2) := ⟨⟨by decide +kernel, by decide +kernel⟩, List.mem_of_getElem? (i := 27) (by decide +kernel), List.mem_of_getElem? (i := 279) (by decide +kernel), List.mem_of_getElem? (i := 280) (by decide +kernel)⟩
theorem lw_p5 : lw_okq (⟨"AnswerShorter$Letters", "tellOne", "(LAnswerShorter$Tongue;II)Z"⟩, 2) := ⟨⟨by decide +kernel, by decide +kernel⟩, List.mem_of_getElem? (i := 27) (by decide +kernel), List.mem_of_getElem? (i := 412) (by decide +kernel), List.mem_of_getElem? (i := 413) (by decide +kernel)⟩
theorem lw_p6 : lw_okq (⟨"AnswerShorter$Letters", "tellWord", "(LAnswerShorter$Tongue;II)Z"⟩, 2) := ⟨⟨by decide +kernel, by decide +kernel⟩, List.mem_of_getElem? (i := 27) (by decide +kernel), List.mem_of_getElem? (i := 416) (by decide +kernel), List.mem_of_getElem? (i := 417) (by decide +kernel)⟩
theorem lw_p7 : lw_okq (⟨"AnswerShorter$Letters", "digit", "(I)I"⟩, 2) := ⟨⟨by decide +kernel, by decide +kernel⟩, List.mem_of_getElem? (i := 27) (by decide +kernel), List.mem_of_getElem? (i := 420) (by decide +kernel), List.mem_of_getElem? (i := 421) (by decide +kernel)⟩
theorem lw_p8 : lw_okq (⟨"AnswerShorter", "forgetSayings", "()V"⟩, 11) := ⟨⟨by decide +kernel, by decide +kernel⟩, List.mem_of_getElem? (i := 19) (by decide +kernel), List.mem_of_getElem? (i := 447) (by decide +kernel), List.mem_of_getElem? (i := 448) (by decide +kernel)⟩
theorem lw_p9 : lw_okq (⟨"AnswerShorter", "addTo", "(LAnswerShorter$Row;I)I"⟩, 11) := ⟨⟨by decide +kernel, by decide +kernel⟩, List.mem_of_getElem? (i := 19) (by decide +kernel), List.mem_of_getElem? (i := 478) (by decide +kernel), List.mem_of_getElem? (i := 479) (by decide +kernel)⟩
theorem lw_p10 : lw_okq (⟨"AnswerShorter", "takeRow", "()I"⟩, 11) := ⟨⟨by decide +kernel, by decide +kernel⟩, List.mem_of_getElem? (i := 19) (by decide +kernel), List.mem_of_getElem? (i := 490) (by decide +kernel), List.mem_of_getElem? (i := 491) (by decide +kernel)⟩
theorem lw_p11 : lw_okq (⟨"AnswerShorter$Sayings", "refresh", "()V"⟩, 18) := ⟨⟨by decide +kernel, by decide +kernel⟩, List.mem_of_getElem? (i := 115) (by decide +kernel), List.mem_of_getElem? (i := 557) (by decide +kernel), List.mem_of_getElem? (i := 558) (by decide +kernel)⟩
theorem lw_p12 : lw_okq (⟨"AnswerShorter$Sayings", "clearGroups", "()V"⟩, 18) := ⟨⟨by decide +kernel, by decide +kernel⟩, List.mem_of_getElem? (i := 115) (by decide +kernel), List.mem_of_getElem? (i := 561) (by decide +kernel), List.mem_of_getElem? (i := 562) (by decide +kernel)⟩
theorem lw_p13 : lw_okq (⟨"AnswerShorter$Sayings", "putInGroup", "(I)V"⟩, 18) := ⟨⟨by decide +kernel, by decide +kernel⟩, List.mem_of_getElem? (i := 115) (by decide +kernel), List.mem_of_getElem? (i := 573) (by decide +kernel), List.mem_of_getElem? (i := 574) (by decide +kernel)⟩
theorem lw_p14 : lw_okq (⟨"AnswerShorter$Sayings", "gather", "(II)V"⟩, 18) := ⟨⟨by decide +kernel, by decide +kernel⟩, List.mem_of_getElem? (i := 115) (by decide +kernel), List.mem_of_getElem? (i := 584) (by decide +kernel), List.mem_of_getElem? (i := 585) (by decide +kernel)⟩
theorem lw_p15 : lw_okq (⟨"AnswerShorter$Sayings", "chosen", "(II)I"⟩, 18) := ⟨⟨by decide +kernel, by decide +kernel⟩, List.mem_of_getElem? (i := 115) (by decide +kernel), List.mem_of_getElem? (i := 590) (by decide +kernel), List.mem_of_getElem? (i := 591) (by decide +kernel)⟩
def lw_privs_1 : List (MethodName × Nat) := [(⟨"AnswerShorter", "refuse", "(I)I"⟩, 11), (⟨"AnswerShorter$Letters", "behind", "(I)I"⟩, 2), (⟨"AnswerShorter$Letters", "sign", "(I)I"⟩, 2), (⟨"AnswerShorter$Letters", "behindTelling", "(I)I"⟩, 2), (⟨"AnswerShorter$Letters", "behindForm", "(ILjava/lang/String;)I"⟩, 2), (⟨"AnswerShorter$Letters", "tellOne", "(LAnswerShorter$Tongue;II)Z"⟩, 2), (⟨"AnswerShorter$Letters", "tellWord", "(LAnswerShorter$Tongue;II)Z"⟩, 2), (⟨"AnswerShorter$Letters", "digit", "(I)I"⟩, 2), (⟨"AnswerShorter", "forgetSayings", "()V"⟩, 11), (⟨"AnswerShorter", "addTo", "(LAnswerShorter$Row;I)I"⟩, 11), (⟨"AnswerShorter", "takeRow", "()I"⟩, 11), (⟨"AnswerShorter$Sayings", "refresh", "()V"⟩, 18), (⟨"AnswerShorter$Sayings", "clearGroups", "()V"⟩, 18), (⟨"AnswerShorter$Sayings", "putInGroup", "(I)V"⟩, 18), (⟨"AnswerShorter$Sayings", "gather", "(II)V"⟩, 18), (⟨"AnswerShorter$Sayings", "chosen", "(II)I"⟩, 18)]
theorem lw_r1 : ∀ q ∈ lw_privs_1, lw_okq q := List.forall_mem_cons.mpr ⟨lw_p0, List.forall_mem_cons.mpr ⟨lw_p1, List.forall_mem_cons.mpr ⟨lw_p2, List.forall_mem_cons.mpr ⟨lw_p3, List.forall_mem_cons.mpr ⟨lw_p4, List.forall_mem_cons.mpr ⟨lw_p5, List.forall_mem_cons.mpr ⟨lw_p6, List.forall_mem_cons.mpr ⟨lw_p7, List.forall_mem_cons.mpr ⟨lw_p8, List.forall_mem_cons.mpr ⟨lw_p9, List.forall_mem_cons.mpr ⟨lw_p10, List.forall_mem_cons.mpr ⟨lw_p11, List.forall_mem_cons.mpr ⟨lw_p12, List.forall_mem_cons.mpr ⟨lw_p13, List.forall_mem_cons.mpr ⟨lw_p14, List.forall_mem_cons.mpr ⟨lw_p15, fun _ h => absurd h List.not_mem_nil⟩⟩⟩⟩⟩⟩⟩⟩⟩⟩⟩⟩⟩⟩⟩⟩
theorem lw_p16 : lw_okq (⟨"AnswerShorter$Sayings", "holdsCase", "(II)Z"⟩, 18) := ⟨⟨by decide +kernel, by decide +kernel⟩, List.mem_of_getElem? (i := 115) (by decide +kernel), List.mem_of_getElem? (i := 594) (by decide +kernel), List.mem_of_getElem? (i := 595) (by decide +kernel)⟩
theorem lw_p17 : lw_okq (⟨"AnswerShorter$Sayings", "isLiked", "(III)Z"⟩, 18) := ⟨⟨by decide +kernel, by decide +kernel⟩, List.mem_of_getElem? (i := 115) (by decide +kernel), List.mem_of_getElem? (i := 598) (by decide +kernel), List.mem_of_getElem? (i := 599) (by decide +kernel)⟩
theorem lw_p18 : lw_okq (⟨"AnswerShorter", "lengthOrWord", "(II)I"⟩, 11) := ⟨⟨by decide +kernel, by decide +kernel⟩, List.mem_of_getElem? (i := 19) (by decide +kernel), List.mem_of_getElem? (i := 602) (by decide +kernel), List.mem_of_getElem? (i := 603) (by decide +kernel)⟩
theorem lw_p19 : lw_okq (⟨"AnswerShorter$Sayings", "findFirsts", "()V"⟩, 18) := ⟨⟨by decide +kernel, by decide +kernel⟩, List.mem_of_getElem? (i := 115) (by decide +kernel), List.mem_of_getElem? (i := 631) (by decide +kernel), List.mem_of_getElem? (i := 632) (by decide +kernel)⟩
theorem lw_p20 : lw_okq (⟨"AnswerShorter$Sayings", "noteFirst", "(II)V"⟩, 18) := ⟨⟨by decide +kernel, by decide +kernel⟩, List.mem_of_getElem? (i := 115) (by decide +kernel), List.mem_of_getElem? (i := 635) (by decide +kernel), List.mem_of_getElem? (i := 636) (by decide +kernel)⟩
theorem lw_p21 : lw_okq (⟨"AnswerShorter$Sayings", "leftUnder", "(III)I"⟩, 18) := ⟨⟨by decide +kernel, by decide +kernel⟩, List.mem_of_getElem? (i := 115) (by decide +kernel), List.mem_of_getElem? (i := 649) (by decide +kernel), List.mem_of_getElem? (i := 650) (by decide +kernel)⟩
theorem lw_p22 : lw_okq (⟨"AnswerShorter$Sayings", "findBest", "(II)I"⟩, 18) := ⟨⟨by decide +kernel, by decide +kernel⟩, List.mem_of_getElem? (i := 115) (by decide +kernel), List.mem_of_getElem? (i := 661) (by decide +kernel), List.mem_of_getElem? (i := 662) (by decide +kernel)⟩
theorem lw_p23 : lw_okq (⟨"AnswerShorter$Sayings", "forcesAnswer", "(I)Z"⟩, 18) := ⟨⟨by decide +kernel, by decide +kernel⟩, List.mem_of_getElem? (i := 115) (by decide +kernel), List.mem_of_getElem? (i := 678) (by decide +kernel), List.mem_of_getElem? (i := 679) (by decide +kernel)⟩
theorem lw_p24 : lw_okq (⟨"AnswerShorter$Sayings", "casesWithWeight", "()I"⟩, 18) := ⟨⟨by decide +kernel, by decide +kernel⟩, List.mem_of_getElem? (i := 115) (by decide +kernel), List.mem_of_getElem? (i := 682) (by decide +kernel), List.mem_of_getElem? (i := 683) (by decide +kernel)⟩
theorem lw_p25 : lw_okq (⟨"AnswerShorter", "leftByLots", "(III)I"⟩, 11) := ⟨⟨by decide +kernel, by decide +kernel⟩, List.mem_of_getElem? (i := 19) (by decide +kernel), List.mem_of_getElem? (i := 768) (by decide +kernel), List.mem_of_getElem? (i := 769) (by decide +kernel)⟩
theorem lw_p26 : lw_okq (⟨"AnswerShorterModel", "refuse", "(I)I"⟩, 36) := ⟨⟨by decide +kernel, by decide +kernel⟩, List.mem_of_getElem? (i := 803) (by decide +kernel), List.mem_of_getElem? (i := 924) (by decide +kernel), List.mem_of_getElem? (i := 925) (by decide +kernel)⟩
theorem lw_p27 : lw_okq (⟨"AnswerShorterModel", "faultOfForm", "()I"⟩, 36) := ⟨⟨by decide +kernel, by decide +kernel⟩, List.mem_of_getElem? (i := 803) (by decide +kernel), List.mem_of_getElem? (i := 932) (by decide +kernel), List.mem_of_getElem? (i := 933) (by decide +kernel)⟩
theorem lw_p28 : lw_okq (⟨"AnswerShorterModel", "goesBy", "()Z"⟩, 36) := ⟨⟨by decide +kernel, by decide +kernel⟩, List.mem_of_getElem? (i := 803) (by decide +kernel), List.mem_of_getElem? (i := 936) (by decide +kernel), List.mem_of_getElem? (i := 937) (by decide +kernel)⟩
theorem lw_p29 : lw_okq (⟨"AnswerShorterModel", "must", "(I)Z"⟩, 36) := ⟨⟨by decide +kernel, by decide +kernel⟩, List.mem_of_getElem? (i := 803) (by decide +kernel), List.mem_of_getElem? (i := 940) (by decide +kernel), List.mem_of_getElem? (i := 941) (by decide +kernel)⟩
theorem lw_p30 : lw_okq (⟨"AnswerShorterModel", "sees", "(I)Z"⟩, 36) := ⟨⟨by decide +kernel, by decide +kernel⟩, List.mem_of_getElem? (i := 803) (by decide +kernel), List.mem_of_getElem? (i := 944) (by decide +kernel), List.mem_of_getElem? (i := 945) (by decide +kernel)⟩
theorem lw_p31 : lw_okq (⟨"AnswerShorterModel", "digit", "()Z"⟩, 36) := ⟨⟨by decide +kernel, by decide +kernel⟩, List.mem_of_getElem? (i := 803) (by decide +kernel), List.mem_of_getElem? (i := 948) (by decide +kernel), List.mem_of_getElem? (i := 949) (by decide +kernel)⟩
def lw_privs_2 : List (MethodName × Nat) := [(⟨"AnswerShorter$Sayings", "holdsCase", "(II)Z"⟩, 18), (⟨"AnswerShorter$Sayings", "isLiked", "(III)Z"⟩, 18), (⟨"AnswerShorter", "lengthOrWord", "(II)I"⟩, 11), (⟨"AnswerShorter$Sayings", "findFirsts", "()V"⟩, 18), (⟨"AnswerShorter$Sayings", "noteFirst", "(II)V"⟩, 18), (⟨"AnswerShorter$Sayings", "leftUnder", "(III)I"⟩, 18), (⟨"AnswerShorter$Sayings", "findBest", "(II)I"⟩, 18), (⟨"AnswerShorter$Sayings", "forcesAnswer", "(I)Z"⟩, 18), (⟨"AnswerShorter$Sayings", "casesWithWeight", "()I"⟩, 18), (⟨"AnswerShorter", "leftByLots", "(III)I"⟩, 11), (⟨"AnswerShorterModel", "refuse", "(I)I"⟩, 36), (⟨"AnswerShorterModel", "faultOfForm", "()I"⟩, 36), (⟨"AnswerShorterModel", "goesBy", "()Z"⟩, 36), (⟨"AnswerShorterModel", "must", "(I)Z"⟩, 36), (⟨"AnswerShorterModel", "sees", "(I)Z"⟩, 36), (⟨"AnswerShorterModel", "digit", "()Z"⟩, 36)]
theorem lw_r2 : ∀ q ∈ lw_privs_2, lw_okq q := List.forall_mem_cons.mpr ⟨lw_p16, List.forall_mem_cons.mpr ⟨lw_p17, List.forall_mem_cons.mpr ⟨lw_p18, List.forall_mem_cons.mpr ⟨lw_p19, List.forall_mem_cons.mpr ⟨lw_p20, List.forall_mem_cons.mpr ⟨lw_p21, List.forall_mem_cons.mpr ⟨lw_p22, List.forall_mem_cons.mpr ⟨lw_p23, List.forall_mem_cons.mpr ⟨lw_p24, List.forall_mem_cons.mpr ⟨lw_p25, List.forall_mem_cons.mpr ⟨lw_p26, List.forall_mem_cons.mpr ⟨lw_p27, List.forall_mem_cons.mpr ⟨lw_p28, List.forall_mem_cons.mpr ⟨lw_p29, List.forall_mem_cons.mpr ⟨lw_p30, List.forall_mem_cons.mpr ⟨lw_p31, fun _ h => absurd h List.not_mem_nil⟩⟩⟩⟩⟩⟩⟩⟩⟩⟩⟩⟩⟩⟩⟩⟩
theorem lw_p32 : lw_okq (⟨"AnswerShorterModel", "seesDigit", "()Z"⟩, 36) := ⟨⟨by decide +kernel, by decide +kernel⟩, List.mem_of_getElem? (i := 803) (by decide +kernel), List.mem_of_getElem? (i := 952) (by decide +kernel), List.mem_of_getElem? (i := 953) (by decide +kernel)⟩
theorem lw_p33 : lw_okq (⟨"AnswerShorterModel", "seesTalker", "()Z"⟩, 36) := ⟨⟨by decide +kernel, by decide +kernel⟩, List.mem_of_getElem? (i := 803) (by decide +kernel), List.mem_of_getElem? (i := 956) (by decide +kernel), List.mem_of_getElem? (i := 957) (by decide +kernel)⟩
theorem lw_p34 : lw_okq (⟨"AnswerShorterModel", "takeFrom", "(LAnswerShorterModel;)V"⟩, 36) := ⟨⟨by decide +kernel, by decide +kernel⟩, List.mem_of_getElem? (i := 803) (by decide +kernel), List.mem_of_getElem? (i := 962) (by decide +kernel), List.mem_of_getElem? (i := 963) (by decide +kernel)⟩
theorem lw_p35 : lw_okq (⟨"AnswerShorterModel", "comes", "()Z"⟩, 36) := ⟨⟨by decide +kernel, by decide +kernel⟩, List.mem_of_getElem? (i := 803) (by decide +kernel), List.mem_of_getElem? (i := 969) (by decide +kernel), List.mem_of_getElem? (i := 970) (by decide +kernel)⟩
theorem lw_p36 : lw_okq (⟨"AnswerShorterModel", "tellingComes", "()Z"⟩, 36) := ⟨⟨by decide +kernel, by decide +kernel⟩, List.mem_of_getElem? (i := 803) (by decide +kernel), List.mem_of_getElem? (i := 973) (by decide +kernel), List.mem_of_getElem? (i := 974) (by decide +kernel)⟩
theorem lw_p37 : lw_okq (⟨"AnswerShorterModel", "addWord", "(II)Z"⟩, 36) := ⟨⟨by decide +kernel, by decide +kernel⟩, List.mem_of_getElem? (i := 803) (by decide +kernel), List.mem_of_getElem? (i := 977) (by decide +kernel), List.mem_of_getElem? (i := 978) (by decide +kernel)⟩
theorem lw_p38 : lw_okq (⟨"AnswerShorterModel", "isWord", "(I)Z"⟩, 36) := ⟨⟨by decide +kernel, by decide +kernel⟩, List.mem_of_getElem? (i := 803) (by decide +kernel), List.mem_of_getElem? (i := 985) (by decide +kernel), List.mem_of_getElem? (i := 986) (by decide +kernel)⟩
theorem lw_p39 : lw_okq (⟨"AnswerShorterModel", "meaning", "([II)I"⟩, 36) := ⟨⟨by decide +kernel, by decide +kernel⟩, List.mem_of_getElem? (i := 803) (by decide +kernel), List.mem_of_getElem? (i := 1015) (by decide +kernel), List.mem_of_getElem? (i := 1016) (by decide +kernel)⟩
theorem lw_p40 : lw_okq (⟨"AnswerShorterModel", "idleOf", "([II)I"⟩, 36) := ⟨⟨by decide +kernel, by decide +kernel⟩, List.mem_of_getElem? (i := 803) (by decide +kernel), List.mem_of_getElem? (i := 1023) (by decide +kernel), List.mem_of_getElem? (i := 1024) (by decide +kernel)⟩
theorem lw_p41 : lw_okq (⟨"AnswerShorterModel", "isPerson", "(I)Z"⟩, 36) := ⟨⟨by decide +kernel, by decide +kernel⟩, List.mem_of_getElem? (i := 803) (by decide +kernel), List.mem_of_getElem? (i := 1044) (by decide +kernel), List.mem_of_getElem? (i := 1045) (by decide +kernel)⟩
theorem lw_p42 : lw_okq (⟨"AnswerShorterModel", "list", "()V"⟩, 36) := ⟨⟨by decide +kernel, by decide +kernel⟩, List.mem_of_getElem? (i := 803) (by decide +kernel), List.mem_of_getElem? (i := 1048) (by decide +kernel), List.mem_of_getElem? (i := 1049) (by decide +kernel)⟩
theorem lw_p43 : lw_okq (⟨"AnswerShorterModel", "add", "(IIII)V"⟩, 36) := ⟨⟨by decide +kernel, by decide +kernel⟩, List.mem_of_getElem? (i := 803) (by decide +kernel), List.mem_of_getElem? (i := 1052) (by decide +kernel), List.mem_of_getElem? (i := 1053) (by decide +kernel)⟩
theorem lw_p44 : lw_okq (⟨"AnswerShorterModel", "asksRow", "()V"⟩, 36) := ⟨⟨by decide +kernel, by decide +kernel⟩, List.mem_of_getElem? (i := 803) (by decide +kernel), List.mem_of_getElem? (i := 1056) (by decide +kernel), List.mem_of_getElem? (i := 1057) (by decide +kernel)⟩
theorem lw_p45 : lw_okq (⟨"AnswerShorterModel", "asks", "(IIII)V"⟩, 36) := ⟨⟨by decide +kernel, by decide +kernel⟩, List.mem_of_getElem? (i := 803) (by decide +kernel), List.mem_of_getElem? (i := 1060) (by decide +kernel), List.mem_of_getElem? (i := 1061) (by decide +kernel)⟩
theorem lw_p46 : lw_okq (⟨"AnswerShorterModel", "answerOf", "(II)I"⟩, 36) := ⟨⟨by decide +kernel, by decide +kernel⟩, List.mem_of_getElem? (i := 803) (by decide +kernel), List.mem_of_getElem? (i := 1064) (by decide +kernel), List.mem_of_getElem? (i := 1065) (by decide +kernel)⟩
theorem lw_p47 : lw_okq (⟨"AnswerShorterModel", "isAnswer", "(I)Z"⟩, 36) := ⟨⟨by decide +kernel, by decide +kernel⟩, List.mem_of_getElem? (i := 803) (by decide +kernel), List.mem_of_getElem? (i := 1068) (by decide +kernel), List.mem_of_getElem? (i := 1069) (by decide +kernel)⟩
def lw_privs_3 : List (MethodName × Nat) := [(⟨"AnswerShorterModel", "seesDigit", "()Z"⟩, 36), (⟨"AnswerShorterModel", "seesTalker", "()Z"⟩, 36), (⟨"AnswerShorterModel", "takeFrom", "(LAnswerShorterModel;)V"⟩, 36), (⟨"AnswerShorterModel", "comes", "()Z"⟩, 36), (⟨"AnswerShorterModel", "tellingComes", "()Z"⟩, 36), (⟨"AnswerShorterModel", "addWord", "(II)Z"⟩, 36), (⟨"AnswerShorterModel", "isWord", "(I)Z"⟩, 36), (⟨"AnswerShorterModel", "meaning", "([II)I"⟩, 36), (⟨"AnswerShorterModel", "idleOf", "([II)I"⟩, 36), (⟨"AnswerShorterModel", "isPerson", "(I)Z"⟩, 36), (⟨"AnswerShorterModel", "list", "()V"⟩, 36), (⟨"AnswerShorterModel", "add", "(IIII)V"⟩, 36), (⟨"AnswerShorterModel", "asksRow", "()V"⟩, 36), (⟨"AnswerShorterModel", "asks", "(IIII)V"⟩, 36), (⟨"AnswerShorterModel", "answerOf", "(II)I"⟩, 36), (⟨"AnswerShorterModel", "isAnswer", "(I)Z"⟩, 36)]
theorem lw_r3 : ∀ q ∈ lw_privs_3, lw_okq q := List.forall_mem_cons.mpr ⟨lw_p32, List.forall_mem_cons.mpr ⟨lw_p33, List.forall_mem_cons.mpr ⟨lw_p34, List.forall_mem_cons.mpr ⟨lw_p35, List.forall_mem_cons.mpr ⟨lw_p36, List.forall_mem_cons.mpr ⟨lw_p37, List.forall_mem_cons.mpr ⟨lw_p38, List.forall_mem_cons.mpr ⟨lw_p39, List.forall_mem_cons.mpr ⟨lw_p40, List.forall_mem_cons.mpr ⟨lw_p41, List.forall_mem_cons.mpr ⟨lw_p42, List.forall_mem_cons.mpr ⟨lw_p43, List.forall_mem_cons.mpr ⟨lw_p44, List.forall_mem_cons.mpr ⟨lw_p45, List.forall_mem_cons.mpr ⟨lw_p46, List.forall_mem_cons.mpr ⟨lw_p47, fun _ h => absurd h List.not_mem_nil⟩⟩⟩⟩⟩⟩⟩⟩⟩⟩⟩⟩⟩⟩⟩⟩
theorem lw_p48 : lw_okq (⟨"AnswerShorterModel", "isBetter", "(III)Z"⟩, 36) := ⟨⟨by decide +kernel, by decide +kernel⟩, List.mem_of_getElem? (i := 803) (by decide +kernel), List.mem_of_getElem? (i := 1072) (by decide +kernel), List.mem_of_getElem? (i := 1073) (by decide +kernel)⟩
theorem lw_p49 : lw_okq (⟨"AnswerShorterModel", "weightOf", "(I)I"⟩, 36) := ⟨⟨by decide +kernel, by decide +kernel⟩, List.mem_of_getElem? (i := 803) (by decide +kernel), List.mem_of_getElem? (i := 1076) (by decide +kernel), List.mem_of_getElem? (i := 1077) (by decide +kernel)⟩
theorem lw_p50 : lw_okq (⟨"AnswerShorterModel", "goesOn", "()Z"⟩, 36) := ⟨⟨by decide +kernel, by decide +kernel⟩, List.mem_of_getElem? (i := 803) (by decide +kernel), List.mem_of_getElem? (i := 1088) (by decide +kernel), List.mem_of_getElem? (i := 1089) (by decide +kernel)⟩
theorem lw_p51 : lw_okq (⟨"AnswerShorterModel", "leftOf", "(I)I"⟩, 36) := ⟨⟨by decide +kernel, by decide +kernel⟩, List.mem_of_getElem? (i := 803) (by decide +kernel), List.mem_of_getElem? (i := 1096) (by decide +kernel), List.mem_of_getElem? (i := 1097) (by decide +kernel)⟩
theorem lw_p52 : lw_okq (⟨"AnswerShorterModel", "bestOf", "(II)I"⟩, 36) := ⟨⟨by decide +kernel, by decide +kernel⟩, List.mem_of_getElem? (i := 803) (by decide +kernel), List.mem_of_getElem? (i := 1104) (by decide +kernel), List.mem_of_getElem? (i := 1105) (by decide +kernel)⟩
theorem lw_p53 : lw_okq (⟨"AnswerShorterModel", "forces", "(I)Z"⟩, 36) := ⟨⟨by decide +kernel, by decide +kernel⟩, List.mem_of_getElem? (i := 803) (by decide +kernel), List.mem_of_getElem? (i := 1112) (by decide +kernel), List.mem_of_getElem? (i := 1113) (by decide +kernel)⟩
theorem lw_p54 : lw_okq (⟨"AnswerShorterModel", "isTold", "(I)Z"⟩, 36) := ⟨⟨by decide +kernel, by decide +kernel⟩, List.mem_of_getElem? (i := 803) (by decide +kernel), List.mem_of_getElem? (i := 1124) (by decide +kernel), List.mem_of_getElem? (i := 1125) (by decide +kernel)⟩
theorem lw_p55 : lw_okq (⟨"AnswerShorterModel", "draw", "(I)I"⟩, 36) := ⟨⟨by decide +kernel, by decide +kernel⟩, List.mem_of_getElem? (i := 803) (by decide +kernel), List.mem_of_getElem? (i := 1172) (by decide +kernel), List.mem_of_getElem? (i := 1173) (by decide +kernel)⟩
def lw_privs_4 : List (MethodName × Nat) := [(⟨"AnswerShorterModel", "isBetter", "(III)Z"⟩, 36), (⟨"AnswerShorterModel", "weightOf", "(I)I"⟩, 36), (⟨"AnswerShorterModel", "goesOn", "()Z"⟩, 36), (⟨"AnswerShorterModel", "leftOf", "(I)I"⟩, 36), (⟨"AnswerShorterModel", "bestOf", "(II)I"⟩, 36), (⟨"AnswerShorterModel", "forces", "(I)Z"⟩, 36), (⟨"AnswerShorterModel", "isTold", "(I)Z"⟩, 36), (⟨"AnswerShorterModel", "draw", "(I)I"⟩, 36)]
theorem lw_r4 : ∀ q ∈ lw_privs_4, lw_okq q := List.forall_mem_cons.mpr ⟨lw_p48, List.forall_mem_cons.mpr ⟨lw_p49, List.forall_mem_cons.mpr ⟨lw_p50, List.forall_mem_cons.mpr ⟨lw_p51, List.forall_mem_cons.mpr ⟨lw_p52, List.forall_mem_cons.mpr ⟨lw_p53, List.forall_mem_cons.mpr ⟨lw_p54, List.forall_mem_cons.mpr ⟨lw_p55, fun _ h => absurd h List.not_mem_nil⟩⟩⟩⟩⟩⟩⟩⟩
def lw_privs : List (MethodName × Nat) := lw_privs_1 ++ (lw_privs_2 ++ (lw_privs_3 ++ (lw_privs_4)))
def lw_tbl : List Cond := k2_sels lw_privs ++ tables_1
theorem lw_privs_ok : ∀ q ∈ lw_privs, lw_okq q := by
  show ∀ q ∈ lw_privs_1 ++ (lw_privs_2 ++ (lw_privs_3 ++ (lw_privs_4))), lw_okq q
  exact List.forall_mem_append.mpr ⟨lw_r1, List.forall_mem_append.mpr ⟨lw_r2, List.forall_mem_append.mpr ⟨lw_r3, lw_r4⟩⟩⟩
end
section
/-! ===== BEGIN words of one list among another's, by their places ===== -/
theorem goodIn_r {big : List Cond} (ws : List Cond) (ps : List Nat) (hp : ws = ps.filterMap (fun i => big[i]?)) (h : ws.all goodWord = true) : GoodIn big ws := by
  intro w hw
  have h1 := List.all_eq_true.mp h w hw
  rw [hp] at hw
  obtain ⟨i, -, hi⟩ := List.mem_filterMap.mp hw
  have hm : w ∈ big := by first | exact List.mem_of_getElem? hi | exact List.getElem?_mem hi
  exact ⟨hm, good_of_word h1⟩
theorem goodIn_app {big a b : List Cond} (ha : GoodIn big a) (hb : GoodIn big b) : GoodIn big (a ++ b) := fun w h => (List.mem_append.mp h).elim (ha w) (hb w)
theorem goodIn_ca {big a b : List Cond} {c : Cond} (ha : GoodIn big (c :: a)) (hb : GoodIn big b) : GoodIn big (c :: (a ++ b)) := fun w h => (List.mem_cons.mp h).elim (fun e => ha w (List.mem_cons.mpr (Or.inl e))) (fun h => (List.mem_append.mp h).elim (fun h => ha w (List.mem_cons.mpr (Or.inr h))) (hb w))
theorem goodIn_sub {big ws : List Cond} (hm : ∀ w ∈ ws, w ∈ big) (h : ws.all goodWord = true) : GoodIn big ws := fun w hw => ⟨hm w hw, good_of_word (List.all_eq_true.mp h w hw)⟩
/-! ===== END ===== -/

/-! ===== BEGIN new T[n][m]: the outer array a place, the inner ones among the pooled ===== -/
/-- f, but v at every address of l -/
def vr_up {α : Type} (f : Nat → α) (l : List Nat) (v : α) : Nat → α := fun a => if a ∈ l then v else f a
theorem vr_up_in {α : Type} {f : Nat → α} {l : List Nat} {v : α} {a : Nat} (h : a ∈ l) : vr_up f l v a = v := if_pos h
theorem vr_up_ne {α : Type} {f : Nat → α} {l : List Nat} {v : α} {a : Nat} (h : a ∉ l) : vr_up f l v a = f a := if_neg h
theorem vr_rows {L l : List Nat} {f : Nat → va_E} {e : va_E} (h : ∀ a, a ∈ l → a ∉ L) : va_pl L f ++ l.map (fun a => (a, e)) = va_pl (L ++ l) (vr_up f l e) := by
  unfold va_pl
  rw [List.map_append]
  congr 1
  · apply List.map_congr_left
    intro a ha
    rw [vr_up_ne (fun q => h a q ha)]
  · apply List.map_congr_left
    intro a ha
    rw [vr_up_in ha]
theorem vr_lay {X rows : va_W} {x : Nat × va_E} {pl : va_W} {D : va_G} {cl : List vw_C} {H : Heap} (hP : va_P D cl (((X ++ pl) ++ [x]) ++ rows) H) : va_P D cl ((X ++ [x]) ++ (pl ++ rows)) H := by
  rw [List.append_assoc (X ++ pl)] at hP
  have h := va_P.swap hP
  rw [← List.append_assoc X] at h
  have h2 := va_P.swap h
  rw [List.append_assoc (X ++ [x])] at h2
  exact h2
theorem vr_layD {X rows : va_W} {x : Nat × va_E} {pl : va_W} {A : Nat → Prop} (hD : va_D A (((X ++ pl) ++ [x]) ++ rows)) : va_D A ((X ++ [x]) ++ (pl ++ rows)) := by
  rw [List.append_assoc (X ++ pl)] at hD
  have h := va_D.swap hD
  rw [← List.append_assoc X] at h
  have h2 := va_D.swap h
  rw [List.append_assoc (X ++ [x])] at h2
  exact h2
theorem vr_outer (c : ClassId) (N h0 : Nat) : ∀ i : Nat, Jvm.Free.Multi.outerC c N h0 i = arrV c N (fun j => va_rf (if j < i then some (h0 + 1 + j) else none))
  | 0 => by
    show ({ cls := c, slots := Array.replicate N .null, vm := .none } : Cell) = _
    rw [arrV_new]
    refine congrArg (arrV c N) (funext fun j => ?_)
    simp [va_rf]
  | i + 1 => by
    show (Jvm.Free.Multi.outerC c N h0 i).setSlot i (.ref (h0 + 1 + i)) = _
    rw [vr_outer c N h0 i, arrV_store]
    refine congrArg (arrV c N) (funext fun j => ?_)
    by_cases e : j = i
    · subst e
      simp [updV, va_rf]
    · by_cases h : j < i
      · simp [updV, e, h, Nat.lt_succ_of_lt h]
      · simp [updV, e, h, show ¬ j < i + 1 by omega]
/-! ===== END ===== -/

def RX0 : String := "AnswerShorter$Image"
def TX0 : u_T := fun k => match k with
  | 0 => ("AnswerShorter$Image", "tongueThen", "LAnswerShorter$Tongue;", true)
  | 1 => ("AnswerShorter$Image", "talkThen", "LAnswerShorter$Talk;", true)
  | 2 => ("AnswerShorter$Image", "meantThen", "I", false)
  | _ => ("AnswerShorter$Image", "taken", "Z", false)
def tyX0 : Nat → FieldType := fun k => match k with
  | 0 => .object "AnswerShorter$Tongue"
  | 1 => .object "AnswerShorter$Talk"
  | 2 => .int
  | _ => .boolean
abbrev wsX00 : List Cond := u_ws RX0 TX0 4
theorem nmX0 : ∀ a, a < 4 → ∀ b, b < 4 → a ≠ b → (TX0 a).2.1 ≠ (TX0 b).2.1 := by decide +kernel
theorem tyX0_ok : ∀ k, k < 4 → parseFieldDescriptor (TX0 k).2.2.1 = some (tyX0 k) := by decide +kernel
abbrev cX0_init : ByteArray := prog_2_method_1_code
def yX0_init : MethodName := ⟨RX0, "<init>", "()V"⟩
def RX1 : String := "AnswerShorter$Letters"
def TX1 : u_T := fun k => match k with
  | 0 => ("AnswerShorter$Letters", "signs", "[I", true)
  | _ => ("AnswerShorter$Letters", "size", "I", false)
def tyX1 : Nat → FieldType := fun k => match k with
  | 0 => .array .int
  | _ => .int
abbrev wsX10 : List Cond := u_ws RX1 TX1 2
theorem nmX1 : ∀ a, a < 2 → ∀ b, b < 2 → a ≠ b → (TX1 a).2.1 ≠ (TX1 b).2.1 := by decide +kernel
theorem tyX1_ok : ∀ k, k < 2 → parseFieldDescriptor (TX1 k).2.2.1 = some (tyX1 k) := by decide +kernel
abbrev cX1_init : ByteArray := prog_3_method_1_code
def yX1_init : MethodName := ⟨RX1, "<init>", "()V"⟩
abbrev cX1_add : ByteArray := prog_3_method_2_code
def yX1_add : MethodName := ⟨RX1, "add", "(I)V"⟩
abbrev cX1_statements : ByteArray := prog_3_method_3_code
def yX1_statements : MethodName := ⟨RX1, "statements", "()I"⟩
abbrev cX1_tellTo : ByteArray := prog_3_method_4_code
def yX1_tellTo : MethodName := ⟨RX1, "tellTo", "(LAnswerShorter$Tongue;)I"⟩
abbrev cX1_behind : ByteArray := prog_3_method_5_code
def yX1_behind : MethodName := ⟨RX1, "behind", "(I)I"⟩
abbrev cX1_behindTelling : ByteArray := prog_3_method_6_code
def yX1_behindTelling : MethodName := ⟨RX1, "behindTelling", "(I)I"⟩
abbrev cX1_behindForm : ByteArray := prog_3_method_7_code
def yX1_behindForm : MethodName := ⟨RX1, "behindForm", "(ILjava/lang/String;)I"⟩
abbrev cX1_formOf : ByteArray := prog_3_method_8_code
def yX1_formOf : MethodName := ⟨RX1, "formOf", "(I)Ljava/lang/String;"⟩
abbrev cX1_fits : ByteArray := prog_3_method_9_code
def yX1_fits : MethodName := ⟨RX1, "fits", "(CI)Z"⟩
abbrev cX1_tellOne : ByteArray := prog_3_method_10_code
def yX1_tellOne : MethodName := ⟨RX1, "tellOne", "(LAnswerShorter$Tongue;II)Z"⟩
abbrev cX1_tellWord : ByteArray := prog_3_method_11_code
def yX1_tellWord : MethodName := ⟨RX1, "tellWord", "(LAnswerShorter$Tongue;II)Z"⟩
abbrev cX1_sign : ByteArray := prog_3_method_12_code
def yX1_sign : MethodName := ⟨RX1, "sign", "(I)I"⟩
abbrev cX1_digit : ByteArray := prog_3_method_13_code
def yX1_digit : MethodName := ⟨RX1, "digit", "(I)I"⟩
abbrev cX1_isDigit : ByteArray := prog_3_method_14_code
def yX1_isDigit : MethodName := ⟨RX1, "isDigit", "(I)Z"⟩
abbrev cX1_talkerOf : ByteArray := prog_3_method_15_code
def yX1_talkerOf : MethodName := ⟨RX1, "talkerOf", "(I)I"⟩
def RX2 : String := "AnswerShorter$Row"
def TX2 : u_T := fun k => match k with
  | 0 => ("AnswerShorter$Row", "words", "[I", true)
  | _ => ("AnswerShorter$Row", "size", "I", false)
def tyX2 : Nat → FieldType := fun k => match k with
  | 0 => .array .int
  | _ => .int
abbrev wsX20 : List Cond := u_ws RX2 TX2 2
theorem nmX2 : ∀ a, a < 2 → ∀ b, b < 2 → a ≠ b → (TX2 a).2.1 ≠ (TX2 b).2.1 := by decide +kernel
theorem tyX2_ok : ∀ k, k < 2 → parseFieldDescriptor (TX2 k).2.2.1 = some (tyX2 k) := by decide +kernel
abbrev cX2_init : ByteArray := prog_4_method_1_code
def yX2_init : MethodName := ⟨RX2, "<init>", "()V"⟩
abbrev cX2_add : ByteArray := prog_4_method_2_code
def yX2_add : MethodName := ⟨RX2, "add", "(I)V"⟩
abbrev cX2_sense : ByteArray := prog_4_method_3_code
def yX2_sense : MethodName := ⟨RX2, "sense", "(LAnswerShorter$Tongue;)I"⟩
def RX3 : String := "AnswerShorter$Sayings"
def TX3 : u_T := fun k => match k with
  | 0 => ("AnswerShorter$Sayings", "speech", "LAnswerShorter$Tongue;", true)
  | 1 => ("AnswerShorter$Sayings", "moreIdle", "I", true)
  | 2 => ("AnswerShorter$Sayings", "senses", "[I", true)
  | 3 => ("AnswerShorter$Sayings", "groupSense", "[I", true)
  | 4 => ("AnswerShorter$Sayings", "groupFirst", "[I", true)
  | 5 => ("AnswerShorter$Sayings", "groupSize", "[I", true)
  | 6 => ("AnswerShorter$Sayings", "groupWeight", "[I", true)
  | 7 => ("AnswerShorter$Sayings", "groupBehind", "[I", true)
  | 8 => ("AnswerShorter$Sayings", "fitting", "[I", true)
  | 9 => ("AnswerShorter$Sayings", "firstFor", "[I", true)
  | 10 => ("AnswerShorter$Sayings", "bestGroup", "[I", true)
  | 11 => ("AnswerShorter$Sayings", "bestLeft", "[I", true)
  | 12 => ("AnswerShorter$Sayings", "words", "I", false)
  | 13 => ("AnswerShorter$Sayings", "size", "I", false)
  | 14 => ("AnswerShorter$Sayings", "groups", "I", false)
  | 15 => ("AnswerShorter$Sayings", "fits", "I", false)
  | 16 => ("AnswerShorter$Sayings", "firstsKnown", "Z", false)
  | _ => ("AnswerShorter$Sayings", "fresh", "Z", false)
def tyX3 : Nat → FieldType := fun k => match k with
  | 0 => .object "AnswerShorter$Tongue"
  | 1 => .int
  | 2 => .array .int
  | 3 => .array .int
  | 4 => .array .int
  | 5 => .array .int
  | 6 => .array .int
  | 7 => .array .int
  | 8 => .array .int
  | 9 => .array .int
  | 10 => .array .int
  | 11 => .array .int
  | 12 => .int
  | 13 => .int
  | 14 => .int
  | 15 => .int
  | 16 => .boolean
  | _ => .boolean
abbrev wsX30 : List Cond := u_ws RX3 TX3 18
theorem nmX3 : ∀ a, a < 18 → ∀ b, b < 18 → a ≠ b → (TX3 a).2.1 ≠ (TX3 b).2.1 := by decide +kernel
theorem tyX3_ok : ∀ k, k < 18 → parseFieldDescriptor (TX3 k).2.2.1 = some (tyX3 k) := by decide +kernel
abbrev cX3_init : ByteArray := prog_5_method_1_code
def yX3_init : MethodName := ⟨RX3, "<init>", "(LAnswerShorter$Tongue;I)V"⟩
abbrev cX3_answerTo : ByteArray := prog_5_method_2_code
def yX3_answerTo : MethodName := ⟨RX3, "answerTo", "(III)I"⟩
abbrev cX3_howManyAnswer : ByteArray := prog_5_method_3_code
def yX3_howManyAnswer : MethodName := ⟨RX3, "howManyAnswer", "(II)I"⟩
abbrev cX3_casesLeftBy : ByteArray := prog_5_method_4_code
def yX3_casesLeftBy : MethodName := ⟨RX3, "casesLeftBy", "(III)I"⟩
abbrev cX3_casesAnsweredBy : ByteArray := prog_5_method_5_code
def yX3_casesAnsweredBy : MethodName := ⟨RX3, "casesAnsweredBy", "(III)I"⟩
abbrev cX3_leftBy : ByteArray := prog_5_method_6_code
def yX3_leftBy : MethodName := ⟨RX3, "leftBy", "(II)I"⟩
abbrev cX3_leftUnder : ByteArray := prog_5_method_7_code
def yX3_leftUnder : MethodName := ⟨RX3, "leftUnder", "(III)I"⟩
abbrev cX3_leftOfBest : ByteArray := prog_5_method_8_code
def yX3_leftOfBest : MethodName := ⟨RX3, "leftOfBest", "(II)I"⟩
abbrev cX3_bestQuestion : ByteArray := prog_5_method_9_code
def yX3_bestQuestion : MethodName := ⟨RX3, "bestQuestion", "(II)I"⟩
abbrev cX3_firstThatForces : ByteArray := prog_5_method_10_code
def yX3_firstThatForces : MethodName := ⟨RX3, "firstThatForces", "(I)I"⟩
abbrev cX3_firstThatMeans : ByteArray := prog_5_method_11_code
def yX3_firstThatMeans : MethodName := ⟨RX3, "firstThatMeans", "(I)I"⟩
abbrev cX3_numberOf : ByteArray := prog_5_method_12_code
def yX3_numberOf : MethodName := ⟨RX3, "numberOf", "(LAnswerShorter$Row;)I"⟩
abbrev cX3_lengthOf : ByteArray := prog_5_method_13_code
def yX3_lengthOf : MethodName := ⟨RX3, "lengthOf", "(I)I"⟩
abbrev cX3_wordOf : ByteArray := prog_5_method_14_code
def yX3_wordOf : MethodName := ⟨RX3, "wordOf", "(II)I"⟩
abbrev cX3_refresh : ByteArray := prog_5_method_15_code
def yX3_refresh : MethodName := ⟨RX3, "refresh", "()V"⟩
abbrev cX3_clearGroups : ByteArray := prog_5_method_16_code
def yX3_clearGroups : MethodName := ⟨RX3, "clearGroups", "()V"⟩
abbrev cX3_putInGroup : ByteArray := prog_5_method_17_code
def yX3_putInGroup : MethodName := ⟨RX3, "putInGroup", "(I)V"⟩
abbrev cX3_keyOf : ByteArray := prog_5_method_18_code
def yX3_keyOf : MethodName := ⟨RX3, "keyOf", "(I)I"⟩
abbrev cX3_findFirsts : ByteArray := prog_5_method_19_code
def yX3_findFirsts : MethodName := ⟨RX3, "findFirsts", "()V"⟩
abbrev cX3_noteFirst : ByteArray := prog_5_method_20_code
def yX3_noteFirst : MethodName := ⟨RX3, "noteFirst", "(II)V"⟩
abbrev cX3_gather : ByteArray := prog_5_method_21_code
def yX3_gather : MethodName := ⟨RX3, "gather", "(II)V"⟩
abbrev cX3_holdsCase : ByteArray := prog_5_method_22_code
def yX3_holdsCase : MethodName := ⟨RX3, "holdsCase", "(II)Z"⟩
abbrev cX3_chosen : ByteArray := prog_5_method_23_code
def yX3_chosen : MethodName := ⟨RX3, "chosen", "(II)I"⟩
abbrev cX3_isLiked : ByteArray := prog_5_method_24_code
def yX3_isLiked : MethodName := ⟨RX3, "isLiked", "(III)Z"⟩
abbrev cX3_findBest : ByteArray := prog_5_method_25_code
def yX3_findBest : MethodName := ⟨RX3, "findBest", "(II)I"⟩
abbrev cX3_forcesAnswer : ByteArray := prog_5_method_26_code
def yX3_forcesAnswer : MethodName := ⟨RX3, "forcesAnswer", "(I)Z"⟩
abbrev cX3_casesWithWeight : ByteArray := prog_5_method_27_code
def yX3_casesWithWeight : MethodName := ⟨RX3, "casesWithWeight", "()I"⟩
def RX4 : String := "AnswerShorter$Sense"
def TX4 : u_T := fun k => match k with
  | _ => ("", "", "", false)
def tyX4 : Nat → FieldType := fun k => match k with
  | _ => .int
abbrev wsX40 : List Cond := u_ws RX4 TX4 0
theorem nmX4 : ∀ a, a < 0 → ∀ b, b < 0 → a ≠ b → (TX4 a).2.1 ≠ (TX4 b).2.1 := by decide +kernel
theorem tyX4_ok : ∀ k, k < 0 → parseFieldDescriptor (TX4 k).2.2.1 = some (tyX4 k) := by decide +kernel
abbrev cX4_meaning : ByteArray := prog_6_method_2_code
def yX4_meaning : MethodName := ⟨RX4, "meaning", "(I)I"⟩
abbrev cX4_idles : ByteArray := prog_6_method_3_code
def yX4_idles : MethodName := ⟨RX4, "idles", "(I)I"⟩
abbrev cX4_length : ByteArray := prog_6_method_4_code
def yX4_length : MethodName := ⟨RX4, "length", "(I)I"⟩
abbrev cX4_ofLength : ByteArray := prog_6_method_5_code
def yX4_ofLength : MethodName := ⟨RX4, "ofLength", "(II)I"⟩
abbrev cX4_grown : ByteArray := prog_6_method_6_code
def yX4_grown : MethodName := ⟨RX4, "grown", "(III)I"⟩
abbrev cX4_withTelling : ByteArray := prog_6_method_7_code
def yX4_withTelling : MethodName := ⟨RX4, "withTelling", "(II)I"⟩
def RX5 : String := "AnswerShorter$Talk"
def TX5 : u_T := fun k => match k with
  | 0 => ("AnswerShorter$Talk", "senses", "[I", true)
  | _ => ("AnswerShorter$Talk", "size", "I", false)
def tyX5 : Nat → FieldType := fun k => match k with
  | 0 => .array .int
  | _ => .int
abbrev wsX50 : List Cond := u_ws RX5 TX5 2
theorem nmX5 : ∀ a, a < 2 → ∀ b, b < 2 → a ≠ b → (TX5 a).2.1 ≠ (TX5 b).2.1 := by decide +kernel
theorem tyX5_ok : ∀ k, k < 2 → parseFieldDescriptor (TX5 k).2.2.1 = some (tyX5 k) := by decide +kernel
abbrev cX5_init : ByteArray := prog_7_method_1_code
def yX5_init : MethodName := ⟨RX5, "<init>", "()V"⟩
abbrev cX5_add : ByteArray := prog_7_method_2_code
def yX5_add : MethodName := ⟨RX5, "add", "(I)V"⟩
abbrev cX5_latest : ByteArray := prog_7_method_3_code
def yX5_latest : MethodName := ⟨RX5, "latest", "()I"⟩
abbrev cX5_meaningOfAnswers : ByteArray := prog_7_method_4_code
def yX5_meaningOfAnswers : MethodName := ⟨RX5, "meaningOfAnswers", "()I"⟩
abbrev cX5_copyFrom : ByteArray := prog_7_method_5_code
def yX5_copyFrom : MethodName := ⟨RX5, "copyFrom", "(LAnswerShorter$Talk;)V"⟩
def RX6 : String := "AnswerShorter$Tongue"
def TX6 : u_T := fun k => match k with
  | 0 => ("AnswerShorter$Tongue", "kinds", "[I", true)
  | 1 => ("AnswerShorter$Tongue", "cases", "[I", true)
  | 2 => ("AnswerShorter$Tongue", "weights", "[I", true)
  | 3 => ("AnswerShorter$Tongue", "persons", "[I", true)
  | 4 => ("AnswerShorter$Tongue", "words", "I", false)
  | 5 => ("AnswerShorter$Tongue", "people", "I", false)
  | 6 => ("AnswerShorter$Tongue", "lawNow", "I", false)
  | _ => ("AnswerShorter$Tongue", "trueCase", "I", false)
def tyX6 : Nat → FieldType := fun k => match k with
  | 0 => .array .int
  | 1 => .array .int
  | 2 => .array .int
  | 3 => .array .int
  | 4 => .int
  | 5 => .int
  | 6 => .int
  | _ => .int
abbrev wsX60 : List Cond := u_ws RX6 TX6 8
theorem nmX6 : ∀ a, a < 8 → ∀ b, b < 8 → a ≠ b → (TX6 a).2.1 ≠ (TX6 b).2.1 := by decide +kernel
theorem tyX6_ok : ∀ k, k < 8 → parseFieldDescriptor (TX6 k).2.2.1 = some (tyX6 k) := by decide +kernel
abbrev cX6_init : ByteArray := prog_8_method_1_code
def yX6_init : MethodName := ⟨RX6, "<init>", "()V"⟩
abbrev cX6_copyFrom : ByteArray := prog_8_method_2_code
def yX6_copyFrom : MethodName := ⟨RX6, "copyFrom", "(LAnswerShorter$Tongue;)V"⟩
abbrev cX6_hasWord : ByteArray := prog_8_method_3_code
def yX6_hasWord : MethodName := ⟨RX6, "hasWord", "(I)Z"⟩
abbrev cX6_hasPerson : ByteArray := prog_8_method_4_code
def yX6_hasPerson : MethodName := ⟨RX6, "hasPerson", "(I)Z"⟩
abbrev cX6_addWord : ByteArray := prog_8_method_5_code
def yX6_addWord : MethodName := ⟨RX6, "addWord", "(II)Z"⟩
abbrev cX6_addPerson : ByteArray := prog_8_method_6_code
def yX6_addPerson : MethodName := ⟨RX6, "addPerson", "(I)Z"⟩
abbrev cX6_setWeight : ByteArray := prog_8_method_7_code
def yX6_setWeight : MethodName := ⟨RX6, "setWeight", "(II)Z"⟩
abbrev cX6_setLaw : ByteArray := prog_8_method_8_code
def yX6_setLaw : MethodName := ⟨RX6, "setLaw", "(I)Z"⟩
abbrev cX6_weightOf : ByteArray := prog_8_method_9_code
def yX6_weightOf : MethodName := ⟨RX6, "weightOf", "(I)I"⟩
abbrev cX6_grown : ByteArray := prog_8_method_10_code
def yX6_grown : MethodName := ⟨RX6, "grown", "(II)I"⟩
def RX7 : String := "AnswerShorter"
def TX7 : u_T := fun k => match k with
  | 0 => ("AnswerShorter", "letters", "LAnswerShorter$Letters;", true)
  | 1 => ("AnswerShorter", "speech", "LAnswerShorter$Tongue;", true)
  | 2 => ("AnswerShorter", "draft", "LAnswerShorter$Tongue;", true)
  | 3 => ("AnswerShorter", "asked", "LAnswerShorter$Row;", true)
  | 4 => ("AnswerShorter", "heard", "LAnswerShorter$Row;", true)
  | 5 => ("AnswerShorter", "talk", "LAnswerShorter$Talk;", true)
  | 6 => ("AnswerShorter", "sayings", "LAnswerShorter$Sayings;", true)
  | 7 => ("AnswerShorter", "idler", "LAnswerShorter$Sayings;", true)
  | 8 => ("AnswerShorter", "kept", "LAnswerShorter$Image;", true)
  | 9 => ("AnswerShorter", "refusals", "[I", true)
  | _ => ("AnswerShorter", "meantCases", "I", false)
def tyX7 : Nat → FieldType := fun k => match k with
  | 0 => .object "AnswerShorter$Letters"
  | 1 => .object "AnswerShorter$Tongue"
  | 2 => .object "AnswerShorter$Tongue"
  | 3 => .object "AnswerShorter$Row"
  | 4 => .object "AnswerShorter$Row"
  | 5 => .object "AnswerShorter$Talk"
  | 6 => .object "AnswerShorter$Sayings"
  | 7 => .object "AnswerShorter$Sayings"
  | 8 => .object "AnswerShorter$Image"
  | 9 => .array .int
  | _ => .int
abbrev wsX70 : List Cond := u_ws RX7 TX7 11
theorem nmX7 : ∀ a, a < 11 → ∀ b, b < 11 → a ≠ b → (TX7 a).2.1 ≠ (TX7 b).2.1 := by decide +kernel
theorem tyX7_ok : ∀ k, k < 11 → parseFieldDescriptor (TX7 k).2.2.1 = some (tyX7 k) := by decide +kernel
abbrev cX7_init : ByteArray := prog_1_method_1_code
def yX7_init : MethodName := ⟨RX7, "<init>", "()V"⟩
abbrev cX7_letter : ByteArray := prog_1_method_2_code
def yX7_letter : MethodName := ⟨RX7, "letter", "(I)I"⟩
abbrev cX7_tongue : ByteArray := prog_1_method_3_code
def yX7_tongue : MethodName := ⟨RX7, "tongue", "()I"⟩
abbrev cX7_word : ByteArray := prog_1_method_4_code
def yX7_word : MethodName := ⟨RX7, "word", "(II)I"⟩
abbrev cX7_weight : ByteArray := prog_1_method_5_code
def yX7_weight : MethodName := ⟨RX7, "weight", "(I)I"⟩
abbrev cX7_truth : ByteArray := prog_1_method_6_code
def yX7_truth : MethodName := ⟨RX7, "truth", "(I)I"⟩
abbrev cX7_law : ByteArray := prog_1_method_7_code
def yX7_law : MethodName := ⟨RX7, "law", "(I)I"⟩
abbrev cX7_row : ByteArray := prog_1_method_8_code
def yX7_row : MethodName := ⟨RX7, "row", "(I)I"⟩
abbrev cX7_means : ByteArray := prog_1_method_9_code
def yX7_means : MethodName := ⟨RX7, "means", "()I"⟩
abbrev cX7_follows : ByteArray := prog_1_method_10_code
def yX7_follows : MethodName := ⟨RX7, "follows", "(II)I"⟩
abbrev cX7_settles : ByteArray := prog_1_method_11_code
def yX7_settles : MethodName := ⟨RX7, "settles", "(I)I"⟩
abbrev cX7_answer : ByteArray := prog_1_method_12_code
def yX7_answer : MethodName := ⟨RX7, "answer", "(II)I"⟩
abbrev cX7_answers : ByteArray := prog_1_method_13_code
def yX7_answers : MethodName := ⟨RX7, "answers", "(I)I"⟩
abbrev cX7_least : ByteArray := prog_1_method_14_code
def yX7_least : MethodName := ⟨RX7, "least", "(II)I"⟩
abbrev cX7_left : ByteArray := prog_1_method_15_code
def yX7_left : MethodName := ⟨RX7, "left", "(I)I"⟩
abbrev cX7_best : ByteArray := prog_1_method_16_code
def yX7_best : MethodName := ⟨RX7, "best", "(II)I"⟩
abbrev cX7_force : ByteArray := prog_1_method_17_code
def yX7_force : MethodName := ⟨RX7, "force", "(II)I"⟩
abbrev cX7_told : ByteArray := prog_1_method_18_code
def yX7_told : MethodName := ⟨RX7, "told", "(I)I"⟩
abbrev cX7_meant : ByteArray := prog_1_method_19_code
def yX7_meant : MethodName := ⟨RX7, "meant", "(I)I"⟩
abbrev cX7_chance : ByteArray := prog_1_method_20_code
def yX7_chance : MethodName := ⟨RX7, "chance", "(II)I"⟩
abbrev cX7_say : ByteArray := prog_1_method_21_code
def yX7_say : MethodName := ⟨RX7, "say", "()I"⟩
abbrev cX7_saying : ByteArray := prog_1_method_22_code
def yX7_saying : MethodName := ⟨RX7, "saying", "(II)I"⟩
abbrev cX7_known : ByteArray := prog_1_method_23_code
def yX7_known : MethodName := ⟨RX7, "known", "()I"⟩
abbrev cX7_silence : ByteArray := prog_1_method_24_code
def yX7_silence : MethodName := ⟨RX7, "silence", "()I"⟩
abbrev cX7_longest : ByteArray := prog_1_method_25_code
def yX7_longest : MethodName := ⟨RX7, "longest", "(I)I"⟩
abbrev cX7_last : ByteArray := prog_1_method_26_code
def yX7_last : MethodName := ⟨RX7, "last", "(I)I"⟩
abbrev cX7_idle : ByteArray := prog_1_method_27_code
def yX7_idle : MethodName := ⟨RX7, "idle", "(I)I"⟩
abbrev cX7_under : ByteArray := prog_1_method_28_code
def yX7_under : MethodName := ⟨RX7, "under", "(II)I"⟩
abbrev cX7_lots : ByteArray := prog_1_method_29_code
def yX7_lots : MethodName := ⟨RX7, "lots", "(III)I"⟩
abbrev cX7_image : ByteArray := prog_1_method_30_code
def yX7_image : MethodName := ⟨RX7, "image", "()I"⟩
abbrev cX7_on : ByteArray := prog_1_method_31_code
def yX7_on : MethodName := ⟨RX7, "on", "()I"⟩
abbrev cX7_count : ByteArray := prog_1_method_32_code
def yX7_count : MethodName := ⟨RX7, "count", "(I)I"⟩
abbrev cX7_refuse : ByteArray := prog_1_method_33_code
def yX7_refuse : MethodName := ⟨RX7, "refuse", "(I)I"⟩
abbrev cX7_addTo : ByteArray := prog_1_method_34_code
def yX7_addTo : MethodName := ⟨RX7, "addTo", "(LAnswerShorter$Row;I)I"⟩
abbrev cX7_takeRow : ByteArray := prog_1_method_35_code
def yX7_takeRow : MethodName := ⟨RX7, "takeRow", "()I"⟩
abbrev cX7_lengthOrWord : ByteArray := prog_1_method_36_code
def yX7_lengthOrWord : MethodName := ⟨RX7, "lengthOrWord", "(II)I"⟩
abbrev cX7_forgetSayings : ByteArray := prog_1_method_37_code
def yX7_forgetSayings : MethodName := ⟨RX7, "forgetSayings", "()V"⟩
abbrev cX7_leftByLots : ByteArray := prog_1_method_38_code
def yX7_leftByLots : MethodName := ⟨RX7, "leftByLots", "(III)I"⟩
abbrev cX7_stirred : ByteArray := prog_1_method_39_code
def yX7_stirred : MethodName := ⟨RX7, "stirred", "(I)I"⟩
abbrev cX7_drawn : ByteArray := prog_1_method_40_code
def yX7_drawn : MethodName := ⟨RX7, "drawn", "(II)I"⟩
abbrev cX7_isCase : ByteArray := prog_1_method_41_code
def yX7_isCase : MethodName := ⟨RX7, "isCase", "(I)Z"⟩
abbrev cX7_isSet : ByteArray := prog_1_method_42_code
def yX7_isSet : MethodName := ⟨RX7, "isSet", "(I)Z"⟩
abbrev cX7_isLaw : ByteArray := prog_1_method_43_code
def yX7_isLaw : MethodName := ⟨RX7, "isLaw", "(I)Z"⟩
abbrev cX7_asBit : ByteArray := prog_1_method_44_code
def yX7_asBit : MethodName := ⟨RX7, "asBit", "(Z)I"⟩
abbrev cX7_commonDivisor : ByteArray := prog_1_method_45_code
def yX7_commonDivisor : MethodName := ⟨RX7, "commonDivisor", "(II)I"⟩
abbrev cX7_mayFollow : ByteArray := prog_1_method_46_code
def yX7_mayFollow : MethodName := ⟨RX7, "mayFollow", "(III)Z"⟩
abbrev cX7_isSettled : ByteArray := prog_1_method_47_code
def yX7_isSettled : MethodName := ⟨RX7, "isSettled", "(II)Z"⟩
abbrev cX7_isOnOneSide : ByteArray := prog_1_method_48_code
def yX7_isOnOneSide : MethodName := ⟨RX7, "isOnOneSide", "(II)Z"⟩
abbrev cX7_longestFrom : ByteArray := prog_1_method_49_code
def yX7_longestFrom : MethodName := ⟨RX7, "longestFrom", "(III)I"⟩
abbrev cX7_speaksLast : ByteArray := prog_1_method_50_code
def yX7_speaksLast : MethodName := ⟨RX7, "speaksLast", "(III)Z"⟩
def RX8 : String := "AnswerShorterModel"
def TX8 : u_T := fun k => match k with
  | 0 => ("AnswerShorterModel", "letters", "[I", true)
  | 1 => ("AnswerShorterModel", "letterMany", "I", false)
  | 2 => ("AnswerShorterModel", "row", "[I", true)
  | 3 => ("AnswerShorterModel", "rowMany", "I", false)
  | 4 => ("AnswerShorterModel", "answered", "[I", true)
  | 5 => ("AnswerShorterModel", "answeredMany", "I", false)
  | 6 => ("AnswerShorterModel", "refused", "[I", true)
  | 7 => ("AnswerShorterModel", "words", "I", false)
  | 8 => ("AnswerShorterModel", "kind", "[I", true)
  | 9 => ("AnswerShorterModel", "tells", "[I", true)
  | 10 => ("AnswerShorterModel", "weight", "[I", true)
  | 11 => ("AnswerShorterModel", "persons", "I", false)
  | 12 => ("AnswerShorterModel", "talker", "[I", true)
  | 13 => ("AnswerShorterModel", "law", "I", false)
  | 14 => ("AnswerShorterModel", "isTrue", "I", false)
  | 15 => ("AnswerShorterModel", "sayings", "I", false)
  | 16 => ("AnswerShorterModel", "sayingWords", "[I", true)
  | 17 => ("AnswerShorterModel", "sayingMeans", "[I", true)
  | 18 => ("AnswerShorterModel", "sayingIdle", "[I", true)
  | 19 => ("AnswerShorterModel", "meantNow", "I", false)
  | 20 => ("AnswerShorterModel", "kept", "LAnswerShorterModel;", false)
  | 21 => ("AnswerShorterModel", "at", "I", false)
  | 22 => ("AnswerShorterModel", "before", "LAnswerShorterModel;", false)
  | 23 => ("AnswerShorterModel", "manyOf", "[I", true)
  | 24 => ("AnswerShorterModel", "wordsOf", "[[I", true)
  | 25 => ("AnswerShorterModel", "meaningOf", "[I", true)
  | 26 => ("AnswerShorterModel", "idleIn", "[I", true)
  | 27 => ("AnswerShorterModel", "listed", "I", false)
  | 28 => ("AnswerShorterModel", "askedMany", "I", false)
  | 29 => ("AnswerShorterModel", "askedIdle", "I", false)
  | 30 => ("AnswerShorterModel", "askedMeans", "I", false)
  | 31 => ("AnswerShorterModel", "askedLaw", "I", false)
  | 32 => ("AnswerShorterModel", "fourWords", "[I", true)
  | 33 => ("AnswerShorterModel", "bestLeft", "I", false)
  | 34 => ("AnswerShorterModel", "drawn", "I", false)
  | _ => ("AnswerShorterModel", "lot", "[I", true)
def tyX8 : Nat → FieldType := fun k => match k with
  | 0 => .array .int
  | 1 => .int
  | 2 => .array .int
  | 3 => .int
  | 4 => .array .int
  | 5 => .int
  | 6 => .array .int
  | 7 => .int
  | 8 => .array .int
  | 9 => .array .int
  | 10 => .array .int
  | 11 => .int
  | 12 => .array .int
  | 13 => .int
  | 14 => .int
  | 15 => .int
  | 16 => .array .int
  | 17 => .array .int
  | 18 => .array .int
  | 19 => .int
  | 20 => .object "AnswerShorterModel"
  | 21 => .int
  | 22 => .object "AnswerShorterModel"
  | 23 => .array .int
  | 24 => .array (.array .int)
  | 25 => .array .int
  | 26 => .array .int
  | 27 => .int
  | 28 => .int
  | 29 => .int
  | 30 => .int
  | 31 => .int
  | 32 => .array .int
  | 33 => .int
  | 34 => .int
  | _ => .array .int
abbrev wsX80 : List Cond := u_ws RX8 TX8 36
theorem nmX8 : ∀ a, a < 36 → ∀ b, b < 36 → a ≠ b → (TX8 a).2.1 ≠ (TX8 b).2.1 := by decide +kernel
theorem tyX8_ok : ∀ k, k < 36 → parseFieldDescriptor (TX8 k).2.2.1 = some (tyX8 k) := by decide +kernel
abbrev cX8_init : ByteArray := prog_10_method_1_code
def yX8_init : MethodName := ⟨RX8, "<init>", "()V"⟩
abbrev cX8_refuse : ByteArray := prog_10_method_2_code
def yX8_refuse : MethodName := ⟨RX8, "refuse", "(I)I"⟩
abbrev cX8_in : ByteArray := prog_10_method_3_code
def yX8_in : MethodName := ⟨RX8, "in", "(III)Z"⟩
abbrev cX8_isCase : ByteArray := prog_10_method_4_code
def yX8_isCase : MethodName := ⟨RX8, "isCase", "(I)Z"⟩
abbrev cX8_isWord : ByteArray := prog_10_method_5_code
def yX8_isWord : MethodName := ⟨RX8, "isWord", "(I)Z"⟩
abbrev cX8_isPerson : ByteArray := prog_10_method_6_code
def yX8_isPerson : MethodName := ⟨RX8, "isPerson", "(I)Z"⟩
abbrev cX8_isSet : ByteArray := prog_10_method_7_code
def yX8_isSet : MethodName := ⟨RX8, "isSet", "(I)Z"⟩
abbrev cX8_weightOf : ByteArray := prog_10_method_8_code
def yX8_weightOf : MethodName := ⟨RX8, "weightOf", "(I)I"⟩
abbrev cX8_letter : ByteArray := prog_10_method_9_code
def yX8_letter : MethodName := ⟨RX8, "letter", "(I)I"⟩
abbrev cX8_sees : ByteArray := prog_10_method_10_code
def yX8_sees : MethodName := ⟨RX8, "sees", "(I)Z"⟩
abbrev cX8_seesDigit : ByteArray := prog_10_method_11_code
def yX8_seesDigit : MethodName := ⟨RX8, "seesDigit", "()Z"⟩
abbrev cX8_digit : ByteArray := prog_10_method_12_code
def yX8_digit : MethodName := ⟨RX8, "digit", "()Z"⟩
abbrev cX8_must : ByteArray := prog_10_method_13_code
def yX8_must : MethodName := ⟨RX8, "must", "(I)Z"⟩
abbrev cX8_seesTalker : ByteArray := prog_10_method_14_code
def yX8_seesTalker : MethodName := ⟨RX8, "seesTalker", "()Z"⟩
abbrev cX8_goesBy : ByteArray := prog_10_method_15_code
def yX8_goesBy : MethodName := ⟨RX8, "goesBy", "()Z"⟩
abbrev cX8_faultOfForm : ByteArray := prog_10_method_16_code
def yX8_faultOfForm : MethodName := ⟨RX8, "faultOfForm", "()I"⟩
abbrev cX8_addWord : ByteArray := prog_10_method_17_code
def yX8_addWord : MethodName := ⟨RX8, "addWord", "(II)Z"⟩
abbrev cX8_tellingComes : ByteArray := prog_10_method_18_code
def yX8_tellingComes : MethodName := ⟨RX8, "tellingComes", "()Z"⟩
abbrev cX8_comes : ByteArray := prog_10_method_19_code
def yX8_comes : MethodName := ⟨RX8, "comes", "()Z"⟩
abbrev cX8_tongue : ByteArray := prog_10_method_20_code
def yX8_tongue : MethodName := ⟨RX8, "tongue", "()I"⟩
abbrev cX8_word : ByteArray := prog_10_method_21_code
def yX8_word : MethodName := ⟨RX8, "word", "(II)I"⟩
abbrev cX8_weight : ByteArray := prog_10_method_22_code
def yX8_weight : MethodName := ⟨RX8, "weight", "(I)I"⟩
abbrev cX8_truth : ByteArray := prog_10_method_23_code
def yX8_truth : MethodName := ⟨RX8, "truth", "(I)I"⟩
abbrev cX8_law : ByteArray := prog_10_method_24_code
def yX8_law : MethodName := ⟨RX8, "law", "(I)I"⟩
abbrev cX8_row : ByteArray := prog_10_method_25_code
def yX8_row : MethodName := ⟨RX8, "row", "(I)I"⟩
abbrev cX8_meaning : ByteArray := prog_10_method_26_code
def yX8_meaning : MethodName := ⟨RX8, "meaning", "([II)I"⟩
abbrev cX8_idleOf : ByteArray := prog_10_method_27_code
def yX8_idleOf : MethodName := ⟨RX8, "idleOf", "([II)I"⟩
abbrev cX8_mayFollow : ByteArray := prog_10_method_28_code
def yX8_mayFollow : MethodName := ⟨RX8, "mayFollow", "(IIIII)Z"⟩
abbrev cX8_doesSettle : ByteArray := prog_10_method_29_code
def yX8_doesSettle : MethodName := ⟨RX8, "doesSettle", "(II)Z"⟩
abbrev cX8_means : ByteArray := prog_10_method_30_code
def yX8_means : MethodName := ⟨RX8, "means", "()I"⟩
abbrev cX8_follows : ByteArray := prog_10_method_31_code
def yX8_follows : MethodName := ⟨RX8, "follows", "(II)I"⟩
abbrev cX8_settles : ByteArray := prog_10_method_32_code
def yX8_settles : MethodName := ⟨RX8, "settles", "(I)I"⟩
abbrev cX8_add : ByteArray := prog_10_method_33_code
def yX8_add : MethodName := ⟨RX8, "add", "(IIII)V"⟩
abbrev cX8_list : ByteArray := prog_10_method_34_code
def yX8_list : MethodName := ⟨RX8, "list", "()V"⟩
abbrev cX8_asks : ByteArray := prog_10_method_35_code
def yX8_asks : MethodName := ⟨RX8, "asks", "(IIII)V"⟩
abbrev cX8_asksRow : ByteArray := prog_10_method_36_code
def yX8_asksRow : MethodName := ⟨RX8, "asksRow", "()V"⟩
abbrev cX8_isAnswer : ByteArray := prog_10_method_37_code
def yX8_isAnswer : MethodName := ⟨RX8, "isAnswer", "(I)Z"⟩
abbrev cX8_isBetter : ByteArray := prog_10_method_38_code
def yX8_isBetter : MethodName := ⟨RX8, "isBetter", "(III)Z"⟩
abbrev cX8_answerOf : ByteArray := prog_10_method_39_code
def yX8_answerOf : MethodName := ⟨RX8, "answerOf", "(II)I"⟩
abbrev cX8_answer : ByteArray := prog_10_method_40_code
def yX8_answer : MethodName := ⟨RX8, "answer", "(II)I"⟩
abbrev cX8_answers : ByteArray := prog_10_method_41_code
def yX8_answers : MethodName := ⟨RX8, "answers", "(I)I"⟩
abbrev cX8_goesOn : ByteArray := prog_10_method_42_code
def yX8_goesOn : MethodName := ⟨RX8, "goesOn", "()Z"⟩
abbrev cX8_least : ByteArray := prog_10_method_43_code
def yX8_least : MethodName := ⟨RX8, "least", "(II)I"⟩
abbrev cX8_leftOf : ByteArray := prog_10_method_44_code
def yX8_leftOf : MethodName := ⟨RX8, "leftOf", "(I)I"⟩
abbrev cX8_left : ByteArray := prog_10_method_45_code
def yX8_left : MethodName := ⟨RX8, "left", "(I)I"⟩
abbrev cX8_bestOf : ByteArray := prog_10_method_46_code
def yX8_bestOf : MethodName := ⟨RX8, "bestOf", "(II)I"⟩
abbrev cX8_best : ByteArray := prog_10_method_47_code
def yX8_best : MethodName := ⟨RX8, "best", "(II)I"⟩
abbrev cX8_forces : ByteArray := prog_10_method_48_code
def yX8_forces : MethodName := ⟨RX8, "forces", "(I)Z"⟩
abbrev cX8_force : ByteArray := prog_10_method_49_code
def yX8_force : MethodName := ⟨RX8, "force", "(II)I"⟩
abbrev cX8_told : ByteArray := prog_10_method_50_code
def yX8_told : MethodName := ⟨RX8, "told", "(I)I"⟩
abbrev cX8_isTold : ByteArray := prog_10_method_51_code
def yX8_isTold : MethodName := ⟨RX8, "isTold", "(I)Z"⟩
abbrev cX8_meant : ByteArray := prog_10_method_52_code
def yX8_meant : MethodName := ⟨RX8, "meant", "(I)I"⟩
abbrev cX8_common : ByteArray := prog_10_method_53_code
def yX8_common : MethodName := ⟨RX8, "common", "(II)I"⟩
abbrev cX8_chance : ByteArray := prog_10_method_54_code
def yX8_chance : MethodName := ⟨RX8, "chance", "(II)I"⟩
abbrev cX8_say : ByteArray := prog_10_method_55_code
def yX8_say : MethodName := ⟨RX8, "say", "()I"⟩
abbrev cX8_saying : ByteArray := prog_10_method_56_code
def yX8_saying : MethodName := ⟨RX8, "saying", "(II)I"⟩
abbrev cX8_known : ByteArray := prog_10_method_57_code
def yX8_known : MethodName := ⟨RX8, "known", "()I"⟩
abbrev cX8_silence : ByteArray := prog_10_method_58_code
def yX8_silence : MethodName := ⟨RX8, "silence", "()I"⟩
abbrev cX8_longest : ByteArray := prog_10_method_59_code
def yX8_longest : MethodName := ⟨RX8, "longest", "(I)I"⟩
abbrev cX8_last : ByteArray := prog_10_method_60_code
def yX8_last : MethodName := ⟨RX8, "last", "(I)I"⟩
abbrev cX8_idle : ByteArray := prog_10_method_61_code
def yX8_idle : MethodName := ⟨RX8, "idle", "(I)I"⟩
abbrev cX8_under : ByteArray := prog_10_method_62_code
def yX8_under : MethodName := ⟨RX8, "under", "(II)I"⟩
abbrev cX8_draw : ByteArray := prog_10_method_63_code
def yX8_draw : MethodName := ⟨RX8, "draw", "(I)I"⟩
abbrev cX8_lots : ByteArray := prog_10_method_64_code
def yX8_lots : MethodName := ⟨RX8, "lots", "(III)I"⟩
abbrev cX8_over : ByteArray := prog_10_method_65_code
def yX8_over : MethodName := ⟨RX8, "over", "([I[I)V"⟩
abbrev cX8_takeFrom : ByteArray := prog_10_method_66_code
def yX8_takeFrom : MethodName := ⟨RX8, "takeFrom", "(LAnswerShorterModel;)V"⟩
abbrev cX8_image : ByteArray := prog_10_method_67_code
def yX8_image : MethodName := ⟨RX8, "image", "()I"⟩
abbrev cX8_on : ByteArray := prog_10_method_68_code
def yX8_on : MethodName := ⟨RX8, "on", "()I"⟩
abbrev cX8_count : ByteArray := prog_10_method_69_code
def yX8_count : MethodName := ⟨RX8, "count", "(I)I"⟩
def RJx145de : String := "java/io/Serializable"
def TJx145de : u_T := fun k => match k with
  | _ => ("", "", "", false)
def tyJx145de : Nat → FieldType := fun k => match k with
  | _ => .int
theorem nmJx145de : ∀ a, a < 0 → ∀ b, b < 0 → a ≠ b → (TJx145de a).2.1 ≠ (TJx145de b).2.1 := by decide +kernel
theorem tyJx145de_ok : ∀ k, k < 0 → parseFieldDescriptor (TJx145de k).2.2.1 = some (tyJx145de k) := by decide +kernel
def RJx9f9b0 : String := "java/lang/CharSequence"
def TJx9f9b0 : u_T := fun k => match k with
  | _ => ("", "", "", false)
def tyJx9f9b0 : Nat → FieldType := fun k => match k with
  | _ => .int
theorem nmJx9f9b0 : ∀ a, a < 0 → ∀ b, b < 0 → a ≠ b → (TJx9f9b0 a).2.1 ≠ (TJx9f9b0 b).2.1 := by decide +kernel
theorem tyJx9f9b0_ok : ∀ k, k < 0 → parseFieldDescriptor (TJx9f9b0 k).2.2.1 = some (tyJx9f9b0 k) := by decide +kernel
def RJ11 : String := "java/lang/Character"
def TJ11 : u_T := fun k => match k with
  | _ => ("", "", "", false)
def tyJ11 : Nat → FieldType := fun k => match k with
  | _ => .int
theorem nmJ11 : ∀ a, a < 0 → ∀ b, b < 0 → a ≠ b → (TJ11 a).2.1 ≠ (TJ11 b).2.1 := by decide +kernel
theorem tyJ11_ok : ∀ k, k < 0 → parseFieldDescriptor (TJ11 k).2.2.1 = some (tyJ11 k) := by decide +kernel
abbrev cJ11_isValidCodePoint_9a6ad : ByteArray := prog_11_method_11_code
def yJ11_isValidCodePoint_9a6ad : MethodName := ⟨RJ11, "isValidCodePoint", "(I)Z"⟩
abbrev cJ11_highSurrogate_5068e : ByteArray := prog_11_method_28_code
def yJ11_highSurrogate_5068e : MethodName := ⟨RJ11, "highSurrogate", "(I)C"⟩
abbrev cJ11_lowSurrogate_5068e : ByteArray := prog_11_method_29_code
def yJ11_lowSurrogate_5068e : MethodName := ⟨RJ11, "lowSurrogate", "(I)C"⟩
def RJxb160c : String := "java/lang/Comparable"
def TJxb160c : u_T := fun k => match k with
  | _ => ("", "", "", false)
def tyJxb160c : Nat → FieldType := fun k => match k with
  | _ => .int
theorem nmJxb160c : ∀ a, a < 0 → ∀ b, b < 0 → a ≠ b → (TJxb160c a).2.1 ≠ (TJxb160c b).2.1 := by decide +kernel
theorem tyJxb160c_ok : ∀ k, k < 0 → parseFieldDescriptor (TJxb160c k).2.2.1 = some (tyJxb160c k) := by decide +kernel
def RJ9 : String := "java/lang/Math"
def TJ9 : u_T := fun k => match k with
  | _ => ("", "", "", false)
def tyJ9 : Nat → FieldType := fun k => match k with
  | _ => .int
theorem nmJ9 : ∀ a, a < 0 → ∀ b, b < 0 → a ≠ b → (TJ9 a).2.1 ≠ (TJ9 b).2.1 := by decide +kernel
theorem tyJ9_ok : ∀ k, k < 0 → parseFieldDescriptor (TJ9 k).2.2.1 = some (tyJ9 k) := by decide +kernel
abbrev cJ9_max_7cf53 : ByteArray := prog_12_method_65_code
def yJ9_max_7cf53 : MethodName := ⟨RJ9, "max", "(II)I"⟩
abbrev cJ9_min_7cf53 : ByteArray := prog_12_method_69_code
def yJ9_min_7cf53 : MethodName := ⟨RJ9, "min", "(II)I"⟩
def RJ0 : String := "java/lang/String"
def TJ0 : u_T := fun k => match k with
  | _ => ("", "", "", false)
def tyJ0 : Nat → FieldType := fun k => match k with
  | _ => .int
theorem nmJ0 : ∀ a, a < 0 → ∀ b, b < 0 → a ≠ b → (TJ0 a).2.1 ≠ (TJ0 b).2.1 := by decide +kernel
theorem tyJ0_ok : ∀ k, k < 0 → parseFieldDescriptor (TJ0 k).2.2.1 = some (tyJ0 k) := by decide +kernel
abbrev cJ0_length_8abf5 : ByteArray := prog_13_method_54_code
def yJ0_length_8abf5 : MethodName := ⟨RJ0, "length", "()I"⟩
abbrev cJ0_isEmpty_aae02 : ByteArray := prog_13_method_55_code
def yJ0_isEmpty_aae02 : MethodName := ⟨RJ0, "isEmpty", "()Z"⟩
abbrev cJ0_charAt_5068e : ByteArray := prog_13_method_56_code
def yJ0_charAt_5068e : MethodName := ⟨RJ0, "charAt", "(I)C"⟩
abbrev cJ0_indexOf_0f7a4 : ByteArray := prog_13_method_79_code
def yJ0_indexOf_0f7a4 : MethodName := ⟨RJ0, "indexOf", "(I)I"⟩
abbrev cJ0_indexOf_7cf53 : ByteArray := prog_13_method_80_code
def yJ0_indexOf_7cf53 : MethodName := ⟨RJ0, "indexOf", "(II)I"⟩
abbrev cJ0_coder_7d493 : ByteArray := prog_13_method_152_code
def yJ0_coder_7d493 : MethodName := ⟨RJ0, "coder", "()B"⟩
abbrev cJ0_isLatin1_aae02 : ByteArray := prog_13_method_154_code
def yJ0_isLatin1_aae02 : MethodName := ⟨RJ0, "isLatin1", "()Z"⟩
abbrev cJ0_checkIndex_df160 : ByteArray := prog_13_method_155_code
def yJ0_checkIndex_df160 : MethodName := ⟨RJ0, "checkIndex", "(II)V"⟩
abbrev cJ0_checkBoundsBeginEnd_23922 : ByteArray := prog_13_method_158_code
def yJ0_checkBoundsBeginEnd_23922 : MethodName := ⟨RJ0, "checkBoundsBeginEnd", "(III)V"⟩
def RJ1 : String := "java/lang/StringLatin1"
def TJ1 : u_T := fun k => match k with
  | _ => ("", "", "", false)
def tyJ1 : Nat → FieldType := fun k => match k with
  | _ => .int
theorem nmJ1 : ∀ a, a < 0 → ∀ b, b < 0 → a ≠ b → (TJ1 a).2.1 ≠ (TJ1 b).2.1 := by decide +kernel
theorem tyJ1_ok : ∀ k, k < 0 → parseFieldDescriptor (TJ1 k).2.2.1 = some (tyJ1 k) := by decide +kernel
abbrev cJ1_charAt_3b067 : ByteArray := prog_14_method_2_code
def yJ1_charAt_3b067 : MethodName := ⟨RJ1, "charAt", "([BI)C"⟩
abbrev cJ1_canEncode_9a6ad : ByteArray := prog_14_method_4_code
def yJ1_canEncode_9a6ad : MethodName := ⟨RJ1, "canEncode", "(I)Z"⟩
abbrev cJ1_indexOf_4cfef : ByteArray := prog_14_method_22_code
def yJ1_indexOf_4cfef : MethodName := ⟨RJ1, "indexOf", "([BIII)I"⟩
abbrev cJ1_indexOfChar_4cfef : ByteArray := prog_14_method_23_code
def yJ1_indexOfChar_4cfef : MethodName := ⟨RJ1, "indexOfChar", "([BIII)I"⟩
def RJ2 : String := "java/lang/StringUTF16"
def TJ2 : u_T := fun k => match k with
  | _ => ("", "", "", false)
def tyJ2 : Nat → FieldType := fun k => match k with
  | _ => .int
theorem nmJ2 : ∀ a, a < 0 → ∀ b, b < 0 → a ≠ b → (TJ2 a).2.1 ≠ (TJ2 b).2.1 := by decide +kernel
theorem tyJ2_ok : ∀ k, k < 0 → parseFieldDescriptor (TJ2 k).2.2.1 = some (tyJ2 k) := by decide +kernel
abbrev cJ2_getChar_3b067 : ByteArray := prog_15_method_5_code
def yJ2_getChar_3b067 : MethodName := ⟨RJ2, "getChar", "([BI)C"⟩
abbrev cJ2_length_9d52b : ByteArray := prog_15_method_6_code
def yJ2_length_9d52b : MethodName := ⟨RJ2, "length", "([B)I"⟩
abbrev cJ2_indexOf_4cfef : ByteArray := prog_15_method_40_code
def yJ2_indexOf_4cfef : MethodName := ⟨RJ2, "indexOf", "([BIII)I"⟩
abbrev cJ2_indexOfChar_4cfef : ByteArray := prog_15_method_47_code
def yJ2_indexOfChar_4cfef : MethodName := ⟨RJ2, "indexOfChar", "([BIII)I"⟩
abbrev cJ2_indexOfCharUnsafe_4cfef : ByteArray := prog_15_method_48_code
def yJ2_indexOfCharUnsafe_4cfef : MethodName := ⟨RJ2, "indexOfCharUnsafe", "([BIII)I"⟩
abbrev cJ2_indexOfSupplementary_4cfef : ByteArray := prog_15_method_49_code
def yJ2_indexOfSupplementary_4cfef : MethodName := ⟨RJ2, "indexOfSupplementary", "([BIII)I"⟩
abbrev cJ2_charAt_3b067 : ByteArray := prog_15_method_83_code
def yJ2_charAt_3b067 : MethodName := ⟨RJ2, "charAt", "([BI)C"⟩
abbrev cJ2_checkIndex_2214a : ByteArray := prog_15_method_91_code
def yJ2_checkIndex_2214a : MethodName := ⟨RJ2, "checkIndex", "(I[B)V"⟩
abbrev cJ2_checkBoundsBeginEnd_d044e : ByteArray := prog_15_method_93_code
def yJ2_checkBoundsBeginEnd_d044e : MethodName := ⟨RJ2, "checkBoundsBeginEnd", "(II[B)V"⟩
def RJ10 : String := "java/lang/System"
def TJ10 : u_T := fun k => match k with
  | _ => ("", "", "", false)
def tyJ10 : Nat → FieldType := fun k => match k with
  | _ => .int
theorem nmJ10 : ∀ a, a < 0 → ∀ b, b < 0 → a ≠ b → (TJ10 a).2.1 ≠ (TJ10 b).2.1 := by decide +kernel
theorem tyJ10_ok : ∀ k, k < 0 → parseFieldDescriptor (TJ10 k).2.2.1 = some (tyJ10 k) := by decide +kernel
def RJxfd54e : String := "java/lang/constant/Constable"
def TJxfd54e : u_T := fun k => match k with
  | _ => ("", "", "", false)
def tyJxfd54e : Nat → FieldType := fun k => match k with
  | _ => .int
theorem nmJxfd54e : ∀ a, a < 0 → ∀ b, b < 0 → a ≠ b → (TJxfd54e a).2.1 ≠ (TJxfd54e b).2.1 := by decide +kernel
theorem tyJxfd54e_ok : ∀ k, k < 0 → parseFieldDescriptor (TJxfd54e k).2.2.1 = some (tyJxfd54e k) := by decide +kernel
def RJx3cf43 : String := "java/lang/constant/ConstantDesc"
def TJx3cf43 : u_T := fun k => match k with
  | _ => ("", "", "", false)
def tyJx3cf43 : Nat → FieldType := fun k => match k with
  | _ => .int
theorem nmJx3cf43 : ∀ a, a < 0 → ∀ b, b < 0 → a ≠ b → (TJx3cf43 a).2.1 ≠ (TJx3cf43 b).2.1 := by decide +kernel
theorem tyJx3cf43_ok : ∀ k, k < 0 → parseFieldDescriptor (TJx3cf43 k).2.2.1 = some (tyJx3cf43 k) := by decide +kernel
def RJ7 : String := "java/util/Arrays"
def TJ7 : u_T := fun k => match k with
  | _ => ("", "", "", false)
def tyJ7 : Nat → FieldType := fun k => match k with
  | _ => .int
theorem nmJ7 : ∀ a, a < 0 → ∀ b, b < 0 → a ≠ b → (TJ7 a).2.1 ≠ (TJ7 b).2.1 := by decide +kernel
theorem tyJ7_ok : ∀ k, k < 0 → parseFieldDescriptor (TJ7 k).2.2.1 = some (tyJ7 k) := by decide +kernel
abbrev cJ7_fill_53178 : ByteArray := prog_17_method_103_code
def yJ7_fill_53178 : MethodName := ⟨RJ7, "fill", "([II)V"⟩
def RJ3 : String := "jdk/internal/util/Preconditions"
def TJ3 : u_T := fun k => match k with
  | _ => ("", "", "", false)
def tyJ3 : Nat → FieldType := fun k => match k with
  | _ => .int
theorem nmJ3 : ∀ a, a < 0 → ∀ b, b < 0 → a ≠ b → (TJ3 a).2.1 ≠ (TJ3 b).2.1 := by decide +kernel
theorem tyJ3_ok : ∀ k, k < 0 → parseFieldDescriptor (TJ3 k).2.2.1 = some (tyJ3 k) := by decide +kernel
abbrev cJ3_checkIndex_8e157 : ByteArray := prog_18_method_11_code
def yJ3_checkIndex_8e157 : MethodName := ⟨RJ3, "checkIndex", "(IILjava/util/function/BiFunction;)I"⟩
abbrev cJ3_checkFromToIndex_8c36e : ByteArray := prog_18_method_12_code
def yJ3_checkFromToIndex_8c36e : MethodName := ⟨RJ3, "checkFromToIndex", "(IIILjava/util/function/BiFunction;)I"⟩
def RL : String := "AnswerShorterLaw"
abbrev cL_law : ByteArray := code
def yL_law : MethodName := ⟨RL, "law", "([I)Z"⟩
abbrev vwCl : List vw_C := [(RX0, TX0, 4), (RX1, TX1, 2), (RX2, TX2, 2), (RX3, TX3, 18), (RX5, TX5, 2), (RX6, TX6, 8), (RX7, TX7, 11), (RX8, TX8, 36)]
end
section
theorem dX0_init_0 : decode cX0_init 0 = .ok (.aload_n 0, 1) := by decide +kernel
theorem dX0_init_1 : decode cX0_init 1 = .ok (.invokespecial 1, 3) := by decide +kernel
theorem dX0_init_4 : decode cX0_init 4 = .ok (.aload_n 0, 1) := by decide +kernel
theorem dX0_init_5 : decode cX0_init 5 = .ok (.new 7, 3) := by decide +kernel
theorem dX0_init_8 : decode cX0_init 8 = .ok (.dup, 1) := by decide +kernel
theorem dX0_init_9 : decode cX0_init 9 = .ok (.invokespecial 9, 3) := by decide +kernel
theorem dX0_init_12 : decode cX0_init 12 = .ok (.putfield 10, 3) := by decide +kernel
theorem dX0_init_15 : decode cX0_init 15 = .ok (.aload_n 0, 1) := by decide +kernel
theorem dX0_init_16 : decode cX0_init 16 = .ok (.new 16, 3) := by decide +kernel
theorem dX0_init_19 : decode cX0_init 19 = .ok (.dup, 1) := by decide +kernel
theorem dX0_init_20 : decode cX0_init 20 = .ok (.invokespecial 18, 3) := by decide +kernel
theorem dX0_init_23 : decode cX0_init 23 = .ok (.putfield 19, 3) := by decide +kernel
theorem dX0_init_26 : decode cX0_init 26 = .ok (.return_, 1) := by decide +kernel
theorem dX1_init_0 : decode cX1_init 0 = .ok (.aload_n 0, 1) := by decide +kernel
theorem dX1_init_1 : decode cX1_init 1 = .ok (.invokespecial 3, 3) := by decide +kernel
theorem dX1_init_4 : decode cX1_init 4 = .ok (.aload_n 0, 1) := by decide +kernel
theorem dX1_init_5 : decode cX1_init 5 = .ok (.bipush 64, 2) := by decide +kernel
theorem dX1_init_7 : decode cX1_init 7 = .ok (.newarray .int, 2) := by decide +kernel
theorem dX1_init_9 : decode cX1_init 9 = .ok (.putfield 9, 3) := by decide +kernel
theorem dX1_init_12 : decode cX1_init 12 = .ok (.return_, 1) := by decide +kernel
theorem dX1_add_0 : decode cX1_add 0 = .ok (.aload_n 0, 1) := by decide +kernel
theorem dX1_add_1 : decode cX1_add 1 = .ok (.getfield 15, 3) := by decide +kernel
theorem dX1_add_4 : decode cX1_add 4 = .ok (.bipush 64, 2) := by decide +kernel
theorem dX1_add_6 : decode cX1_add 6 = .ok (.if_icmp .ge 23, 3) := by decide +kernel
theorem dX1_add_9 : decode cX1_add 9 = .ok (.aload_n 0, 1) := by decide +kernel
theorem dX1_add_10 : decode cX1_add 10 = .ok (.getfield 9, 3) := by decide +kernel
theorem dX1_add_13 : decode cX1_add 13 = .ok (.aload_n 0, 1) := by decide +kernel
theorem dX1_add_14 : decode cX1_add 14 = .ok (.getfield 15, 3) := by decide +kernel
theorem dX1_add_17 : decode cX1_add 17 = .ok (.iload_n 1, 1) := by decide +kernel
theorem dX1_add_18 : decode cX1_add 18 = .ok (.iastore, 1) := by decide +kernel
theorem dX1_add_19 : decode cX1_add 19 = .ok (.aload_n 0, 1) := by decide +kernel
theorem dX1_add_20 : decode cX1_add 20 = .ok (.dup, 1) := by decide +kernel
theorem dX1_add_21 : decode cX1_add 21 = .ok (.getfield 15, 3) := by decide +kernel
theorem dX1_add_24 : decode cX1_add 24 = .ok (.iconst 1, 1) := by decide +kernel
theorem dX1_add_25 : decode cX1_add 25 = .ok (.iadd, 1) := by decide +kernel
theorem dX1_add_26 : decode cX1_add 26 = .ok (.putfield 15, 3) := by decide +kernel
theorem dX1_add_29 : decode cX1_add 29 = .ok (.return_, 1) := by decide +kernel
theorem dX1_statements_0 : decode cX1_statements 0 = .ok (.aload_n 0, 1) := by decide +kernel
theorem dX1_statements_1 : decode cX1_statements 1 = .ok (.getfield 15, 3) := by decide +kernel
theorem dX1_statements_4 : decode cX1_statements 4 = .ok (.ifCond .ne 7, 3) := by decide +kernel
theorem dX1_statements_7 : decode cX1_statements 7 = .ok (.sipush (-1000), 3) := by decide +kernel
theorem dX1_statements_10 : decode cX1_statements 10 = .ok (.ireturn, 1) := by decide +kernel
theorem dX1_statements_11 : decode cX1_statements 11 = .ok (.iconst 0, 1) := by decide +kernel
theorem dX1_statements_12 : decode cX1_statements 12 = .ok (.istore_n 1, 1) := by decide +kernel
theorem dX1_statements_13 : decode cX1_statements 13 = .ok (.iconst 0, 1) := by decide +kernel
theorem dX1_statements_14 : decode cX1_statements 14 = .ok (.istore_n 2, 1) := by decide +kernel
theorem dX1_statements_15 : decode cX1_statements 15 = .ok (.iconst 0, 1) := by decide +kernel
theorem dX1_statements_16 : decode cX1_statements 16 = .ok (.istore_n 3, 1) := by decide +kernel
theorem dX1_statements_17 : decode cX1_statements 17 = .ok (.iload_n 2, 1) := by decide +kernel
theorem dX1_statements_18 : decode cX1_statements 18 = .ok (.aload_n 0, 1) := by decide +kernel
theorem dX1_statements_19 : decode cX1_statements 19 = .ok (.getfield 15, 3) := by decide +kernel
theorem dX1_statements_22 : decode cX1_statements 22 = .ok (.if_icmp .ge 30, 3) := by decide +kernel
theorem dX1_statements_25 : decode cX1_statements 25 = .ok (.iload_n 3, 1) := by decide +kernel
theorem dX1_statements_26 : decode cX1_statements 26 = .ok (.bipush 64, 2) := by decide +kernel
theorem dX1_statements_28 : decode cX1_statements 28 = .ok (.if_icmp .ge 24, 3) := by decide +kernel
theorem dX1_statements_31 : decode cX1_statements 31 = .ok (.aload_n 0, 1) := by decide +kernel
theorem dX1_statements_32 : decode cX1_statements 32 = .ok (.iload_n 2, 1) := by decide +kernel
theorem dX1_statements_33 : decode cX1_statements 33 = .ok (.invokevirtual 19, 3) := by decide +kernel
theorem dX1_statements_36 : decode cX1_statements 36 = .ok (.istore_n 2, 1) := by decide +kernel
theorem dX1_statements_37 : decode cX1_statements 37 = .ok (.iload_n 2, 1) := by decide +kernel
theorem dX1_statements_38 : decode cX1_statements 38 = .ok (.ifCond .ge 5, 3) := by decide +kernel
theorem dX1_statements_41 : decode cX1_statements 41 = .ok (.iload_n 2, 1) := by decide +kernel
theorem dX1_statements_42 : decode cX1_statements 42 = .ok (.ireturn, 1) := by decide +kernel
theorem dX1_statements_43 : decode cX1_statements 43 = .ok (.iinc 1 1, 3) := by decide +kernel
theorem dX1_statements_46 : decode cX1_statements 46 = .ok (.iinc 3 1, 3) := by decide +kernel
theorem dX1_statements_49 : decode cX1_statements 49 = .ok (.goto (-32), 3) := by decide +kernel
theorem dX1_statements_52 : decode cX1_statements 52 = .ok (.iload_n 1, 1) := by decide +kernel
theorem dX1_statements_53 : decode cX1_statements 53 = .ok (.ireturn, 1) := by decide +kernel
theorem dX1_tellTo_0 : decode cX1_tellTo 0 = .ok (.iconst 0, 1) := by decide +kernel
theorem dX1_tellTo_1 : decode cX1_tellTo 1 = .ok (.istore_n 2, 1) := by decide +kernel
theorem dX1_tellTo_2 : decode cX1_tellTo 2 = .ok (.iconst 0, 1) := by decide +kernel
theorem dX1_tellTo_3 : decode cX1_tellTo 3 = .ok (.istore_n 3, 1) := by decide +kernel
theorem dX1_tellTo_4 : decode cX1_tellTo 4 = .ok (.iconst 0, 1) := by decide +kernel
theorem dX1_tellTo_5 : decode cX1_tellTo 5 = .ok (.istore 4, 2) := by decide +kernel
theorem dX1_tellTo_7 : decode cX1_tellTo 7 = .ok (.iload_n 3, 1) := by decide +kernel
theorem dX1_tellTo_8 : decode cX1_tellTo 8 = .ok (.aload_n 0, 1) := by decide +kernel
theorem dX1_tellTo_9 : decode cX1_tellTo 9 = .ok (.getfield 15, 3) := by decide +kernel
theorem dX1_tellTo_12 : decode cX1_tellTo 12 = .ok (.if_icmp .ge 56, 3) := by decide +kernel
theorem dX1_tellTo_15 : decode cX1_tellTo 15 = .ok (.iload 4, 2) := by decide +kernel
theorem dX1_tellTo_17 : decode cX1_tellTo 17 = .ok (.bipush 64, 2) := by decide +kernel
theorem dX1_tellTo_19 : decode cX1_tellTo 19 = .ok (.if_icmp .ge 49, 3) := by decide +kernel
theorem dX1_tellTo_22 : decode cX1_tellTo 22 = .ok (.aload_n 0, 1) := by decide +kernel
theorem dX1_tellTo_23 : decode cX1_tellTo 23 = .ok (.iload_n 3, 1) := by decide +kernel
theorem dX1_tellTo_24 : decode cX1_tellTo 24 = .ok (.invokevirtual 19, 3) := by decide +kernel
theorem dX1_tellTo_27 : decode cX1_tellTo 27 = .ok (.istore 5, 2) := by decide +kernel
theorem dX1_tellTo_29 : decode cX1_tellTo 29 = .ok (.iload 5, 2) := by decide +kernel
theorem dX1_tellTo_31 : decode cX1_tellTo 31 = .ok (.ifCond .ge 6, 3) := by decide +kernel
theorem dX1_tellTo_34 : decode cX1_tellTo 34 = .ok (.iload 5, 2) := by decide +kernel
theorem dX1_tellTo_36 : decode cX1_tellTo 36 = .ok (.ireturn, 1) := by decide +kernel
theorem dX1_tellTo_37 : decode cX1_tellTo 37 = .ok (.aload_n 0, 1) := by decide +kernel
theorem dX1_tellTo_38 : decode cX1_tellTo 38 = .ok (.aload_n 1, 1) := by decide +kernel
theorem dX1_tellTo_39 : decode cX1_tellTo 39 = .ok (.iload_n 3, 1) := by decide +kernel
theorem dX1_tellTo_40 : decode cX1_tellTo 40 = .ok (.iload 5, 2) := by decide +kernel
theorem dX1_tellTo_42 : decode cX1_tellTo 42 = .ok (.iconst 1, 1) := by decide +kernel
theorem dX1_tellTo_43 : decode cX1_tellTo 43 = .ok (.isub, 1) := by decide +kernel
theorem dX1_tellTo_44 : decode cX1_tellTo 44 = .ok (.invokevirtual 23, 3) := by decide +kernel
theorem dX1_tellTo_47 : decode cX1_tellTo 47 = .ok (.ifCond .ne 9, 3) := by decide +kernel
theorem dX1_tellTo_50 : decode cX1_tellTo 50 = .ok (.sipush (-2000), 3) := by decide +kernel
theorem dX1_tellTo_53 : decode cX1_tellTo 53 = .ok (.iload_n 3, 1) := by decide +kernel
theorem dX1_tellTo_54 : decode cX1_tellTo 54 = .ok (.isub, 1) := by decide +kernel
theorem dX1_tellTo_55 : decode cX1_tellTo 55 = .ok (.ireturn, 1) := by decide +kernel
theorem dX1_tellTo_56 : decode cX1_tellTo 56 = .ok (.iload 5, 2) := by decide +kernel
theorem dX1_tellTo_58 : decode cX1_tellTo 58 = .ok (.istore_n 3, 1) := by decide +kernel
theorem dX1_tellTo_59 : decode cX1_tellTo 59 = .ok (.iinc 2 1, 3) := by decide +kernel
theorem dX1_tellTo_62 : decode cX1_tellTo 62 = .ok (.iinc 4 1, 3) := by decide +kernel
theorem dX1_tellTo_65 : decode cX1_tellTo 65 = .ok (.goto (-58), 3) := by decide +kernel
theorem dX1_tellTo_68 : decode cX1_tellTo 68 = .ok (.iload_n 2, 1) := by decide +kernel
theorem dX1_tellTo_69 : decode cX1_tellTo 69 = .ok (.ireturn, 1) := by decide +kernel
theorem dX1_behind_0 : decode cX1_behind 0 = .ok (.aload_n 0, 1) := by decide +kernel
theorem dX1_behind_1 : decode cX1_behind 1 = .ok (.iload_n 1, 1) := by decide +kernel
theorem dX1_behind_2 : decode cX1_behind 2 = .ok (.invokevirtual 27, 3) := by decide +kernel
theorem dX1_behind_5 : decode cX1_behind 5 = .ok (.istore_n 2, 1) := by decide +kernel
theorem dX1_behind_6 : decode cX1_behind 6 = .ok (.iload_n 2, 1) := by decide +kernel
theorem dX1_behind_7 : decode cX1_behind 7 = .ok (.bipush 116, 2) := by decide +kernel
theorem dX1_behind_9 : decode cX1_behind 9 = .ok (.if_icmp .ne 11, 3) := by decide +kernel
theorem dX1_behind_12 : decode cX1_behind 12 = .ok (.aload_n 0, 1) := by decide +kernel
theorem dX1_behind_13 : decode cX1_behind 13 = .ok (.iload_n 1, 1) := by decide +kernel
theorem dX1_behind_14 : decode cX1_behind 14 = .ok (.invokevirtual 30, 3) := by decide +kernel
theorem dX1_behind_17 : decode cX1_behind 17 = .ok (.goto 12, 3) := by decide +kernel
theorem dX1_behind_20 : decode cX1_behind 20 = .ok (.aload_n 0, 1) := by decide +kernel
theorem dX1_behind_21 : decode cX1_behind 21 = .ok (.iload_n 1, 1) := by decide +kernel
theorem dX1_behind_22 : decode cX1_behind 22 = .ok (.iload_n 2, 1) := by decide +kernel
theorem dX1_behind_23 : decode cX1_behind 23 = .ok (.invokestatic 33, 3) := by decide +kernel
theorem dX1_behind_26 : decode cX1_behind 26 = .ok (.invokevirtual 37, 3) := by decide +kernel
theorem dX1_behind_29 : decode cX1_behind 29 = .ok (.ireturn, 1) := by decide +kernel
theorem dX1_behindTelling_0 : decode cX1_behindTelling 0 = .ok (.iload_n 1, 1) := by decide +kernel
theorem dX1_behindTelling_1 : decode cX1_behindTelling 1 = .ok (.iconst 1, 1) := by decide +kernel
theorem dX1_behindTelling_2 : decode cX1_behindTelling 2 = .ok (.iadd, 1) := by decide +kernel
theorem dX1_behindTelling_3 : decode cX1_behindTelling 3 = .ok (.istore_n 2, 1) := by decide +kernel
theorem dX1_behindTelling_4 : decode cX1_behindTelling 4 = .ok (.iconst 0, 1) := by decide +kernel
theorem dX1_behindTelling_5 : decode cX1_behindTelling 5 = .ok (.istore_n 3, 1) := by decide +kernel
theorem dX1_behindTelling_6 : decode cX1_behindTelling 6 = .ok (.iload_n 3, 1) := by decide +kernel
theorem dX1_behindTelling_7 : decode cX1_behindTelling 7 = .ok (.bipush 8, 2) := by decide +kernel
theorem dX1_behindTelling_9 : decode cX1_behindTelling 9 = .ok (.if_icmp .ge 23, 3) := by decide +kernel
theorem dX1_behindTelling_12 : decode cX1_behindTelling 12 = .ok (.aload_n 0, 1) := by decide +kernel
theorem dX1_behindTelling_13 : decode cX1_behindTelling 13 = .ok (.iload_n 2, 1) := by decide +kernel
theorem dX1_behindTelling_14 : decode cX1_behindTelling 14 = .ok (.invokevirtual 27, 3) := by decide +kernel
theorem dX1_behindTelling_17 : decode cX1_behindTelling 17 = .ok (.invokestatic 41, 3) := by decide +kernel
theorem dX1_behindTelling_20 : decode cX1_behindTelling 20 = .ok (.ifCond .eq 12, 3) := by decide +kernel
theorem dX1_behindTelling_23 : decode cX1_behindTelling 23 = .ok (.iinc 2 1, 3) := by decide +kernel
theorem dX1_behindTelling_26 : decode cX1_behindTelling 26 = .ok (.iinc 3 1, 3) := by decide +kernel
theorem dX1_behindTelling_29 : decode cX1_behindTelling 29 = .ok (.goto (-23), 3) := by decide +kernel
theorem dX1_behindTelling_32 : decode cX1_behindTelling 32 = .ok (.iload_n 2, 1) := by decide +kernel
theorem dX1_behindTelling_33 : decode cX1_behindTelling 33 = .ok (.iload_n 1, 1) := by decide +kernel
theorem dX1_behindTelling_34 : decode cX1_behindTelling 34 = .ok (.iconst 1, 1) := by decide +kernel
theorem dX1_behindTelling_35 : decode cX1_behindTelling 35 = .ok (.iadd, 1) := by decide +kernel
theorem dX1_behindTelling_36 : decode cX1_behindTelling 36 = .ok (.if_icmp .eq 13, 3) := by decide +kernel
theorem dX1_behindTelling_39 : decode cX1_behindTelling 39 = .ok (.aload_n 0, 1) := by decide +kernel
theorem dX1_behindTelling_40 : decode cX1_behindTelling 40 = .ok (.iload_n 2, 1) := by decide +kernel
theorem dX1_behindTelling_41 : decode cX1_behindTelling 41 = .ok (.invokevirtual 27, 3) := by decide +kernel
theorem dX1_behindTelling_44 : decode cX1_behindTelling 44 = .ok (.bipush 59, 2) := by decide +kernel
theorem dX1_behindTelling_46 : decode cX1_behindTelling 46 = .ok (.if_icmp .eq 9, 3) := by decide +kernel
theorem dX1_behindTelling_49 : decode cX1_behindTelling 49 = .ok (.sipush (-1000), 3) := by decide +kernel
theorem dX1_behindTelling_52 : decode cX1_behindTelling 52 = .ok (.iload_n 2, 1) := by decide +kernel
theorem dX1_behindTelling_53 : decode cX1_behindTelling 53 = .ok (.isub, 1) := by decide +kernel
theorem dX1_behindTelling_54 : decode cX1_behindTelling 54 = .ok (.ireturn, 1) := by decide +kernel
theorem dX1_behindTelling_55 : decode cX1_behindTelling 55 = .ok (.iload_n 2, 1) := by decide +kernel
theorem dX1_behindTelling_56 : decode cX1_behindTelling 56 = .ok (.iconst 1, 1) := by decide +kernel
theorem dX1_behindTelling_57 : decode cX1_behindTelling 57 = .ok (.iadd, 1) := by decide +kernel
theorem dX1_behindTelling_58 : decode cX1_behindTelling 58 = .ok (.ireturn, 1) := by decide +kernel
theorem dX1_behindForm_0 : decode cX1_behindForm 0 = .ok (.aload_n 2, 1) := by decide +kernel
theorem dX1_behindForm_1 : decode cX1_behindForm 1 = .ok (.invokevirtual 45, 3) := by decide +kernel
theorem dX1_behindForm_4 : decode cX1_behindForm 4 = .ok (.ifCond .eq 9, 3) := by decide +kernel
theorem dX1_behindForm_7 : decode cX1_behindForm 7 = .ok (.sipush (-1000), 3) := by decide +kernel
theorem dX1_behindForm_10 : decode cX1_behindForm 10 = .ok (.iload_n 1, 1) := by decide +kernel
theorem dX1_behindForm_11 : decode cX1_behindForm 11 = .ok (.isub, 1) := by decide +kernel
theorem dX1_behindForm_12 : decode cX1_behindForm 12 = .ok (.ireturn, 1) := by decide +kernel
theorem dX1_behindForm_13 : decode cX1_behindForm 13 = .ok (.iconst 0, 1) := by decide +kernel
theorem dX1_behindForm_14 : decode cX1_behindForm 14 = .ok (.istore_n 3, 1) := by decide +kernel
theorem dX1_behindForm_15 : decode cX1_behindForm 15 = .ok (.iload_n 3, 1) := by decide +kernel
theorem dX1_behindForm_16 : decode cX1_behindForm 16 = .ok (.aload_n 2, 1) := by decide +kernel
theorem dX1_behindForm_17 : decode cX1_behindForm 17 = .ok (.invokevirtual 51, 3) := by decide +kernel
theorem dX1_behindForm_20 : decode cX1_behindForm 20 = .ok (.if_icmp .ge 40, 3) := by decide +kernel
theorem dX1_behindForm_23 : decode cX1_behindForm 23 = .ok (.iload_n 1, 1) := by decide +kernel
theorem dX1_behindForm_24 : decode cX1_behindForm 24 = .ok (.iconst 1, 1) := by decide +kernel
theorem dX1_behindForm_25 : decode cX1_behindForm 25 = .ok (.iadd, 1) := by decide +kernel
theorem dX1_behindForm_26 : decode cX1_behindForm 26 = .ok (.iload_n 3, 1) := by decide +kernel
theorem dX1_behindForm_27 : decode cX1_behindForm 27 = .ok (.iadd, 1) := by decide +kernel
theorem dX1_behindForm_28 : decode cX1_behindForm 28 = .ok (.istore 4, 2) := by decide +kernel
theorem dX1_behindForm_30 : decode cX1_behindForm 30 = .ok (.aload_n 2, 1) := by decide +kernel
theorem dX1_behindForm_31 : decode cX1_behindForm 31 = .ok (.iload_n 3, 1) := by decide +kernel
theorem dX1_behindForm_32 : decode cX1_behindForm 32 = .ok (.invokevirtual 55, 3) := by decide +kernel
theorem dX1_behindForm_35 : decode cX1_behindForm 35 = .ok (.aload_n 0, 1) := by decide +kernel
theorem dX1_behindForm_36 : decode cX1_behindForm 36 = .ok (.iload 4, 2) := by decide +kernel
theorem dX1_behindForm_38 : decode cX1_behindForm 38 = .ok (.invokevirtual 27, 3) := by decide +kernel
theorem dX1_behindForm_41 : decode cX1_behindForm 41 = .ok (.invokestatic 59, 3) := by decide +kernel
theorem dX1_behindForm_44 : decode cX1_behindForm 44 = .ok (.ifCond .ne 10, 3) := by decide +kernel
theorem dX1_behindForm_47 : decode cX1_behindForm 47 = .ok (.sipush (-1000), 3) := by decide +kernel
theorem dX1_behindForm_50 : decode cX1_behindForm 50 = .ok (.iload 4, 2) := by decide +kernel
theorem dX1_behindForm_52 : decode cX1_behindForm 52 = .ok (.isub, 1) := by decide +kernel
theorem dX1_behindForm_53 : decode cX1_behindForm 53 = .ok (.ireturn, 1) := by decide +kernel
theorem dX1_behindForm_54 : decode cX1_behindForm 54 = .ok (.iinc 3 1, 3) := by decide +kernel
theorem dX1_behindForm_57 : decode cX1_behindForm 57 = .ok (.goto (-42), 3) := by decide +kernel
theorem dX1_behindForm_60 : decode cX1_behindForm 60 = .ok (.iload_n 1, 1) := by decide +kernel
theorem dX1_behindForm_61 : decode cX1_behindForm 61 = .ok (.iconst 1, 1) := by decide +kernel
theorem dX1_behindForm_62 : decode cX1_behindForm 62 = .ok (.iadd, 1) := by decide +kernel
theorem dX1_behindForm_63 : decode cX1_behindForm 63 = .ok (.aload_n 2, 1) := by decide +kernel
theorem dX1_behindForm_64 : decode cX1_behindForm 64 = .ok (.invokevirtual 51, 3) := by decide +kernel
theorem dX1_behindForm_67 : decode cX1_behindForm 67 = .ok (.iadd, 1) := by decide +kernel
theorem dX1_behindForm_68 : decode cX1_behindForm 68 = .ok (.ireturn, 1) := by decide +kernel
theorem dX1_formOf_0 : decode cX1_formOf 0 = .ok (.iload_n 0, 1) := by decide +kernel
theorem dX1_formOf_1 : decode cX1_formOf 1 = .ok (.tableswitch 87 105 119 #[75, 87, 87, 81, 87, 75, 75, 84, 87, 87, 87, 87, 87, 87, 78], 75) := by decide +kernel
theorem dX1_formOf_76 : decode cX1_formOf 76 = .ok (.ldc 63, 2) := by decide +kernel
theorem dX1_formOf_78 : decode cX1_formOf 78 = .ok (.areturn, 1) := by decide +kernel
theorem dX1_formOf_79 : decode cX1_formOf 79 = .ok (.ldc 65, 2) := by decide +kernel
theorem dX1_formOf_81 : decode cX1_formOf 81 = .ok (.areturn, 1) := by decide +kernel
theorem dX1_formOf_82 : decode cX1_formOf 82 = .ok (.ldc 67, 2) := by decide +kernel
theorem dX1_formOf_84 : decode cX1_formOf 84 = .ok (.areturn, 1) := by decide +kernel
theorem dX1_formOf_85 : decode cX1_formOf 85 = .ok (.ldc 69, 2) := by decide +kernel
theorem dX1_formOf_87 : decode cX1_formOf 87 = .ok (.areturn, 1) := by decide +kernel
theorem dX1_formOf_88 : decode cX1_formOf 88 = .ok (.ldc 71, 2) := by decide +kernel
theorem dX1_formOf_90 : decode cX1_formOf 90 = .ok (.areturn, 1) := by decide +kernel
theorem dX1_fits_0 : decode cX1_fits 0 = .ok (.iload_n 0, 1) := by decide +kernel
theorem dX1_fits_1 : decode cX1_fits 1 = .ok (.lookupswitch 45 #[(48, 27), (107, 32)], 27) := by decide +kernel
theorem dX1_fits_28 : decode cX1_fits 28 = .ok (.iload_n 1, 1) := by decide +kernel
theorem dX1_fits_29 : decode cX1_fits 29 = .ok (.invokestatic 41, 3) := by decide +kernel
theorem dX1_fits_32 : decode cX1_fits 32 = .ok (.ireturn, 1) := by decide +kernel
theorem dX1_fits_33 : decode cX1_fits 33 = .ok (.iload_n 1, 1) := by decide +kernel
theorem dX1_fits_34 : decode cX1_fits 34 = .ok (.invokestatic 73, 3) := by decide +kernel
theorem dX1_fits_37 : decode cX1_fits 37 = .ok (.ifCond .lt 7, 3) := by decide +kernel
theorem dX1_fits_40 : decode cX1_fits 40 = .ok (.iconst 1, 1) := by decide +kernel
theorem dX1_fits_41 : decode cX1_fits 41 = .ok (.goto 4, 3) := by decide +kernel
theorem dX1_fits_44 : decode cX1_fits 44 = .ok (.iconst 0, 1) := by decide +kernel
theorem dX1_fits_45 : decode cX1_fits 45 = .ok (.ireturn, 1) := by decide +kernel
theorem dX1_fits_46 : decode cX1_fits 46 = .ok (.iload_n 1, 1) := by decide +kernel
theorem dX1_fits_47 : decode cX1_fits 47 = .ok (.iload_n 0, 1) := by decide +kernel
theorem dX1_fits_48 : decode cX1_fits 48 = .ok (.if_icmp .ne 7, 3) := by decide +kernel
theorem dX1_fits_51 : decode cX1_fits 51 = .ok (.iconst 1, 1) := by decide +kernel
theorem dX1_fits_52 : decode cX1_fits 52 = .ok (.goto 4, 3) := by decide +kernel
theorem dX1_fits_55 : decode cX1_fits 55 = .ok (.iconst 0, 1) := by decide +kernel
theorem dX1_fits_56 : decode cX1_fits 56 = .ok (.ireturn, 1) := by decide +kernel
theorem dX1_tellOne_0 : decode cX1_tellOne 0 = .ok (.aload_n 0, 1) := by decide +kernel
theorem dX1_tellOne_1 : decode cX1_tellOne 1 = .ok (.iload_n 2, 1) := by decide +kernel
theorem dX1_tellOne_2 : decode cX1_tellOne 2 = .ok (.invokevirtual 27, 3) := by decide +kernel
theorem dX1_tellOne_5 : decode cX1_tellOne 5 = .ok (.tableswitch 137 105 119 #[99, 137, 137, 125, 137, 85, 92, 137, 137, 137, 137, 75, 137, 137, 106], 75) := by decide +kernel
theorem dX1_tellOne_80 : decode cX1_tellOne 80 = .ok (.aload_n 0, 1) := by decide +kernel
theorem dX1_tellOne_81 : decode cX1_tellOne 81 = .ok (.aload_n 1, 1) := by decide +kernel
theorem dX1_tellOne_82 : decode cX1_tellOne 82 = .ok (.iload_n 2, 1) := by decide +kernel
theorem dX1_tellOne_83 : decode cX1_tellOne 83 = .ok (.iconst 1, 1) := by decide +kernel
theorem dX1_tellOne_84 : decode cX1_tellOne 84 = .ok (.iadd, 1) := by decide +kernel
theorem dX1_tellOne_85 : decode cX1_tellOne 85 = .ok (.iload_n 3, 1) := by decide +kernel
theorem dX1_tellOne_86 : decode cX1_tellOne 86 = .ok (.invokevirtual 76, 3) := by decide +kernel
theorem dX1_tellOne_89 : decode cX1_tellOne 89 = .ok (.ireturn, 1) := by decide +kernel
theorem dX1_tellOne_90 : decode cX1_tellOne 90 = .ok (.aload_n 1, 1) := by decide +kernel
theorem dX1_tellOne_91 : decode cX1_tellOne 91 = .ok (.iconst 1, 1) := by decide +kernel
theorem dX1_tellOne_92 : decode cX1_tellOne 92 = .ok (.iconst 0, 1) := by decide +kernel
theorem dX1_tellOne_93 : decode cX1_tellOne 93 = .ok (.invokevirtual 79, 3) := by decide +kernel
theorem dX1_tellOne_96 : decode cX1_tellOne 96 = .ok (.ireturn, 1) := by decide +kernel
theorem dX1_tellOne_97 : decode cX1_tellOne 97 = .ok (.aload_n 1, 1) := by decide +kernel
theorem dX1_tellOne_98 : decode cX1_tellOne 98 = .ok (.iconst 2, 1) := by decide +kernel
theorem dX1_tellOne_99 : decode cX1_tellOne 99 = .ok (.iconst 0, 1) := by decide +kernel
theorem dX1_tellOne_100 : decode cX1_tellOne 100 = .ok (.invokevirtual 79, 3) := by decide +kernel
theorem dX1_tellOne_103 : decode cX1_tellOne 103 = .ok (.ireturn, 1) := by decide +kernel
theorem dX1_tellOne_104 : decode cX1_tellOne 104 = .ok (.aload_n 1, 1) := by decide +kernel
theorem dX1_tellOne_105 : decode cX1_tellOne 105 = .ok (.iconst 3, 1) := by decide +kernel
theorem dX1_tellOne_106 : decode cX1_tellOne 106 = .ok (.iconst 0, 1) := by decide +kernel
theorem dX1_tellOne_107 : decode cX1_tellOne 107 = .ok (.invokevirtual 79, 3) := by decide +kernel
theorem dX1_tellOne_110 : decode cX1_tellOne 110 = .ok (.ireturn, 1) := by decide +kernel
theorem dX1_tellOne_111 : decode cX1_tellOne 111 = .ok (.aload_n 1, 1) := by decide +kernel
theorem dX1_tellOne_112 : decode cX1_tellOne 112 = .ok (.aload_n 0, 1) := by decide +kernel
theorem dX1_tellOne_113 : decode cX1_tellOne 113 = .ok (.iload_n 2, 1) := by decide +kernel
theorem dX1_tellOne_114 : decode cX1_tellOne 114 = .ok (.iconst 1, 1) := by decide +kernel
theorem dX1_tellOne_115 : decode cX1_tellOne 115 = .ok (.iadd, 1) := by decide +kernel
theorem dX1_tellOne_116 : decode cX1_tellOne 116 = .ok (.invokevirtual 85, 3) := by decide +kernel
theorem dX1_tellOne_119 : decode cX1_tellOne 119 = .ok (.aload_n 0, 1) := by decide +kernel
theorem dX1_tellOne_120 : decode cX1_tellOne 120 = .ok (.iload_n 2, 1) := by decide +kernel
theorem dX1_tellOne_121 : decode cX1_tellOne 121 = .ok (.iconst 3, 1) := by decide +kernel
theorem dX1_tellOne_122 : decode cX1_tellOne 122 = .ok (.iadd, 1) := by decide +kernel
theorem dX1_tellOne_123 : decode cX1_tellOne 123 = .ok (.invokevirtual 85, 3) := by decide +kernel
theorem dX1_tellOne_126 : decode cX1_tellOne 126 = .ok (.invokevirtual 88, 3) := by decide +kernel
theorem dX1_tellOne_129 : decode cX1_tellOne 129 = .ok (.ireturn, 1) := by decide +kernel
theorem dX1_tellOne_130 : decode cX1_tellOne 130 = .ok (.aload_n 1, 1) := by decide +kernel
theorem dX1_tellOne_131 : decode cX1_tellOne 131 = .ok (.aload_n 0, 1) := by decide +kernel
theorem dX1_tellOne_132 : decode cX1_tellOne 132 = .ok (.iload_n 2, 1) := by decide +kernel
theorem dX1_tellOne_133 : decode cX1_tellOne 133 = .ok (.iconst 1, 1) := by decide +kernel
theorem dX1_tellOne_134 : decode cX1_tellOne 134 = .ok (.iadd, 1) := by decide +kernel
theorem dX1_tellOne_135 : decode cX1_tellOne 135 = .ok (.invokevirtual 85, 3) := by decide +kernel
theorem dX1_tellOne_138 : decode cX1_tellOne 138 = .ok (.invokevirtual 91, 3) := by decide +kernel
theorem dX1_tellOne_141 : decode cX1_tellOne 141 = .ok (.ireturn, 1) := by decide +kernel
theorem dX1_tellOne_142 : decode cX1_tellOne 142 = .ok (.aload_n 1, 1) := by decide +kernel
theorem dX1_tellOne_143 : decode cX1_tellOne 143 = .ok (.aload_n 0, 1) := by decide +kernel
theorem dX1_tellOne_144 : decode cX1_tellOne 144 = .ok (.iload_n 2, 1) := by decide +kernel
theorem dX1_tellOne_145 : decode cX1_tellOne 145 = .ok (.iconst 1, 1) := by decide +kernel
theorem dX1_tellOne_146 : decode cX1_tellOne 146 = .ok (.iadd, 1) := by decide +kernel
theorem dX1_tellOne_147 : decode cX1_tellOne 147 = .ok (.invokevirtual 27, 3) := by decide +kernel
theorem dX1_tellOne_150 : decode cX1_tellOne 150 = .ok (.invokestatic 73, 3) := by decide +kernel
theorem dX1_tellOne_153 : decode cX1_tellOne 153 = .ok (.invokevirtual 94, 3) := by decide +kernel
theorem dX1_tellOne_156 : decode cX1_tellOne 156 = .ok (.ireturn, 1) := by decide +kernel
theorem dX1_tellWord_0 : decode cX1_tellWord 0 = .ok (.iconst 0, 1) := by decide +kernel
theorem dX1_tellWord_1 : decode cX1_tellWord 1 = .ok (.istore 4, 2) := by decide +kernel
theorem dX1_tellWord_3 : decode cX1_tellWord 3 = .ok (.iconst (-1), 1) := by decide +kernel
theorem dX1_tellWord_4 : decode cX1_tellWord 4 = .ok (.istore 5, 2) := by decide +kernel
theorem dX1_tellWord_6 : decode cX1_tellWord 6 = .ok (.iload_n 2, 1) := by decide +kernel
theorem dX1_tellWord_7 : decode cX1_tellWord 7 = .ok (.istore 6, 2) := by decide +kernel
theorem dX1_tellWord_9 : decode cX1_tellWord 9 = .ok (.iload 6, 2) := by decide +kernel
theorem dX1_tellWord_11 : decode cX1_tellWord 11 = .ok (.iload_n 3, 1) := by decide +kernel
theorem dX1_tellWord_12 : decode cX1_tellWord 12 = .ok (.if_icmp .ge 47, 3) := by decide +kernel
theorem dX1_tellWord_15 : decode cX1_tellWord 15 = .ok (.aload_n 0, 1) := by decide +kernel
theorem dX1_tellWord_16 : decode cX1_tellWord 16 = .ok (.iload 6, 2) := by decide +kernel
theorem dX1_tellWord_18 : decode cX1_tellWord 18 = .ok (.invokevirtual 85, 3) := by decide +kernel
theorem dX1_tellWord_21 : decode cX1_tellWord 21 = .ok (.istore 7, 2) := by decide +kernel
theorem dX1_tellWord_23 : decode cX1_tellWord 23 = .ok (.iload 7, 2) := by decide +kernel
theorem dX1_tellWord_25 : decode cX1_tellWord 25 = .ok (.iload 5, 2) := by decide +kernel
theorem dX1_tellWord_27 : decode cX1_tellWord 27 = .ok (.if_icmp .le 11, 3) := by decide +kernel
theorem dX1_tellWord_30 : decode cX1_tellWord 30 = .ok (.iload 7, 2) := by decide +kernel
theorem dX1_tellWord_32 : decode cX1_tellWord 32 = .ok (.invokestatic 97, 3) := by decide +kernel
theorem dX1_tellWord_35 : decode cX1_tellWord 35 = .ok (.ifCond .ne 5, 3) := by decide +kernel
theorem dX1_tellWord_38 : decode cX1_tellWord 38 = .ok (.iconst 0, 1) := by decide +kernel
theorem dX1_tellWord_39 : decode cX1_tellWord 39 = .ok (.ireturn, 1) := by decide +kernel
theorem dX1_tellWord_40 : decode cX1_tellWord 40 = .ok (.iload 4, 2) := by decide +kernel
theorem dX1_tellWord_42 : decode cX1_tellWord 42 = .ok (.iconst 1, 1) := by decide +kernel
theorem dX1_tellWord_43 : decode cX1_tellWord 43 = .ok (.iload 7, 2) := by decide +kernel
theorem dX1_tellWord_45 : decode cX1_tellWord 45 = .ok (.ishl, 1) := by decide +kernel
theorem dX1_tellWord_46 : decode cX1_tellWord 46 = .ok (.ior, 1) := by decide +kernel
theorem dX1_tellWord_47 : decode cX1_tellWord 47 = .ok (.istore 4, 2) := by decide +kernel
theorem dX1_tellWord_49 : decode cX1_tellWord 49 = .ok (.iload 7, 2) := by decide +kernel
theorem dX1_tellWord_51 : decode cX1_tellWord 51 = .ok (.istore 5, 2) := by decide +kernel
theorem dX1_tellWord_53 : decode cX1_tellWord 53 = .ok (.iinc 6 1, 3) := by decide +kernel
theorem dX1_tellWord_56 : decode cX1_tellWord 56 = .ok (.goto (-47), 3) := by decide +kernel
theorem dX1_tellWord_59 : decode cX1_tellWord 59 = .ok (.aload_n 1, 1) := by decide +kernel
theorem dX1_tellWord_60 : decode cX1_tellWord 60 = .ok (.iconst 0, 1) := by decide +kernel
theorem dX1_tellWord_61 : decode cX1_tellWord 61 = .ok (.iload 4, 2) := by decide +kernel
theorem dX1_tellWord_63 : decode cX1_tellWord 63 = .ok (.invokevirtual 79, 3) := by decide +kernel
theorem dX1_tellWord_66 : decode cX1_tellWord 66 = .ok (.ireturn, 1) := by decide +kernel
theorem dX1_sign_0 : decode cX1_sign 0 = .ok (.iload_n 1, 1) := by decide +kernel
theorem dX1_sign_1 : decode cX1_sign 1 = .ok (.ifCond .lt 20, 3) := by decide +kernel
theorem dX1_sign_4 : decode cX1_sign 4 = .ok (.iload_n 1, 1) := by decide +kernel
theorem dX1_sign_5 : decode cX1_sign 5 = .ok (.aload_n 0, 1) := by decide +kernel
theorem dX1_sign_6 : decode cX1_sign 6 = .ok (.getfield 15, 3) := by decide +kernel
theorem dX1_sign_9 : decode cX1_sign 9 = .ok (.if_icmp .ge 12, 3) := by decide +kernel
theorem dX1_sign_12 : decode cX1_sign 12 = .ok (.aload_n 0, 1) := by decide +kernel
theorem dX1_sign_13 : decode cX1_sign 13 = .ok (.getfield 9, 3) := by decide +kernel
theorem dX1_sign_16 : decode cX1_sign 16 = .ok (.iload_n 1, 1) := by decide +kernel
theorem dX1_sign_17 : decode cX1_sign 17 = .ok (.iaload, 1) := by decide +kernel
theorem dX1_sign_18 : decode cX1_sign 18 = .ok (.goto 4, 3) := by decide +kernel
theorem dX1_sign_21 : decode cX1_sign 21 = .ok (.iconst (-1), 1) := by decide +kernel
theorem dX1_sign_22 : decode cX1_sign 22 = .ok (.ireturn, 1) := by decide +kernel
theorem dX1_digit_0 : decode cX1_digit 0 = .ok (.aload_n 0, 1) := by decide +kernel
theorem dX1_digit_1 : decode cX1_digit 1 = .ok (.iload_n 1, 1) := by decide +kernel
theorem dX1_digit_2 : decode cX1_digit 2 = .ok (.invokevirtual 27, 3) := by decide +kernel
theorem dX1_digit_5 : decode cX1_digit 5 = .ok (.bipush 48, 2) := by decide +kernel
theorem dX1_digit_7 : decode cX1_digit 7 = .ok (.isub, 1) := by decide +kernel
theorem dX1_digit_8 : decode cX1_digit 8 = .ok (.ireturn, 1) := by decide +kernel
theorem dX1_isDigit_0 : decode cX1_isDigit 0 = .ok (.iload_n 0, 1) := by decide +kernel
theorem dX1_isDigit_1 : decode cX1_isDigit 1 = .ok (.bipush 48, 2) := by decide +kernel
theorem dX1_isDigit_3 : decode cX1_isDigit 3 = .ok (.if_icmp .lt 13, 3) := by decide +kernel
theorem dX1_isDigit_6 : decode cX1_isDigit 6 = .ok (.iload_n 0, 1) := by decide +kernel
theorem dX1_isDigit_7 : decode cX1_isDigit 7 = .ok (.bipush 57, 2) := by decide +kernel
theorem dX1_isDigit_9 : decode cX1_isDigit 9 = .ok (.if_icmp .gt 7, 3) := by decide +kernel
theorem dX1_isDigit_12 : decode cX1_isDigit 12 = .ok (.iconst 1, 1) := by decide +kernel
theorem dX1_isDigit_13 : decode cX1_isDigit 13 = .ok (.goto 4, 3) := by decide +kernel
theorem dX1_isDigit_16 : decode cX1_isDigit 16 = .ok (.iconst 0, 1) := by decide +kernel
theorem dX1_isDigit_17 : decode cX1_isDigit 17 = .ok (.ireturn, 1) := by decide +kernel
theorem dX1_talkerOf_0 : decode cX1_talkerOf 0 = .ok (.iload_n 0, 1) := by decide +kernel
theorem dX1_talkerOf_1 : decode cX1_talkerOf 1 = .ok (.ifCond .ge 7, 3) := by decide +kernel
theorem dX1_talkerOf_4 : decode cX1_talkerOf 4 = .ok (.iconst (-1), 1) := by decide +kernel
theorem dX1_talkerOf_5 : decode cX1_talkerOf 5 = .ok (.goto 10, 3) := by decide +kernel
theorem dX1_talkerOf_8 : decode cX1_talkerOf 8 = .ok (.ldc 100, 2) := by decide +kernel
theorem dX1_talkerOf_10 : decode cX1_talkerOf 10 = .ok (.iload_n 0, 1) := by decide +kernel
theorem dX1_talkerOf_11 : decode cX1_talkerOf 11 = .ok (.i2c, 1) := by decide +kernel
theorem dX1_talkerOf_12 : decode cX1_talkerOf 12 = .ok (.invokevirtual 102, 3) := by decide +kernel
theorem dX1_talkerOf_15 : decode cX1_talkerOf 15 = .ok (.ireturn, 1) := by decide +kernel
theorem dX2_init_0 : decode cX2_init 0 = .ok (.aload_n 0, 1) := by decide +kernel
theorem dX2_init_1 : decode cX2_init 1 = .ok (.invokespecial 3, 3) := by decide +kernel
theorem dX2_init_4 : decode cX2_init 4 = .ok (.aload_n 0, 1) := by decide +kernel
theorem dX2_init_5 : decode cX2_init 5 = .ok (.bipush 6, 2) := by decide +kernel
theorem dX2_init_7 : decode cX2_init 7 = .ok (.newarray .int, 2) := by decide +kernel
theorem dX2_init_9 : decode cX2_init 9 = .ok (.putfield 9, 3) := by decide +kernel
theorem dX2_init_12 : decode cX2_init 12 = .ok (.return_, 1) := by decide +kernel
theorem dX2_add_0 : decode cX2_add 0 = .ok (.aload_n 0, 1) := by decide +kernel
theorem dX2_add_1 : decode cX2_add 1 = .ok (.getfield 15, 3) := by decide +kernel
theorem dX2_add_4 : decode cX2_add 4 = .ok (.bipush 6, 2) := by decide +kernel
theorem dX2_add_6 : decode cX2_add 6 = .ok (.if_icmp .ge 23, 3) := by decide +kernel
theorem dX2_add_9 : decode cX2_add 9 = .ok (.aload_n 0, 1) := by decide +kernel
theorem dX2_add_10 : decode cX2_add 10 = .ok (.getfield 9, 3) := by decide +kernel
theorem dX2_add_13 : decode cX2_add 13 = .ok (.aload_n 0, 1) := by decide +kernel
theorem dX2_add_14 : decode cX2_add 14 = .ok (.getfield 15, 3) := by decide +kernel
theorem dX2_add_17 : decode cX2_add 17 = .ok (.iload_n 1, 1) := by decide +kernel
theorem dX2_add_18 : decode cX2_add 18 = .ok (.iastore, 1) := by decide +kernel
theorem dX2_add_19 : decode cX2_add 19 = .ok (.aload_n 0, 1) := by decide +kernel
theorem dX2_add_20 : decode cX2_add 20 = .ok (.dup, 1) := by decide +kernel
theorem dX2_add_21 : decode cX2_add 21 = .ok (.getfield 15, 3) := by decide +kernel
theorem dX2_add_24 : decode cX2_add 24 = .ok (.iconst 1, 1) := by decide +kernel
theorem dX2_add_25 : decode cX2_add 25 = .ok (.iadd, 1) := by decide +kernel
theorem dX2_add_26 : decode cX2_add 26 = .ok (.putfield 15, 3) := by decide +kernel
theorem dX2_add_29 : decode cX2_add 29 = .ok (.return_, 1) := by decide +kernel
theorem dX2_sense_0 : decode cX2_sense 0 = .ok (.sipush 255, 3) := by decide +kernel
theorem dX2_sense_3 : decode cX2_sense 3 = .ok (.istore_n 2, 1) := by decide +kernel
theorem dX2_sense_4 : decode cX2_sense 4 = .ok (.iconst 0, 1) := by decide +kernel
theorem dX2_sense_5 : decode cX2_sense 5 = .ok (.istore_n 3, 1) := by decide +kernel
theorem dX2_sense_6 : decode cX2_sense 6 = .ok (.iload_n 3, 1) := by decide +kernel
theorem dX2_sense_7 : decode cX2_sense 7 = .ok (.aload_n 0, 1) := by decide +kernel
theorem dX2_sense_8 : decode cX2_sense 8 = .ok (.getfield 15, 3) := by decide +kernel
theorem dX2_sense_11 : decode cX2_sense 11 = .ok (.if_icmp .ge 27, 3) := by decide +kernel
theorem dX2_sense_14 : decode cX2_sense 14 = .ok (.iload_n 3, 1) := by decide +kernel
theorem dX2_sense_15 : decode cX2_sense 15 = .ok (.bipush 6, 2) := by decide +kernel
theorem dX2_sense_17 : decode cX2_sense 17 = .ok (.if_icmp .ge 21, 3) := by decide +kernel
theorem dX2_sense_20 : decode cX2_sense 20 = .ok (.aload_n 1, 1) := by decide +kernel
theorem dX2_sense_21 : decode cX2_sense 21 = .ok (.iload_n 2, 1) := by decide +kernel
theorem dX2_sense_22 : decode cX2_sense 22 = .ok (.aload_n 0, 1) := by decide +kernel
theorem dX2_sense_23 : decode cX2_sense 23 = .ok (.getfield 9, 3) := by decide +kernel
theorem dX2_sense_26 : decode cX2_sense 26 = .ok (.iload_n 3, 1) := by decide +kernel
theorem dX2_sense_27 : decode cX2_sense 27 = .ok (.iaload, 1) := by decide +kernel
theorem dX2_sense_28 : decode cX2_sense 28 = .ok (.invokevirtual 21, 3) := by decide +kernel
theorem dX2_sense_31 : decode cX2_sense 31 = .ok (.istore_n 2, 1) := by decide +kernel
theorem dX2_sense_32 : decode cX2_sense 32 = .ok (.iinc 3 1, 3) := by decide +kernel
theorem dX2_sense_35 : decode cX2_sense 35 = .ok (.goto (-29), 3) := by decide +kernel
theorem dX2_sense_38 : decode cX2_sense 38 = .ok (.iload_n 2, 1) := by decide +kernel
theorem dX2_sense_39 : decode cX2_sense 39 = .ok (.ireturn, 1) := by decide +kernel
theorem dX3_init_0 : decode cX3_init 0 = .ok (.aload_n 0, 1) := by decide +kernel
theorem dX3_init_1 : decode cX3_init 1 = .ok (.invokespecial 3, 3) := by decide +kernel
theorem dX3_init_4 : decode cX3_init 4 = .ok (.aload_n 0, 1) := by decide +kernel
theorem dX3_init_5 : decode cX3_init 5 = .ok (.sipush 585, 3) := by decide +kernel
theorem dX3_init_8 : decode cX3_init 8 = .ok (.newarray .int, 2) := by decide +kernel
theorem dX3_init_10 : decode cX3_init 10 = .ok (.putfield 11, 3) := by decide +kernel
theorem dX3_init_13 : decode cX3_init 13 = .ok (.aload_n 0, 1) := by decide +kernel
theorem dX3_init_14 : decode cX3_init 14 = .ok (.sipush 585, 3) := by decide +kernel
theorem dX3_init_17 : decode cX3_init 17 = .ok (.newarray .int, 2) := by decide +kernel
theorem dX3_init_19 : decode cX3_init 19 = .ok (.putfield 15, 3) := by decide +kernel
theorem dX3_init_22 : decode cX3_init 22 = .ok (.aload_n 0, 1) := by decide +kernel
theorem dX3_init_23 : decode cX3_init 23 = .ok (.sipush 585, 3) := by decide +kernel
theorem dX3_init_26 : decode cX3_init 26 = .ok (.newarray .int, 2) := by decide +kernel
theorem dX3_init_28 : decode cX3_init 28 = .ok (.putfield 18, 3) := by decide +kernel
theorem dX3_init_31 : decode cX3_init 31 = .ok (.aload_n 0, 1) := by decide +kernel
theorem dX3_init_32 : decode cX3_init 32 = .ok (.sipush 585, 3) := by decide +kernel
theorem dX3_init_35 : decode cX3_init 35 = .ok (.newarray .int, 2) := by decide +kernel
theorem dX3_init_37 : decode cX3_init 37 = .ok (.putfield 21, 3) := by decide +kernel
theorem dX3_init_40 : decode cX3_init 40 = .ok (.aload_n 0, 1) := by decide +kernel
theorem dX3_init_41 : decode cX3_init 41 = .ok (.sipush 585, 3) := by decide +kernel
theorem dX3_init_44 : decode cX3_init 44 = .ok (.newarray .int, 2) := by decide +kernel
theorem dX3_init_46 : decode cX3_init 46 = .ok (.putfield 24, 3) := by decide +kernel
theorem dX3_init_49 : decode cX3_init 49 = .ok (.aload_n 0, 1) := by decide +kernel
theorem dX3_init_50 : decode cX3_init 50 = .ok (.sipush 2560, 3) := by decide +kernel
theorem dX3_init_53 : decode cX3_init 53 = .ok (.newarray .int, 2) := by decide +kernel
theorem dX3_init_55 : decode cX3_init 55 = .ok (.putfield 27, 3) := by decide +kernel
theorem dX3_init_58 : decode cX3_init 58 = .ok (.aload_n 0, 1) := by decide +kernel
theorem dX3_init_59 : decode cX3_init 59 = .ok (.sipush 585, 3) := by decide +kernel
theorem dX3_init_62 : decode cX3_init 62 = .ok (.newarray .int, 2) := by decide +kernel
theorem dX3_init_64 : decode cX3_init 64 = .ok (.putfield 30, 3) := by decide +kernel
theorem dX3_init_67 : decode cX3_init 67 = .ok (.aload_n 0, 1) := by decide +kernel
theorem dX3_init_68 : decode cX3_init 68 = .ok (.sipush 256, 3) := by decide +kernel
theorem dX3_init_71 : decode cX3_init 71 = .ok (.newarray .int, 2) := by decide +kernel
theorem dX3_init_73 : decode cX3_init 73 = .ok (.putfield 33, 3) := by decide +kernel
theorem dX3_init_76 : decode cX3_init 76 = .ok (.aload_n 0, 1) := by decide +kernel
theorem dX3_init_77 : decode cX3_init 77 = .ok (.bipush 25, 2) := by decide +kernel
theorem dX3_init_79 : decode cX3_init 79 = .ok (.newarray .int, 2) := by decide +kernel
theorem dX3_init_81 : decode cX3_init 81 = .ok (.putfield 36, 3) := by decide +kernel
theorem dX3_init_84 : decode cX3_init 84 = .ok (.aload_n 0, 1) := by decide +kernel
theorem dX3_init_85 : decode cX3_init 85 = .ok (.bipush 25, 2) := by decide +kernel
theorem dX3_init_87 : decode cX3_init 87 = .ok (.newarray .int, 2) := by decide +kernel
theorem dX3_init_89 : decode cX3_init 89 = .ok (.putfield 39, 3) := by decide +kernel
theorem dX3_init_92 : decode cX3_init 92 = .ok (.aload_n 0, 1) := by decide +kernel
theorem dX3_init_93 : decode cX3_init 93 = .ok (.aload_n 1, 1) := by decide +kernel
theorem dX3_init_94 : decode cX3_init 94 = .ok (.putfield 42, 3) := by decide +kernel
theorem dX3_init_97 : decode cX3_init 97 = .ok (.aload_n 0, 1) := by decide +kernel
theorem dX3_init_98 : decode cX3_init 98 = .ok (.iload_n 2, 1) := by decide +kernel
theorem dX3_init_99 : decode cX3_init 99 = .ok (.putfield 46, 3) := by decide +kernel
theorem dX3_init_102 : decode cX3_init 102 = .ok (.return_, 1) := by decide +kernel
theorem dX3_answerTo_0 : decode cX3_answerTo 0 = .ok (.aload_n 0, 1) := by decide +kernel
theorem dX3_answerTo_1 : decode cX3_answerTo 1 = .ok (.invokevirtual 50, 3) := by decide +kernel
theorem dX3_answerTo_4 : decode cX3_answerTo 4 = .ok (.aload_n 0, 1) := by decide +kernel
theorem dX3_answerTo_5 : decode cX3_answerTo 5 = .ok (.iload_n 1, 1) := by decide +kernel
theorem dX3_answerTo_6 : decode cX3_answerTo 6 = .ok (.aload_n 0, 1) := by decide +kernel
theorem dX3_answerTo_7 : decode cX3_answerTo 7 = .ok (.getfield 42, 3) := by decide +kernel
theorem dX3_answerTo_10 : decode cX3_answerTo 10 = .ok (.getfield 53, 3) := by decide +kernel
theorem dX3_answerTo_13 : decode cX3_answerTo 13 = .ok (.invokevirtual 58, 3) := by decide +kernel
theorem dX3_answerTo_16 : decode cX3_answerTo 16 = .ok (.aload_n 0, 1) := by decide +kernel
theorem dX3_answerTo_17 : decode cX3_answerTo 17 = .ok (.iload_n 2, 1) := by decide +kernel
theorem dX3_answerTo_18 : decode cX3_answerTo 18 = .ok (.iload_n 3, 1) := by decide +kernel
theorem dX3_answerTo_19 : decode cX3_answerTo 19 = .ok (.invokevirtual 62, 3) := by decide +kernel
theorem dX3_answerTo_22 : decode cX3_answerTo 22 = .ok (.istore 4, 2) := by decide +kernel
theorem dX3_answerTo_24 : decode cX3_answerTo 24 = .ok (.iload 4, 2) := by decide +kernel
theorem dX3_answerTo_26 : decode cX3_answerTo 26 = .ok (.ifCond .ge 7, 3) := by decide +kernel
theorem dX3_answerTo_29 : decode cX3_answerTo 29 = .ok (.iconst (-1), 1) := by decide +kernel
theorem dX3_answerTo_30 : decode cX3_answerTo 30 = .ok (.goto 10, 3) := by decide +kernel
theorem dX3_answerTo_33 : decode cX3_answerTo 33 = .ok (.aload_n 0, 1) := by decide +kernel
theorem dX3_answerTo_34 : decode cX3_answerTo 34 = .ok (.getfield 18, 3) := by decide +kernel
theorem dX3_answerTo_37 : decode cX3_answerTo 37 = .ok (.iload 4, 2) := by decide +kernel
theorem dX3_answerTo_39 : decode cX3_answerTo 39 = .ok (.iaload, 1) := by decide +kernel
theorem dX3_answerTo_40 : decode cX3_answerTo 40 = .ok (.ireturn, 1) := by decide +kernel
theorem dX3_howManyAnswer_0 : decode cX3_howManyAnswer 0 = .ok (.aload_n 0, 1) := by decide +kernel
theorem dX3_howManyAnswer_1 : decode cX3_howManyAnswer 1 = .ok (.invokevirtual 50, 3) := by decide +kernel
theorem dX3_howManyAnswer_4 : decode cX3_howManyAnswer 4 = .ok (.aload_n 0, 1) := by decide +kernel
theorem dX3_howManyAnswer_5 : decode cX3_howManyAnswer 5 = .ok (.iload_n 1, 1) := by decide +kernel
theorem dX3_howManyAnswer_6 : decode cX3_howManyAnswer 6 = .ok (.aload_n 0, 1) := by decide +kernel
theorem dX3_howManyAnswer_7 : decode cX3_howManyAnswer 7 = .ok (.getfield 42, 3) := by decide +kernel
theorem dX3_howManyAnswer_10 : decode cX3_howManyAnswer 10 = .ok (.getfield 53, 3) := by decide +kernel
theorem dX3_howManyAnswer_13 : decode cX3_howManyAnswer 13 = .ok (.invokevirtual 58, 3) := by decide +kernel
theorem dX3_howManyAnswer_16 : decode cX3_howManyAnswer 16 = .ok (.iconst 0, 1) := by decide +kernel
theorem dX3_howManyAnswer_17 : decode cX3_howManyAnswer 17 = .ok (.istore_n 3, 1) := by decide +kernel
theorem dX3_howManyAnswer_18 : decode cX3_howManyAnswer 18 = .ok (.iconst 0, 1) := by decide +kernel
theorem dX3_howManyAnswer_19 : decode cX3_howManyAnswer 19 = .ok (.istore 4, 2) := by decide +kernel
theorem dX3_howManyAnswer_21 : decode cX3_howManyAnswer 21 = .ok (.iload 4, 2) := by decide +kernel
theorem dX3_howManyAnswer_23 : decode cX3_howManyAnswer 23 = .ok (.aload_n 0, 1) := by decide +kernel
theorem dX3_howManyAnswer_24 : decode cX3_howManyAnswer 24 = .ok (.getfield 66, 3) := by decide +kernel
theorem dX3_howManyAnswer_27 : decode cX3_howManyAnswer 27 = .ok (.if_icmp .ge 39, 3) := by decide +kernel
theorem dX3_howManyAnswer_30 : decode cX3_howManyAnswer 30 = .ok (.aload_n 0, 1) := by decide +kernel
theorem dX3_howManyAnswer_31 : decode cX3_howManyAnswer 31 = .ok (.aload_n 0, 1) := by decide +kernel
theorem dX3_howManyAnswer_32 : decode cX3_howManyAnswer 32 = .ok (.getfield 30, 3) := by decide +kernel
theorem dX3_howManyAnswer_35 : decode cX3_howManyAnswer 35 = .ok (.iload 4, 2) := by decide +kernel
theorem dX3_howManyAnswer_37 : decode cX3_howManyAnswer 37 = .ok (.iaload, 1) := by decide +kernel
theorem dX3_howManyAnswer_38 : decode cX3_howManyAnswer 38 = .ok (.iload_n 2, 1) := by decide +kernel
theorem dX3_howManyAnswer_39 : decode cX3_howManyAnswer 39 = .ok (.invokevirtual 69, 3) := by decide +kernel
theorem dX3_howManyAnswer_42 : decode cX3_howManyAnswer 42 = .ok (.ifCond .eq 18, 3) := by decide +kernel
theorem dX3_howManyAnswer_45 : decode cX3_howManyAnswer 45 = .ok (.iload_n 3, 1) := by decide +kernel
theorem dX3_howManyAnswer_46 : decode cX3_howManyAnswer 46 = .ok (.aload_n 0, 1) := by decide +kernel
theorem dX3_howManyAnswer_47 : decode cX3_howManyAnswer 47 = .ok (.getfield 21, 3) := by decide +kernel
theorem dX3_howManyAnswer_50 : decode cX3_howManyAnswer 50 = .ok (.aload_n 0, 1) := by decide +kernel
theorem dX3_howManyAnswer_51 : decode cX3_howManyAnswer 51 = .ok (.getfield 30, 3) := by decide +kernel
theorem dX3_howManyAnswer_54 : decode cX3_howManyAnswer 54 = .ok (.iload 4, 2) := by decide +kernel
theorem dX3_howManyAnswer_56 : decode cX3_howManyAnswer 56 = .ok (.iaload, 1) := by decide +kernel
theorem dX3_howManyAnswer_57 : decode cX3_howManyAnswer 57 = .ok (.iaload, 1) := by decide +kernel
theorem dX3_howManyAnswer_58 : decode cX3_howManyAnswer 58 = .ok (.iadd, 1) := by decide +kernel
theorem dX3_howManyAnswer_59 : decode cX3_howManyAnswer 59 = .ok (.istore_n 3, 1) := by decide +kernel
theorem dX3_howManyAnswer_60 : decode cX3_howManyAnswer 60 = .ok (.iinc 4 1, 3) := by decide +kernel
theorem dX3_howManyAnswer_63 : decode cX3_howManyAnswer 63 = .ok (.goto (-42), 3) := by decide +kernel
theorem dX3_howManyAnswer_66 : decode cX3_howManyAnswer 66 = .ok (.iload_n 3, 1) := by decide +kernel
theorem dX3_howManyAnswer_67 : decode cX3_howManyAnswer 67 = .ok (.ireturn, 1) := by decide +kernel
theorem dX3_casesLeftBy_0 : decode cX3_casesLeftBy 0 = .ok (.aload_n 0, 1) := by decide +kernel
theorem dX3_casesLeftBy_1 : decode cX3_casesLeftBy 1 = .ok (.invokevirtual 50, 3) := by decide +kernel
theorem dX3_casesLeftBy_4 : decode cX3_casesLeftBy 4 = .ok (.aload_n 0, 1) := by decide +kernel
theorem dX3_casesLeftBy_5 : decode cX3_casesLeftBy 5 = .ok (.iload_n 1, 1) := by decide +kernel
theorem dX3_casesLeftBy_6 : decode cX3_casesLeftBy 6 = .ok (.aload_n 0, 1) := by decide +kernel
theorem dX3_casesLeftBy_7 : decode cX3_casesLeftBy 7 = .ok (.getfield 42, 3) := by decide +kernel
theorem dX3_casesLeftBy_10 : decode cX3_casesLeftBy 10 = .ok (.getfield 53, 3) := by decide +kernel
theorem dX3_casesLeftBy_13 : decode cX3_casesLeftBy 13 = .ok (.invokevirtual 58, 3) := by decide +kernel
theorem dX3_casesLeftBy_16 : decode cX3_casesLeftBy 16 = .ok (.aload_n 0, 1) := by decide +kernel
theorem dX3_casesLeftBy_17 : decode cX3_casesLeftBy 17 = .ok (.iload_n 2, 1) := by decide +kernel
theorem dX3_casesLeftBy_18 : decode cX3_casesLeftBy 18 = .ok (.iload_n 3, 1) := by decide +kernel
theorem dX3_casesLeftBy_19 : decode cX3_casesLeftBy 19 = .ok (.invokevirtual 62, 3) := by decide +kernel
theorem dX3_casesLeftBy_22 : decode cX3_casesLeftBy 22 = .ok (.istore 4, 2) := by decide +kernel
theorem dX3_casesLeftBy_24 : decode cX3_casesLeftBy 24 = .ok (.iload 4, 2) := by decide +kernel
theorem dX3_casesLeftBy_26 : decode cX3_casesLeftBy 26 = .ok (.ifCond .ge 9, 3) := by decide +kernel
theorem dX3_casesLeftBy_29 : decode cX3_casesLeftBy 29 = .ok (.sipush 255, 3) := by decide +kernel
theorem dX3_casesLeftBy_32 : decode cX3_casesLeftBy 32 = .ok (.goto 13, 3) := by decide +kernel
theorem dX3_casesLeftBy_35 : decode cX3_casesLeftBy 35 = .ok (.aload_n 0, 1) := by decide +kernel
theorem dX3_casesLeftBy_36 : decode cX3_casesLeftBy 36 = .ok (.getfield 15, 3) := by decide +kernel
theorem dX3_casesLeftBy_39 : decode cX3_casesLeftBy 39 = .ok (.iload 4, 2) := by decide +kernel
theorem dX3_casesLeftBy_41 : decode cX3_casesLeftBy 41 = .ok (.iaload, 1) := by decide +kernel
theorem dX3_casesLeftBy_42 : decode cX3_casesLeftBy 42 = .ok (.invokestatic 73, 3) := by decide +kernel
theorem dX3_casesLeftBy_45 : decode cX3_casesLeftBy 45 = .ok (.ireturn, 1) := by decide +kernel
theorem dX3_casesAnsweredBy_0 : decode cX3_casesAnsweredBy 0 = .ok (.aload_n 0, 1) := by decide +kernel
theorem dX3_casesAnsweredBy_1 : decode cX3_casesAnsweredBy 1 = .ok (.invokevirtual 50, 3) := by decide +kernel
theorem dX3_casesAnsweredBy_4 : decode cX3_casesAnsweredBy 4 = .ok (.aload_n 0, 1) := by decide +kernel
theorem dX3_casesAnsweredBy_5 : decode cX3_casesAnsweredBy 5 = .ok (.iload_n 2, 1) := by decide +kernel
theorem dX3_casesAnsweredBy_6 : decode cX3_casesAnsweredBy 6 = .ok (.aload_n 0, 1) := by decide +kernel
theorem dX3_casesAnsweredBy_7 : decode cX3_casesAnsweredBy 7 = .ok (.getfield 42, 3) := by decide +kernel
theorem dX3_casesAnsweredBy_10 : decode cX3_casesAnsweredBy 10 = .ok (.getfield 53, 3) := by decide +kernel
theorem dX3_casesAnsweredBy_13 : decode cX3_casesAnsweredBy 13 = .ok (.invokevirtual 58, 3) := by decide +kernel
theorem dX3_casesAnsweredBy_16 : decode cX3_casesAnsweredBy 16 = .ok (.iconst 0, 1) := by decide +kernel
theorem dX3_casesAnsweredBy_17 : decode cX3_casesAnsweredBy 17 = .ok (.istore 4, 2) := by decide +kernel
theorem dX3_casesAnsweredBy_19 : decode cX3_casesAnsweredBy 19 = .ok (.iconst 0, 1) := by decide +kernel
theorem dX3_casesAnsweredBy_20 : decode cX3_casesAnsweredBy 20 = .ok (.istore 5, 2) := by decide +kernel
theorem dX3_casesAnsweredBy_22 : decode cX3_casesAnsweredBy 22 = .ok (.iload 5, 2) := by decide +kernel
theorem dX3_casesAnsweredBy_24 : decode cX3_casesAnsweredBy 24 = .ok (.bipush 8, 2) := by decide +kernel
theorem dX3_casesAnsweredBy_26 : decode cX3_casesAnsweredBy 26 = .ok (.if_icmp .ge 43, 3) := by decide +kernel
theorem dX3_casesAnsweredBy_29 : decode cX3_casesAnsweredBy 29 = .ok (.aload_n 0, 1) := by decide +kernel
theorem dX3_casesAnsweredBy_30 : decode cX3_casesAnsweredBy 30 = .ok (.iload_n 3, 1) := by decide +kernel
theorem dX3_casesAnsweredBy_31 : decode cX3_casesAnsweredBy 31 = .ok (.iload 5, 2) := by decide +kernel
theorem dX3_casesAnsweredBy_33 : decode cX3_casesAnsweredBy 33 = .ok (.invokevirtual 62, 3) := by decide +kernel
theorem dX3_casesAnsweredBy_36 : decode cX3_casesAnsweredBy 36 = .ok (.istore 6, 2) := by decide +kernel
theorem dX3_casesAnsweredBy_38 : decode cX3_casesAnsweredBy 38 = .ok (.iload 6, 2) := by decide +kernel
theorem dX3_casesAnsweredBy_40 : decode cX3_casesAnsweredBy 40 = .ok (.ifCond .lt 23, 3) := by decide +kernel
theorem dX3_casesAnsweredBy_43 : decode cX3_casesAnsweredBy 43 = .ok (.aload_n 0, 1) := by decide +kernel
theorem dX3_casesAnsweredBy_44 : decode cX3_casesAnsweredBy 44 = .ok (.getfield 18, 3) := by decide +kernel
theorem dX3_casesAnsweredBy_47 : decode cX3_casesAnsweredBy 47 = .ok (.iload 6, 2) := by decide +kernel
theorem dX3_casesAnsweredBy_49 : decode cX3_casesAnsweredBy 49 = .ok (.iaload, 1) := by decide +kernel
theorem dX3_casesAnsweredBy_50 : decode cX3_casesAnsweredBy 50 = .ok (.iload_n 1, 1) := by decide +kernel
theorem dX3_casesAnsweredBy_51 : decode cX3_casesAnsweredBy 51 = .ok (.if_icmp .ne 12, 3) := by decide +kernel
theorem dX3_casesAnsweredBy_54 : decode cX3_casesAnsweredBy 54 = .ok (.iload 4, 2) := by decide +kernel
theorem dX3_casesAnsweredBy_56 : decode cX3_casesAnsweredBy 56 = .ok (.iconst 1, 1) := by decide +kernel
theorem dX3_casesAnsweredBy_57 : decode cX3_casesAnsweredBy 57 = .ok (.iload 5, 2) := by decide +kernel
theorem dX3_casesAnsweredBy_59 : decode cX3_casesAnsweredBy 59 = .ok (.ishl, 1) := by decide +kernel
theorem dX3_casesAnsweredBy_60 : decode cX3_casesAnsweredBy 60 = .ok (.ior, 1) := by decide +kernel
theorem dX3_casesAnsweredBy_61 : decode cX3_casesAnsweredBy 61 = .ok (.istore 4, 2) := by decide +kernel
theorem dX3_casesAnsweredBy_63 : decode cX3_casesAnsweredBy 63 = .ok (.iinc 5 1, 3) := by decide +kernel
theorem dX3_casesAnsweredBy_66 : decode cX3_casesAnsweredBy 66 = .ok (.goto (-44), 3) := by decide +kernel
theorem dX3_casesAnsweredBy_69 : decode cX3_casesAnsweredBy 69 = .ok (.iload 4, 2) := by decide +kernel
theorem dX3_casesAnsweredBy_71 : decode cX3_casesAnsweredBy 71 = .ok (.ireturn, 1) := by decide +kernel
theorem dX3_leftBy_0 : decode cX3_leftBy 0 = .ok (.aload_n 0, 1) := by decide +kernel
theorem dX3_leftBy_1 : decode cX3_leftBy 1 = .ok (.invokevirtual 50, 3) := by decide +kernel
theorem dX3_leftBy_4 : decode cX3_leftBy 4 = .ok (.aload_n 0, 1) := by decide +kernel
theorem dX3_leftBy_5 : decode cX3_leftBy 5 = .ok (.iload_n 1, 1) := by decide +kernel
theorem dX3_leftBy_6 : decode cX3_leftBy 6 = .ok (.iload_n 2, 1) := by decide +kernel
theorem dX3_leftBy_7 : decode cX3_leftBy 7 = .ok (.aload_n 0, 1) := by decide +kernel
theorem dX3_leftBy_8 : decode cX3_leftBy 8 = .ok (.getfield 42, 3) := by decide +kernel
theorem dX3_leftBy_11 : decode cX3_leftBy 11 = .ok (.getfield 53, 3) := by decide +kernel
theorem dX3_leftBy_14 : decode cX3_leftBy 14 = .ok (.invokevirtual 79, 3) := by decide +kernel
theorem dX3_leftBy_17 : decode cX3_leftBy 17 = .ok (.ireturn, 1) := by decide +kernel
theorem dX3_leftUnder_0 : decode cX3_leftUnder 0 = .ok (.aload_n 0, 1) := by decide +kernel
theorem dX3_leftUnder_1 : decode cX3_leftUnder 1 = .ok (.iload_n 1, 1) := by decide +kernel
theorem dX3_leftUnder_2 : decode cX3_leftUnder 2 = .ok (.iload_n 3, 1) := by decide +kernel
theorem dX3_leftUnder_3 : decode cX3_leftUnder 3 = .ok (.invokevirtual 58, 3) := by decide +kernel
theorem dX3_leftUnder_6 : decode cX3_leftUnder 6 = .ok (.aload_n 0, 1) := by decide +kernel
theorem dX3_leftUnder_7 : decode cX3_leftUnder 7 = .ok (.getfield 42, 3) := by decide +kernel
theorem dX3_leftUnder_10 : decode cX3_leftUnder 10 = .ok (.sipush 255, 3) := by decide +kernel
theorem dX3_leftUnder_13 : decode cX3_leftUnder 13 = .ok (.invokevirtual 83, 3) := by decide +kernel
theorem dX3_leftUnder_16 : decode cX3_leftUnder 16 = .ok (.istore 4, 2) := by decide +kernel
theorem dX3_leftUnder_18 : decode cX3_leftUnder 18 = .ok (.iconst 0, 1) := by decide +kernel
theorem dX3_leftUnder_19 : decode cX3_leftUnder 19 = .ok (.istore 5, 2) := by decide +kernel
theorem dX3_leftUnder_21 : decode cX3_leftUnder 21 = .ok (.iconst 0, 1) := by decide +kernel
theorem dX3_leftUnder_22 : decode cX3_leftUnder 22 = .ok (.istore 6, 2) := by decide +kernel
theorem dX3_leftUnder_24 : decode cX3_leftUnder 24 = .ok (.iload 6, 2) := by decide +kernel
theorem dX3_leftUnder_26 : decode cX3_leftUnder 26 = .ok (.bipush 8, 2) := by decide +kernel
theorem dX3_leftUnder_28 : decode cX3_leftUnder 28 = .ok (.if_icmp .ge 64, 3) := by decide +kernel
theorem dX3_leftUnder_31 : decode cX3_leftUnder 31 = .ok (.aload_n 0, 1) := by decide +kernel
theorem dX3_leftUnder_32 : decode cX3_leftUnder 32 = .ok (.getfield 42, 3) := by decide +kernel
theorem dX3_leftUnder_35 : decode cX3_leftUnder 35 = .ok (.getfield 86, 3) := by decide +kernel
theorem dX3_leftUnder_38 : decode cX3_leftUnder 38 = .ok (.iload 6, 2) := by decide +kernel
theorem dX3_leftUnder_40 : decode cX3_leftUnder 40 = .ok (.iaload, 1) := by decide +kernel
theorem dX3_leftUnder_41 : decode cX3_leftUnder 41 = .ok (.ifCond .le 45, 3) := by decide +kernel
theorem dX3_leftUnder_44 : decode cX3_leftUnder 44 = .ok (.aload_n 0, 1) := by decide +kernel
theorem dX3_leftUnder_45 : decode cX3_leftUnder 45 = .ok (.iload_n 2, 1) := by decide +kernel
theorem dX3_leftUnder_46 : decode cX3_leftUnder 46 = .ok (.iload 6, 2) := by decide +kernel
theorem dX3_leftUnder_48 : decode cX3_leftUnder 48 = .ok (.invokevirtual 62, 3) := by decide +kernel
theorem dX3_leftUnder_51 : decode cX3_leftUnder 51 = .ok (.istore 7, 2) := by decide +kernel
theorem dX3_leftUnder_53 : decode cX3_leftUnder 53 = .ok (.iload 5, 2) := by decide +kernel
theorem dX3_leftUnder_55 : decode cX3_leftUnder 55 = .ok (.aload_n 0, 1) := by decide +kernel
theorem dX3_leftUnder_56 : decode cX3_leftUnder 56 = .ok (.getfield 42, 3) := by decide +kernel
theorem dX3_leftUnder_59 : decode cX3_leftUnder 59 = .ok (.getfield 86, 3) := by decide +kernel
theorem dX3_leftUnder_62 : decode cX3_leftUnder 62 = .ok (.iload 6, 2) := by decide +kernel
theorem dX3_leftUnder_64 : decode cX3_leftUnder 64 = .ok (.iaload, 1) := by decide +kernel
theorem dX3_leftUnder_65 : decode cX3_leftUnder 65 = .ok (.iload 7, 2) := by decide +kernel
theorem dX3_leftUnder_67 : decode cX3_leftUnder 67 = .ok (.ifCond .ge 8, 3) := by decide +kernel
theorem dX3_leftUnder_70 : decode cX3_leftUnder 70 = .ok (.iload 4, 2) := by decide +kernel
theorem dX3_leftUnder_72 : decode cX3_leftUnder 72 = .ok (.goto 10, 3) := by decide +kernel
theorem dX3_leftUnder_75 : decode cX3_leftUnder 75 = .ok (.aload_n 0, 1) := by decide +kernel
theorem dX3_leftUnder_76 : decode cX3_leftUnder 76 = .ok (.getfield 24, 3) := by decide +kernel
theorem dX3_leftUnder_79 : decode cX3_leftUnder 79 = .ok (.iload 7, 2) := by decide +kernel
theorem dX3_leftUnder_81 : decode cX3_leftUnder 81 = .ok (.iaload, 1) := by decide +kernel
theorem dX3_leftUnder_82 : decode cX3_leftUnder 82 = .ok (.imul, 1) := by decide +kernel
theorem dX3_leftUnder_83 : decode cX3_leftUnder 83 = .ok (.iadd, 1) := by decide +kernel
theorem dX3_leftUnder_84 : decode cX3_leftUnder 84 = .ok (.istore 5, 2) := by decide +kernel
theorem dX3_leftUnder_86 : decode cX3_leftUnder 86 = .ok (.iinc 6 1, 3) := by decide +kernel
theorem dX3_leftUnder_89 : decode cX3_leftUnder 89 = .ok (.goto (-65), 3) := by decide +kernel
theorem dX3_leftUnder_92 : decode cX3_leftUnder 92 = .ok (.iload 5, 2) := by decide +kernel
theorem dX3_leftUnder_94 : decode cX3_leftUnder 94 = .ok (.ireturn, 1) := by decide +kernel
theorem dX3_leftOfBest_0 : decode cX3_leftOfBest 0 = .ok (.aload_n 0, 1) := by decide +kernel
theorem dX3_leftOfBest_1 : decode cX3_leftOfBest 1 = .ok (.iload_n 1, 1) := by decide +kernel
theorem dX3_leftOfBest_2 : decode cX3_leftOfBest 2 = .ok (.iload_n 2, 1) := by decide +kernel
theorem dX3_leftOfBest_3 : decode cX3_leftOfBest 3 = .ok (.invokevirtual 89, 3) := by decide +kernel
theorem dX3_leftOfBest_6 : decode cX3_leftOfBest 6 = .ok (.istore_n 3, 1) := by decide +kernel
theorem dX3_leftOfBest_7 : decode cX3_leftOfBest 7 = .ok (.iload_n 3, 1) := by decide +kernel
theorem dX3_leftOfBest_8 : decode cX3_leftOfBest 8 = .ok (.ifCond .ge 8, 3) := by decide +kernel
theorem dX3_leftOfBest_11 : decode cX3_leftOfBest 11 = .ok (.bipush (-9), 2) := by decide +kernel
theorem dX3_leftOfBest_13 : decode cX3_leftOfBest 13 = .ok (.goto 9, 3) := by decide +kernel
theorem dX3_leftOfBest_16 : decode cX3_leftOfBest 16 = .ok (.aload_n 0, 1) := by decide +kernel
theorem dX3_leftOfBest_17 : decode cX3_leftOfBest 17 = .ok (.getfield 39, 3) := by decide +kernel
theorem dX3_leftOfBest_20 : decode cX3_leftOfBest 20 = .ok (.iload_n 3, 1) := by decide +kernel
theorem dX3_leftOfBest_21 : decode cX3_leftOfBest 21 = .ok (.iaload, 1) := by decide +kernel
theorem dX3_leftOfBest_22 : decode cX3_leftOfBest 22 = .ok (.ireturn, 1) := by decide +kernel
theorem dX3_bestQuestion_0 : decode cX3_bestQuestion 0 = .ok (.aload_n 0, 1) := by decide +kernel
theorem dX3_bestQuestion_1 : decode cX3_bestQuestion 1 = .ok (.iload_n 1, 1) := by decide +kernel
theorem dX3_bestQuestion_2 : decode cX3_bestQuestion 2 = .ok (.iload_n 2, 1) := by decide +kernel
theorem dX3_bestQuestion_3 : decode cX3_bestQuestion 3 = .ok (.invokevirtual 89, 3) := by decide +kernel
theorem dX3_bestQuestion_6 : decode cX3_bestQuestion 6 = .ok (.istore_n 3, 1) := by decide +kernel
theorem dX3_bestQuestion_7 : decode cX3_bestQuestion 7 = .ok (.iload_n 3, 1) := by decide +kernel
theorem dX3_bestQuestion_8 : decode cX3_bestQuestion 8 = .ok (.ifCond .ge 7, 3) := by decide +kernel
theorem dX3_bestQuestion_11 : decode cX3_bestQuestion 11 = .ok (.iconst 0, 1) := by decide +kernel
theorem dX3_bestQuestion_12 : decode cX3_bestQuestion 12 = .ok (.goto 14, 3) := by decide +kernel
theorem dX3_bestQuestion_15 : decode cX3_bestQuestion 15 = .ok (.aload_n 0, 1) := by decide +kernel
theorem dX3_bestQuestion_16 : decode cX3_bestQuestion 16 = .ok (.getfield 18, 3) := by decide +kernel
theorem dX3_bestQuestion_19 : decode cX3_bestQuestion 19 = .ok (.aload_n 0, 1) := by decide +kernel
theorem dX3_bestQuestion_20 : decode cX3_bestQuestion 20 = .ok (.getfield 36, 3) := by decide +kernel
theorem dX3_bestQuestion_23 : decode cX3_bestQuestion 23 = .ok (.iload_n 3, 1) := by decide +kernel
theorem dX3_bestQuestion_24 : decode cX3_bestQuestion 24 = .ok (.iaload, 1) := by decide +kernel
theorem dX3_bestQuestion_25 : decode cX3_bestQuestion 25 = .ok (.iaload, 1) := by decide +kernel
theorem dX3_bestQuestion_26 : decode cX3_bestQuestion 26 = .ok (.ireturn, 1) := by decide +kernel
theorem dX3_firstThatForces_0 : decode cX3_firstThatForces 0 = .ok (.aload_n 0, 1) := by decide +kernel
theorem dX3_firstThatForces_1 : decode cX3_firstThatForces 1 = .ok (.invokevirtual 50, 3) := by decide +kernel
theorem dX3_firstThatForces_4 : decode cX3_firstThatForces 4 = .ok (.iconst 1, 1) := by decide +kernel
theorem dX3_firstThatForces_5 : decode cX3_firstThatForces 5 = .ok (.istore_n 2, 1) := by decide +kernel
theorem dX3_firstThatForces_6 : decode cX3_firstThatForces 6 = .ok (.iload_n 2, 1) := by decide +kernel
theorem dX3_firstThatForces_7 : decode cX3_firstThatForces 7 = .ok (.aload_n 0, 1) := by decide +kernel
theorem dX3_firstThatForces_8 : decode cX3_firstThatForces 8 = .ok (.getfield 92, 3) := by decide +kernel
theorem dX3_firstThatForces_11 : decode cX3_firstThatForces 11 = .ok (.if_icmp .ge 41, 3) := by decide +kernel
theorem dX3_firstThatForces_14 : decode cX3_firstThatForces 14 = .ok (.aload_n 0, 1) := by decide +kernel
theorem dX3_firstThatForces_15 : decode cX3_firstThatForces 15 = .ok (.aload_n 0, 1) := by decide +kernel
theorem dX3_firstThatForces_16 : decode cX3_firstThatForces 16 = .ok (.getfield 15, 3) := by decide +kernel
theorem dX3_firstThatForces_19 : decode cX3_firstThatForces 19 = .ok (.iload_n 2, 1) := by decide +kernel
theorem dX3_firstThatForces_20 : decode cX3_firstThatForces 20 = .ok (.iaload, 1) := by decide +kernel
theorem dX3_firstThatForces_21 : decode cX3_firstThatForces 21 = .ok (.aload_n 0, 1) := by decide +kernel
theorem dX3_firstThatForces_22 : decode cX3_firstThatForces 22 = .ok (.getfield 42, 3) := by decide +kernel
theorem dX3_firstThatForces_25 : decode cX3_firstThatForces 25 = .ok (.getfield 53, 3) := by decide +kernel
theorem dX3_firstThatForces_28 : decode cX3_firstThatForces 28 = .ok (.invokevirtual 58, 3) := by decide +kernel
theorem dX3_firstThatForces_31 : decode cX3_firstThatForces 31 = .ok (.aload_n 0, 1) := by decide +kernel
theorem dX3_firstThatForces_32 : decode cX3_firstThatForces 32 = .ok (.iload_n 1, 1) := by decide +kernel
theorem dX3_firstThatForces_33 : decode cX3_firstThatForces 33 = .ok (.invokevirtual 95, 3) := by decide +kernel
theorem dX3_firstThatForces_36 : decode cX3_firstThatForces 36 = .ok (.ifCond .eq 10, 3) := by decide +kernel
theorem dX3_firstThatForces_39 : decode cX3_firstThatForces 39 = .ok (.aload_n 0, 1) := by decide +kernel
theorem dX3_firstThatForces_40 : decode cX3_firstThatForces 40 = .ok (.getfield 18, 3) := by decide +kernel
theorem dX3_firstThatForces_43 : decode cX3_firstThatForces 43 = .ok (.iload_n 2, 1) := by decide +kernel
theorem dX3_firstThatForces_44 : decode cX3_firstThatForces 44 = .ok (.iaload, 1) := by decide +kernel
theorem dX3_firstThatForces_45 : decode cX3_firstThatForces 45 = .ok (.ireturn, 1) := by decide +kernel
theorem dX3_firstThatForces_46 : decode cX3_firstThatForces 46 = .ok (.iinc 2 1, 3) := by decide +kernel
theorem dX3_firstThatForces_49 : decode cX3_firstThatForces 49 = .ok (.goto (-43), 3) := by decide +kernel
theorem dX3_firstThatForces_52 : decode cX3_firstThatForces 52 = .ok (.iconst (-1), 1) := by decide +kernel
theorem dX3_firstThatForces_53 : decode cX3_firstThatForces 53 = .ok (.ireturn, 1) := by decide +kernel
theorem dX3_firstThatMeans_0 : decode cX3_firstThatMeans 0 = .ok (.aload_n 0, 1) := by decide +kernel
theorem dX3_firstThatMeans_1 : decode cX3_firstThatMeans 1 = .ok (.invokevirtual 50, 3) := by decide +kernel
theorem dX3_firstThatMeans_4 : decode cX3_firstThatMeans 4 = .ok (.aload_n 0, 1) := by decide +kernel
theorem dX3_firstThatMeans_5 : decode cX3_firstThatMeans 5 = .ok (.getfield 99, 3) := by decide +kernel
theorem dX3_firstThatMeans_8 : decode cX3_firstThatMeans 8 = .ok (.ifCond .ne 7, 3) := by decide +kernel
theorem dX3_firstThatMeans_11 : decode cX3_firstThatMeans 11 = .ok (.aload_n 0, 1) := by decide +kernel
theorem dX3_firstThatMeans_12 : decode cX3_firstThatMeans 12 = .ok (.invokevirtual 103, 3) := by decide +kernel
theorem dX3_firstThatMeans_15 : decode cX3_firstThatMeans 15 = .ok (.iload_n 1, 1) := by decide +kernel
theorem dX3_firstThatMeans_16 : decode cX3_firstThatMeans 16 = .ok (.invokestatic 106, 3) := by decide +kernel
theorem dX3_firstThatMeans_19 : decode cX3_firstThatMeans 19 = .ok (.ifCond .eq 12, 3) := by decide +kernel
theorem dX3_firstThatMeans_22 : decode cX3_firstThatMeans 22 = .ok (.aload_n 0, 1) := by decide +kernel
theorem dX3_firstThatMeans_23 : decode cX3_firstThatMeans 23 = .ok (.getfield 33, 3) := by decide +kernel
theorem dX3_firstThatMeans_26 : decode cX3_firstThatMeans 26 = .ok (.iload_n 1, 1) := by decide +kernel
theorem dX3_firstThatMeans_27 : decode cX3_firstThatMeans 27 = .ok (.iaload, 1) := by decide +kernel
theorem dX3_firstThatMeans_28 : decode cX3_firstThatMeans 28 = .ok (.goto 4, 3) := by decide +kernel
theorem dX3_firstThatMeans_31 : decode cX3_firstThatMeans 31 = .ok (.iconst (-1), 1) := by decide +kernel
theorem dX3_firstThatMeans_32 : decode cX3_firstThatMeans 32 = .ok (.ireturn, 1) := by decide +kernel
theorem dX3_numberOf_0 : decode cX3_numberOf 0 = .ok (.aload_n 0, 1) := by decide +kernel
theorem dX3_numberOf_1 : decode cX3_numberOf 1 = .ok (.invokevirtual 50, 3) := by decide +kernel
theorem dX3_numberOf_4 : decode cX3_numberOf 4 = .ok (.aload_n 1, 1) := by decide +kernel
theorem dX3_numberOf_5 : decode cX3_numberOf 5 = .ok (.getfield 109, 3) := by decide +kernel
theorem dX3_numberOf_8 : decode cX3_numberOf 8 = .ok (.iconst 3, 1) := by decide +kernel
theorem dX3_numberOf_9 : decode cX3_numberOf 9 = .ok (.if_icmp .le 5, 3) := by decide +kernel
theorem dX3_numberOf_12 : decode cX3_numberOf 12 = .ok (.iconst (-1), 1) := by decide +kernel
theorem dX3_numberOf_13 : decode cX3_numberOf 13 = .ok (.ireturn, 1) := by decide +kernel
theorem dX3_numberOf_14 : decode cX3_numberOf 14 = .ok (.iconst 0, 1) := by decide +kernel
theorem dX3_numberOf_15 : decode cX3_numberOf 15 = .ok (.istore_n 2, 1) := by decide +kernel
theorem dX3_numberOf_16 : decode cX3_numberOf 16 = .ok (.iconst 0, 1) := by decide +kernel
theorem dX3_numberOf_17 : decode cX3_numberOf 17 = .ok (.istore_n 3, 1) := by decide +kernel
theorem dX3_numberOf_18 : decode cX3_numberOf 18 = .ok (.iload_n 3, 1) := by decide +kernel
theorem dX3_numberOf_19 : decode cX3_numberOf 19 = .ok (.aload_n 1, 1) := by decide +kernel
theorem dX3_numberOf_20 : decode cX3_numberOf 20 = .ok (.getfield 109, 3) := by decide +kernel
theorem dX3_numberOf_23 : decode cX3_numberOf 23 = .ok (.if_icmp .ge 25, 3) := by decide +kernel
theorem dX3_numberOf_26 : decode cX3_numberOf 26 = .ok (.iload_n 2, 1) := by decide +kernel
theorem dX3_numberOf_27 : decode cX3_numberOf 27 = .ok (.aload_n 0, 1) := by decide +kernel
theorem dX3_numberOf_28 : decode cX3_numberOf 28 = .ok (.getfield 114, 3) := by decide +kernel
theorem dX3_numberOf_31 : decode cX3_numberOf 31 = .ok (.imul, 1) := by decide +kernel
theorem dX3_numberOf_32 : decode cX3_numberOf 32 = .ok (.iconst 1, 1) := by decide +kernel
theorem dX3_numberOf_33 : decode cX3_numberOf 33 = .ok (.iadd, 1) := by decide +kernel
theorem dX3_numberOf_34 : decode cX3_numberOf 34 = .ok (.aload_n 1, 1) := by decide +kernel
theorem dX3_numberOf_35 : decode cX3_numberOf 35 = .ok (.getfield 117, 3) := by decide +kernel
theorem dX3_numberOf_38 : decode cX3_numberOf 38 = .ok (.iload_n 3, 1) := by decide +kernel
theorem dX3_numberOf_39 : decode cX3_numberOf 39 = .ok (.iaload, 1) := by decide +kernel
theorem dX3_numberOf_40 : decode cX3_numberOf 40 = .ok (.iadd, 1) := by decide +kernel
theorem dX3_numberOf_41 : decode cX3_numberOf 41 = .ok (.istore_n 2, 1) := by decide +kernel
theorem dX3_numberOf_42 : decode cX3_numberOf 42 = .ok (.iinc 3 1, 3) := by decide +kernel
theorem dX3_numberOf_45 : decode cX3_numberOf 45 = .ok (.goto (-27), 3) := by decide +kernel
theorem dX3_numberOf_48 : decode cX3_numberOf 48 = .ok (.iload_n 2, 1) := by decide +kernel
theorem dX3_numberOf_49 : decode cX3_numberOf 49 = .ok (.ireturn, 1) := by decide +kernel
theorem dX3_lengthOf_0 : decode cX3_lengthOf 0 = .ok (.iconst 0, 1) := by decide +kernel
theorem dX3_lengthOf_1 : decode cX3_lengthOf 1 = .ok (.istore_n 2, 1) := by decide +kernel
theorem dX3_lengthOf_2 : decode cX3_lengthOf 2 = .ok (.iload_n 1, 1) := by decide +kernel
theorem dX3_lengthOf_3 : decode cX3_lengthOf 3 = .ok (.istore_n 3, 1) := by decide +kernel
theorem dX3_lengthOf_4 : decode cX3_lengthOf 4 = .ok (.iconst 0, 1) := by decide +kernel
theorem dX3_lengthOf_5 : decode cX3_lengthOf 5 = .ok (.istore 4, 2) := by decide +kernel
theorem dX3_lengthOf_7 : decode cX3_lengthOf 7 = .ok (.iload 4, 2) := by decide +kernel
theorem dX3_lengthOf_9 : decode cX3_lengthOf 9 = .ok (.bipush 6, 2) := by decide +kernel
theorem dX3_lengthOf_11 : decode cX3_lengthOf 11 = .ok (.if_icmp .ge 32, 3) := by decide +kernel
theorem dX3_lengthOf_14 : decode cX3_lengthOf 14 = .ok (.iload_n 3, 1) := by decide +kernel
theorem dX3_lengthOf_15 : decode cX3_lengthOf 15 = .ok (.ifCond .le 28, 3) := by decide +kernel
theorem dX3_lengthOf_18 : decode cX3_lengthOf 18 = .ok (.aload_n 0, 1) := by decide +kernel
theorem dX3_lengthOf_19 : decode cX3_lengthOf 19 = .ok (.getfield 114, 3) := by decide +kernel
theorem dX3_lengthOf_22 : decode cX3_lengthOf 22 = .ok (.ifCond .le 21, 3) := by decide +kernel
theorem dX3_lengthOf_25 : decode cX3_lengthOf 25 = .ok (.iload_n 3, 1) := by decide +kernel
theorem dX3_lengthOf_26 : decode cX3_lengthOf 26 = .ok (.iconst 1, 1) := by decide +kernel
theorem dX3_lengthOf_27 : decode cX3_lengthOf 27 = .ok (.isub, 1) := by decide +kernel
theorem dX3_lengthOf_28 : decode cX3_lengthOf 28 = .ok (.aload_n 0, 1) := by decide +kernel
theorem dX3_lengthOf_29 : decode cX3_lengthOf 29 = .ok (.getfield 114, 3) := by decide +kernel
theorem dX3_lengthOf_32 : decode cX3_lengthOf 32 = .ok (.idiv, 1) := by decide +kernel
theorem dX3_lengthOf_33 : decode cX3_lengthOf 33 = .ok (.istore_n 3, 1) := by decide +kernel
theorem dX3_lengthOf_34 : decode cX3_lengthOf 34 = .ok (.iinc 2 1, 3) := by decide +kernel
theorem dX3_lengthOf_37 : decode cX3_lengthOf 37 = .ok (.iinc 4 1, 3) := by decide +kernel
theorem dX3_lengthOf_40 : decode cX3_lengthOf 40 = .ok (.goto (-33), 3) := by decide +kernel
theorem dX3_lengthOf_43 : decode cX3_lengthOf 43 = .ok (.iload_n 2, 1) := by decide +kernel
theorem dX3_lengthOf_44 : decode cX3_lengthOf 44 = .ok (.ireturn, 1) := by decide +kernel
theorem dX3_wordOf_0 : decode cX3_wordOf 0 = .ok (.aload_n 0, 1) := by decide +kernel
theorem dX3_wordOf_1 : decode cX3_wordOf 1 = .ok (.iload_n 1, 1) := by decide +kernel
theorem dX3_wordOf_2 : decode cX3_wordOf 2 = .ok (.invokevirtual 119, 3) := by decide +kernel
theorem dX3_wordOf_5 : decode cX3_wordOf 5 = .ok (.istore_n 3, 1) := by decide +kernel
theorem dX3_wordOf_6 : decode cX3_wordOf 6 = .ok (.iload_n 2, 1) := by decide +kernel
theorem dX3_wordOf_7 : decode cX3_wordOf 7 = .ok (.ifCond .lt 15, 3) := by decide +kernel
theorem dX3_wordOf_10 : decode cX3_wordOf 10 = .ok (.iload_n 2, 1) := by decide +kernel
theorem dX3_wordOf_11 : decode cX3_wordOf 11 = .ok (.iload_n 3, 1) := by decide +kernel
theorem dX3_wordOf_12 : decode cX3_wordOf 12 = .ok (.if_icmp .ge 10, 3) := by decide +kernel
theorem dX3_wordOf_15 : decode cX3_wordOf 15 = .ok (.aload_n 0, 1) := by decide +kernel
theorem dX3_wordOf_16 : decode cX3_wordOf 16 = .ok (.getfield 114, 3) := by decide +kernel
theorem dX3_wordOf_19 : decode cX3_wordOf 19 = .ok (.ifCond .gt 6, 3) := by decide +kernel
theorem dX3_wordOf_22 : decode cX3_wordOf 22 = .ok (.bipush (-9), 2) := by decide +kernel
theorem dX3_wordOf_24 : decode cX3_wordOf 24 = .ok (.ireturn, 1) := by decide +kernel
theorem dX3_wordOf_25 : decode cX3_wordOf 25 = .ok (.iload_n 1, 1) := by decide +kernel
theorem dX3_wordOf_26 : decode cX3_wordOf 26 = .ok (.istore 4, 2) := by decide +kernel
theorem dX3_wordOf_28 : decode cX3_wordOf 28 = .ok (.iload_n 3, 1) := by decide +kernel
theorem dX3_wordOf_29 : decode cX3_wordOf 29 = .ok (.iconst 1, 1) := by decide +kernel
theorem dX3_wordOf_30 : decode cX3_wordOf 30 = .ok (.isub, 1) := by decide +kernel
theorem dX3_wordOf_31 : decode cX3_wordOf 31 = .ok (.istore 5, 2) := by decide +kernel
theorem dX3_wordOf_33 : decode cX3_wordOf 33 = .ok (.iload 5, 2) := by decide +kernel
theorem dX3_wordOf_35 : decode cX3_wordOf 35 = .ok (.iload_n 2, 1) := by decide +kernel
theorem dX3_wordOf_36 : decode cX3_wordOf 36 = .ok (.if_icmp .le 20, 3) := by decide +kernel
theorem dX3_wordOf_39 : decode cX3_wordOf 39 = .ok (.iload 4, 2) := by decide +kernel
theorem dX3_wordOf_41 : decode cX3_wordOf 41 = .ok (.iconst 1, 1) := by decide +kernel
theorem dX3_wordOf_42 : decode cX3_wordOf 42 = .ok (.isub, 1) := by decide +kernel
theorem dX3_wordOf_43 : decode cX3_wordOf 43 = .ok (.aload_n 0, 1) := by decide +kernel
theorem dX3_wordOf_44 : decode cX3_wordOf 44 = .ok (.getfield 114, 3) := by decide +kernel
theorem dX3_wordOf_47 : decode cX3_wordOf 47 = .ok (.idiv, 1) := by decide +kernel
theorem dX3_wordOf_48 : decode cX3_wordOf 48 = .ok (.istore 4, 2) := by decide +kernel
theorem dX3_wordOf_50 : decode cX3_wordOf 50 = .ok (.iinc 5 (-1), 3) := by decide +kernel
theorem dX3_wordOf_53 : decode cX3_wordOf 53 = .ok (.goto (-20), 3) := by decide +kernel
theorem dX3_wordOf_56 : decode cX3_wordOf 56 = .ok (.iload 4, 2) := by decide +kernel
theorem dX3_wordOf_58 : decode cX3_wordOf 58 = .ok (.iconst 1, 1) := by decide +kernel
theorem dX3_wordOf_59 : decode cX3_wordOf 59 = .ok (.isub, 1) := by decide +kernel
theorem dX3_wordOf_60 : decode cX3_wordOf 60 = .ok (.aload_n 0, 1) := by decide +kernel
theorem dX3_wordOf_61 : decode cX3_wordOf 61 = .ok (.getfield 114, 3) := by decide +kernel
theorem dX3_wordOf_64 : decode cX3_wordOf 64 = .ok (.irem, 1) := by decide +kernel
theorem dX3_wordOf_65 : decode cX3_wordOf 65 = .ok (.ireturn, 1) := by decide +kernel
theorem dX3_refresh_0 : decode cX3_refresh 0 = .ok (.aload_n 0, 1) := by decide +kernel
theorem dX3_refresh_1 : decode cX3_refresh 1 = .ok (.getfield 122, 3) := by decide +kernel
theorem dX3_refresh_4 : decode cX3_refresh 4 = .ok (.ifCond .eq 4, 3) := by decide +kernel
theorem dX3_refresh_7 : decode cX3_refresh 7 = .ok (.return_, 1) := by decide +kernel
theorem dX3_refresh_8 : decode cX3_refresh 8 = .ok (.aload_n 0, 1) := by decide +kernel
theorem dX3_refresh_9 : decode cX3_refresh 9 = .ok (.invokevirtual 125, 3) := by decide +kernel
theorem dX3_refresh_12 : decode cX3_refresh 12 = .ok (.aload_n 0, 1) := by decide +kernel
theorem dX3_refresh_13 : decode cX3_refresh 13 = .ok (.aload_n 0, 1) := by decide +kernel
theorem dX3_refresh_14 : decode cX3_refresh 14 = .ok (.getfield 42, 3) := by decide +kernel
theorem dX3_refresh_17 : decode cX3_refresh 17 = .ok (.getfield 128, 3) := by decide +kernel
theorem dX3_refresh_20 : decode cX3_refresh 20 = .ok (.aload_n 0, 1) := by decide +kernel
theorem dX3_refresh_21 : decode cX3_refresh 21 = .ok (.getfield 46, 3) := by decide +kernel
theorem dX3_refresh_24 : decode cX3_refresh 24 = .ok (.iadd, 1) := by decide +kernel
theorem dX3_refresh_25 : decode cX3_refresh 25 = .ok (.bipush 8, 2) := by decide +kernel
theorem dX3_refresh_27 : decode cX3_refresh 27 = .ok (.invokestatic 129, 3) := by decide +kernel
theorem dX3_refresh_30 : decode cX3_refresh 30 = .ok (.putfield 114, 3) := by decide +kernel
theorem dX3_refresh_33 : decode cX3_refresh 33 = .ok (.iconst 1, 1) := by decide +kernel
theorem dX3_refresh_34 : decode cX3_refresh 34 = .ok (.aload_n 0, 1) := by decide +kernel
theorem dX3_refresh_35 : decode cX3_refresh 35 = .ok (.getfield 114, 3) := by decide +kernel
theorem dX3_refresh_38 : decode cX3_refresh 38 = .ok (.iadd, 1) := by decide +kernel
theorem dX3_refresh_39 : decode cX3_refresh 39 = .ok (.aload_n 0, 1) := by decide +kernel
theorem dX3_refresh_40 : decode cX3_refresh 40 = .ok (.getfield 114, 3) := by decide +kernel
theorem dX3_refresh_43 : decode cX3_refresh 43 = .ok (.aload_n 0, 1) := by decide +kernel
theorem dX3_refresh_44 : decode cX3_refresh 44 = .ok (.getfield 114, 3) := by decide +kernel
theorem dX3_refresh_47 : decode cX3_refresh 47 = .ok (.imul, 1) := by decide +kernel
theorem dX3_refresh_48 : decode cX3_refresh 48 = .ok (.iadd, 1) := by decide +kernel
theorem dX3_refresh_49 : decode cX3_refresh 49 = .ok (.istore_n 1, 1) := by decide +kernel
theorem dX3_refresh_50 : decode cX3_refresh 50 = .ok (.aload_n 0, 1) := by decide +kernel
theorem dX3_refresh_51 : decode cX3_refresh 51 = .ok (.getfield 11, 3) := by decide +kernel
theorem dX3_refresh_54 : decode cX3_refresh 54 = .ok (.iconst 0, 1) := by decide +kernel
theorem dX3_refresh_55 : decode cX3_refresh 55 = .ok (.sipush 255, 3) := by decide +kernel
theorem dX3_refresh_58 : decode cX3_refresh 58 = .ok (.iastore, 1) := by decide +kernel
theorem dX3_refresh_59 : decode cX3_refresh 59 = .ok (.iconst 0, 1) := by decide +kernel
theorem dX3_refresh_60 : decode cX3_refresh 60 = .ok (.istore_n 2, 1) := by decide +kernel
theorem dX3_refresh_61 : decode cX3_refresh 61 = .ok (.iload_n 2, 1) := by decide +kernel
theorem dX3_refresh_62 : decode cX3_refresh 62 = .ok (.iload_n 1, 1) := by decide +kernel
theorem dX3_refresh_63 : decode cX3_refresh 63 = .ok (.if_icmp .ge 54, 3) := by decide +kernel
theorem dX3_refresh_66 : decode cX3_refresh 66 = .ok (.iconst 0, 1) := by decide +kernel
theorem dX3_refresh_67 : decode cX3_refresh 67 = .ok (.istore_n 3, 1) := by decide +kernel
theorem dX3_refresh_68 : decode cX3_refresh 68 = .ok (.iload_n 3, 1) := by decide +kernel
theorem dX3_refresh_69 : decode cX3_refresh 69 = .ok (.aload_n 0, 1) := by decide +kernel
theorem dX3_refresh_70 : decode cX3_refresh 70 = .ok (.getfield 114, 3) := by decide +kernel
theorem dX3_refresh_73 : decode cX3_refresh 73 = .ok (.if_icmp .ge 38, 3) := by decide +kernel
theorem dX3_refresh_76 : decode cX3_refresh 76 = .ok (.aload_n 0, 1) := by decide +kernel
theorem dX3_refresh_77 : decode cX3_refresh 77 = .ok (.getfield 11, 3) := by decide +kernel
theorem dX3_refresh_80 : decode cX3_refresh 80 = .ok (.iload_n 2, 1) := by decide +kernel
theorem dX3_refresh_81 : decode cX3_refresh 81 = .ok (.aload_n 0, 1) := by decide +kernel
theorem dX3_refresh_82 : decode cX3_refresh 82 = .ok (.getfield 114, 3) := by decide +kernel
theorem dX3_refresh_85 : decode cX3_refresh 85 = .ok (.imul, 1) := by decide +kernel
theorem dX3_refresh_86 : decode cX3_refresh 86 = .ok (.iconst 1, 1) := by decide +kernel
theorem dX3_refresh_87 : decode cX3_refresh 87 = .ok (.iadd, 1) := by decide +kernel
theorem dX3_refresh_88 : decode cX3_refresh 88 = .ok (.iload_n 3, 1) := by decide +kernel
theorem dX3_refresh_89 : decode cX3_refresh 89 = .ok (.iadd, 1) := by decide +kernel
theorem dX3_refresh_90 : decode cX3_refresh 90 = .ok (.aload_n 0, 1) := by decide +kernel
theorem dX3_refresh_91 : decode cX3_refresh 91 = .ok (.getfield 42, 3) := by decide +kernel
theorem dX3_refresh_94 : decode cX3_refresh 94 = .ok (.aload_n 0, 1) := by decide +kernel
theorem dX3_refresh_95 : decode cX3_refresh 95 = .ok (.getfield 11, 3) := by decide +kernel
theorem dX3_refresh_98 : decode cX3_refresh 98 = .ok (.iload_n 2, 1) := by decide +kernel
theorem dX3_refresh_99 : decode cX3_refresh 99 = .ok (.iaload, 1) := by decide +kernel
theorem dX3_refresh_100 : decode cX3_refresh 100 = .ok (.iload_n 3, 1) := by decide +kernel
theorem dX3_refresh_101 : decode cX3_refresh 101 = .ok (.invokevirtual 134, 3) := by decide +kernel
theorem dX3_refresh_104 : decode cX3_refresh 104 = .ok (.iastore, 1) := by decide +kernel
theorem dX3_refresh_105 : decode cX3_refresh 105 = .ok (.iinc 3 1, 3) := by decide +kernel
theorem dX3_refresh_108 : decode cX3_refresh 108 = .ok (.goto (-40), 3) := by decide +kernel
theorem dX3_refresh_111 : decode cX3_refresh 111 = .ok (.iinc 2 1, 3) := by decide +kernel
theorem dX3_refresh_114 : decode cX3_refresh 114 = .ok (.goto (-53), 3) := by decide +kernel
theorem dX3_refresh_117 : decode cX3_refresh 117 = .ok (.aload_n 0, 1) := by decide +kernel
theorem dX3_refresh_118 : decode cX3_refresh 118 = .ok (.iload_n 1, 1) := by decide +kernel
theorem dX3_refresh_119 : decode cX3_refresh 119 = .ok (.aload_n 0, 1) := by decide +kernel
theorem dX3_refresh_120 : decode cX3_refresh 120 = .ok (.getfield 114, 3) := by decide +kernel
theorem dX3_refresh_123 : decode cX3_refresh 123 = .ok (.imul, 1) := by decide +kernel
theorem dX3_refresh_124 : decode cX3_refresh 124 = .ok (.iconst 1, 1) := by decide +kernel
theorem dX3_refresh_125 : decode cX3_refresh 125 = .ok (.iadd, 1) := by decide +kernel
theorem dX3_refresh_126 : decode cX3_refresh 126 = .ok (.putfield 137, 3) := by decide +kernel
theorem dX3_refresh_129 : decode cX3_refresh 129 = .ok (.iconst 0, 1) := by decide +kernel
theorem dX3_refresh_130 : decode cX3_refresh 130 = .ok (.istore_n 2, 1) := by decide +kernel
theorem dX3_refresh_131 : decode cX3_refresh 131 = .ok (.iload_n 2, 1) := by decide +kernel
theorem dX3_refresh_132 : decode cX3_refresh 132 = .ok (.aload_n 0, 1) := by decide +kernel
theorem dX3_refresh_133 : decode cX3_refresh 133 = .ok (.getfield 137, 3) := by decide +kernel
theorem dX3_refresh_136 : decode cX3_refresh 136 = .ok (.if_icmp .ge 14, 3) := by decide +kernel
theorem dX3_refresh_139 : decode cX3_refresh 139 = .ok (.aload_n 0, 1) := by decide +kernel
theorem dX3_refresh_140 : decode cX3_refresh 140 = .ok (.iload_n 2, 1) := by decide +kernel
theorem dX3_refresh_141 : decode cX3_refresh 141 = .ok (.invokevirtual 138, 3) := by decide +kernel
theorem dX3_refresh_144 : decode cX3_refresh 144 = .ok (.iinc 2 1, 3) := by decide +kernel
theorem dX3_refresh_147 : decode cX3_refresh 147 = .ok (.goto (-16), 3) := by decide +kernel
theorem dX3_refresh_150 : decode cX3_refresh 150 = .ok (.aload_n 0, 1) := by decide +kernel
theorem dX3_refresh_151 : decode cX3_refresh 151 = .ok (.getfield 39, 3) := by decide +kernel
theorem dX3_refresh_154 : decode cX3_refresh 154 = .ok (.iconst (-1), 1) := by decide +kernel
theorem dX3_refresh_155 : decode cX3_refresh 155 = .ok (.invokestatic 142, 3) := by decide +kernel
theorem dX3_refresh_158 : decode cX3_refresh 158 = .ok (.aload_n 0, 1) := by decide +kernel
theorem dX3_refresh_159 : decode cX3_refresh 159 = .ok (.iconst 0, 1) := by decide +kernel
theorem dX3_refresh_160 : decode cX3_refresh 160 = .ok (.putfield 99, 3) := by decide +kernel
theorem dX3_refresh_163 : decode cX3_refresh 163 = .ok (.aload_n 0, 1) := by decide +kernel
theorem dX3_refresh_164 : decode cX3_refresh 164 = .ok (.iconst 1, 1) := by decide +kernel
theorem dX3_refresh_165 : decode cX3_refresh 165 = .ok (.putfield 122, 3) := by decide +kernel
theorem dX3_refresh_168 : decode cX3_refresh 168 = .ok (.return_, 1) := by decide +kernel
theorem dX3_clearGroups_0 : decode cX3_clearGroups 0 = .ok (.iconst 0, 1) := by decide +kernel
theorem dX3_clearGroups_1 : decode cX3_clearGroups 1 = .ok (.istore_n 1, 1) := by decide +kernel
theorem dX3_clearGroups_2 : decode cX3_clearGroups 2 = .ok (.iload_n 1, 1) := by decide +kernel
theorem dX3_clearGroups_3 : decode cX3_clearGroups 3 = .ok (.aload_n 0, 1) := by decide +kernel
theorem dX3_clearGroups_4 : decode cX3_clearGroups 4 = .ok (.getfield 92, 3) := by decide +kernel
theorem dX3_clearGroups_7 : decode cX3_clearGroups 7 = .ok (.if_icmp .ge 24, 3) := by decide +kernel
theorem dX3_clearGroups_10 : decode cX3_clearGroups 10 = .ok (.aload_n 0, 1) := by decide +kernel
theorem dX3_clearGroups_11 : decode cX3_clearGroups 11 = .ok (.getfield 27, 3) := by decide +kernel
theorem dX3_clearGroups_14 : decode cX3_clearGroups 14 = .ok (.aload_n 0, 1) := by decide +kernel
theorem dX3_clearGroups_15 : decode cX3_clearGroups 15 = .ok (.getfield 15, 3) := by decide +kernel
theorem dX3_clearGroups_18 : decode cX3_clearGroups 18 = .ok (.iload_n 1, 1) := by decide +kernel
theorem dX3_clearGroups_19 : decode cX3_clearGroups 19 = .ok (.iaload, 1) := by decide +kernel
theorem dX3_clearGroups_20 : decode cX3_clearGroups 20 = .ok (.invokestatic 148, 3) := by decide +kernel
theorem dX3_clearGroups_23 : decode cX3_clearGroups 23 = .ok (.iconst 0, 1) := by decide +kernel
theorem dX3_clearGroups_24 : decode cX3_clearGroups 24 = .ok (.iastore, 1) := by decide +kernel
theorem dX3_clearGroups_25 : decode cX3_clearGroups 25 = .ok (.iinc 1 1, 3) := by decide +kernel
theorem dX3_clearGroups_28 : decode cX3_clearGroups 28 = .ok (.goto (-26), 3) := by decide +kernel
theorem dX3_clearGroups_31 : decode cX3_clearGroups 31 = .ok (.aload_n 0, 1) := by decide +kernel
theorem dX3_clearGroups_32 : decode cX3_clearGroups 32 = .ok (.iconst 0, 1) := by decide +kernel
theorem dX3_clearGroups_33 : decode cX3_clearGroups 33 = .ok (.putfield 92, 3) := by decide +kernel
theorem dX3_clearGroups_36 : decode cX3_clearGroups 36 = .ok (.return_, 1) := by decide +kernel
theorem dX3_putInGroup_0 : decode cX3_putInGroup 0 = .ok (.aload_n 0, 1) := by decide +kernel
theorem dX3_putInGroup_1 : decode cX3_putInGroup 1 = .ok (.getfield 11, 3) := by decide +kernel
theorem dX3_putInGroup_4 : decode cX3_putInGroup 4 = .ok (.iload_n 1, 1) := by decide +kernel
theorem dX3_putInGroup_5 : decode cX3_putInGroup 5 = .ok (.iaload, 1) := by decide +kernel
theorem dX3_putInGroup_6 : decode cX3_putInGroup 6 = .ok (.istore_n 2, 1) := by decide +kernel
theorem dX3_putInGroup_7 : decode cX3_putInGroup 7 = .ok (.iload_n 2, 1) := by decide +kernel
theorem dX3_putInGroup_8 : decode cX3_putInGroup 8 = .ok (.invokestatic 148, 3) := by decide +kernel
theorem dX3_putInGroup_11 : decode cX3_putInGroup 11 = .ok (.istore_n 3, 1) := by decide +kernel
theorem dX3_putInGroup_12 : decode cX3_putInGroup 12 = .ok (.aload_n 0, 1) := by decide +kernel
theorem dX3_putInGroup_13 : decode cX3_putInGroup 13 = .ok (.getfield 27, 3) := by decide +kernel
theorem dX3_putInGroup_16 : decode cX3_putInGroup 16 = .ok (.iload_n 3, 1) := by decide +kernel
theorem dX3_putInGroup_17 : decode cX3_putInGroup 17 = .ok (.iaload, 1) := by decide +kernel
theorem dX3_putInGroup_18 : decode cX3_putInGroup 18 = .ok (.iconst 1, 1) := by decide +kernel
theorem dX3_putInGroup_19 : decode cX3_putInGroup 19 = .ok (.isub, 1) := by decide +kernel
theorem dX3_putInGroup_20 : decode cX3_putInGroup 20 = .ok (.istore 4, 2) := by decide +kernel
theorem dX3_putInGroup_22 : decode cX3_putInGroup 22 = .ok (.iload 4, 2) := by decide +kernel
theorem dX3_putInGroup_24 : decode cX3_putInGroup 24 = .ok (.ifCond .ge 71, 3) := by decide +kernel
theorem dX3_putInGroup_27 : decode cX3_putInGroup 27 = .ok (.aload_n 0, 1) := by decide +kernel
theorem dX3_putInGroup_28 : decode cX3_putInGroup 28 = .ok (.getfield 92, 3) := by decide +kernel
theorem dX3_putInGroup_31 : decode cX3_putInGroup 31 = .ok (.istore 4, 2) := by decide +kernel
theorem dX3_putInGroup_33 : decode cX3_putInGroup 33 = .ok (.aload_n 0, 1) := by decide +kernel
theorem dX3_putInGroup_34 : decode cX3_putInGroup 34 = .ok (.dup, 1) := by decide +kernel
theorem dX3_putInGroup_35 : decode cX3_putInGroup 35 = .ok (.getfield 92, 3) := by decide +kernel
theorem dX3_putInGroup_38 : decode cX3_putInGroup 38 = .ok (.iconst 1, 1) := by decide +kernel
theorem dX3_putInGroup_39 : decode cX3_putInGroup 39 = .ok (.iadd, 1) := by decide +kernel
theorem dX3_putInGroup_40 : decode cX3_putInGroup 40 = .ok (.putfield 92, 3) := by decide +kernel
theorem dX3_putInGroup_43 : decode cX3_putInGroup 43 = .ok (.aload_n 0, 1) := by decide +kernel
theorem dX3_putInGroup_44 : decode cX3_putInGroup 44 = .ok (.getfield 27, 3) := by decide +kernel
theorem dX3_putInGroup_47 : decode cX3_putInGroup 47 = .ok (.iload_n 3, 1) := by decide +kernel
theorem dX3_putInGroup_48 : decode cX3_putInGroup 48 = .ok (.aload_n 0, 1) := by decide +kernel
theorem dX3_putInGroup_49 : decode cX3_putInGroup 49 = .ok (.getfield 92, 3) := by decide +kernel
theorem dX3_putInGroup_52 : decode cX3_putInGroup 52 = .ok (.iastore, 1) := by decide +kernel
theorem dX3_putInGroup_53 : decode cX3_putInGroup 53 = .ok (.aload_n 0, 1) := by decide +kernel
theorem dX3_putInGroup_54 : decode cX3_putInGroup 54 = .ok (.getfield 15, 3) := by decide +kernel
theorem dX3_putInGroup_57 : decode cX3_putInGroup 57 = .ok (.iload 4, 2) := by decide +kernel
theorem dX3_putInGroup_59 : decode cX3_putInGroup 59 = .ok (.iload_n 2, 1) := by decide +kernel
theorem dX3_putInGroup_60 : decode cX3_putInGroup 60 = .ok (.iastore, 1) := by decide +kernel
theorem dX3_putInGroup_61 : decode cX3_putInGroup 61 = .ok (.aload_n 0, 1) := by decide +kernel
theorem dX3_putInGroup_62 : decode cX3_putInGroup 62 = .ok (.getfield 18, 3) := by decide +kernel
theorem dX3_putInGroup_65 : decode cX3_putInGroup 65 = .ok (.iload 4, 2) := by decide +kernel
theorem dX3_putInGroup_67 : decode cX3_putInGroup 67 = .ok (.iload_n 1, 1) := by decide +kernel
theorem dX3_putInGroup_68 : decode cX3_putInGroup 68 = .ok (.iastore, 1) := by decide +kernel
theorem dX3_putInGroup_69 : decode cX3_putInGroup 69 = .ok (.aload_n 0, 1) := by decide +kernel
theorem dX3_putInGroup_70 : decode cX3_putInGroup 70 = .ok (.getfield 21, 3) := by decide +kernel
theorem dX3_putInGroup_73 : decode cX3_putInGroup 73 = .ok (.iload 4, 2) := by decide +kernel
theorem dX3_putInGroup_75 : decode cX3_putInGroup 75 = .ok (.iconst 0, 1) := by decide +kernel
theorem dX3_putInGroup_76 : decode cX3_putInGroup 76 = .ok (.iastore, 1) := by decide +kernel
theorem dX3_putInGroup_77 : decode cX3_putInGroup 77 = .ok (.aload_n 0, 1) := by decide +kernel
theorem dX3_putInGroup_78 : decode cX3_putInGroup 78 = .ok (.getfield 24, 3) := by decide +kernel
theorem dX3_putInGroup_81 : decode cX3_putInGroup 81 = .ok (.iload 4, 2) := by decide +kernel
theorem dX3_putInGroup_83 : decode cX3_putInGroup 83 = .ok (.aload_n 0, 1) := by decide +kernel
theorem dX3_putInGroup_84 : decode cX3_putInGroup 84 = .ok (.getfield 42, 3) := by decide +kernel
theorem dX3_putInGroup_87 : decode cX3_putInGroup 87 = .ok (.iload_n 2, 1) := by decide +kernel
theorem dX3_putInGroup_88 : decode cX3_putInGroup 88 = .ok (.invokestatic 73, 3) := by decide +kernel
theorem dX3_putInGroup_91 : decode cX3_putInGroup 91 = .ok (.invokevirtual 83, 3) := by decide +kernel
theorem dX3_putInGroup_94 : decode cX3_putInGroup 94 = .ok (.iastore, 1) := by decide +kernel
theorem dX3_putInGroup_95 : decode cX3_putInGroup 95 = .ok (.aload_n 0, 1) := by decide +kernel
theorem dX3_putInGroup_96 : decode cX3_putInGroup 96 = .ok (.getfield 21, 3) := by decide +kernel
theorem dX3_putInGroup_99 : decode cX3_putInGroup 99 = .ok (.iload 4, 2) := by decide +kernel
theorem dX3_putInGroup_101 : decode cX3_putInGroup 101 = .ok (.dup2, 1) := by decide +kernel
theorem dX3_putInGroup_102 : decode cX3_putInGroup 102 = .ok (.iaload, 1) := by decide +kernel
theorem dX3_putInGroup_103 : decode cX3_putInGroup 103 = .ok (.iconst 1, 1) := by decide +kernel
theorem dX3_putInGroup_104 : decode cX3_putInGroup 104 = .ok (.iadd, 1) := by decide +kernel
theorem dX3_putInGroup_105 : decode cX3_putInGroup 105 = .ok (.iastore, 1) := by decide +kernel
theorem dX3_putInGroup_106 : decode cX3_putInGroup 106 = .ok (.return_, 1) := by decide +kernel
theorem dX3_keyOf_0 : decode cX3_keyOf 0 = .ok (.iload_n 0, 1) := by decide +kernel
theorem dX3_keyOf_1 : decode cX3_keyOf 1 = .ok (.invokestatic 151, 3) := by decide +kernel
theorem dX3_keyOf_4 : decode cX3_keyOf 4 = .ok (.iconst 3, 1) := by decide +kernel
theorem dX3_keyOf_5 : decode cX3_keyOf 5 = .ok (.invokestatic 129, 3) := by decide +kernel
theorem dX3_keyOf_8 : decode cX3_keyOf 8 = .ok (.istore_n 1, 1) := by decide +kernel
theorem dX3_keyOf_9 : decode cX3_keyOf 9 = .ok (.iload_n 0, 1) := by decide +kernel
theorem dX3_keyOf_10 : decode cX3_keyOf 10 = .ok (.invokestatic 154, 3) := by decide +kernel
theorem dX3_keyOf_13 : decode cX3_keyOf 13 = .ok (.iload_n 1, 1) := by decide +kernel
theorem dX3_keyOf_14 : decode cX3_keyOf 14 = .ok (.invokestatic 129, 3) := by decide +kernel
theorem dX3_keyOf_17 : decode cX3_keyOf 17 = .ok (.istore_n 2, 1) := by decide +kernel
theorem dX3_keyOf_18 : decode cX3_keyOf 18 = .ok (.iload_n 1, 1) := by decide +kernel
theorem dX3_keyOf_19 : decode cX3_keyOf 19 = .ok (.iload_n 1, 1) := by decide +kernel
theorem dX3_keyOf_20 : decode cX3_keyOf 20 = .ok (.iconst 1, 1) := by decide +kernel
theorem dX3_keyOf_21 : decode cX3_keyOf 21 = .ok (.iadd, 1) := by decide +kernel
theorem dX3_keyOf_22 : decode cX3_keyOf 22 = .ok (.imul, 1) := by decide +kernel
theorem dX3_keyOf_23 : decode cX3_keyOf 23 = .ok (.iconst 2, 1) := by decide +kernel
theorem dX3_keyOf_24 : decode cX3_keyOf 24 = .ok (.idiv, 1) := by decide +kernel
theorem dX3_keyOf_25 : decode cX3_keyOf 25 = .ok (.iload_n 2, 1) := by decide +kernel
theorem dX3_keyOf_26 : decode cX3_keyOf 26 = .ok (.iadd, 1) := by decide +kernel
theorem dX3_keyOf_27 : decode cX3_keyOf 27 = .ok (.sipush 256, 3) := by decide +kernel
theorem dX3_keyOf_30 : decode cX3_keyOf 30 = .ok (.imul, 1) := by decide +kernel
theorem dX3_keyOf_31 : decode cX3_keyOf 31 = .ok (.iload_n 0, 1) := by decide +kernel
theorem dX3_keyOf_32 : decode cX3_keyOf 32 = .ok (.invokestatic 73, 3) := by decide +kernel
theorem dX3_keyOf_35 : decode cX3_keyOf 35 = .ok (.iadd, 1) := by decide +kernel
theorem dX3_keyOf_36 : decode cX3_keyOf 36 = .ok (.ireturn, 1) := by decide +kernel
theorem dX3_findFirsts_0 : decode cX3_findFirsts 0 = .ok (.aload_n 0, 1) := by decide +kernel
theorem dX3_findFirsts_1 : decode cX3_findFirsts 1 = .ok (.getfield 33, 3) := by decide +kernel
theorem dX3_findFirsts_4 : decode cX3_findFirsts 4 = .ok (.iconst (-1), 1) := by decide +kernel
theorem dX3_findFirsts_5 : decode cX3_findFirsts 5 = .ok (.invokestatic 142, 3) := by decide +kernel
theorem dX3_findFirsts_8 : decode cX3_findFirsts 8 = .ok (.iconst 0, 1) := by decide +kernel
theorem dX3_findFirsts_9 : decode cX3_findFirsts 9 = .ok (.istore_n 1, 1) := by decide +kernel
theorem dX3_findFirsts_10 : decode cX3_findFirsts 10 = .ok (.iload_n 1, 1) := by decide +kernel
theorem dX3_findFirsts_11 : decode cX3_findFirsts 11 = .ok (.aload_n 0, 1) := by decide +kernel
theorem dX3_findFirsts_12 : decode cX3_findFirsts 12 = .ok (.getfield 137, 3) := by decide +kernel
theorem dX3_findFirsts_15 : decode cX3_findFirsts 15 = .ok (.if_icmp .ge 20, 3) := by decide +kernel
theorem dX3_findFirsts_18 : decode cX3_findFirsts 18 = .ok (.aload_n 0, 1) := by decide +kernel
theorem dX3_findFirsts_19 : decode cX3_findFirsts 19 = .ok (.aload_n 0, 1) := by decide +kernel
theorem dX3_findFirsts_20 : decode cX3_findFirsts 20 = .ok (.getfield 11, 3) := by decide +kernel
theorem dX3_findFirsts_23 : decode cX3_findFirsts 23 = .ok (.iload_n 1, 1) := by decide +kernel
theorem dX3_findFirsts_24 : decode cX3_findFirsts 24 = .ok (.iaload, 1) := by decide +kernel
theorem dX3_findFirsts_25 : decode cX3_findFirsts 25 = .ok (.iload_n 1, 1) := by decide +kernel
theorem dX3_findFirsts_26 : decode cX3_findFirsts 26 = .ok (.invokevirtual 157, 3) := by decide +kernel
theorem dX3_findFirsts_29 : decode cX3_findFirsts 29 = .ok (.iinc 1 1, 3) := by decide +kernel
theorem dX3_findFirsts_32 : decode cX3_findFirsts 32 = .ok (.goto (-22), 3) := by decide +kernel
theorem dX3_findFirsts_35 : decode cX3_findFirsts 35 = .ok (.aload_n 0, 1) := by decide +kernel
theorem dX3_findFirsts_36 : decode cX3_findFirsts 36 = .ok (.getfield 137, 3) := by decide +kernel
theorem dX3_findFirsts_39 : decode cX3_findFirsts 39 = .ok (.iconst 1, 1) := by decide +kernel
theorem dX3_findFirsts_40 : decode cX3_findFirsts 40 = .ok (.isub, 1) := by decide +kernel
theorem dX3_findFirsts_41 : decode cX3_findFirsts 41 = .ok (.aload_n 0, 1) := by decide +kernel
theorem dX3_findFirsts_42 : decode cX3_findFirsts 42 = .ok (.getfield 114, 3) := by decide +kernel
theorem dX3_findFirsts_45 : decode cX3_findFirsts 45 = .ok (.iconst 1, 1) := by decide +kernel
theorem dX3_findFirsts_46 : decode cX3_findFirsts 46 = .ok (.invokestatic 160, 3) := by decide +kernel
theorem dX3_findFirsts_49 : decode cX3_findFirsts 49 = .ok (.idiv, 1) := by decide +kernel
theorem dX3_findFirsts_50 : decode cX3_findFirsts 50 = .ok (.istore_n 1, 1) := by decide +kernel
theorem dX3_findFirsts_51 : decode cX3_findFirsts 51 = .ok (.iload_n 1, 1) := by decide +kernel
theorem dX3_findFirsts_52 : decode cX3_findFirsts 52 = .ok (.aload_n 0, 1) := by decide +kernel
theorem dX3_findFirsts_53 : decode cX3_findFirsts 53 = .ok (.getfield 137, 3) := by decide +kernel
theorem dX3_findFirsts_56 : decode cX3_findFirsts 56 = .ok (.if_icmp .ge 53, 3) := by decide +kernel
theorem dX3_findFirsts_59 : decode cX3_findFirsts 59 = .ok (.iconst 0, 1) := by decide +kernel
theorem dX3_findFirsts_60 : decode cX3_findFirsts 60 = .ok (.istore_n 2, 1) := by decide +kernel
theorem dX3_findFirsts_61 : decode cX3_findFirsts 61 = .ok (.iload_n 2, 1) := by decide +kernel
theorem dX3_findFirsts_62 : decode cX3_findFirsts 62 = .ok (.aload_n 0, 1) := by decide +kernel
theorem dX3_findFirsts_63 : decode cX3_findFirsts 63 = .ok (.getfield 114, 3) := by decide +kernel
theorem dX3_findFirsts_66 : decode cX3_findFirsts 66 = .ok (.if_icmp .ge 37, 3) := by decide +kernel
theorem dX3_findFirsts_69 : decode cX3_findFirsts 69 = .ok (.aload_n 0, 1) := by decide +kernel
theorem dX3_findFirsts_70 : decode cX3_findFirsts 70 = .ok (.aload_n 0, 1) := by decide +kernel
theorem dX3_findFirsts_71 : decode cX3_findFirsts 71 = .ok (.getfield 42, 3) := by decide +kernel
theorem dX3_findFirsts_74 : decode cX3_findFirsts 74 = .ok (.aload_n 0, 1) := by decide +kernel
theorem dX3_findFirsts_75 : decode cX3_findFirsts 75 = .ok (.getfield 11, 3) := by decide +kernel
theorem dX3_findFirsts_78 : decode cX3_findFirsts 78 = .ok (.iload_n 1, 1) := by decide +kernel
theorem dX3_findFirsts_79 : decode cX3_findFirsts 79 = .ok (.iaload, 1) := by decide +kernel
theorem dX3_findFirsts_80 : decode cX3_findFirsts 80 = .ok (.iload_n 2, 1) := by decide +kernel
theorem dX3_findFirsts_81 : decode cX3_findFirsts 81 = .ok (.invokevirtual 134, 3) := by decide +kernel
theorem dX3_findFirsts_84 : decode cX3_findFirsts 84 = .ok (.iload_n 1, 1) := by decide +kernel
theorem dX3_findFirsts_85 : decode cX3_findFirsts 85 = .ok (.aload_n 0, 1) := by decide +kernel
theorem dX3_findFirsts_86 : decode cX3_findFirsts 86 = .ok (.getfield 114, 3) := by decide +kernel
theorem dX3_findFirsts_89 : decode cX3_findFirsts 89 = .ok (.imul, 1) := by decide +kernel
theorem dX3_findFirsts_90 : decode cX3_findFirsts 90 = .ok (.iconst 1, 1) := by decide +kernel
theorem dX3_findFirsts_91 : decode cX3_findFirsts 91 = .ok (.iadd, 1) := by decide +kernel
theorem dX3_findFirsts_92 : decode cX3_findFirsts 92 = .ok (.iload_n 2, 1) := by decide +kernel
theorem dX3_findFirsts_93 : decode cX3_findFirsts 93 = .ok (.iadd, 1) := by decide +kernel
theorem dX3_findFirsts_94 : decode cX3_findFirsts 94 = .ok (.invokevirtual 157, 3) := by decide +kernel
theorem dX3_findFirsts_97 : decode cX3_findFirsts 97 = .ok (.iinc 2 1, 3) := by decide +kernel
theorem dX3_findFirsts_100 : decode cX3_findFirsts 100 = .ok (.goto (-39), 3) := by decide +kernel
theorem dX3_findFirsts_103 : decode cX3_findFirsts 103 = .ok (.iinc 1 1, 3) := by decide +kernel
theorem dX3_findFirsts_106 : decode cX3_findFirsts 106 = .ok (.goto (-55), 3) := by decide +kernel
theorem dX3_findFirsts_109 : decode cX3_findFirsts 109 = .ok (.aload_n 0, 1) := by decide +kernel
theorem dX3_findFirsts_110 : decode cX3_findFirsts 110 = .ok (.iconst 1, 1) := by decide +kernel
theorem dX3_findFirsts_111 : decode cX3_findFirsts 111 = .ok (.putfield 99, 3) := by decide +kernel
theorem dX3_findFirsts_114 : decode cX3_findFirsts 114 = .ok (.return_, 1) := by decide +kernel
theorem dX3_noteFirst_0 : decode cX3_noteFirst 0 = .ok (.iload_n 1, 1) := by decide +kernel
theorem dX3_noteFirst_1 : decode cX3_noteFirst 1 = .ok (.invokestatic 73, 3) := by decide +kernel
theorem dX3_noteFirst_4 : decode cX3_noteFirst 4 = .ok (.istore_n 3, 1) := by decide +kernel
theorem dX3_noteFirst_5 : decode cX3_noteFirst 5 = .ok (.aload_n 0, 1) := by decide +kernel
theorem dX3_noteFirst_6 : decode cX3_noteFirst 6 = .ok (.getfield 33, 3) := by decide +kernel
theorem dX3_noteFirst_9 : decode cX3_noteFirst 9 = .ok (.iload_n 3, 1) := by decide +kernel
theorem dX3_noteFirst_10 : decode cX3_noteFirst 10 = .ok (.iaload, 1) := by decide +kernel
theorem dX3_noteFirst_11 : decode cX3_noteFirst 11 = .ok (.ifCond .ge 10, 3) := by decide +kernel
theorem dX3_noteFirst_14 : decode cX3_noteFirst 14 = .ok (.aload_n 0, 1) := by decide +kernel
theorem dX3_noteFirst_15 : decode cX3_noteFirst 15 = .ok (.getfield 33, 3) := by decide +kernel
theorem dX3_noteFirst_18 : decode cX3_noteFirst 18 = .ok (.iload_n 3, 1) := by decide +kernel
theorem dX3_noteFirst_19 : decode cX3_noteFirst 19 = .ok (.iload_n 2, 1) := by decide +kernel
theorem dX3_noteFirst_20 : decode cX3_noteFirst 20 = .ok (.iastore, 1) := by decide +kernel
theorem dX3_noteFirst_21 : decode cX3_noteFirst 21 = .ok (.return_, 1) := by decide +kernel
theorem dX3_gather_0 : decode cX3_gather 0 = .ok (.iload_n 1, 1) := by decide +kernel
theorem dX3_gather_1 : decode cX3_gather 1 = .ok (.invokestatic 73, 3) := by decide +kernel
theorem dX3_gather_4 : decode cX3_gather 4 = .ok (.istore_n 3, 1) := by decide +kernel
theorem dX3_gather_5 : decode cX3_gather 5 = .ok (.aload_n 0, 1) := by decide +kernel
theorem dX3_gather_6 : decode cX3_gather 6 = .ok (.iconst 0, 1) := by decide +kernel
theorem dX3_gather_7 : decode cX3_gather 7 = .ok (.putfield 66, 3) := by decide +kernel
theorem dX3_gather_10 : decode cX3_gather 10 = .ok (.iconst 0, 1) := by decide +kernel
theorem dX3_gather_11 : decode cX3_gather 11 = .ok (.istore 4, 2) := by decide +kernel
theorem dX3_gather_13 : decode cX3_gather 13 = .ok (.iload 4, 2) := by decide +kernel
theorem dX3_gather_15 : decode cX3_gather 15 = .ok (.aload_n 0, 1) := by decide +kernel
theorem dX3_gather_16 : decode cX3_gather 16 = .ok (.getfield 92, 3) := by decide +kernel
theorem dX3_gather_19 : decode cX3_gather 19 = .ok (.if_icmp .ge 61, 3) := by decide +kernel
theorem dX3_gather_22 : decode cX3_gather 22 = .ok (.aload_n 0, 1) := by decide +kernel
theorem dX3_gather_23 : decode cX3_gather 23 = .ok (.getfield 15, 3) := by decide +kernel
theorem dX3_gather_26 : decode cX3_gather 26 = .ok (.iload 4, 2) := by decide +kernel
theorem dX3_gather_28 : decode cX3_gather 28 = .ok (.iaload, 1) := by decide +kernel
theorem dX3_gather_29 : decode cX3_gather 29 = .ok (.istore 5, 2) := by decide +kernel
theorem dX3_gather_31 : decode cX3_gather 31 = .ok (.iload_n 3, 1) := by decide +kernel
theorem dX3_gather_32 : decode cX3_gather 32 = .ok (.iload 5, 2) := by decide +kernel
theorem dX3_gather_34 : decode cX3_gather 34 = .ok (.invokestatic 73, 3) := by decide +kernel
theorem dX3_gather_37 : decode cX3_gather 37 = .ok (.invokestatic 163, 3) := by decide +kernel
theorem dX3_gather_40 : decode cX3_gather 40 = .ok (.ifCond .eq 34, 3) := by decide +kernel
theorem dX3_gather_43 : decode cX3_gather 43 = .ok (.iload_n 2, 1) := by decide +kernel
theorem dX3_gather_44 : decode cX3_gather 44 = .ok (.iload 5, 2) := by decide +kernel
theorem dX3_gather_46 : decode cX3_gather 46 = .ok (.iload_n 1, 1) := by decide +kernel
theorem dX3_gather_47 : decode cX3_gather 47 = .ok (.invokestatic 166, 3) := by decide +kernel
theorem dX3_gather_50 : decode cX3_gather 50 = .ok (.ifCond .eq 24, 3) := by decide +kernel
theorem dX3_gather_53 : decode cX3_gather 53 = .ok (.aload_n 0, 1) := by decide +kernel
theorem dX3_gather_54 : decode cX3_gather 54 = .ok (.getfield 30, 3) := by decide +kernel
theorem dX3_gather_57 : decode cX3_gather 57 = .ok (.aload_n 0, 1) := by decide +kernel
theorem dX3_gather_58 : decode cX3_gather 58 = .ok (.getfield 66, 3) := by decide +kernel
theorem dX3_gather_61 : decode cX3_gather 61 = .ok (.iload 4, 2) := by decide +kernel
theorem dX3_gather_63 : decode cX3_gather 63 = .ok (.iastore, 1) := by decide +kernel
theorem dX3_gather_64 : decode cX3_gather 64 = .ok (.aload_n 0, 1) := by decide +kernel
theorem dX3_gather_65 : decode cX3_gather 65 = .ok (.dup, 1) := by decide +kernel
theorem dX3_gather_66 : decode cX3_gather 66 = .ok (.getfield 66, 3) := by decide +kernel
theorem dX3_gather_69 : decode cX3_gather 69 = .ok (.iconst 1, 1) := by decide +kernel
theorem dX3_gather_70 : decode cX3_gather 70 = .ok (.iadd, 1) := by decide +kernel
theorem dX3_gather_71 : decode cX3_gather 71 = .ok (.putfield 66, 3) := by decide +kernel
theorem dX3_gather_74 : decode cX3_gather 74 = .ok (.iinc 4 1, 3) := by decide +kernel
theorem dX3_gather_77 : decode cX3_gather 77 = .ok (.goto (-64), 3) := by decide +kernel
theorem dX3_gather_80 : decode cX3_gather 80 = .ok (.return_, 1) := by decide +kernel
theorem dX3_holdsCase_0 : decode cX3_holdsCase 0 = .ok (.aload_n 0, 1) := by decide +kernel
theorem dX3_holdsCase_1 : decode cX3_holdsCase 1 = .ok (.getfield 15, 3) := by decide +kernel
theorem dX3_holdsCase_4 : decode cX3_holdsCase 4 = .ok (.iload_n 1, 1) := by decide +kernel
theorem dX3_holdsCase_5 : decode cX3_holdsCase 5 = .ok (.iaload, 1) := by decide +kernel
theorem dX3_holdsCase_6 : decode cX3_holdsCase 6 = .ok (.iload_n 2, 1) := by decide +kernel
theorem dX3_holdsCase_7 : decode cX3_holdsCase 7 = .ok (.ishr, 1) := by decide +kernel
theorem dX3_holdsCase_8 : decode cX3_holdsCase 8 = .ok (.iconst 1, 1) := by decide +kernel
theorem dX3_holdsCase_9 : decode cX3_holdsCase 9 = .ok (.iand, 1) := by decide +kernel
theorem dX3_holdsCase_10 : decode cX3_holdsCase 10 = .ok (.ifCond .eq 7, 3) := by decide +kernel
theorem dX3_holdsCase_13 : decode cX3_holdsCase 13 = .ok (.iconst 1, 1) := by decide +kernel
theorem dX3_holdsCase_14 : decode cX3_holdsCase 14 = .ok (.goto 4, 3) := by decide +kernel
theorem dX3_holdsCase_17 : decode cX3_holdsCase 17 = .ok (.iconst 0, 1) := by decide +kernel
theorem dX3_holdsCase_18 : decode cX3_holdsCase 18 = .ok (.ireturn, 1) := by decide +kernel
theorem dX3_chosen_0 : decode cX3_chosen 0 = .ok (.iconst (-1), 1) := by decide +kernel
theorem dX3_chosen_1 : decode cX3_chosen 1 = .ok (.istore_n 3, 1) := by decide +kernel
theorem dX3_chosen_2 : decode cX3_chosen 2 = .ok (.iconst 0, 1) := by decide +kernel
theorem dX3_chosen_3 : decode cX3_chosen 3 = .ok (.istore 4, 2) := by decide +kernel
theorem dX3_chosen_5 : decode cX3_chosen 5 = .ok (.iload 4, 2) := by decide +kernel
theorem dX3_chosen_7 : decode cX3_chosen 7 = .ok (.aload_n 0, 1) := by decide +kernel
theorem dX3_chosen_8 : decode cX3_chosen 8 = .ok (.getfield 66, 3) := by decide +kernel
theorem dX3_chosen_11 : decode cX3_chosen 11 = .ok (.if_icmp .ge 46, 3) := by decide +kernel
theorem dX3_chosen_14 : decode cX3_chosen 14 = .ok (.aload_n 0, 1) := by decide +kernel
theorem dX3_chosen_15 : decode cX3_chosen 15 = .ok (.getfield 30, 3) := by decide +kernel
theorem dX3_chosen_18 : decode cX3_chosen 18 = .ok (.iload 4, 2) := by decide +kernel
theorem dX3_chosen_20 : decode cX3_chosen 20 = .ok (.iaload, 1) := by decide +kernel
theorem dX3_chosen_21 : decode cX3_chosen 21 = .ok (.istore 5, 2) := by decide +kernel
theorem dX3_chosen_23 : decode cX3_chosen 23 = .ok (.aload_n 0, 1) := by decide +kernel
theorem dX3_chosen_24 : decode cX3_chosen 24 = .ok (.iload 5, 2) := by decide +kernel
theorem dX3_chosen_26 : decode cX3_chosen 26 = .ok (.iload_n 2, 1) := by decide +kernel
theorem dX3_chosen_27 : decode cX3_chosen 27 = .ok (.invokevirtual 69, 3) := by decide +kernel
theorem dX3_chosen_30 : decode cX3_chosen 30 = .ok (.ifCond .eq 21, 3) := by decide +kernel
theorem dX3_chosen_33 : decode cX3_chosen 33 = .ok (.iload_n 3, 1) := by decide +kernel
theorem dX3_chosen_34 : decode cX3_chosen 34 = .ok (.ifCond .lt 14, 3) := by decide +kernel
theorem dX3_chosen_37 : decode cX3_chosen 37 = .ok (.aload_n 0, 1) := by decide +kernel
theorem dX3_chosen_38 : decode cX3_chosen 38 = .ok (.iload_n 1, 1) := by decide +kernel
theorem dX3_chosen_39 : decode cX3_chosen 39 = .ok (.iload 5, 2) := by decide +kernel
theorem dX3_chosen_41 : decode cX3_chosen 41 = .ok (.iload_n 3, 1) := by decide +kernel
theorem dX3_chosen_42 : decode cX3_chosen 42 = .ok (.invokevirtual 170, 3) := by decide +kernel
theorem dX3_chosen_45 : decode cX3_chosen 45 = .ok (.ifCond .eq 6, 3) := by decide +kernel
theorem dX3_chosen_48 : decode cX3_chosen 48 = .ok (.iload 5, 2) := by decide +kernel
theorem dX3_chosen_50 : decode cX3_chosen 50 = .ok (.istore_n 3, 1) := by decide +kernel
theorem dX3_chosen_51 : decode cX3_chosen 51 = .ok (.iinc 4 1, 3) := by decide +kernel
theorem dX3_chosen_54 : decode cX3_chosen 54 = .ok (.goto (-49), 3) := by decide +kernel
theorem dX3_chosen_57 : decode cX3_chosen 57 = .ok (.iload_n 3, 1) := by decide +kernel
theorem dX3_chosen_58 : decode cX3_chosen 58 = .ok (.ireturn, 1) := by decide +kernel
theorem dX3_isLiked_0 : decode cX3_isLiked 0 = .ok (.aload_n 0, 1) := by decide +kernel
theorem dX3_isLiked_1 : decode cX3_isLiked 1 = .ok (.getfield 24, 3) := by decide +kernel
theorem dX3_isLiked_4 : decode cX3_isLiked 4 = .ok (.iload_n 2, 1) := by decide +kernel
theorem dX3_isLiked_5 : decode cX3_isLiked 5 = .ok (.iaload, 1) := by decide +kernel
theorem dX3_isLiked_6 : decode cX3_isLiked 6 = .ok (.aload_n 0, 1) := by decide +kernel
theorem dX3_isLiked_7 : decode cX3_isLiked 7 = .ok (.getfield 24, 3) := by decide +kernel
theorem dX3_isLiked_10 : decode cX3_isLiked 10 = .ok (.iload_n 3, 1) := by decide +kernel
theorem dX3_isLiked_11 : decode cX3_isLiked 11 = .ok (.iaload, 1) := by decide +kernel
theorem dX3_isLiked_12 : decode cX3_isLiked 12 = .ok (.isub, 1) := by decide +kernel
theorem dX3_isLiked_13 : decode cX3_isLiked 13 = .ok (.istore 4, 2) := by decide +kernel
theorem dX3_isLiked_15 : decode cX3_isLiked 15 = .ok (.aload_n 0, 1) := by decide +kernel
theorem dX3_isLiked_16 : decode cX3_isLiked 16 = .ok (.getfield 15, 3) := by decide +kernel
theorem dX3_isLiked_19 : decode cX3_isLiked 19 = .ok (.iload_n 2, 1) := by decide +kernel
theorem dX3_isLiked_20 : decode cX3_isLiked 20 = .ok (.iaload, 1) := by decide +kernel
theorem dX3_isLiked_21 : decode cX3_isLiked 21 = .ok (.invokestatic 151, 3) := by decide +kernel
theorem dX3_isLiked_24 : decode cX3_isLiked 24 = .ok (.aload_n 0, 1) := by decide +kernel
theorem dX3_isLiked_25 : decode cX3_isLiked 25 = .ok (.getfield 15, 3) := by decide +kernel
theorem dX3_isLiked_28 : decode cX3_isLiked 28 = .ok (.iload_n 3, 1) := by decide +kernel
theorem dX3_isLiked_29 : decode cX3_isLiked 29 = .ok (.iaload, 1) := by decide +kernel
theorem dX3_isLiked_30 : decode cX3_isLiked 30 = .ok (.invokestatic 151, 3) := by decide +kernel
theorem dX3_isLiked_33 : decode cX3_isLiked 33 = .ok (.isub, 1) := by decide +kernel
theorem dX3_isLiked_34 : decode cX3_isLiked 34 = .ok (.istore 5, 2) := by decide +kernel
theorem dX3_isLiked_36 : decode cX3_isLiked 36 = .ok (.iload_n 1, 1) := by decide +kernel
theorem dX3_isLiked_37 : decode cX3_isLiked 37 = .ok (.tableswitch 95 0 3 #[31, 42, 53, 74], 31) := by decide +kernel
theorem dX3_isLiked_68 : decode cX3_isLiked 68 = .ok (.iload 4, 2) := by decide +kernel
theorem dX3_isLiked_70 : decode cX3_isLiked 70 = .ok (.ifCond .le 7, 3) := by decide +kernel
theorem dX3_isLiked_73 : decode cX3_isLiked 73 = .ok (.iconst 1, 1) := by decide +kernel
theorem dX3_isLiked_74 : decode cX3_isLiked 74 = .ok (.goto 4, 3) := by decide +kernel
theorem dX3_isLiked_77 : decode cX3_isLiked 77 = .ok (.iconst 0, 1) := by decide +kernel
theorem dX3_isLiked_78 : decode cX3_isLiked 78 = .ok (.ireturn, 1) := by decide +kernel
theorem dX3_isLiked_79 : decode cX3_isLiked 79 = .ok (.iload 4, 2) := by decide +kernel
theorem dX3_isLiked_81 : decode cX3_isLiked 81 = .ok (.ifCond .ge 7, 3) := by decide +kernel
theorem dX3_isLiked_84 : decode cX3_isLiked 84 = .ok (.iconst 1, 1) := by decide +kernel
theorem dX3_isLiked_85 : decode cX3_isLiked 85 = .ok (.goto 4, 3) := by decide +kernel
theorem dX3_isLiked_88 : decode cX3_isLiked 88 = .ok (.iconst 0, 1) := by decide +kernel
theorem dX3_isLiked_89 : decode cX3_isLiked 89 = .ok (.ireturn, 1) := by decide +kernel
theorem dX3_isLiked_90 : decode cX3_isLiked 90 = .ok (.iload 5, 2) := by decide +kernel
theorem dX3_isLiked_92 : decode cX3_isLiked 92 = .ok (.ifCond .lt 13, 3) := by decide +kernel
theorem dX3_isLiked_95 : decode cX3_isLiked 95 = .ok (.iload 5, 2) := by decide +kernel
theorem dX3_isLiked_97 : decode cX3_isLiked 97 = .ok (.ifCond .ne 12, 3) := by decide +kernel
theorem dX3_isLiked_100 : decode cX3_isLiked 100 = .ok (.iload 4, 2) := by decide +kernel
theorem dX3_isLiked_102 : decode cX3_isLiked 102 = .ok (.ifCond .le 7, 3) := by decide +kernel
theorem dX3_isLiked_105 : decode cX3_isLiked 105 = .ok (.iconst 1, 1) := by decide +kernel
theorem dX3_isLiked_106 : decode cX3_isLiked 106 = .ok (.goto 4, 3) := by decide +kernel
theorem dX3_isLiked_109 : decode cX3_isLiked 109 = .ok (.iconst 0, 1) := by decide +kernel
theorem dX3_isLiked_110 : decode cX3_isLiked 110 = .ok (.ireturn, 1) := by decide +kernel
theorem dX3_isLiked_111 : decode cX3_isLiked 111 = .ok (.iload 5, 2) := by decide +kernel
theorem dX3_isLiked_113 : decode cX3_isLiked 113 = .ok (.ifCond .gt 13, 3) := by decide +kernel
theorem dX3_isLiked_116 : decode cX3_isLiked 116 = .ok (.iload 5, 2) := by decide +kernel
theorem dX3_isLiked_118 : decode cX3_isLiked 118 = .ok (.ifCond .ne 12, 3) := by decide +kernel
theorem dX3_isLiked_121 : decode cX3_isLiked 121 = .ok (.iload 4, 2) := by decide +kernel
theorem dX3_isLiked_123 : decode cX3_isLiked 123 = .ok (.ifCond .ge 7, 3) := by decide +kernel
theorem dX3_isLiked_126 : decode cX3_isLiked 126 = .ok (.iconst 1, 1) := by decide +kernel
theorem dX3_isLiked_127 : decode cX3_isLiked 127 = .ok (.goto 4, 3) := by decide +kernel
theorem dX3_isLiked_130 : decode cX3_isLiked 130 = .ok (.iconst 0, 1) := by decide +kernel
theorem dX3_isLiked_131 : decode cX3_isLiked 131 = .ok (.ireturn, 1) := by decide +kernel
theorem dX3_isLiked_132 : decode cX3_isLiked 132 = .ok (.iconst 0, 1) := by decide +kernel
theorem dX3_isLiked_133 : decode cX3_isLiked 133 = .ok (.ireturn, 1) := by decide +kernel
theorem dX3_findBest_0 : decode cX3_findBest 0 = .ok (.aload_n 0, 1) := by decide +kernel
theorem dX3_findBest_1 : decode cX3_findBest 1 = .ok (.invokevirtual 50, 3) := by decide +kernel
theorem dX3_findBest_4 : decode cX3_findBest 4 = .ok (.aload_n 0, 1) := by decide +kernel
theorem dX3_findBest_5 : decode cX3_findBest 5 = .ok (.getfield 92, 3) := by decide +kernel
theorem dX3_findBest_8 : decode cX3_findBest 8 = .ok (.iconst 2, 1) := by decide +kernel
theorem dX3_findBest_9 : decode cX3_findBest 9 = .ok (.if_icmp .lt 19, 3) := by decide +kernel
theorem dX3_findBest_12 : decode cX3_findBest 12 = .ok (.iload_n 1, 1) := by decide +kernel
theorem dX3_findBest_13 : decode cX3_findBest 13 = .ok (.ifCond .lt 15, 3) := by decide +kernel
theorem dX3_findBest_16 : decode cX3_findBest 16 = .ok (.iload_n 1, 1) := by decide +kernel
theorem dX3_findBest_17 : decode cX3_findBest 17 = .ok (.iconst 5, 1) := by decide +kernel
theorem dX3_findBest_18 : decode cX3_findBest 18 = .ok (.if_icmp .ge 10, 3) := by decide +kernel
theorem dX3_findBest_21 : decode cX3_findBest 21 = .ok (.iload_n 2, 1) := by decide +kernel
theorem dX3_findBest_22 : decode cX3_findBest 22 = .ok (.invokestatic 173, 3) := by decide +kernel
theorem dX3_findBest_25 : decode cX3_findBest 25 = .ok (.ifCond .ne 5, 3) := by decide +kernel
theorem dX3_findBest_28 : decode cX3_findBest 28 = .ok (.iconst (-1), 1) := by decide +kernel
theorem dX3_findBest_29 : decode cX3_findBest 29 = .ok (.ireturn, 1) := by decide +kernel
theorem dX3_findBest_30 : decode cX3_findBest 30 = .ok (.iload_n 2, 1) := by decide +kernel
theorem dX3_findBest_31 : decode cX3_findBest 31 = .ok (.iconst 5, 1) := by decide +kernel
theorem dX3_findBest_32 : decode cX3_findBest 32 = .ok (.imul, 1) := by decide +kernel
theorem dX3_findBest_33 : decode cX3_findBest 33 = .ok (.iload_n 1, 1) := by decide +kernel
theorem dX3_findBest_34 : decode cX3_findBest 34 = .ok (.iadd, 1) := by decide +kernel
theorem dX3_findBest_35 : decode cX3_findBest 35 = .ok (.istore_n 3, 1) := by decide +kernel
theorem dX3_findBest_36 : decode cX3_findBest 36 = .ok (.aload_n 0, 1) := by decide +kernel
theorem dX3_findBest_37 : decode cX3_findBest 37 = .ok (.getfield 39, 3) := by decide +kernel
theorem dX3_findBest_40 : decode cX3_findBest 40 = .ok (.iload_n 3, 1) := by decide +kernel
theorem dX3_findBest_41 : decode cX3_findBest 41 = .ok (.iaload, 1) := by decide +kernel
theorem dX3_findBest_42 : decode cX3_findBest 42 = .ok (.ifCond .ge 88, 3) := by decide +kernel
theorem dX3_findBest_45 : decode cX3_findBest 45 = .ok (.aload_n 0, 1) := by decide +kernel
theorem dX3_findBest_46 : decode cX3_findBest 46 = .ok (.getfield 36, 3) := by decide +kernel
theorem dX3_findBest_49 : decode cX3_findBest 49 = .ok (.iload_n 3, 1) := by decide +kernel
theorem dX3_findBest_50 : decode cX3_findBest 50 = .ok (.iconst 1, 1) := by decide +kernel
theorem dX3_findBest_51 : decode cX3_findBest 51 = .ok (.iastore, 1) := by decide +kernel
theorem dX3_findBest_52 : decode cX3_findBest 52 = .ok (.aload_n 0, 1) := by decide +kernel
theorem dX3_findBest_53 : decode cX3_findBest 53 = .ok (.getfield 39, 3) := by decide +kernel
theorem dX3_findBest_56 : decode cX3_findBest 56 = .ok (.iload_n 3, 1) := by decide +kernel
theorem dX3_findBest_57 : decode cX3_findBest 57 = .ok (.aload_n 0, 1) := by decide +kernel
theorem dX3_findBest_58 : decode cX3_findBest 58 = .ok (.aload_n 0, 1) := by decide +kernel
theorem dX3_findBest_59 : decode cX3_findBest 59 = .ok (.getfield 15, 3) := by decide +kernel
theorem dX3_findBest_62 : decode cX3_findBest 62 = .ok (.iconst 1, 1) := by decide +kernel
theorem dX3_findBest_63 : decode cX3_findBest 63 = .ok (.iaload, 1) := by decide +kernel
theorem dX3_findBest_64 : decode cX3_findBest 64 = .ok (.iload_n 1, 1) := by decide +kernel
theorem dX3_findBest_65 : decode cX3_findBest 65 = .ok (.iload_n 2, 1) := by decide +kernel
theorem dX3_findBest_66 : decode cX3_findBest 66 = .ok (.invokevirtual 79, 3) := by decide +kernel
theorem dX3_findBest_69 : decode cX3_findBest 69 = .ok (.iastore, 1) := by decide +kernel
theorem dX3_findBest_70 : decode cX3_findBest 70 = .ok (.iconst 2, 1) := by decide +kernel
theorem dX3_findBest_71 : decode cX3_findBest 71 = .ok (.istore 4, 2) := by decide +kernel
theorem dX3_findBest_73 : decode cX3_findBest 73 = .ok (.iload 4, 2) := by decide +kernel
theorem dX3_findBest_75 : decode cX3_findBest 75 = .ok (.aload_n 0, 1) := by decide +kernel
theorem dX3_findBest_76 : decode cX3_findBest 76 = .ok (.getfield 92, 3) := by decide +kernel
theorem dX3_findBest_79 : decode cX3_findBest 79 = .ok (.if_icmp .ge 51, 3) := by decide +kernel
theorem dX3_findBest_82 : decode cX3_findBest 82 = .ok (.aload_n 0, 1) := by decide +kernel
theorem dX3_findBest_83 : decode cX3_findBest 83 = .ok (.aload_n 0, 1) := by decide +kernel
theorem dX3_findBest_84 : decode cX3_findBest 84 = .ok (.getfield 15, 3) := by decide +kernel
theorem dX3_findBest_87 : decode cX3_findBest 87 = .ok (.iload 4, 2) := by decide +kernel
theorem dX3_findBest_89 : decode cX3_findBest 89 = .ok (.iaload, 1) := by decide +kernel
theorem dX3_findBest_90 : decode cX3_findBest 90 = .ok (.iload_n 1, 1) := by decide +kernel
theorem dX3_findBest_91 : decode cX3_findBest 91 = .ok (.iload_n 2, 1) := by decide +kernel
theorem dX3_findBest_92 : decode cX3_findBest 92 = .ok (.invokevirtual 79, 3) := by decide +kernel
theorem dX3_findBest_95 : decode cX3_findBest 95 = .ok (.istore 5, 2) := by decide +kernel
theorem dX3_findBest_97 : decode cX3_findBest 97 = .ok (.iload 5, 2) := by decide +kernel
theorem dX3_findBest_99 : decode cX3_findBest 99 = .ok (.aload_n 0, 1) := by decide +kernel
theorem dX3_findBest_100 : decode cX3_findBest 100 = .ok (.getfield 39, 3) := by decide +kernel
theorem dX3_findBest_103 : decode cX3_findBest 103 = .ok (.iload_n 3, 1) := by decide +kernel
theorem dX3_findBest_104 : decode cX3_findBest 104 = .ok (.iaload, 1) := by decide +kernel
theorem dX3_findBest_105 : decode cX3_findBest 105 = .ok (.if_icmp .ge 19, 3) := by decide +kernel
theorem dX3_findBest_108 : decode cX3_findBest 108 = .ok (.aload_n 0, 1) := by decide +kernel
theorem dX3_findBest_109 : decode cX3_findBest 109 = .ok (.getfield 39, 3) := by decide +kernel
theorem dX3_findBest_112 : decode cX3_findBest 112 = .ok (.iload_n 3, 1) := by decide +kernel
theorem dX3_findBest_113 : decode cX3_findBest 113 = .ok (.iload 5, 2) := by decide +kernel
theorem dX3_findBest_115 : decode cX3_findBest 115 = .ok (.iastore, 1) := by decide +kernel
theorem dX3_findBest_116 : decode cX3_findBest 116 = .ok (.aload_n 0, 1) := by decide +kernel
theorem dX3_findBest_117 : decode cX3_findBest 117 = .ok (.getfield 36, 3) := by decide +kernel
theorem dX3_findBest_120 : decode cX3_findBest 120 = .ok (.iload_n 3, 1) := by decide +kernel
theorem dX3_findBest_121 : decode cX3_findBest 121 = .ok (.iload 4, 2) := by decide +kernel
theorem dX3_findBest_123 : decode cX3_findBest 123 = .ok (.iastore, 1) := by decide +kernel
theorem dX3_findBest_124 : decode cX3_findBest 124 = .ok (.iinc 4 1, 3) := by decide +kernel
theorem dX3_findBest_127 : decode cX3_findBest 127 = .ok (.goto (-54), 3) := by decide +kernel
theorem dX3_findBest_130 : decode cX3_findBest 130 = .ok (.iload_n 3, 1) := by decide +kernel
theorem dX3_findBest_131 : decode cX3_findBest 131 = .ok (.ireturn, 1) := by decide +kernel
theorem dX3_forcesAnswer_0 : decode cX3_forcesAnswer 0 = .ok (.aload_n 0, 1) := by decide +kernel
theorem dX3_forcesAnswer_1 : decode cX3_forcesAnswer 1 = .ok (.invokevirtual 176, 3) := by decide +kernel
theorem dX3_forcesAnswer_4 : decode cX3_forcesAnswer 4 = .ok (.istore_n 2, 1) := by decide +kernel
theorem dX3_forcesAnswer_5 : decode cX3_forcesAnswer 5 = .ok (.iconst 0, 1) := by decide +kernel
theorem dX3_forcesAnswer_6 : decode cX3_forcesAnswer 6 = .ok (.istore_n 3, 1) := by decide +kernel
theorem dX3_forcesAnswer_7 : decode cX3_forcesAnswer 7 = .ok (.iconst 0, 1) := by decide +kernel
theorem dX3_forcesAnswer_8 : decode cX3_forcesAnswer 8 = .ok (.istore 4, 2) := by decide +kernel
theorem dX3_forcesAnswer_10 : decode cX3_forcesAnswer 10 = .ok (.iload 4, 2) := by decide +kernel
theorem dX3_forcesAnswer_12 : decode cX3_forcesAnswer 12 = .ok (.aload_n 0, 1) := by decide +kernel
theorem dX3_forcesAnswer_13 : decode cX3_forcesAnswer 13 = .ok (.getfield 66, 3) := by decide +kernel
theorem dX3_forcesAnswer_16 : decode cX3_forcesAnswer 16 = .ok (.if_icmp .ge 49, 3) := by decide +kernel
theorem dX3_forcesAnswer_19 : decode cX3_forcesAnswer 19 = .ok (.aload_n 0, 1) := by decide +kernel
theorem dX3_forcesAnswer_20 : decode cX3_forcesAnswer 20 = .ok (.getfield 15, 3) := by decide +kernel
theorem dX3_forcesAnswer_23 : decode cX3_forcesAnswer 23 = .ok (.aload_n 0, 1) := by decide +kernel
theorem dX3_forcesAnswer_24 : decode cX3_forcesAnswer 24 = .ok (.getfield 30, 3) := by decide +kernel
theorem dX3_forcesAnswer_27 : decode cX3_forcesAnswer 27 = .ok (.iload 4, 2) := by decide +kernel
theorem dX3_forcesAnswer_29 : decode cX3_forcesAnswer 29 = .ok (.iaload, 1) := by decide +kernel
theorem dX3_forcesAnswer_30 : decode cX3_forcesAnswer 30 = .ok (.iaload, 1) := by decide +kernel
theorem dX3_forcesAnswer_31 : decode cX3_forcesAnswer 31 = .ok (.invokestatic 73, 3) := by decide +kernel
theorem dX3_forcesAnswer_34 : decode cX3_forcesAnswer 34 = .ok (.istore 5, 2) := by decide +kernel
theorem dX3_forcesAnswer_36 : decode cX3_forcesAnswer 36 = .ok (.iload 5, 2) := by decide +kernel
theorem dX3_forcesAnswer_38 : decode cX3_forcesAnswer 38 = .ok (.iload_n 2, 1) := by decide +kernel
theorem dX3_forcesAnswer_39 : decode cX3_forcesAnswer 39 = .ok (.iand, 1) := by decide +kernel
theorem dX3_forcesAnswer_40 : decode cX3_forcesAnswer 40 = .ok (.ifCond .eq 19, 3) := by decide +kernel
theorem dX3_forcesAnswer_43 : decode cX3_forcesAnswer 43 = .ok (.iload 5, 2) := by decide +kernel
theorem dX3_forcesAnswer_45 : decode cX3_forcesAnswer 45 = .ok (.iload_n 1, 1) := by decide +kernel
theorem dX3_forcesAnswer_46 : decode cX3_forcesAnswer 46 = .ok (.invokestatic 180, 3) := by decide +kernel
theorem dX3_forcesAnswer_49 : decode cX3_forcesAnswer 49 = .ok (.ifCond .ne 5, 3) := by decide +kernel
theorem dX3_forcesAnswer_52 : decode cX3_forcesAnswer 52 = .ok (.iconst 0, 1) := by decide +kernel
theorem dX3_forcesAnswer_53 : decode cX3_forcesAnswer 53 = .ok (.ireturn, 1) := by decide +kernel
theorem dX3_forcesAnswer_54 : decode cX3_forcesAnswer 54 = .ok (.iload_n 3, 1) := by decide +kernel
theorem dX3_forcesAnswer_55 : decode cX3_forcesAnswer 55 = .ok (.iload 5, 2) := by decide +kernel
theorem dX3_forcesAnswer_57 : decode cX3_forcesAnswer 57 = .ok (.ior, 1) := by decide +kernel
theorem dX3_forcesAnswer_58 : decode cX3_forcesAnswer 58 = .ok (.istore_n 3, 1) := by decide +kernel
theorem dX3_forcesAnswer_59 : decode cX3_forcesAnswer 59 = .ok (.iinc 4 1, 3) := by decide +kernel
theorem dX3_forcesAnswer_62 : decode cX3_forcesAnswer 62 = .ok (.goto (-52), 3) := by decide +kernel
theorem dX3_forcesAnswer_65 : decode cX3_forcesAnswer 65 = .ok (.iload_n 2, 1) := by decide +kernel
theorem dX3_forcesAnswer_66 : decode cX3_forcesAnswer 66 = .ok (.iload_n 3, 1) := by decide +kernel
theorem dX3_forcesAnswer_67 : decode cX3_forcesAnswer 67 = .ok (.iconst (-1), 1) := by decide +kernel
theorem dX3_forcesAnswer_68 : decode cX3_forcesAnswer 68 = .ok (.ixor, 1) := by decide +kernel
theorem dX3_forcesAnswer_69 : decode cX3_forcesAnswer 69 = .ok (.iand, 1) := by decide +kernel
theorem dX3_forcesAnswer_70 : decode cX3_forcesAnswer 70 = .ok (.ifCond .ne 7, 3) := by decide +kernel
theorem dX3_forcesAnswer_73 : decode cX3_forcesAnswer 73 = .ok (.iconst 1, 1) := by decide +kernel
theorem dX3_forcesAnswer_74 : decode cX3_forcesAnswer 74 = .ok (.goto 4, 3) := by decide +kernel
theorem dX3_forcesAnswer_77 : decode cX3_forcesAnswer 77 = .ok (.iconst 0, 1) := by decide +kernel
theorem dX3_forcesAnswer_78 : decode cX3_forcesAnswer 78 = .ok (.ireturn, 1) := by decide +kernel
theorem dX3_casesWithWeight_0 : decode cX3_casesWithWeight 0 = .ok (.iconst 0, 1) := by decide +kernel
theorem dX3_casesWithWeight_1 : decode cX3_casesWithWeight 1 = .ok (.istore_n 1, 1) := by decide +kernel
theorem dX3_casesWithWeight_2 : decode cX3_casesWithWeight 2 = .ok (.iconst 0, 1) := by decide +kernel
theorem dX3_casesWithWeight_3 : decode cX3_casesWithWeight 3 = .ok (.istore_n 2, 1) := by decide +kernel
theorem dX3_casesWithWeight_4 : decode cX3_casesWithWeight 4 = .ok (.iload_n 2, 1) := by decide +kernel
theorem dX3_casesWithWeight_5 : decode cX3_casesWithWeight 5 = .ok (.bipush 8, 2) := by decide +kernel
theorem dX3_casesWithWeight_7 : decode cX3_casesWithWeight 7 = .ok (.if_icmp .ge 27, 3) := by decide +kernel
theorem dX3_casesWithWeight_10 : decode cX3_casesWithWeight 10 = .ok (.aload_n 0, 1) := by decide +kernel
theorem dX3_casesWithWeight_11 : decode cX3_casesWithWeight 11 = .ok (.getfield 42, 3) := by decide +kernel
theorem dX3_casesWithWeight_14 : decode cX3_casesWithWeight 14 = .ok (.getfield 86, 3) := by decide +kernel
theorem dX3_casesWithWeight_17 : decode cX3_casesWithWeight 17 = .ok (.iload_n 2, 1) := by decide +kernel
theorem dX3_casesWithWeight_18 : decode cX3_casesWithWeight 18 = .ok (.iaload, 1) := by decide +kernel
theorem dX3_casesWithWeight_19 : decode cX3_casesWithWeight 19 = .ok (.ifCond .le 9, 3) := by decide +kernel
theorem dX3_casesWithWeight_22 : decode cX3_casesWithWeight 22 = .ok (.iload_n 1, 1) := by decide +kernel
theorem dX3_casesWithWeight_23 : decode cX3_casesWithWeight 23 = .ok (.iconst 1, 1) := by decide +kernel
theorem dX3_casesWithWeight_24 : decode cX3_casesWithWeight 24 = .ok (.iload_n 2, 1) := by decide +kernel
theorem dX3_casesWithWeight_25 : decode cX3_casesWithWeight 25 = .ok (.ishl, 1) := by decide +kernel
theorem dX3_casesWithWeight_26 : decode cX3_casesWithWeight 26 = .ok (.ior, 1) := by decide +kernel
theorem dX3_casesWithWeight_27 : decode cX3_casesWithWeight 27 = .ok (.istore_n 1, 1) := by decide +kernel
theorem dX3_casesWithWeight_28 : decode cX3_casesWithWeight 28 = .ok (.iinc 2 1, 3) := by decide +kernel
theorem dX3_casesWithWeight_31 : decode cX3_casesWithWeight 31 = .ok (.goto (-27), 3) := by decide +kernel
theorem dX3_casesWithWeight_34 : decode cX3_casesWithWeight 34 = .ok (.iload_n 1, 1) := by decide +kernel
theorem dX3_casesWithWeight_35 : decode cX3_casesWithWeight 35 = .ok (.ireturn, 1) := by decide +kernel
theorem dX4_meaning_0 : decode cX4_meaning 0 = .ok (.iload_n 0, 1) := by decide +kernel
theorem dX4_meaning_1 : decode cX4_meaning 1 = .ok (.sipush 255, 3) := by decide +kernel
theorem dX4_meaning_4 : decode cX4_meaning 4 = .ok (.iand, 1) := by decide +kernel
theorem dX4_meaning_5 : decode cX4_meaning 5 = .ok (.ireturn, 1) := by decide +kernel
theorem dX4_idles_0 : decode cX4_idles 0 = .ok (.iload_n 0, 1) := by decide +kernel
theorem dX4_idles_1 : decode cX4_idles 1 = .ok (.bipush 11, 2) := by decide +kernel
theorem dX4_idles_3 : decode cX4_idles 3 = .ok (.ishr, 1) := by decide +kernel
theorem dX4_idles_4 : decode cX4_idles 4 = .ok (.bipush 7, 2) := by decide +kernel
theorem dX4_idles_6 : decode cX4_idles 6 = .ok (.iand, 1) := by decide +kernel
theorem dX4_idles_7 : decode cX4_idles 7 = .ok (.ireturn, 1) := by decide +kernel
theorem dX4_length_0 : decode cX4_length 0 = .ok (.iload_n 0, 1) := by decide +kernel
theorem dX4_length_1 : decode cX4_length 1 = .ok (.bipush 14, 2) := by decide +kernel
theorem dX4_length_3 : decode cX4_length 3 = .ok (.ishr, 1) := by decide +kernel
theorem dX4_length_4 : decode cX4_length 4 = .ok (.bipush 7, 2) := by decide +kernel
theorem dX4_length_6 : decode cX4_length 6 = .ok (.iand, 1) := by decide +kernel
theorem dX4_length_7 : decode cX4_length 7 = .ok (.ireturn, 1) := by decide +kernel
theorem dX4_ofLength_0 : decode cX4_ofLength 0 = .ok (.sipush 255, 3) := by decide +kernel
theorem dX4_ofLength_3 : decode cX4_ofLength 3 = .ok (.iload_n 1, 1) := by decide +kernel
theorem dX4_ofLength_4 : decode cX4_ofLength 4 = .ok (.bipush 11, 2) := by decide +kernel
theorem dX4_ofLength_6 : decode cX4_ofLength 6 = .ok (.ishl, 1) := by decide +kernel
theorem dX4_ofLength_7 : decode cX4_ofLength 7 = .ok (.ior, 1) := by decide +kernel
theorem dX4_ofLength_8 : decode cX4_ofLength 8 = .ok (.iload_n 0, 1) := by decide +kernel
theorem dX4_ofLength_9 : decode cX4_ofLength 9 = .ok (.bipush 14, 2) := by decide +kernel
theorem dX4_ofLength_11 : decode cX4_ofLength 11 = .ok (.ishl, 1) := by decide +kernel
theorem dX4_ofLength_12 : decode cX4_ofLength 12 = .ok (.ior, 1) := by decide +kernel
theorem dX4_ofLength_13 : decode cX4_ofLength 13 = .ok (.ireturn, 1) := by decide +kernel
theorem dX4_grown_0 : decode cX4_grown 0 = .ok (.iload_n 0, 1) := by decide +kernel
theorem dX4_grown_1 : decode cX4_grown 1 = .ok (.sipush 16384, 3) := by decide +kernel
theorem dX4_grown_4 : decode cX4_grown 4 = .ok (.iadd, 1) := by decide +kernel
theorem dX4_grown_5 : decode cX4_grown 5 = .ok (.istore_n 3, 1) := by decide +kernel
theorem dX4_grown_6 : decode cX4_grown 6 = .ok (.iload_n 1, 1) := by decide +kernel
theorem dX4_grown_7 : decode cX4_grown 7 = .ok (.tableswitch 55 1 3 #[25, 31, 49], 25) := by decide +kernel
theorem dX4_grown_32 : decode cX4_grown 32 = .ok (.iload_n 3, 1) := by decide +kernel
theorem dX4_grown_33 : decode cX4_grown 33 = .ok (.sipush 256, 3) := by decide +kernel
theorem dX4_grown_36 : decode cX4_grown 36 = .ok (.ixor, 1) := by decide +kernel
theorem dX4_grown_37 : decode cX4_grown 37 = .ok (.ireturn, 1) := by decide +kernel
theorem dX4_grown_38 : decode cX4_grown 38 = .ok (.iload_n 3, 1) := by decide +kernel
theorem dX4_grown_39 : decode cX4_grown 39 = .ok (.sipush 1024, 3) := by decide +kernel
theorem dX4_grown_42 : decode cX4_grown 42 = .ok (.iand, 1) := by decide +kernel
theorem dX4_grown_43 : decode cX4_grown 43 = .ok (.ifCond .ne 7, 3) := by decide +kernel
theorem dX4_grown_46 : decode cX4_grown 46 = .ok (.iload_n 3, 1) := by decide +kernel
theorem dX4_grown_47 : decode cX4_grown 47 = .ok (.goto 8, 3) := by decide +kernel
theorem dX4_grown_50 : decode cX4_grown 50 = .ok (.iload_n 3, 1) := by decide +kernel
theorem dX4_grown_51 : decode cX4_grown 51 = .ok (.sipush 512, 3) := by decide +kernel
theorem dX4_grown_54 : decode cX4_grown 54 = .ok (.ior, 1) := by decide +kernel
theorem dX4_grown_55 : decode cX4_grown 55 = .ok (.ireturn, 1) := by decide +kernel
theorem dX4_grown_56 : decode cX4_grown 56 = .ok (.iload_n 3, 1) := by decide +kernel
theorem dX4_grown_57 : decode cX4_grown 57 = .ok (.sipush 2048, 3) := by decide +kernel
theorem dX4_grown_60 : decode cX4_grown 60 = .ok (.iadd, 1) := by decide +kernel
theorem dX4_grown_61 : decode cX4_grown 61 = .ok (.ireturn, 1) := by decide +kernel
theorem dX4_grown_62 : decode cX4_grown 62 = .ok (.iload_n 3, 1) := by decide +kernel
theorem dX4_grown_63 : decode cX4_grown 63 = .ok (.iload_n 2, 1) := by decide +kernel
theorem dX4_grown_64 : decode cX4_grown 64 = .ok (.invokestatic 11, 3) := by decide +kernel
theorem dX4_grown_67 : decode cX4_grown 67 = .ok (.ireturn, 1) := by decide +kernel
theorem dX4_withTelling_0 : decode cX4_withTelling 0 = .ok (.iload_n 0, 1) := by decide +kernel
theorem dX4_withTelling_1 : decode cX4_withTelling 1 = .ok (.sipush 256, 3) := by decide +kernel
theorem dX4_withTelling_4 : decode cX4_withTelling 4 = .ok (.iand, 1) := by decide +kernel
theorem dX4_withTelling_5 : decode cX4_withTelling 5 = .ok (.ifCond .ne 7, 3) := by decide +kernel
theorem dX4_withTelling_8 : decode cX4_withTelling 8 = .ok (.iload_n 1, 1) := by decide +kernel
theorem dX4_withTelling_9 : decode cX4_withTelling 9 = .ok (.goto 10, 3) := by decide +kernel
theorem dX4_withTelling_12 : decode cX4_withTelling 12 = .ok (.sipush 255, 3) := by decide +kernel
theorem dX4_withTelling_15 : decode cX4_withTelling 15 = .ok (.iload_n 1, 1) := by decide +kernel
theorem dX4_withTelling_16 : decode cX4_withTelling 16 = .ok (.iconst (-1), 1) := by decide +kernel
theorem dX4_withTelling_17 : decode cX4_withTelling 17 = .ok (.ixor, 1) := by decide +kernel
theorem dX4_withTelling_18 : decode cX4_withTelling 18 = .ok (.iand, 1) := by decide +kernel
theorem dX4_withTelling_19 : decode cX4_withTelling 19 = .ok (.istore_n 2, 1) := by decide +kernel
theorem dX4_withTelling_20 : decode cX4_withTelling 20 = .ok (.iload_n 0, 1) := by decide +kernel
theorem dX4_withTelling_21 : decode cX4_withTelling 21 = .ok (.sipush 255, 3) := by decide +kernel
theorem dX4_withTelling_24 : decode cX4_withTelling 24 = .ok (.iand, 1) := by decide +kernel
theorem dX4_withTelling_25 : decode cX4_withTelling 25 = .ok (.istore_n 3, 1) := by decide +kernel
theorem dX4_withTelling_26 : decode cX4_withTelling 26 = .ok (.iload_n 0, 1) := by decide +kernel
theorem dX4_withTelling_27 : decode cX4_withTelling 27 = .ok (.sipush 512, 3) := by decide +kernel
theorem dX4_withTelling_30 : decode cX4_withTelling 30 = .ok (.iand, 1) := by decide +kernel
theorem dX4_withTelling_31 : decode cX4_withTelling 31 = .ok (.ifCond .ne 9, 3) := by decide +kernel
theorem dX4_withTelling_34 : decode cX4_withTelling 34 = .ok (.iload_n 3, 1) := by decide +kernel
theorem dX4_withTelling_35 : decode cX4_withTelling 35 = .ok (.iload_n 2, 1) := by decide +kernel
theorem dX4_withTelling_36 : decode cX4_withTelling 36 = .ok (.iand, 1) := by decide +kernel
theorem dX4_withTelling_37 : decode cX4_withTelling 37 = .ok (.goto 6, 3) := by decide +kernel
theorem dX4_withTelling_40 : decode cX4_withTelling 40 = .ok (.iload_n 3, 1) := by decide +kernel
theorem dX4_withTelling_41 : decode cX4_withTelling 41 = .ok (.iload_n 2, 1) := by decide +kernel
theorem dX4_withTelling_42 : decode cX4_withTelling 42 = .ok (.ior, 1) := by decide +kernel
theorem dX4_withTelling_43 : decode cX4_withTelling 43 = .ok (.istore 4, 2) := by decide +kernel
theorem dX4_withTelling_45 : decode cX4_withTelling 45 = .ok (.iload_n 0, 1) := by decide +kernel
theorem dX4_withTelling_46 : decode cX4_withTelling 46 = .ok (.ldc 15, 2) := by decide +kernel
theorem dX4_withTelling_48 : decode cX4_withTelling 48 = .ok (.iand, 1) := by decide +kernel
theorem dX4_withTelling_49 : decode cX4_withTelling 49 = .ok (.sipush 1024, 3) := by decide +kernel
theorem dX4_withTelling_52 : decode cX4_withTelling 52 = .ok (.ior, 1) := by decide +kernel
theorem dX4_withTelling_53 : decode cX4_withTelling 53 = .ok (.iload 4, 2) := by decide +kernel
theorem dX4_withTelling_55 : decode cX4_withTelling 55 = .ok (.ior, 1) := by decide +kernel
theorem dX4_withTelling_56 : decode cX4_withTelling 56 = .ok (.ireturn, 1) := by decide +kernel
theorem dX5_init_0 : decode cX5_init 0 = .ok (.aload_n 0, 1) := by decide +kernel
theorem dX5_init_1 : decode cX5_init 1 = .ok (.invokespecial 3, 3) := by decide +kernel
theorem dX5_init_4 : decode cX5_init 4 = .ok (.aload_n 0, 1) := by decide +kernel
theorem dX5_init_5 : decode cX5_init 5 = .ok (.bipush 12, 2) := by decide +kernel
theorem dX5_init_7 : decode cX5_init 7 = .ok (.newarray .int, 2) := by decide +kernel
theorem dX5_init_9 : decode cX5_init 9 = .ok (.putfield 9, 3) := by decide +kernel
theorem dX5_init_12 : decode cX5_init 12 = .ok (.return_, 1) := by decide +kernel
theorem dX5_add_0 : decode cX5_add 0 = .ok (.aload_n 0, 1) := by decide +kernel
theorem dX5_add_1 : decode cX5_add 1 = .ok (.getfield 15, 3) := by decide +kernel
theorem dX5_add_4 : decode cX5_add 4 = .ok (.bipush 12, 2) := by decide +kernel
theorem dX5_add_6 : decode cX5_add 6 = .ok (.if_icmp .ge 23, 3) := by decide +kernel
theorem dX5_add_9 : decode cX5_add 9 = .ok (.aload_n 0, 1) := by decide +kernel
theorem dX5_add_10 : decode cX5_add 10 = .ok (.getfield 9, 3) := by decide +kernel
theorem dX5_add_13 : decode cX5_add 13 = .ok (.aload_n 0, 1) := by decide +kernel
theorem dX5_add_14 : decode cX5_add 14 = .ok (.getfield 15, 3) := by decide +kernel
theorem dX5_add_17 : decode cX5_add 17 = .ok (.iload_n 1, 1) := by decide +kernel
theorem dX5_add_18 : decode cX5_add 18 = .ok (.iastore, 1) := by decide +kernel
theorem dX5_add_19 : decode cX5_add 19 = .ok (.aload_n 0, 1) := by decide +kernel
theorem dX5_add_20 : decode cX5_add 20 = .ok (.dup, 1) := by decide +kernel
theorem dX5_add_21 : decode cX5_add 21 = .ok (.getfield 15, 3) := by decide +kernel
theorem dX5_add_24 : decode cX5_add 24 = .ok (.iconst 1, 1) := by decide +kernel
theorem dX5_add_25 : decode cX5_add 25 = .ok (.iadd, 1) := by decide +kernel
theorem dX5_add_26 : decode cX5_add 26 = .ok (.putfield 15, 3) := by decide +kernel
theorem dX5_add_29 : decode cX5_add 29 = .ok (.return_, 1) := by decide +kernel
theorem dX5_latest_0 : decode cX5_latest 0 = .ok (.aload_n 0, 1) := by decide +kernel
theorem dX5_latest_1 : decode cX5_latest 1 = .ok (.getfield 15, 3) := by decide +kernel
theorem dX5_latest_4 : decode cX5_latest 4 = .ok (.ifCond .le 26, 3) := by decide +kernel
theorem dX5_latest_7 : decode cX5_latest 7 = .ok (.aload_n 0, 1) := by decide +kernel
theorem dX5_latest_8 : decode cX5_latest 8 = .ok (.getfield 15, 3) := by decide +kernel
theorem dX5_latest_11 : decode cX5_latest 11 = .ok (.bipush 12, 2) := by decide +kernel
theorem dX5_latest_13 : decode cX5_latest 13 = .ok (.if_icmp .gt 17, 3) := by decide +kernel
theorem dX5_latest_16 : decode cX5_latest 16 = .ok (.aload_n 0, 1) := by decide +kernel
theorem dX5_latest_17 : decode cX5_latest 17 = .ok (.getfield 9, 3) := by decide +kernel
theorem dX5_latest_20 : decode cX5_latest 20 = .ok (.aload_n 0, 1) := by decide +kernel
theorem dX5_latest_21 : decode cX5_latest 21 = .ok (.getfield 15, 3) := by decide +kernel
theorem dX5_latest_24 : decode cX5_latest 24 = .ok (.iconst 1, 1) := by decide +kernel
theorem dX5_latest_25 : decode cX5_latest 25 = .ok (.isub, 1) := by decide +kernel
theorem dX5_latest_26 : decode cX5_latest 26 = .ok (.iaload, 1) := by decide +kernel
theorem dX5_latest_27 : decode cX5_latest 27 = .ok (.goto 6, 3) := by decide +kernel
theorem dX5_latest_30 : decode cX5_latest 30 = .ok (.sipush 255, 3) := by decide +kernel
theorem dX5_latest_33 : decode cX5_latest 33 = .ok (.ireturn, 1) := by decide +kernel
theorem dX5_meaningOfAnswers_0 : decode cX5_meaningOfAnswers 0 = .ok (.sipush 255, 3) := by decide +kernel
theorem dX5_meaningOfAnswers_3 : decode cX5_meaningOfAnswers 3 = .ok (.istore_n 1, 1) := by decide +kernel
theorem dX5_meaningOfAnswers_4 : decode cX5_meaningOfAnswers 4 = .ok (.iconst 1, 1) := by decide +kernel
theorem dX5_meaningOfAnswers_5 : decode cX5_meaningOfAnswers 5 = .ok (.istore_n 2, 1) := by decide +kernel
theorem dX5_meaningOfAnswers_6 : decode cX5_meaningOfAnswers 6 = .ok (.iload_n 2, 1) := by decide +kernel
theorem dX5_meaningOfAnswers_7 : decode cX5_meaningOfAnswers 7 = .ok (.aload_n 0, 1) := by decide +kernel
theorem dX5_meaningOfAnswers_8 : decode cX5_meaningOfAnswers 8 = .ok (.getfield 15, 3) := by decide +kernel
theorem dX5_meaningOfAnswers_11 : decode cX5_meaningOfAnswers 11 = .ok (.if_icmp .ge 27, 3) := by decide +kernel
theorem dX5_meaningOfAnswers_14 : decode cX5_meaningOfAnswers 14 = .ok (.iload_n 2, 1) := by decide +kernel
theorem dX5_meaningOfAnswers_15 : decode cX5_meaningOfAnswers 15 = .ok (.bipush 12, 2) := by decide +kernel
theorem dX5_meaningOfAnswers_17 : decode cX5_meaningOfAnswers 17 = .ok (.if_icmp .ge 21, 3) := by decide +kernel
theorem dX5_meaningOfAnswers_20 : decode cX5_meaningOfAnswers 20 = .ok (.iload_n 1, 1) := by decide +kernel
theorem dX5_meaningOfAnswers_21 : decode cX5_meaningOfAnswers 21 = .ok (.aload_n 0, 1) := by decide +kernel
theorem dX5_meaningOfAnswers_22 : decode cX5_meaningOfAnswers 22 = .ok (.getfield 9, 3) := by decide +kernel
theorem dX5_meaningOfAnswers_25 : decode cX5_meaningOfAnswers 25 = .ok (.iload_n 2, 1) := by decide +kernel
theorem dX5_meaningOfAnswers_26 : decode cX5_meaningOfAnswers 26 = .ok (.iaload, 1) := by decide +kernel
theorem dX5_meaningOfAnswers_27 : decode cX5_meaningOfAnswers 27 = .ok (.invokestatic 21, 3) := by decide +kernel
theorem dX5_meaningOfAnswers_30 : decode cX5_meaningOfAnswers 30 = .ok (.iand, 1) := by decide +kernel
theorem dX5_meaningOfAnswers_31 : decode cX5_meaningOfAnswers 31 = .ok (.istore_n 1, 1) := by decide +kernel
theorem dX5_meaningOfAnswers_32 : decode cX5_meaningOfAnswers 32 = .ok (.iinc 2 2, 3) := by decide +kernel
theorem dX5_meaningOfAnswers_35 : decode cX5_meaningOfAnswers 35 = .ok (.goto (-29), 3) := by decide +kernel
theorem dX5_meaningOfAnswers_38 : decode cX5_meaningOfAnswers 38 = .ok (.iload_n 1, 1) := by decide +kernel
theorem dX5_meaningOfAnswers_39 : decode cX5_meaningOfAnswers 39 = .ok (.ireturn, 1) := by decide +kernel
theorem dX5_copyFrom_0 : decode cX5_copyFrom 0 = .ok (.aload_n 1, 1) := by decide +kernel
theorem dX5_copyFrom_1 : decode cX5_copyFrom 1 = .ok (.getfield 9, 3) := by decide +kernel
theorem dX5_copyFrom_4 : decode cX5_copyFrom 4 = .ok (.iconst 0, 1) := by decide +kernel
theorem dX5_copyFrom_5 : decode cX5_copyFrom 5 = .ok (.aload_n 0, 1) := by decide +kernel
theorem dX5_copyFrom_6 : decode cX5_copyFrom 6 = .ok (.getfield 9, 3) := by decide +kernel
theorem dX5_copyFrom_9 : decode cX5_copyFrom 9 = .ok (.iconst 0, 1) := by decide +kernel
theorem dX5_copyFrom_10 : decode cX5_copyFrom 10 = .ok (.bipush 12, 2) := by decide +kernel
theorem dX5_copyFrom_12 : decode cX5_copyFrom 12 = .ok (.invokestatic 25, 3) := by decide +kernel
theorem dX5_copyFrom_15 : decode cX5_copyFrom 15 = .ok (.aload_n 0, 1) := by decide +kernel
theorem dX5_copyFrom_16 : decode cX5_copyFrom 16 = .ok (.aload_n 1, 1) := by decide +kernel
theorem dX5_copyFrom_17 : decode cX5_copyFrom 17 = .ok (.getfield 15, 3) := by decide +kernel
theorem dX5_copyFrom_20 : decode cX5_copyFrom 20 = .ok (.putfield 15, 3) := by decide +kernel
theorem dX5_copyFrom_23 : decode cX5_copyFrom 23 = .ok (.return_, 1) := by decide +kernel
theorem dX6_init_0 : decode cX6_init 0 = .ok (.aload_n 0, 1) := by decide +kernel
theorem dX6_init_1 : decode cX6_init 1 = .ok (.invokespecial 3, 3) := by decide +kernel
theorem dX6_init_4 : decode cX6_init 4 = .ok (.aload_n 0, 1) := by decide +kernel
theorem dX6_init_5 : decode cX6_init 5 = .ok (.bipush 8, 2) := by decide +kernel
theorem dX6_init_7 : decode cX6_init 7 = .ok (.newarray .int, 2) := by decide +kernel
theorem dX6_init_9 : decode cX6_init 9 = .ok (.putfield 9, 3) := by decide +kernel
theorem dX6_init_12 : decode cX6_init 12 = .ok (.aload_n 0, 1) := by decide +kernel
theorem dX6_init_13 : decode cX6_init 13 = .ok (.bipush 8, 2) := by decide +kernel
theorem dX6_init_15 : decode cX6_init 15 = .ok (.newarray .int, 2) := by decide +kernel
theorem dX6_init_17 : decode cX6_init 17 = .ok (.putfield 15, 3) := by decide +kernel
theorem dX6_init_20 : decode cX6_init 20 = .ok (.aload_n 0, 1) := by decide +kernel
theorem dX6_init_21 : decode cX6_init 21 = .ok (.bipush 8, 2) := by decide +kernel
theorem dX6_init_23 : decode cX6_init 23 = .ok (.newarray .int, 2) := by decide +kernel
theorem dX6_init_25 : decode cX6_init 25 = .ok (.dup, 1) := by decide +kernel
theorem dX6_init_26 : decode cX6_init 26 = .ok (.iconst 0, 1) := by decide +kernel
theorem dX6_init_27 : decode cX6_init 27 = .ok (.iconst 1, 1) := by decide +kernel
theorem dX6_init_28 : decode cX6_init 28 = .ok (.iastore, 1) := by decide +kernel
theorem dX6_init_29 : decode cX6_init 29 = .ok (.dup, 1) := by decide +kernel
theorem dX6_init_30 : decode cX6_init 30 = .ok (.iconst 1, 1) := by decide +kernel
theorem dX6_init_31 : decode cX6_init 31 = .ok (.iconst 1, 1) := by decide +kernel
theorem dX6_init_32 : decode cX6_init 32 = .ok (.iastore, 1) := by decide +kernel
theorem dX6_init_33 : decode cX6_init 33 = .ok (.dup, 1) := by decide +kernel
theorem dX6_init_34 : decode cX6_init 34 = .ok (.iconst 2, 1) := by decide +kernel
theorem dX6_init_35 : decode cX6_init 35 = .ok (.iconst 1, 1) := by decide +kernel
theorem dX6_init_36 : decode cX6_init 36 = .ok (.iastore, 1) := by decide +kernel
theorem dX6_init_37 : decode cX6_init 37 = .ok (.dup, 1) := by decide +kernel
theorem dX6_init_38 : decode cX6_init 38 = .ok (.iconst 3, 1) := by decide +kernel
theorem dX6_init_39 : decode cX6_init 39 = .ok (.iconst 1, 1) := by decide +kernel
theorem dX6_init_40 : decode cX6_init 40 = .ok (.iastore, 1) := by decide +kernel
theorem dX6_init_41 : decode cX6_init 41 = .ok (.dup, 1) := by decide +kernel
theorem dX6_init_42 : decode cX6_init 42 = .ok (.iconst 4, 1) := by decide +kernel
theorem dX6_init_43 : decode cX6_init 43 = .ok (.iconst 1, 1) := by decide +kernel
theorem dX6_init_44 : decode cX6_init 44 = .ok (.iastore, 1) := by decide +kernel
theorem dX6_init_45 : decode cX6_init 45 = .ok (.dup, 1) := by decide +kernel
theorem dX6_init_46 : decode cX6_init 46 = .ok (.iconst 5, 1) := by decide +kernel
theorem dX6_init_47 : decode cX6_init 47 = .ok (.iconst 1, 1) := by decide +kernel
theorem dX6_init_48 : decode cX6_init 48 = .ok (.iastore, 1) := by decide +kernel
theorem dX6_init_49 : decode cX6_init 49 = .ok (.dup, 1) := by decide +kernel
theorem dX6_init_50 : decode cX6_init 50 = .ok (.bipush 6, 2) := by decide +kernel
theorem dX6_init_52 : decode cX6_init 52 = .ok (.iconst 1, 1) := by decide +kernel
theorem dX6_init_53 : decode cX6_init 53 = .ok (.iastore, 1) := by decide +kernel
theorem dX6_init_54 : decode cX6_init 54 = .ok (.dup, 1) := by decide +kernel
theorem dX6_init_55 : decode cX6_init 55 = .ok (.bipush 7, 2) := by decide +kernel
theorem dX6_init_57 : decode cX6_init 57 = .ok (.iconst 1, 1) := by decide +kernel
theorem dX6_init_58 : decode cX6_init 58 = .ok (.iastore, 1) := by decide +kernel
theorem dX6_init_59 : decode cX6_init 59 = .ok (.putfield 18, 3) := by decide +kernel
theorem dX6_init_62 : decode cX6_init 62 = .ok (.aload_n 0, 1) := by decide +kernel
theorem dX6_init_63 : decode cX6_init 63 = .ok (.iconst 4, 1) := by decide +kernel
theorem dX6_init_64 : decode cX6_init 64 = .ok (.newarray .int, 2) := by decide +kernel
theorem dX6_init_66 : decode cX6_init 66 = .ok (.putfield 21, 3) := by decide +kernel
theorem dX6_init_69 : decode cX6_init 69 = .ok (.return_, 1) := by decide +kernel
theorem dX6_copyFrom_0 : decode cX6_copyFrom 0 = .ok (.aload_n 1, 1) := by decide +kernel
theorem dX6_copyFrom_1 : decode cX6_copyFrom 1 = .ok (.getfield 9, 3) := by decide +kernel
theorem dX6_copyFrom_4 : decode cX6_copyFrom 4 = .ok (.iconst 0, 1) := by decide +kernel
theorem dX6_copyFrom_5 : decode cX6_copyFrom 5 = .ok (.aload_n 0, 1) := by decide +kernel
theorem dX6_copyFrom_6 : decode cX6_copyFrom 6 = .ok (.getfield 9, 3) := by decide +kernel
theorem dX6_copyFrom_9 : decode cX6_copyFrom 9 = .ok (.iconst 0, 1) := by decide +kernel
theorem dX6_copyFrom_10 : decode cX6_copyFrom 10 = .ok (.bipush 8, 2) := by decide +kernel
theorem dX6_copyFrom_12 : decode cX6_copyFrom 12 = .ok (.invokestatic 24, 3) := by decide +kernel
theorem dX6_copyFrom_15 : decode cX6_copyFrom 15 = .ok (.aload_n 1, 1) := by decide +kernel
theorem dX6_copyFrom_16 : decode cX6_copyFrom 16 = .ok (.getfield 15, 3) := by decide +kernel
theorem dX6_copyFrom_19 : decode cX6_copyFrom 19 = .ok (.iconst 0, 1) := by decide +kernel
theorem dX6_copyFrom_20 : decode cX6_copyFrom 20 = .ok (.aload_n 0, 1) := by decide +kernel
theorem dX6_copyFrom_21 : decode cX6_copyFrom 21 = .ok (.getfield 15, 3) := by decide +kernel
theorem dX6_copyFrom_24 : decode cX6_copyFrom 24 = .ok (.iconst 0, 1) := by decide +kernel
theorem dX6_copyFrom_25 : decode cX6_copyFrom 25 = .ok (.bipush 8, 2) := by decide +kernel
theorem dX6_copyFrom_27 : decode cX6_copyFrom 27 = .ok (.invokestatic 24, 3) := by decide +kernel
theorem dX6_copyFrom_30 : decode cX6_copyFrom 30 = .ok (.aload_n 1, 1) := by decide +kernel
theorem dX6_copyFrom_31 : decode cX6_copyFrom 31 = .ok (.getfield 18, 3) := by decide +kernel
theorem dX6_copyFrom_34 : decode cX6_copyFrom 34 = .ok (.iconst 0, 1) := by decide +kernel
theorem dX6_copyFrom_35 : decode cX6_copyFrom 35 = .ok (.aload_n 0, 1) := by decide +kernel
theorem dX6_copyFrom_36 : decode cX6_copyFrom 36 = .ok (.getfield 18, 3) := by decide +kernel
theorem dX6_copyFrom_39 : decode cX6_copyFrom 39 = .ok (.iconst 0, 1) := by decide +kernel
theorem dX6_copyFrom_40 : decode cX6_copyFrom 40 = .ok (.bipush 8, 2) := by decide +kernel
theorem dX6_copyFrom_42 : decode cX6_copyFrom 42 = .ok (.invokestatic 24, 3) := by decide +kernel
theorem dX6_copyFrom_45 : decode cX6_copyFrom 45 = .ok (.aload_n 1, 1) := by decide +kernel
theorem dX6_copyFrom_46 : decode cX6_copyFrom 46 = .ok (.getfield 21, 3) := by decide +kernel
theorem dX6_copyFrom_49 : decode cX6_copyFrom 49 = .ok (.iconst 0, 1) := by decide +kernel
theorem dX6_copyFrom_50 : decode cX6_copyFrom 50 = .ok (.aload_n 0, 1) := by decide +kernel
theorem dX6_copyFrom_51 : decode cX6_copyFrom 51 = .ok (.getfield 21, 3) := by decide +kernel
theorem dX6_copyFrom_54 : decode cX6_copyFrom 54 = .ok (.iconst 0, 1) := by decide +kernel
theorem dX6_copyFrom_55 : decode cX6_copyFrom 55 = .ok (.iconst 4, 1) := by decide +kernel
theorem dX6_copyFrom_56 : decode cX6_copyFrom 56 = .ok (.invokestatic 24, 3) := by decide +kernel
theorem dX6_copyFrom_59 : decode cX6_copyFrom 59 = .ok (.aload_n 0, 1) := by decide +kernel
theorem dX6_copyFrom_60 : decode cX6_copyFrom 60 = .ok (.aload_n 1, 1) := by decide +kernel
theorem dX6_copyFrom_61 : decode cX6_copyFrom 61 = .ok (.getfield 30, 3) := by decide +kernel
theorem dX6_copyFrom_64 : decode cX6_copyFrom 64 = .ok (.putfield 30, 3) := by decide +kernel
theorem dX6_copyFrom_67 : decode cX6_copyFrom 67 = .ok (.aload_n 0, 1) := by decide +kernel
theorem dX6_copyFrom_68 : decode cX6_copyFrom 68 = .ok (.aload_n 1, 1) := by decide +kernel
theorem dX6_copyFrom_69 : decode cX6_copyFrom 69 = .ok (.getfield 34, 3) := by decide +kernel
theorem dX6_copyFrom_72 : decode cX6_copyFrom 72 = .ok (.putfield 34, 3) := by decide +kernel
theorem dX6_copyFrom_75 : decode cX6_copyFrom 75 = .ok (.aload_n 0, 1) := by decide +kernel
theorem dX6_copyFrom_76 : decode cX6_copyFrom 76 = .ok (.aload_n 1, 1) := by decide +kernel
theorem dX6_copyFrom_77 : decode cX6_copyFrom 77 = .ok (.getfield 37, 3) := by decide +kernel
theorem dX6_copyFrom_80 : decode cX6_copyFrom 80 = .ok (.putfield 37, 3) := by decide +kernel
theorem dX6_copyFrom_83 : decode cX6_copyFrom 83 = .ok (.aload_n 0, 1) := by decide +kernel
theorem dX6_copyFrom_84 : decode cX6_copyFrom 84 = .ok (.aload_n 1, 1) := by decide +kernel
theorem dX6_copyFrom_85 : decode cX6_copyFrom 85 = .ok (.getfield 40, 3) := by decide +kernel
theorem dX6_copyFrom_88 : decode cX6_copyFrom 88 = .ok (.putfield 40, 3) := by decide +kernel
theorem dX6_copyFrom_91 : decode cX6_copyFrom 91 = .ok (.return_, 1) := by decide +kernel
theorem dX6_hasWord_0 : decode cX6_hasWord 0 = .ok (.iload_n 1, 1) := by decide +kernel
theorem dX6_hasWord_1 : decode cX6_hasWord 1 = .ok (.ifCond .lt 15, 3) := by decide +kernel
theorem dX6_hasWord_4 : decode cX6_hasWord 4 = .ok (.iload_n 1, 1) := by decide +kernel
theorem dX6_hasWord_5 : decode cX6_hasWord 5 = .ok (.aload_n 0, 1) := by decide +kernel
theorem dX6_hasWord_6 : decode cX6_hasWord 6 = .ok (.getfield 30, 3) := by decide +kernel
theorem dX6_hasWord_9 : decode cX6_hasWord 9 = .ok (.if_icmp .ge 7, 3) := by decide +kernel
theorem dX6_hasWord_12 : decode cX6_hasWord 12 = .ok (.iconst 1, 1) := by decide +kernel
theorem dX6_hasWord_13 : decode cX6_hasWord 13 = .ok (.goto 4, 3) := by decide +kernel
theorem dX6_hasWord_16 : decode cX6_hasWord 16 = .ok (.iconst 0, 1) := by decide +kernel
theorem dX6_hasWord_17 : decode cX6_hasWord 17 = .ok (.ireturn, 1) := by decide +kernel
theorem dX6_hasPerson_0 : decode cX6_hasPerson 0 = .ok (.iload_n 1, 1) := by decide +kernel
theorem dX6_hasPerson_1 : decode cX6_hasPerson 1 = .ok (.ifCond .lt 15, 3) := by decide +kernel
theorem dX6_hasPerson_4 : decode cX6_hasPerson 4 = .ok (.iload_n 1, 1) := by decide +kernel
theorem dX6_hasPerson_5 : decode cX6_hasPerson 5 = .ok (.aload_n 0, 1) := by decide +kernel
theorem dX6_hasPerson_6 : decode cX6_hasPerson 6 = .ok (.getfield 34, 3) := by decide +kernel
theorem dX6_hasPerson_9 : decode cX6_hasPerson 9 = .ok (.if_icmp .ge 7, 3) := by decide +kernel
theorem dX6_hasPerson_12 : decode cX6_hasPerson 12 = .ok (.iconst 1, 1) := by decide +kernel
theorem dX6_hasPerson_13 : decode cX6_hasPerson 13 = .ok (.goto 4, 3) := by decide +kernel
theorem dX6_hasPerson_16 : decode cX6_hasPerson 16 = .ok (.iconst 0, 1) := by decide +kernel
theorem dX6_hasPerson_17 : decode cX6_hasPerson 17 = .ok (.ireturn, 1) := by decide +kernel
theorem dX6_addWord_0 : decode cX6_addWord 0 = .ok (.aload_n 0, 1) := by decide +kernel
theorem dX6_addWord_1 : decode cX6_addWord 1 = .ok (.getfield 30, 3) := by decide +kernel
theorem dX6_addWord_4 : decode cX6_addWord 4 = .ok (.bipush 8, 2) := by decide +kernel
theorem dX6_addWord_6 : decode cX6_addWord 6 = .ok (.if_icmp .lt 5, 3) := by decide +kernel
theorem dX6_addWord_9 : decode cX6_addWord 9 = .ok (.iconst 0, 1) := by decide +kernel
theorem dX6_addWord_10 : decode cX6_addWord 10 = .ok (.ireturn, 1) := by decide +kernel
theorem dX6_addWord_11 : decode cX6_addWord 11 = .ok (.aload_n 0, 1) := by decide +kernel
theorem dX6_addWord_12 : decode cX6_addWord 12 = .ok (.getfield 9, 3) := by decide +kernel
theorem dX6_addWord_15 : decode cX6_addWord 15 = .ok (.aload_n 0, 1) := by decide +kernel
theorem dX6_addWord_16 : decode cX6_addWord 16 = .ok (.getfield 30, 3) := by decide +kernel
theorem dX6_addWord_19 : decode cX6_addWord 19 = .ok (.iload_n 1, 1) := by decide +kernel
theorem dX6_addWord_20 : decode cX6_addWord 20 = .ok (.iastore, 1) := by decide +kernel
theorem dX6_addWord_21 : decode cX6_addWord 21 = .ok (.aload_n 0, 1) := by decide +kernel
theorem dX6_addWord_22 : decode cX6_addWord 22 = .ok (.getfield 15, 3) := by decide +kernel
theorem dX6_addWord_25 : decode cX6_addWord 25 = .ok (.aload_n 0, 1) := by decide +kernel
theorem dX6_addWord_26 : decode cX6_addWord 26 = .ok (.getfield 30, 3) := by decide +kernel
theorem dX6_addWord_29 : decode cX6_addWord 29 = .ok (.iload_n 2, 1) := by decide +kernel
theorem dX6_addWord_30 : decode cX6_addWord 30 = .ok (.iastore, 1) := by decide +kernel
theorem dX6_addWord_31 : decode cX6_addWord 31 = .ok (.aload_n 0, 1) := by decide +kernel
theorem dX6_addWord_32 : decode cX6_addWord 32 = .ok (.dup, 1) := by decide +kernel
theorem dX6_addWord_33 : decode cX6_addWord 33 = .ok (.getfield 30, 3) := by decide +kernel
theorem dX6_addWord_36 : decode cX6_addWord 36 = .ok (.iconst 1, 1) := by decide +kernel
theorem dX6_addWord_37 : decode cX6_addWord 37 = .ok (.iadd, 1) := by decide +kernel
theorem dX6_addWord_38 : decode cX6_addWord 38 = .ok (.putfield 30, 3) := by decide +kernel
theorem dX6_addWord_41 : decode cX6_addWord 41 = .ok (.iconst 1, 1) := by decide +kernel
theorem dX6_addWord_42 : decode cX6_addWord 42 = .ok (.ireturn, 1) := by decide +kernel
theorem dX6_addPerson_0 : decode cX6_addPerson 0 = .ok (.aload_n 0, 1) := by decide +kernel
theorem dX6_addPerson_1 : decode cX6_addPerson 1 = .ok (.getfield 34, 3) := by decide +kernel
theorem dX6_addPerson_4 : decode cX6_addPerson 4 = .ok (.iconst 4, 1) := by decide +kernel
theorem dX6_addPerson_5 : decode cX6_addPerson 5 = .ok (.if_icmp .ge 12, 3) := by decide +kernel
theorem dX6_addPerson_8 : decode cX6_addPerson 8 = .ok (.iload_n 1, 1) := by decide +kernel
theorem dX6_addPerson_9 : decode cX6_addPerson 9 = .ok (.ifCond .lt 8, 3) := by decide +kernel
theorem dX6_addPerson_12 : decode cX6_addPerson 12 = .ok (.iload_n 1, 1) := by decide +kernel
theorem dX6_addPerson_13 : decode cX6_addPerson 13 = .ok (.iconst 5, 1) := by decide +kernel
theorem dX6_addPerson_14 : decode cX6_addPerson 14 = .ok (.if_icmp .lt 5, 3) := by decide +kernel
theorem dX6_addPerson_17 : decode cX6_addPerson 17 = .ok (.iconst 0, 1) := by decide +kernel
theorem dX6_addPerson_18 : decode cX6_addPerson 18 = .ok (.ireturn, 1) := by decide +kernel
theorem dX6_addPerson_19 : decode cX6_addPerson 19 = .ok (.aload_n 0, 1) := by decide +kernel
theorem dX6_addPerson_20 : decode cX6_addPerson 20 = .ok (.getfield 21, 3) := by decide +kernel
theorem dX6_addPerson_23 : decode cX6_addPerson 23 = .ok (.aload_n 0, 1) := by decide +kernel
theorem dX6_addPerson_24 : decode cX6_addPerson 24 = .ok (.getfield 34, 3) := by decide +kernel
theorem dX6_addPerson_27 : decode cX6_addPerson 27 = .ok (.iload_n 1, 1) := by decide +kernel
theorem dX6_addPerson_28 : decode cX6_addPerson 28 = .ok (.iastore, 1) := by decide +kernel
theorem dX6_addPerson_29 : decode cX6_addPerson 29 = .ok (.aload_n 0, 1) := by decide +kernel
theorem dX6_addPerson_30 : decode cX6_addPerson 30 = .ok (.dup, 1) := by decide +kernel
theorem dX6_addPerson_31 : decode cX6_addPerson 31 = .ok (.getfield 34, 3) := by decide +kernel
theorem dX6_addPerson_34 : decode cX6_addPerson 34 = .ok (.iconst 1, 1) := by decide +kernel
theorem dX6_addPerson_35 : decode cX6_addPerson 35 = .ok (.iadd, 1) := by decide +kernel
theorem dX6_addPerson_36 : decode cX6_addPerson 36 = .ok (.putfield 34, 3) := by decide +kernel
theorem dX6_addPerson_39 : decode cX6_addPerson 39 = .ok (.iconst 1, 1) := by decide +kernel
theorem dX6_addPerson_40 : decode cX6_addPerson 40 = .ok (.ireturn, 1) := by decide +kernel
theorem dX6_setWeight_0 : decode cX6_setWeight 0 = .ok (.iload_n 1, 1) := by decide +kernel
theorem dX6_setWeight_1 : decode cX6_setWeight 1 = .ok (.invokestatic 43, 3) := by decide +kernel
theorem dX6_setWeight_4 : decode cX6_setWeight 4 = .ok (.ifCond .ne 5, 3) := by decide +kernel
theorem dX6_setWeight_7 : decode cX6_setWeight 7 = .ok (.iconst 0, 1) := by decide +kernel
theorem dX6_setWeight_8 : decode cX6_setWeight 8 = .ok (.ireturn, 1) := by decide +kernel
theorem dX6_setWeight_9 : decode cX6_setWeight 9 = .ok (.aload_n 0, 1) := by decide +kernel
theorem dX6_setWeight_10 : decode cX6_setWeight 10 = .ok (.getfield 18, 3) := by decide +kernel
theorem dX6_setWeight_13 : decode cX6_setWeight 13 = .ok (.iload_n 1, 1) := by decide +kernel
theorem dX6_setWeight_14 : decode cX6_setWeight 14 = .ok (.iload_n 2, 1) := by decide +kernel
theorem dX6_setWeight_15 : decode cX6_setWeight 15 = .ok (.iastore, 1) := by decide +kernel
theorem dX6_setWeight_16 : decode cX6_setWeight 16 = .ok (.iconst 1, 1) := by decide +kernel
theorem dX6_setWeight_17 : decode cX6_setWeight 17 = .ok (.ireturn, 1) := by decide +kernel
theorem dX6_setLaw_0 : decode cX6_setLaw 0 = .ok (.iload_n 1, 1) := by decide +kernel
theorem dX6_setLaw_1 : decode cX6_setLaw 1 = .ok (.invokestatic 47, 3) := by decide +kernel
theorem dX6_setLaw_4 : decode cX6_setLaw 4 = .ok (.ifCond .ne 5, 3) := by decide +kernel
theorem dX6_setLaw_7 : decode cX6_setLaw 7 = .ok (.iconst 0, 1) := by decide +kernel
theorem dX6_setLaw_8 : decode cX6_setLaw 8 = .ok (.ireturn, 1) := by decide +kernel
theorem dX6_setLaw_9 : decode cX6_setLaw 9 = .ok (.aload_n 0, 1) := by decide +kernel
theorem dX6_setLaw_10 : decode cX6_setLaw 10 = .ok (.iload_n 1, 1) := by decide +kernel
theorem dX6_setLaw_11 : decode cX6_setLaw 11 = .ok (.putfield 37, 3) := by decide +kernel
theorem dX6_setLaw_14 : decode cX6_setLaw 14 = .ok (.iconst 1, 1) := by decide +kernel
theorem dX6_setLaw_15 : decode cX6_setLaw 15 = .ok (.ireturn, 1) := by decide +kernel
theorem dX6_weightOf_0 : decode cX6_weightOf 0 = .ok (.iconst 0, 1) := by decide +kernel
theorem dX6_weightOf_1 : decode cX6_weightOf 1 = .ok (.istore_n 2, 1) := by decide +kernel
theorem dX6_weightOf_2 : decode cX6_weightOf 2 = .ok (.iconst 0, 1) := by decide +kernel
theorem dX6_weightOf_3 : decode cX6_weightOf 3 = .ok (.istore_n 3, 1) := by decide +kernel
theorem dX6_weightOf_4 : decode cX6_weightOf 4 = .ok (.iload_n 3, 1) := by decide +kernel
theorem dX6_weightOf_5 : decode cX6_weightOf 5 = .ok (.bipush 8, 2) := by decide +kernel
theorem dX6_weightOf_7 : decode cX6_weightOf 7 = .ok (.if_icmp .ge 26, 3) := by decide +kernel
theorem dX6_weightOf_10 : decode cX6_weightOf 10 = .ok (.iload_n 1, 1) := by decide +kernel
theorem dX6_weightOf_11 : decode cX6_weightOf 11 = .ok (.iload_n 3, 1) := by decide +kernel
theorem dX6_weightOf_12 : decode cX6_weightOf 12 = .ok (.ishr, 1) := by decide +kernel
theorem dX6_weightOf_13 : decode cX6_weightOf 13 = .ok (.iconst 1, 1) := by decide +kernel
theorem dX6_weightOf_14 : decode cX6_weightOf 14 = .ok (.iand, 1) := by decide +kernel
theorem dX6_weightOf_15 : decode cX6_weightOf 15 = .ok (.ifCond .eq 12, 3) := by decide +kernel
theorem dX6_weightOf_18 : decode cX6_weightOf 18 = .ok (.iload_n 2, 1) := by decide +kernel
theorem dX6_weightOf_19 : decode cX6_weightOf 19 = .ok (.aload_n 0, 1) := by decide +kernel
theorem dX6_weightOf_20 : decode cX6_weightOf 20 = .ok (.getfield 18, 3) := by decide +kernel
theorem dX6_weightOf_23 : decode cX6_weightOf 23 = .ok (.iload_n 3, 1) := by decide +kernel
theorem dX6_weightOf_24 : decode cX6_weightOf 24 = .ok (.iaload, 1) := by decide +kernel
theorem dX6_weightOf_25 : decode cX6_weightOf 25 = .ok (.iadd, 1) := by decide +kernel
theorem dX6_weightOf_26 : decode cX6_weightOf 26 = .ok (.istore_n 2, 1) := by decide +kernel
theorem dX6_weightOf_27 : decode cX6_weightOf 27 = .ok (.iinc 3 1, 3) := by decide +kernel
theorem dX6_weightOf_30 : decode cX6_weightOf 30 = .ok (.goto (-26), 3) := by decide +kernel
theorem dX6_weightOf_33 : decode cX6_weightOf 33 = .ok (.iload_n 2, 1) := by decide +kernel
theorem dX6_weightOf_34 : decode cX6_weightOf 34 = .ok (.ireturn, 1) := by decide +kernel
theorem dX6_grown_0 : decode cX6_grown 0 = .ok (.aload_n 0, 1) := by decide +kernel
theorem dX6_grown_1 : decode cX6_grown 1 = .ok (.iload_n 2, 1) := by decide +kernel
theorem dX6_grown_2 : decode cX6_grown 2 = .ok (.invokevirtual 50, 3) := by decide +kernel
theorem dX6_grown_5 : decode cX6_grown 5 = .ok (.ifCond .eq 22, 3) := by decide +kernel
theorem dX6_grown_8 : decode cX6_grown 8 = .ok (.iload_n 1, 1) := by decide +kernel
theorem dX6_grown_9 : decode cX6_grown 9 = .ok (.aload_n 0, 1) := by decide +kernel
theorem dX6_grown_10 : decode cX6_grown 10 = .ok (.getfield 9, 3) := by decide +kernel
theorem dX6_grown_13 : decode cX6_grown 13 = .ok (.iload_n 2, 1) := by decide +kernel
theorem dX6_grown_14 : decode cX6_grown 14 = .ok (.iaload, 1) := by decide +kernel
theorem dX6_grown_15 : decode cX6_grown 15 = .ok (.aload_n 0, 1) := by decide +kernel
theorem dX6_grown_16 : decode cX6_grown 16 = .ok (.getfield 15, 3) := by decide +kernel
theorem dX6_grown_19 : decode cX6_grown 19 = .ok (.iload_n 2, 1) := by decide +kernel
theorem dX6_grown_20 : decode cX6_grown 20 = .ok (.iaload, 1) := by decide +kernel
theorem dX6_grown_21 : decode cX6_grown 21 = .ok (.invokestatic 53, 3) := by decide +kernel
theorem dX6_grown_24 : decode cX6_grown 24 = .ok (.goto 9, 3) := by decide +kernel
theorem dX6_grown_27 : decode cX6_grown 27 = .ok (.iload_n 1, 1) := by decide +kernel
theorem dX6_grown_28 : decode cX6_grown 28 = .ok (.iconst 3, 1) := by decide +kernel
theorem dX6_grown_29 : decode cX6_grown 29 = .ok (.iconst 0, 1) := by decide +kernel
theorem dX6_grown_30 : decode cX6_grown 30 = .ok (.invokestatic 53, 3) := by decide +kernel
theorem dX6_grown_33 : decode cX6_grown 33 = .ok (.ireturn, 1) := by decide +kernel
end
section
theorem dX7_init_0 : decode cX7_init 0 = .ok (.aload_n 0, 1) := by decide +kernel
theorem dX7_init_1 : decode cX7_init 1 = .ok (.invokespecial 1, 3) := by decide +kernel
theorem dX7_init_4 : decode cX7_init 4 = .ok (.aload_n 0, 1) := by decide +kernel
theorem dX7_init_5 : decode cX7_init 5 = .ok (.new 7, 3) := by decide +kernel
theorem dX7_init_8 : decode cX7_init 8 = .ok (.dup, 1) := by decide +kernel
theorem dX7_init_9 : decode cX7_init 9 = .ok (.invokespecial 9, 3) := by decide +kernel
theorem dX7_init_12 : decode cX7_init 12 = .ok (.putfield 10, 3) := by decide +kernel
theorem dX7_init_15 : decode cX7_init 15 = .ok (.aload_n 0, 1) := by decide +kernel
theorem dX7_init_16 : decode cX7_init 16 = .ok (.new 16, 3) := by decide +kernel
theorem dX7_init_19 : decode cX7_init 19 = .ok (.dup, 1) := by decide +kernel
theorem dX7_init_20 : decode cX7_init 20 = .ok (.invokespecial 18, 3) := by decide +kernel
theorem dX7_init_23 : decode cX7_init 23 = .ok (.putfield 19, 3) := by decide +kernel
theorem dX7_init_26 : decode cX7_init 26 = .ok (.aload_n 0, 1) := by decide +kernel
theorem dX7_init_27 : decode cX7_init 27 = .ok (.new 16, 3) := by decide +kernel
theorem dX7_init_30 : decode cX7_init 30 = .ok (.dup, 1) := by decide +kernel
theorem dX7_init_31 : decode cX7_init 31 = .ok (.invokespecial 18, 3) := by decide +kernel
theorem dX7_init_34 : decode cX7_init 34 = .ok (.putfield 23, 3) := by decide +kernel
theorem dX7_init_37 : decode cX7_init 37 = .ok (.aload_n 0, 1) := by decide +kernel
theorem dX7_init_38 : decode cX7_init 38 = .ok (.new 26, 3) := by decide +kernel
theorem dX7_init_41 : decode cX7_init 41 = .ok (.dup, 1) := by decide +kernel
theorem dX7_init_42 : decode cX7_init 42 = .ok (.invokespecial 28, 3) := by decide +kernel
theorem dX7_init_45 : decode cX7_init 45 = .ok (.putfield 29, 3) := by decide +kernel
theorem dX7_init_48 : decode cX7_init 48 = .ok (.aload_n 0, 1) := by decide +kernel
theorem dX7_init_49 : decode cX7_init 49 = .ok (.new 26, 3) := by decide +kernel
theorem dX7_init_52 : decode cX7_init 52 = .ok (.dup, 1) := by decide +kernel
theorem dX7_init_53 : decode cX7_init 53 = .ok (.invokespecial 28, 3) := by decide +kernel
theorem dX7_init_56 : decode cX7_init 56 = .ok (.putfield 33, 3) := by decide +kernel
theorem dX7_init_59 : decode cX7_init 59 = .ok (.aload_n 0, 1) := by decide +kernel
theorem dX7_init_60 : decode cX7_init 60 = .ok (.new 36, 3) := by decide +kernel
theorem dX7_init_63 : decode cX7_init 63 = .ok (.dup, 1) := by decide +kernel
theorem dX7_init_64 : decode cX7_init 64 = .ok (.invokespecial 38, 3) := by decide +kernel
theorem dX7_init_67 : decode cX7_init 67 = .ok (.putfield 39, 3) := by decide +kernel
theorem dX7_init_70 : decode cX7_init 70 = .ok (.aload_n 0, 1) := by decide +kernel
theorem dX7_init_71 : decode cX7_init 71 = .ok (.new 43, 3) := by decide +kernel
theorem dX7_init_74 : decode cX7_init 74 = .ok (.dup, 1) := by decide +kernel
theorem dX7_init_75 : decode cX7_init 75 = .ok (.aload_n 0, 1) := by decide +kernel
theorem dX7_init_76 : decode cX7_init 76 = .ok (.getfield 19, 3) := by decide +kernel
theorem dX7_init_79 : decode cX7_init 79 = .ok (.iconst 0, 1) := by decide +kernel
theorem dX7_init_80 : decode cX7_init 80 = .ok (.invokespecial 45, 3) := by decide +kernel
theorem dX7_init_83 : decode cX7_init 83 = .ok (.putfield 48, 3) := by decide +kernel
theorem dX7_init_86 : decode cX7_init 86 = .ok (.aload_n 0, 1) := by decide +kernel
theorem dX7_init_87 : decode cX7_init 87 = .ok (.new 43, 3) := by decide +kernel
theorem dX7_init_90 : decode cX7_init 90 = .ok (.dup, 1) := by decide +kernel
theorem dX7_init_91 : decode cX7_init 91 = .ok (.aload_n 0, 1) := by decide +kernel
theorem dX7_init_92 : decode cX7_init 92 = .ok (.getfield 19, 3) := by decide +kernel
theorem dX7_init_95 : decode cX7_init 95 = .ok (.iconst 1, 1) := by decide +kernel
theorem dX7_init_96 : decode cX7_init 96 = .ok (.invokespecial 45, 3) := by decide +kernel
theorem dX7_init_99 : decode cX7_init 99 = .ok (.putfield 52, 3) := by decide +kernel
theorem dX7_init_102 : decode cX7_init 102 = .ok (.aload_n 0, 1) := by decide +kernel
theorem dX7_init_103 : decode cX7_init 103 = .ok (.new 55, 3) := by decide +kernel
theorem dX7_init_106 : decode cX7_init 106 = .ok (.dup, 1) := by decide +kernel
theorem dX7_init_107 : decode cX7_init 107 = .ok (.invokespecial 57, 3) := by decide +kernel
theorem dX7_init_110 : decode cX7_init 110 = .ok (.putfield 58, 3) := by decide +kernel
theorem dX7_init_113 : decode cX7_init 113 = .ok (.aload_n 0, 1) := by decide +kernel
theorem dX7_init_114 : decode cX7_init 114 = .ok (.bipush 7, 2) := by decide +kernel
theorem dX7_init_116 : decode cX7_init 116 = .ok (.newarray .int, 2) := by decide +kernel
theorem dX7_init_118 : decode cX7_init 118 = .ok (.putfield 62, 3) := by decide +kernel
theorem dX7_init_121 : decode cX7_init 121 = .ok (.return_, 1) := by decide +kernel
theorem dX7_letter_0 : decode cX7_letter 0 = .ok (.iload_n 1, 1) := by decide +kernel
theorem dX7_letter_1 : decode cX7_letter 1 = .ok (.ifCond .ge 10, 3) := by decide +kernel
theorem dX7_letter_4 : decode cX7_letter 4 = .ok (.aload_n 0, 1) := by decide +kernel
theorem dX7_letter_5 : decode cX7_letter 5 = .ok (.bipush (-4), 2) := by decide +kernel
theorem dX7_letter_7 : decode cX7_letter 7 = .ok (.invokevirtual 66, 3) := by decide +kernel
theorem dX7_letter_10 : decode cX7_letter 10 = .ok (.ireturn, 1) := by decide +kernel
theorem dX7_letter_11 : decode cX7_letter 11 = .ok (.iload_n 1, 1) := by decide +kernel
theorem dX7_letter_12 : decode cX7_letter 12 = .ok (.sipush 255, 3) := by decide +kernel
theorem dX7_letter_15 : decode cX7_letter 15 = .ok (.if_icmp .gt 15, 3) := by decide +kernel
theorem dX7_letter_18 : decode cX7_letter 18 = .ok (.aload_n 0, 1) := by decide +kernel
theorem dX7_letter_19 : decode cX7_letter 19 = .ok (.getfield 10, 3) := by decide +kernel
theorem dX7_letter_22 : decode cX7_letter 22 = .ok (.getfield 70, 3) := by decide +kernel
theorem dX7_letter_25 : decode cX7_letter 25 = .ok (.bipush 64, 2) := by decide +kernel
theorem dX7_letter_27 : decode cX7_letter 27 = .ok (.if_icmp .lt 10, 3) := by decide +kernel
theorem dX7_letter_30 : decode cX7_letter 30 = .ok (.aload_n 0, 1) := by decide +kernel
theorem dX7_letter_31 : decode cX7_letter 31 = .ok (.bipush (-6), 2) := by decide +kernel
theorem dX7_letter_33 : decode cX7_letter 33 = .ok (.invokevirtual 66, 3) := by decide +kernel
theorem dX7_letter_36 : decode cX7_letter 36 = .ok (.ireturn, 1) := by decide +kernel
theorem dX7_letter_37 : decode cX7_letter 37 = .ok (.aload_n 0, 1) := by decide +kernel
theorem dX7_letter_38 : decode cX7_letter 38 = .ok (.getfield 10, 3) := by decide +kernel
theorem dX7_letter_41 : decode cX7_letter 41 = .ok (.iload_n 1, 1) := by decide +kernel
theorem dX7_letter_42 : decode cX7_letter 42 = .ok (.invokevirtual 74, 3) := by decide +kernel
theorem dX7_letter_45 : decode cX7_letter 45 = .ok (.aload_n 0, 1) := by decide +kernel
theorem dX7_letter_46 : decode cX7_letter 46 = .ok (.getfield 10, 3) := by decide +kernel
theorem dX7_letter_49 : decode cX7_letter 49 = .ok (.getfield 70, 3) := by decide +kernel
theorem dX7_letter_52 : decode cX7_letter 52 = .ok (.ireturn, 1) := by decide +kernel
theorem dX7_tongue_0 : decode cX7_tongue 0 = .ok (.aload_n 0, 1) := by decide +kernel
theorem dX7_tongue_1 : decode cX7_tongue 1 = .ok (.getfield 10, 3) := by decide +kernel
theorem dX7_tongue_4 : decode cX7_tongue 4 = .ok (.invokevirtual 78, 3) := by decide +kernel
theorem dX7_tongue_7 : decode cX7_tongue 7 = .ok (.istore_n 1, 1) := by decide +kernel
theorem dX7_tongue_8 : decode cX7_tongue 8 = .ok (.iload_n 1, 1) := by decide +kernel
theorem dX7_tongue_9 : decode cX7_tongue 9 = .ok (.ifCond .le 26, 3) := by decide +kernel
theorem dX7_tongue_12 : decode cX7_tongue 12 = .ok (.aload_n 0, 1) := by decide +kernel
theorem dX7_tongue_13 : decode cX7_tongue 13 = .ok (.getfield 23, 3) := by decide +kernel
theorem dX7_tongue_16 : decode cX7_tongue 16 = .ok (.aload_n 0, 1) := by decide +kernel
theorem dX7_tongue_17 : decode cX7_tongue 17 = .ok (.getfield 19, 3) := by decide +kernel
theorem dX7_tongue_20 : decode cX7_tongue 20 = .ok (.invokevirtual 82, 3) := by decide +kernel
theorem dX7_tongue_23 : decode cX7_tongue 23 = .ok (.aload_n 0, 1) := by decide +kernel
theorem dX7_tongue_24 : decode cX7_tongue 24 = .ok (.getfield 10, 3) := by decide +kernel
theorem dX7_tongue_27 : decode cX7_tongue 27 = .ok (.aload_n 0, 1) := by decide +kernel
theorem dX7_tongue_28 : decode cX7_tongue 28 = .ok (.getfield 23, 3) := by decide +kernel
theorem dX7_tongue_31 : decode cX7_tongue 31 = .ok (.invokevirtual 86, 3) := by decide +kernel
theorem dX7_tongue_34 : decode cX7_tongue 34 = .ok (.istore_n 1, 1) := by decide +kernel
theorem dX7_tongue_35 : decode cX7_tongue 35 = .ok (.iload_n 1, 1) := by decide +kernel
theorem dX7_tongue_36 : decode cX7_tongue 36 = .ok (.ifCond .le 18, 3) := by decide +kernel
theorem dX7_tongue_39 : decode cX7_tongue 39 = .ok (.aload_n 0, 1) := by decide +kernel
theorem dX7_tongue_40 : decode cX7_tongue 40 = .ok (.getfield 19, 3) := by decide +kernel
theorem dX7_tongue_43 : decode cX7_tongue 43 = .ok (.aload_n 0, 1) := by decide +kernel
theorem dX7_tongue_44 : decode cX7_tongue 44 = .ok (.getfield 23, 3) := by decide +kernel
theorem dX7_tongue_47 : decode cX7_tongue 47 = .ok (.invokevirtual 82, 3) := by decide +kernel
theorem dX7_tongue_50 : decode cX7_tongue 50 = .ok (.aload_n 0, 1) := by decide +kernel
theorem dX7_tongue_51 : decode cX7_tongue 51 = .ok (.invokevirtual 90, 3) := by decide +kernel
theorem dX7_tongue_54 : decode cX7_tongue 54 = .ok (.aload_n 0, 1) := by decide +kernel
theorem dX7_tongue_55 : decode cX7_tongue 55 = .ok (.getfield 10, 3) := by decide +kernel
theorem dX7_tongue_58 : decode cX7_tongue 58 = .ok (.iconst 0, 1) := by decide +kernel
theorem dX7_tongue_59 : decode cX7_tongue 59 = .ok (.putfield 70, 3) := by decide +kernel
theorem dX7_tongue_62 : decode cX7_tongue 62 = .ok (.iload_n 1, 1) := by decide +kernel
theorem dX7_tongue_63 : decode cX7_tongue 63 = .ok (.ireturn, 1) := by decide +kernel
theorem dX7_word_0 : decode cX7_word 0 = .ok (.aload_n 0, 1) := by decide +kernel
theorem dX7_word_1 : decode cX7_word 1 = .ok (.getfield 19, 3) := by decide +kernel
theorem dX7_word_4 : decode cX7_word 4 = .ok (.iload_n 1, 1) := by decide +kernel
theorem dX7_word_5 : decode cX7_word 5 = .ok (.invokevirtual 93, 3) := by decide +kernel
theorem dX7_word_8 : decode cX7_word 8 = .ok (.ifCond .ne 9, 3) := by decide +kernel
theorem dX7_word_11 : decode cX7_word 11 = .ok (.aload_n 0, 1) := by decide +kernel
theorem dX7_word_12 : decode cX7_word 12 = .ok (.iconst (-1), 1) := by decide +kernel
theorem dX7_word_13 : decode cX7_word 13 = .ok (.invokevirtual 66, 3) := by decide +kernel
theorem dX7_word_16 : decode cX7_word 16 = .ok (.ireturn, 1) := by decide +kernel
theorem dX7_word_17 : decode cX7_word 17 = .ok (.iload_n 2, 1) := by decide +kernel
theorem dX7_word_18 : decode cX7_word 18 = .ok (.lookupswitch 46 #[(0, 26), (1, 36)], 26) := by decide +kernel
theorem dX7_word_44 : decode cX7_word 44 = .ok (.aload_n 0, 1) := by decide +kernel
theorem dX7_word_45 : decode cX7_word 45 = .ok (.getfield 19, 3) := by decide +kernel
theorem dX7_word_48 : decode cX7_word 48 = .ok (.getfield 97, 3) := by decide +kernel
theorem dX7_word_51 : decode cX7_word 51 = .ok (.iload_n 1, 1) := by decide +kernel
theorem dX7_word_52 : decode cX7_word 52 = .ok (.iaload, 1) := by decide +kernel
theorem dX7_word_53 : decode cX7_word 53 = .ok (.ireturn, 1) := by decide +kernel
theorem dX7_word_54 : decode cX7_word 54 = .ok (.aload_n 0, 1) := by decide +kernel
theorem dX7_word_55 : decode cX7_word 55 = .ok (.getfield 19, 3) := by decide +kernel
theorem dX7_word_58 : decode cX7_word 58 = .ok (.getfield 100, 3) := by decide +kernel
theorem dX7_word_61 : decode cX7_word 61 = .ok (.iload_n 1, 1) := by decide +kernel
theorem dX7_word_62 : decode cX7_word 62 = .ok (.iaload, 1) := by decide +kernel
theorem dX7_word_63 : decode cX7_word 63 = .ok (.ireturn, 1) := by decide +kernel
theorem dX7_word_64 : decode cX7_word 64 = .ok (.aload_n 0, 1) := by decide +kernel
theorem dX7_word_65 : decode cX7_word 65 = .ok (.bipush (-2), 2) := by decide +kernel
theorem dX7_word_67 : decode cX7_word 67 = .ok (.invokevirtual 66, 3) := by decide +kernel
theorem dX7_word_70 : decode cX7_word 70 = .ok (.ireturn, 1) := by decide +kernel
theorem dX7_weight_0 : decode cX7_weight 0 = .ok (.iload_n 1, 1) := by decide +kernel
theorem dX7_weight_1 : decode cX7_weight 1 = .ok (.invokestatic 103, 3) := by decide +kernel
theorem dX7_weight_4 : decode cX7_weight 4 = .ok (.ifCond .eq 15, 3) := by decide +kernel
theorem dX7_weight_7 : decode cX7_weight 7 = .ok (.aload_n 0, 1) := by decide +kernel
theorem dX7_weight_8 : decode cX7_weight 8 = .ok (.getfield 19, 3) := by decide +kernel
theorem dX7_weight_11 : decode cX7_weight 11 = .ok (.getfield 106, 3) := by decide +kernel
theorem dX7_weight_14 : decode cX7_weight 14 = .ok (.iload_n 1, 1) := by decide +kernel
theorem dX7_weight_15 : decode cX7_weight 15 = .ok (.iaload, 1) := by decide +kernel
theorem dX7_weight_16 : decode cX7_weight 16 = .ok (.goto 8, 3) := by decide +kernel
theorem dX7_weight_19 : decode cX7_weight 19 = .ok (.aload_n 0, 1) := by decide +kernel
theorem dX7_weight_20 : decode cX7_weight 20 = .ok (.iconst (-1), 1) := by decide +kernel
theorem dX7_weight_21 : decode cX7_weight 21 = .ok (.invokevirtual 66, 3) := by decide +kernel
theorem dX7_weight_24 : decode cX7_weight 24 = .ok (.ireturn, 1) := by decide +kernel
theorem dX7_truth_0 : decode cX7_truth 0 = .ok (.iload_n 1, 1) := by decide +kernel
theorem dX7_truth_1 : decode cX7_truth 1 = .ok (.invokestatic 103, 3) := by decide +kernel
theorem dX7_truth_4 : decode cX7_truth 4 = .ok (.ifCond .ne 9, 3) := by decide +kernel
theorem dX7_truth_7 : decode cX7_truth 7 = .ok (.aload_n 0, 1) := by decide +kernel
theorem dX7_truth_8 : decode cX7_truth 8 = .ok (.iconst (-1), 1) := by decide +kernel
theorem dX7_truth_9 : decode cX7_truth 9 = .ok (.invokevirtual 66, 3) := by decide +kernel
theorem dX7_truth_12 : decode cX7_truth 12 = .ok (.ireturn, 1) := by decide +kernel
theorem dX7_truth_13 : decode cX7_truth 13 = .ok (.aload_n 0, 1) := by decide +kernel
theorem dX7_truth_14 : decode cX7_truth 14 = .ok (.getfield 19, 3) := by decide +kernel
theorem dX7_truth_17 : decode cX7_truth 17 = .ok (.getfield 109, 3) := by decide +kernel
theorem dX7_truth_20 : decode cX7_truth 20 = .ok (.istore_n 2, 1) := by decide +kernel
theorem dX7_truth_21 : decode cX7_truth 21 = .ok (.aload_n 0, 1) := by decide +kernel
theorem dX7_truth_22 : decode cX7_truth 22 = .ok (.getfield 19, 3) := by decide +kernel
theorem dX7_truth_25 : decode cX7_truth 25 = .ok (.iload_n 1, 1) := by decide +kernel
theorem dX7_truth_26 : decode cX7_truth 26 = .ok (.putfield 109, 3) := by decide +kernel
theorem dX7_truth_29 : decode cX7_truth 29 = .ok (.iload_n 2, 1) := by decide +kernel
theorem dX7_truth_30 : decode cX7_truth 30 = .ok (.ireturn, 1) := by decide +kernel
theorem dX7_law_0 : decode cX7_law 0 = .ok (.iload_n 1, 1) := by decide +kernel
theorem dX7_law_1 : decode cX7_law 1 = .ok (.invokestatic 112, 3) := by decide +kernel
theorem dX7_law_4 : decode cX7_law 4 = .ok (.ifCond .ne 10, 3) := by decide +kernel
theorem dX7_law_7 : decode cX7_law 7 = .ok (.aload_n 0, 1) := by decide +kernel
theorem dX7_law_8 : decode cX7_law 8 = .ok (.bipush (-2), 2) := by decide +kernel
theorem dX7_law_10 : decode cX7_law 10 = .ok (.invokevirtual 66, 3) := by decide +kernel
theorem dX7_law_13 : decode cX7_law 13 = .ok (.ireturn, 1) := by decide +kernel
theorem dX7_law_14 : decode cX7_law 14 = .ok (.aload_n 0, 1) := by decide +kernel
theorem dX7_law_15 : decode cX7_law 15 = .ok (.getfield 19, 3) := by decide +kernel
theorem dX7_law_18 : decode cX7_law 18 = .ok (.getfield 115, 3) := by decide +kernel
theorem dX7_law_21 : decode cX7_law 21 = .ok (.istore_n 2, 1) := by decide +kernel
theorem dX7_law_22 : decode cX7_law 22 = .ok (.aload_n 0, 1) := by decide +kernel
theorem dX7_law_23 : decode cX7_law 23 = .ok (.getfield 19, 3) := by decide +kernel
theorem dX7_law_26 : decode cX7_law 26 = .ok (.iload_n 1, 1) := by decide +kernel
theorem dX7_law_27 : decode cX7_law 27 = .ok (.putfield 115, 3) := by decide +kernel
theorem dX7_law_30 : decode cX7_law 30 = .ok (.iload_n 2, 1) := by decide +kernel
theorem dX7_law_31 : decode cX7_law 31 = .ok (.ireturn, 1) := by decide +kernel
theorem dX7_row_0 : decode cX7_row 0 = .ok (.aload_n 0, 1) := by decide +kernel
theorem dX7_row_1 : decode cX7_row 1 = .ok (.aload_n 0, 1) := by decide +kernel
theorem dX7_row_2 : decode cX7_row 2 = .ok (.getfield 29, 3) := by decide +kernel
theorem dX7_row_5 : decode cX7_row 5 = .ok (.iload_n 1, 1) := by decide +kernel
theorem dX7_row_6 : decode cX7_row 6 = .ok (.invokevirtual 118, 3) := by decide +kernel
theorem dX7_row_9 : decode cX7_row 9 = .ok (.ireturn, 1) := by decide +kernel
theorem dX7_means_0 : decode cX7_means 0 = .ok (.aload_n 0, 1) := by decide +kernel
theorem dX7_means_1 : decode cX7_means 1 = .ok (.invokevirtual 122, 3) := by decide +kernel
theorem dX7_means_4 : decode cX7_means 4 = .ok (.invokestatic 125, 3) := by decide +kernel
theorem dX7_means_7 : decode cX7_means 7 = .ok (.ireturn, 1) := by decide +kernel
theorem dX7_follows_0 : decode cX7_follows 0 = .ok (.iload_n 1, 1) := by decide +kernel
theorem dX7_follows_1 : decode cX7_follows 1 = .ok (.ifCond .lt 7, 3) := by decide +kernel
theorem dX7_follows_4 : decode cX7_follows 4 = .ok (.iload_n 2, 1) := by decide +kernel
theorem dX7_follows_5 : decode cX7_follows 5 = .ok (.ifCond .ge 10, 3) := by decide +kernel
theorem dX7_follows_8 : decode cX7_follows 8 = .ok (.aload_n 0, 1) := by decide +kernel
theorem dX7_follows_9 : decode cX7_follows 9 = .ok (.bipush (-4), 2) := by decide +kernel
theorem dX7_follows_11 : decode cX7_follows 11 = .ok (.invokevirtual 66, 3) := by decide +kernel
theorem dX7_follows_14 : decode cX7_follows 14 = .ok (.ireturn, 1) := by decide +kernel
theorem dX7_follows_15 : decode cX7_follows 15 = .ok (.iload_n 1, 1) := by decide +kernel
theorem dX7_follows_16 : decode cX7_follows 16 = .ok (.bipush 6, 2) := by decide +kernel
theorem dX7_follows_18 : decode cX7_follows 18 = .ok (.if_icmp .gt 8, 3) := by decide +kernel
theorem dX7_follows_21 : decode cX7_follows 21 = .ok (.iload_n 2, 1) := by decide +kernel
theorem dX7_follows_22 : decode cX7_follows 22 = .ok (.iload_n 1, 1) := by decide +kernel
theorem dX7_follows_23 : decode cX7_follows 23 = .ok (.if_icmp .le 10, 3) := by decide +kernel
theorem dX7_follows_26 : decode cX7_follows 26 = .ok (.aload_n 0, 1) := by decide +kernel
theorem dX7_follows_27 : decode cX7_follows 27 = .ok (.bipush (-6), 2) := by decide +kernel
theorem dX7_follows_29 : decode cX7_follows 29 = .ok (.invokevirtual 66, 3) := by decide +kernel
theorem dX7_follows_32 : decode cX7_follows 32 = .ok (.ireturn, 1) := by decide +kernel
theorem dX7_follows_33 : decode cX7_follows 33 = .ok (.aload_n 0, 1) := by decide +kernel
theorem dX7_follows_34 : decode cX7_follows 34 = .ok (.getfield 19, 3) := by decide +kernel
theorem dX7_follows_37 : decode cX7_follows 37 = .ok (.getfield 115, 3) := by decide +kernel
theorem dX7_follows_40 : decode cX7_follows 40 = .ok (.aload_n 0, 1) := by decide +kernel
theorem dX7_follows_41 : decode cX7_follows 41 = .ok (.invokevirtual 122, 3) := by decide +kernel
theorem dX7_follows_44 : decode cX7_follows 44 = .ok (.iload_n 1, 1) := by decide +kernel
theorem dX7_follows_45 : decode cX7_follows 45 = .ok (.iload_n 2, 1) := by decide +kernel
theorem dX7_follows_46 : decode cX7_follows 46 = .ok (.invokestatic 130, 3) := by decide +kernel
theorem dX7_follows_49 : decode cX7_follows 49 = .ok (.invokestatic 134, 3) := by decide +kernel
theorem dX7_follows_52 : decode cX7_follows 52 = .ok (.invokestatic 138, 3) := by decide +kernel
theorem dX7_follows_55 : decode cX7_follows 55 = .ok (.ireturn, 1) := by decide +kernel
theorem dX7_settles_0 : decode cX7_settles 0 = .ok (.iload_n 1, 1) := by decide +kernel
theorem dX7_settles_1 : decode cX7_settles 1 = .ok (.invokestatic 142, 3) := by decide +kernel
theorem dX7_settles_4 : decode cX7_settles 4 = .ok (.ifCond .ne 9, 3) := by decide +kernel
theorem dX7_settles_7 : decode cX7_settles 7 = .ok (.aload_n 0, 1) := by decide +kernel
theorem dX7_settles_8 : decode cX7_settles 8 = .ok (.iconst (-1), 1) := by decide +kernel
theorem dX7_settles_9 : decode cX7_settles 9 = .ok (.invokevirtual 66, 3) := by decide +kernel
theorem dX7_settles_12 : decode cX7_settles 12 = .ok (.ireturn, 1) := by decide +kernel
theorem dX7_settles_13 : decode cX7_settles 13 = .ok (.iload_n 1, 1) := by decide +kernel
theorem dX7_settles_14 : decode cX7_settles 14 = .ok (.aload_n 0, 1) := by decide +kernel
theorem dX7_settles_15 : decode cX7_settles 15 = .ok (.invokevirtual 122, 3) := by decide +kernel
theorem dX7_settles_18 : decode cX7_settles 18 = .ok (.invokestatic 125, 3) := by decide +kernel
theorem dX7_settles_21 : decode cX7_settles 21 = .ok (.invokestatic 145, 3) := by decide +kernel
theorem dX7_settles_24 : decode cX7_settles 24 = .ok (.invokestatic 138, 3) := by decide +kernel
theorem dX7_settles_27 : decode cX7_settles 27 = .ok (.ireturn, 1) := by decide +kernel
theorem dX7_answer_0 : decode cX7_answer 0 = .ok (.aload_n 0, 1) := by decide +kernel
theorem dX7_answer_1 : decode cX7_answer 1 = .ok (.getfield 19, 3) := by decide +kernel
theorem dX7_answer_4 : decode cX7_answer 4 = .ok (.iload_n 1, 1) := by decide +kernel
theorem dX7_answer_5 : decode cX7_answer 5 = .ok (.invokevirtual 149, 3) := by decide +kernel
theorem dX7_answer_8 : decode cX7_answer 8 = .ok (.ifCond .ne 9, 3) := by decide +kernel
theorem dX7_answer_11 : decode cX7_answer 11 = .ok (.aload_n 0, 1) := by decide +kernel
theorem dX7_answer_12 : decode cX7_answer 12 = .ok (.iconst (-1), 1) := by decide +kernel
theorem dX7_answer_13 : decode cX7_answer 13 = .ok (.invokevirtual 66, 3) := by decide +kernel
theorem dX7_answer_16 : decode cX7_answer 16 = .ok (.ireturn, 1) := by decide +kernel
theorem dX7_answer_17 : decode cX7_answer 17 = .ok (.iload_n 2, 1) := by decide +kernel
theorem dX7_answer_18 : decode cX7_answer 18 = .ok (.iconst (-1), 1) := by decide +kernel
theorem dX7_answer_19 : decode cX7_answer 19 = .ok (.if_icmp .ge 10, 3) := by decide +kernel
theorem dX7_answer_22 : decode cX7_answer 22 = .ok (.aload_n 0, 1) := by decide +kernel
theorem dX7_answer_23 : decode cX7_answer 23 = .ok (.bipush (-4), 2) := by decide +kernel
theorem dX7_answer_25 : decode cX7_answer 25 = .ok (.invokevirtual 66, 3) := by decide +kernel
theorem dX7_answer_28 : decode cX7_answer 28 = .ok (.ireturn, 1) := by decide +kernel
theorem dX7_answer_29 : decode cX7_answer 29 = .ok (.aload_n 0, 1) := by decide +kernel
theorem dX7_answer_30 : decode cX7_answer 30 = .ok (.getfield 48, 3) := by decide +kernel
theorem dX7_answer_33 : decode cX7_answer 33 = .ok (.aload_n 0, 1) := by decide +kernel
theorem dX7_answer_34 : decode cX7_answer 34 = .ok (.getfield 29, 3) := by decide +kernel
theorem dX7_answer_37 : decode cX7_answer 37 = .ok (.aload_n 0, 1) := by decide +kernel
theorem dX7_answer_38 : decode cX7_answer 38 = .ok (.getfield 19, 3) := by decide +kernel
theorem dX7_answer_41 : decode cX7_answer 41 = .ok (.invokevirtual 152, 3) := by decide +kernel
theorem dX7_answer_44 : decode cX7_answer 44 = .ok (.aload_n 0, 1) := by decide +kernel
theorem dX7_answer_45 : decode cX7_answer 45 = .ok (.getfield 19, 3) := by decide +kernel
theorem dX7_answer_48 : decode cX7_answer 48 = .ok (.getfield 155, 3) := by decide +kernel
theorem dX7_answer_51 : decode cX7_answer 51 = .ok (.iload_n 1, 1) := by decide +kernel
theorem dX7_answer_52 : decode cX7_answer 52 = .ok (.iaload, 1) := by decide +kernel
theorem dX7_answer_53 : decode cX7_answer 53 = .ok (.aload_n 0, 1) := by decide +kernel
theorem dX7_answer_54 : decode cX7_answer 54 = .ok (.getfield 19, 3) := by decide +kernel
theorem dX7_answer_57 : decode cX7_answer 57 = .ok (.getfield 109, 3) := by decide +kernel
theorem dX7_answer_60 : decode cX7_answer 60 = .ok (.invokevirtual 158, 3) := by decide +kernel
theorem dX7_answer_63 : decode cX7_answer 63 = .ok (.istore_n 3, 1) := by decide +kernel
theorem dX7_answer_64 : decode cX7_answer 64 = .ok (.iload_n 3, 1) := by decide +kernel
theorem dX7_answer_65 : decode cX7_answer 65 = .ok (.ifCond .ge 8, 3) := by decide +kernel
theorem dX7_answer_68 : decode cX7_answer 68 = .ok (.bipush (-9), 2) := by decide +kernel
theorem dX7_answer_70 : decode cX7_answer 70 = .ok (.goto 9, 3) := by decide +kernel
theorem dX7_answer_73 : decode cX7_answer 73 = .ok (.aload_n 0, 1) := by decide +kernel
theorem dX7_answer_74 : decode cX7_answer 74 = .ok (.iload_n 3, 1) := by decide +kernel
theorem dX7_answer_75 : decode cX7_answer 75 = .ok (.iload_n 2, 1) := by decide +kernel
theorem dX7_answer_76 : decode cX7_answer 76 = .ok (.invokevirtual 162, 3) := by decide +kernel
theorem dX7_answer_79 : decode cX7_answer 79 = .ok (.ireturn, 1) := by decide +kernel
theorem dX7_answers_0 : decode cX7_answers 0 = .ok (.iload_n 1, 1) := by decide +kernel
theorem dX7_answers_1 : decode cX7_answers 1 = .ok (.invokestatic 103, 3) := by decide +kernel
theorem dX7_answers_4 : decode cX7_answers 4 = .ok (.ifCond .ne 9, 3) := by decide +kernel
theorem dX7_answers_7 : decode cX7_answers 7 = .ok (.aload_n 0, 1) := by decide +kernel
theorem dX7_answers_8 : decode cX7_answers 8 = .ok (.iconst (-1), 1) := by decide +kernel
theorem dX7_answers_9 : decode cX7_answers 9 = .ok (.invokevirtual 66, 3) := by decide +kernel
theorem dX7_answers_12 : decode cX7_answers 12 = .ok (.ireturn, 1) := by decide +kernel
theorem dX7_answers_13 : decode cX7_answers 13 = .ok (.aload_n 0, 1) := by decide +kernel
theorem dX7_answers_14 : decode cX7_answers 14 = .ok (.getfield 48, 3) := by decide +kernel
theorem dX7_answers_17 : decode cX7_answers 17 = .ok (.aload_n 0, 1) := by decide +kernel
theorem dX7_answers_18 : decode cX7_answers 18 = .ok (.getfield 29, 3) := by decide +kernel
theorem dX7_answers_21 : decode cX7_answers 21 = .ok (.aload_n 0, 1) := by decide +kernel
theorem dX7_answers_22 : decode cX7_answers 22 = .ok (.getfield 19, 3) := by decide +kernel
theorem dX7_answers_25 : decode cX7_answers 25 = .ok (.invokevirtual 152, 3) := by decide +kernel
theorem dX7_answers_28 : decode cX7_answers 28 = .ok (.iload_n 1, 1) := by decide +kernel
theorem dX7_answers_29 : decode cX7_answers 29 = .ok (.invokevirtual 165, 3) := by decide +kernel
theorem dX7_answers_32 : decode cX7_answers 32 = .ok (.ireturn, 1) := by decide +kernel
theorem dX7_least_0 : decode cX7_least 0 = .ok (.iload_n 1, 1) := by decide +kernel
theorem dX7_least_1 : decode cX7_least 1 = .ok (.invokestatic 142, 3) := by decide +kernel
theorem dX7_least_4 : decode cX7_least 4 = .ok (.ifCond .ne 9, 3) := by decide +kernel
theorem dX7_least_7 : decode cX7_least 7 = .ok (.aload_n 0, 1) := by decide +kernel
theorem dX7_least_8 : decode cX7_least 8 = .ok (.iconst (-1), 1) := by decide +kernel
theorem dX7_least_9 : decode cX7_least 9 = .ok (.invokevirtual 66, 3) := by decide +kernel
theorem dX7_least_12 : decode cX7_least 12 = .ok (.ireturn, 1) := by decide +kernel
theorem dX7_least_13 : decode cX7_least 13 = .ok (.iload_n 2, 1) := by decide +kernel
theorem dX7_least_14 : decode cX7_least 14 = .ok (.iconst (-1), 1) := by decide +kernel
theorem dX7_least_15 : decode cX7_least 15 = .ok (.if_icmp .ge 10, 3) := by decide +kernel
theorem dX7_least_18 : decode cX7_least 18 = .ok (.aload_n 0, 1) := by decide +kernel
theorem dX7_least_19 : decode cX7_least 19 = .ok (.bipush (-4), 2) := by decide +kernel
theorem dX7_least_21 : decode cX7_least 21 = .ok (.invokevirtual 66, 3) := by decide +kernel
theorem dX7_least_24 : decode cX7_least 24 = .ok (.ireturn, 1) := by decide +kernel
theorem dX7_least_25 : decode cX7_least 25 = .ok (.aload_n 0, 1) := by decide +kernel
theorem dX7_least_26 : decode cX7_least 26 = .ok (.getfield 48, 3) := by decide +kernel
theorem dX7_least_29 : decode cX7_least 29 = .ok (.iload_n 1, 1) := by decide +kernel
theorem dX7_least_30 : decode cX7_least 30 = .ok (.invokevirtual 168, 3) := by decide +kernel
theorem dX7_least_33 : decode cX7_least 33 = .ok (.istore_n 3, 1) := by decide +kernel
theorem dX7_least_34 : decode cX7_least 34 = .ok (.iload_n 3, 1) := by decide +kernel
theorem dX7_least_35 : decode cX7_least 35 = .ok (.ifCond .ge 8, 3) := by decide +kernel
theorem dX7_least_38 : decode cX7_least 38 = .ok (.bipush (-9), 2) := by decide +kernel
theorem dX7_least_40 : decode cX7_least 40 = .ok (.goto 9, 3) := by decide +kernel
theorem dX7_least_43 : decode cX7_least 43 = .ok (.aload_n 0, 1) := by decide +kernel
theorem dX7_least_44 : decode cX7_least 44 = .ok (.iload_n 3, 1) := by decide +kernel
theorem dX7_least_45 : decode cX7_least 45 = .ok (.iload_n 2, 1) := by decide +kernel
theorem dX7_least_46 : decode cX7_least 46 = .ok (.invokevirtual 162, 3) := by decide +kernel
theorem dX7_least_49 : decode cX7_least 49 = .ok (.ireturn, 1) := by decide +kernel
theorem dX7_left_0 : decode cX7_left 0 = .ok (.aload_n 0, 1) := by decide +kernel
theorem dX7_left_1 : decode cX7_left 1 = .ok (.getfield 19, 3) := by decide +kernel
theorem dX7_left_4 : decode cX7_left 4 = .ok (.iload_n 1, 1) := by decide +kernel
theorem dX7_left_5 : decode cX7_left 5 = .ok (.invokevirtual 149, 3) := by decide +kernel
theorem dX7_left_8 : decode cX7_left 8 = .ok (.ifCond .ne 9, 3) := by decide +kernel
theorem dX7_left_11 : decode cX7_left 11 = .ok (.aload_n 0, 1) := by decide +kernel
theorem dX7_left_12 : decode cX7_left 12 = .ok (.iconst (-1), 1) := by decide +kernel
theorem dX7_left_13 : decode cX7_left 13 = .ok (.invokevirtual 66, 3) := by decide +kernel
theorem dX7_left_16 : decode cX7_left 16 = .ok (.ireturn, 1) := by decide +kernel
theorem dX7_left_17 : decode cX7_left 17 = .ok (.aload_n 0, 1) := by decide +kernel
theorem dX7_left_18 : decode cX7_left 18 = .ok (.getfield 48, 3) := by decide +kernel
theorem dX7_left_21 : decode cX7_left 21 = .ok (.aload_n 0, 1) := by decide +kernel
theorem dX7_left_22 : decode cX7_left 22 = .ok (.invokevirtual 122, 3) := by decide +kernel
theorem dX7_left_25 : decode cX7_left 25 = .ok (.aload_n 0, 1) := by decide +kernel
theorem dX7_left_26 : decode cX7_left 26 = .ok (.getfield 19, 3) := by decide +kernel
theorem dX7_left_29 : decode cX7_left 29 = .ok (.getfield 155, 3) := by decide +kernel
theorem dX7_left_32 : decode cX7_left 32 = .ok (.iload_n 1, 1) := by decide +kernel
theorem dX7_left_33 : decode cX7_left 33 = .ok (.iaload, 1) := by decide +kernel
theorem dX7_left_34 : decode cX7_left 34 = .ok (.invokevirtual 171, 3) := by decide +kernel
theorem dX7_left_37 : decode cX7_left 37 = .ok (.ireturn, 1) := by decide +kernel
theorem dX7_best_0 : decode cX7_best 0 = .ok (.aload_n 0, 1) := by decide +kernel
theorem dX7_best_1 : decode cX7_best 1 = .ok (.getfield 19, 3) := by decide +kernel
theorem dX7_best_4 : decode cX7_best 4 = .ok (.iload_n 1, 1) := by decide +kernel
theorem dX7_best_5 : decode cX7_best 5 = .ok (.invokevirtual 149, 3) := by decide +kernel
theorem dX7_best_8 : decode cX7_best 8 = .ok (.ifCond .ne 9, 3) := by decide +kernel
theorem dX7_best_11 : decode cX7_best 11 = .ok (.aload_n 0, 1) := by decide +kernel
theorem dX7_best_12 : decode cX7_best 12 = .ok (.iconst (-1), 1) := by decide +kernel
theorem dX7_best_13 : decode cX7_best 13 = .ok (.invokevirtual 66, 3) := by decide +kernel
theorem dX7_best_16 : decode cX7_best 16 = .ok (.ireturn, 1) := by decide +kernel
theorem dX7_best_17 : decode cX7_best 17 = .ok (.iload_n 2, 1) := by decide +kernel
theorem dX7_best_18 : decode cX7_best 18 = .ok (.iconst (-1), 1) := by decide +kernel
theorem dX7_best_19 : decode cX7_best 19 = .ok (.if_icmp .ge 10, 3) := by decide +kernel
theorem dX7_best_22 : decode cX7_best 22 = .ok (.aload_n 0, 1) := by decide +kernel
theorem dX7_best_23 : decode cX7_best 23 = .ok (.bipush (-4), 2) := by decide +kernel
theorem dX7_best_25 : decode cX7_best 25 = .ok (.invokevirtual 66, 3) := by decide +kernel
theorem dX7_best_28 : decode cX7_best 28 = .ok (.ireturn, 1) := by decide +kernel
theorem dX7_best_29 : decode cX7_best 29 = .ok (.aload_n 0, 1) := by decide +kernel
theorem dX7_best_30 : decode cX7_best 30 = .ok (.getfield 19, 3) := by decide +kernel
theorem dX7_best_33 : decode cX7_best 33 = .ok (.getfield 174, 3) := by decide +kernel
theorem dX7_best_36 : decode cX7_best 36 = .ok (.ifCond .ne 6, 3) := by decide +kernel
theorem dX7_best_39 : decode cX7_best 39 = .ok (.bipush (-9), 2) := by decide +kernel
theorem dX7_best_41 : decode cX7_best 41 = .ok (.ireturn, 1) := by decide +kernel
theorem dX7_best_42 : decode cX7_best 42 = .ok (.aload_n 0, 1) := by decide +kernel
theorem dX7_best_43 : decode cX7_best 43 = .ok (.getfield 19, 3) := by decide +kernel
theorem dX7_best_46 : decode cX7_best 46 = .ok (.getfield 155, 3) := by decide +kernel
theorem dX7_best_49 : decode cX7_best 49 = .ok (.iload_n 1, 1) := by decide +kernel
theorem dX7_best_50 : decode cX7_best 50 = .ok (.iaload, 1) := by decide +kernel
theorem dX7_best_51 : decode cX7_best 51 = .ok (.istore_n 3, 1) := by decide +kernel
theorem dX7_best_52 : decode cX7_best 52 = .ok (.iload_n 2, 1) := by decide +kernel
theorem dX7_best_53 : decode cX7_best 53 = .ok (.iconst (-1), 1) := by decide +kernel
theorem dX7_best_54 : decode cX7_best 54 = .ok (.if_icmp .ne 19, 3) := by decide +kernel
theorem dX7_best_57 : decode cX7_best 57 = .ok (.aload_n 0, 1) := by decide +kernel
theorem dX7_best_58 : decode cX7_best 58 = .ok (.getfield 48, 3) := by decide +kernel
theorem dX7_best_61 : decode cX7_best 61 = .ok (.iload_n 3, 1) := by decide +kernel
theorem dX7_best_62 : decode cX7_best 62 = .ok (.aload_n 0, 1) := by decide +kernel
theorem dX7_best_63 : decode cX7_best 63 = .ok (.getfield 19, 3) := by decide +kernel
theorem dX7_best_66 : decode cX7_best 66 = .ok (.getfield 115, 3) := by decide +kernel
theorem dX7_best_69 : decode cX7_best 69 = .ok (.invokevirtual 177, 3) := by decide +kernel
theorem dX7_best_72 : decode cX7_best 72 = .ok (.ireturn, 1) := by decide +kernel
theorem dX7_best_73 : decode cX7_best 73 = .ok (.aload_n 0, 1) := by decide +kernel
theorem dX7_best_74 : decode cX7_best 74 = .ok (.aload_n 0, 1) := by decide +kernel
theorem dX7_best_75 : decode cX7_best 75 = .ok (.getfield 48, 3) := by decide +kernel
theorem dX7_best_78 : decode cX7_best 78 = .ok (.iload_n 3, 1) := by decide +kernel
theorem dX7_best_79 : decode cX7_best 79 = .ok (.aload_n 0, 1) := by decide +kernel
theorem dX7_best_80 : decode cX7_best 80 = .ok (.getfield 19, 3) := by decide +kernel
theorem dX7_best_83 : decode cX7_best 83 = .ok (.getfield 115, 3) := by decide +kernel
theorem dX7_best_86 : decode cX7_best 86 = .ok (.invokevirtual 180, 3) := by decide +kernel
theorem dX7_best_89 : decode cX7_best 89 = .ok (.iload_n 2, 1) := by decide +kernel
theorem dX7_best_90 : decode cX7_best 90 = .ok (.iconst 1, 1) := by decide +kernel
theorem dX7_best_91 : decode cX7_best 91 = .ok (.isub, 1) := by decide +kernel
theorem dX7_best_92 : decode cX7_best 92 = .ok (.invokevirtual 162, 3) := by decide +kernel
theorem dX7_best_95 : decode cX7_best 95 = .ok (.ireturn, 1) := by decide +kernel
theorem dX7_force_0 : decode cX7_force 0 = .ok (.iload_n 1, 1) := by decide +kernel
theorem dX7_force_1 : decode cX7_force 1 = .ok (.invokestatic 142, 3) := by decide +kernel
theorem dX7_force_4 : decode cX7_force 4 = .ok (.ifCond .ne 9, 3) := by decide +kernel
theorem dX7_force_7 : decode cX7_force 7 = .ok (.aload_n 0, 1) := by decide +kernel
theorem dX7_force_8 : decode cX7_force 8 = .ok (.iconst (-1), 1) := by decide +kernel
theorem dX7_force_9 : decode cX7_force 9 = .ok (.invokevirtual 66, 3) := by decide +kernel
theorem dX7_force_12 : decode cX7_force 12 = .ok (.ireturn, 1) := by decide +kernel
theorem dX7_force_13 : decode cX7_force 13 = .ok (.iload_n 2, 1) := by decide +kernel
theorem dX7_force_14 : decode cX7_force 14 = .ok (.iconst (-1), 1) := by decide +kernel
theorem dX7_force_15 : decode cX7_force 15 = .ok (.if_icmp .ge 10, 3) := by decide +kernel
theorem dX7_force_18 : decode cX7_force 18 = .ok (.aload_n 0, 1) := by decide +kernel
theorem dX7_force_19 : decode cX7_force 19 = .ok (.bipush (-4), 2) := by decide +kernel
theorem dX7_force_21 : decode cX7_force 21 = .ok (.invokevirtual 66, 3) := by decide +kernel
theorem dX7_force_24 : decode cX7_force 24 = .ok (.ireturn, 1) := by decide +kernel
theorem dX7_force_25 : decode cX7_force 25 = .ok (.aload_n 0, 1) := by decide +kernel
theorem dX7_force_26 : decode cX7_force 26 = .ok (.getfield 48, 3) := by decide +kernel
theorem dX7_force_29 : decode cX7_force 29 = .ok (.iload_n 1, 1) := by decide +kernel
theorem dX7_force_30 : decode cX7_force 30 = .ok (.invokevirtual 183, 3) := by decide +kernel
theorem dX7_force_33 : decode cX7_force 33 = .ok (.istore_n 3, 1) := by decide +kernel
theorem dX7_force_34 : decode cX7_force 34 = .ok (.iload_n 3, 1) := by decide +kernel
theorem dX7_force_35 : decode cX7_force 35 = .ok (.ifCond .ge 8, 3) := by decide +kernel
theorem dX7_force_38 : decode cX7_force 38 = .ok (.bipush (-9), 2) := by decide +kernel
theorem dX7_force_40 : decode cX7_force 40 = .ok (.goto 9, 3) := by decide +kernel
theorem dX7_force_43 : decode cX7_force 43 = .ok (.aload_n 0, 1) := by decide +kernel
theorem dX7_force_44 : decode cX7_force 44 = .ok (.iload_n 3, 1) := by decide +kernel
theorem dX7_force_45 : decode cX7_force 45 = .ok (.iload_n 2, 1) := by decide +kernel
theorem dX7_force_46 : decode cX7_force 46 = .ok (.invokevirtual 162, 3) := by decide +kernel
theorem dX7_force_49 : decode cX7_force 49 = .ok (.ireturn, 1) := by decide +kernel
theorem dX7_told_0 : decode cX7_told 0 = .ok (.aload_n 0, 1) := by decide +kernel
theorem dX7_told_1 : decode cX7_told 1 = .ok (.aload_n 0, 1) := by decide +kernel
theorem dX7_told_2 : decode cX7_told 2 = .ok (.getfield 33, 3) := by decide +kernel
theorem dX7_told_5 : decode cX7_told 5 = .ok (.iload_n 1, 1) := by decide +kernel
theorem dX7_told_6 : decode cX7_told 6 = .ok (.invokevirtual 118, 3) := by decide +kernel
theorem dX7_told_9 : decode cX7_told 9 = .ok (.ireturn, 1) := by decide +kernel
theorem dX7_meant_0 : decode cX7_meant 0 = .ok (.aload_n 0, 1) := by decide +kernel
theorem dX7_meant_1 : decode cX7_meant 1 = .ok (.getfield 19, 3) := by decide +kernel
theorem dX7_meant_4 : decode cX7_meant 4 = .ok (.iload_n 1, 1) := by decide +kernel
theorem dX7_meant_5 : decode cX7_meant 5 = .ok (.invokevirtual 149, 3) := by decide +kernel
theorem dX7_meant_8 : decode cX7_meant 8 = .ok (.ifCond .ne 9, 3) := by decide +kernel
theorem dX7_meant_11 : decode cX7_meant 11 = .ok (.aload_n 0, 1) := by decide +kernel
theorem dX7_meant_12 : decode cX7_meant 12 = .ok (.iconst (-1), 1) := by decide +kernel
theorem dX7_meant_13 : decode cX7_meant 13 = .ok (.invokevirtual 66, 3) := by decide +kernel
theorem dX7_meant_16 : decode cX7_meant 16 = .ok (.ireturn, 1) := by decide +kernel
theorem dX7_meant_17 : decode cX7_meant 17 = .ok (.aload_n 0, 1) := by decide +kernel
theorem dX7_meant_18 : decode cX7_meant 18 = .ok (.getfield 48, 3) := by decide +kernel
theorem dX7_meant_21 : decode cX7_meant 21 = .ok (.aload_n 0, 1) := by decide +kernel
theorem dX7_meant_22 : decode cX7_meant 22 = .ok (.getfield 33, 3) := by decide +kernel
theorem dX7_meant_25 : decode cX7_meant 25 = .ok (.invokevirtual 186, 3) := by decide +kernel
theorem dX7_meant_28 : decode cX7_meant 28 = .ok (.istore_n 2, 1) := by decide +kernel
theorem dX7_meant_29 : decode cX7_meant 29 = .ok (.aload_n 0, 1) := by decide +kernel
theorem dX7_meant_30 : decode cX7_meant 30 = .ok (.getfield 33, 3) := by decide +kernel
theorem dX7_meant_33 : decode cX7_meant 33 = .ok (.iconst 0, 1) := by decide +kernel
theorem dX7_meant_34 : decode cX7_meant 34 = .ok (.putfield 190, 3) := by decide +kernel
theorem dX7_meant_37 : decode cX7_meant 37 = .ok (.aload_n 0, 1) := by decide +kernel
theorem dX7_meant_38 : decode cX7_meant 38 = .ok (.aload_n 0, 1) := by decide +kernel
theorem dX7_meant_39 : decode cX7_meant 39 = .ok (.getfield 48, 3) := by decide +kernel
theorem dX7_meant_42 : decode cX7_meant 42 = .ok (.iload_n 2, 1) := by decide +kernel
theorem dX7_meant_43 : decode cX7_meant 43 = .ok (.aload_n 0, 1) := by decide +kernel
theorem dX7_meant_44 : decode cX7_meant 44 = .ok (.invokevirtual 122, 3) := by decide +kernel
theorem dX7_meant_47 : decode cX7_meant 47 = .ok (.aload_n 0, 1) := by decide +kernel
theorem dX7_meant_48 : decode cX7_meant 48 = .ok (.getfield 19, 3) := by decide +kernel
theorem dX7_meant_51 : decode cX7_meant 51 = .ok (.getfield 155, 3) := by decide +kernel
theorem dX7_meant_54 : decode cX7_meant 54 = .ok (.iload_n 1, 1) := by decide +kernel
theorem dX7_meant_55 : decode cX7_meant 55 = .ok (.iaload, 1) := by decide +kernel
theorem dX7_meant_56 : decode cX7_meant 56 = .ok (.invokevirtual 191, 3) := by decide +kernel
theorem dX7_meant_59 : decode cX7_meant 59 = .ok (.putfield 194, 3) := by decide +kernel
theorem dX7_meant_62 : decode cX7_meant 62 = .ok (.aload_n 0, 1) := by decide +kernel
theorem dX7_meant_63 : decode cX7_meant 63 = .ok (.getfield 194, 3) := by decide +kernel
theorem dX7_meant_66 : decode cX7_meant 66 = .ok (.ireturn, 1) := by decide +kernel
theorem dX7_chance_0 : decode cX7_chance 0 = .ok (.iload_n 1, 1) := by decide +kernel
theorem dX7_chance_1 : decode cX7_chance 1 = .ok (.invokestatic 103, 3) := by decide +kernel
theorem dX7_chance_4 : decode cX7_chance 4 = .ok (.ifCond .ne 9, 3) := by decide +kernel
theorem dX7_chance_7 : decode cX7_chance 7 = .ok (.aload_n 0, 1) := by decide +kernel
theorem dX7_chance_8 : decode cX7_chance 8 = .ok (.iconst (-1), 1) := by decide +kernel
theorem dX7_chance_9 : decode cX7_chance 9 = .ok (.invokevirtual 66, 3) := by decide +kernel
theorem dX7_chance_12 : decode cX7_chance 12 = .ok (.ireturn, 1) := by decide +kernel
theorem dX7_chance_13 : decode cX7_chance 13 = .ok (.iload_n 2, 1) := by decide +kernel
theorem dX7_chance_14 : decode cX7_chance 14 = .ok (.ifCond .eq 15, 3) := by decide +kernel
theorem dX7_chance_17 : decode cX7_chance 17 = .ok (.iload_n 2, 1) := by decide +kernel
theorem dX7_chance_18 : decode cX7_chance 18 = .ok (.iconst 1, 1) := by decide +kernel
theorem dX7_chance_19 : decode cX7_chance 19 = .ok (.if_icmp .eq 10, 3) := by decide +kernel
theorem dX7_chance_22 : decode cX7_chance 22 = .ok (.aload_n 0, 1) := by decide +kernel
theorem dX7_chance_23 : decode cX7_chance 23 = .ok (.bipush (-2), 2) := by decide +kernel
theorem dX7_chance_25 : decode cX7_chance 25 = .ok (.invokevirtual 66, 3) := by decide +kernel
theorem dX7_chance_28 : decode cX7_chance 28 = .ok (.ireturn, 1) := by decide +kernel
theorem dX7_chance_29 : decode cX7_chance 29 = .ok (.aload_n 0, 1) := by decide +kernel
theorem dX7_chance_30 : decode cX7_chance 30 = .ok (.getfield 194, 3) := by decide +kernel
theorem dX7_chance_33 : decode cX7_chance 33 = .ok (.iload_n 1, 1) := by decide +kernel
theorem dX7_chance_34 : decode cX7_chance 34 = .ok (.ishr, 1) := by decide +kernel
theorem dX7_chance_35 : decode cX7_chance 35 = .ok (.iconst 1, 1) := by decide +kernel
theorem dX7_chance_36 : decode cX7_chance 36 = .ok (.iand, 1) := by decide +kernel
theorem dX7_chance_37 : decode cX7_chance 37 = .ok (.ifCond .ne 7, 3) := by decide +kernel
theorem dX7_chance_40 : decode cX7_chance 40 = .ok (.iconst 0, 1) := by decide +kernel
theorem dX7_chance_41 : decode cX7_chance 41 = .ok (.goto 12, 3) := by decide +kernel
theorem dX7_chance_44 : decode cX7_chance 44 = .ok (.aload_n 0, 1) := by decide +kernel
theorem dX7_chance_45 : decode cX7_chance 45 = .ok (.getfield 19, 3) := by decide +kernel
theorem dX7_chance_48 : decode cX7_chance 48 = .ok (.getfield 106, 3) := by decide +kernel
theorem dX7_chance_51 : decode cX7_chance 51 = .ok (.iload_n 1, 1) := by decide +kernel
theorem dX7_chance_52 : decode cX7_chance 52 = .ok (.iaload, 1) := by decide +kernel
theorem dX7_chance_53 : decode cX7_chance 53 = .ok (.istore_n 3, 1) := by decide +kernel
theorem dX7_chance_54 : decode cX7_chance 54 = .ok (.iload_n 3, 1) := by decide +kernel
theorem dX7_chance_55 : decode cX7_chance 55 = .ok (.ifCond .ne 5, 3) := by decide +kernel
theorem dX7_chance_58 : decode cX7_chance 58 = .ok (.iload_n 2, 1) := by decide +kernel
theorem dX7_chance_59 : decode cX7_chance 59 = .ok (.ireturn, 1) := by decide +kernel
theorem dX7_chance_60 : decode cX7_chance 60 = .ok (.aload_n 0, 1) := by decide +kernel
theorem dX7_chance_61 : decode cX7_chance 61 = .ok (.getfield 19, 3) := by decide +kernel
theorem dX7_chance_64 : decode cX7_chance 64 = .ok (.aload_n 0, 1) := by decide +kernel
theorem dX7_chance_65 : decode cX7_chance 65 = .ok (.getfield 194, 3) := by decide +kernel
theorem dX7_chance_68 : decode cX7_chance 68 = .ok (.invokevirtual 197, 3) := by decide +kernel
theorem dX7_chance_71 : decode cX7_chance 71 = .ok (.istore 4, 2) := by decide +kernel
theorem dX7_chance_73 : decode cX7_chance 73 = .ok (.iload 4, 2) := by decide +kernel
theorem dX7_chance_75 : decode cX7_chance 75 = .ok (.iload_n 3, 1) := by decide +kernel
theorem dX7_chance_76 : decode cX7_chance 76 = .ok (.invokestatic 200, 3) := by decide +kernel
theorem dX7_chance_79 : decode cX7_chance 79 = .ok (.istore 5, 2) := by decide +kernel
theorem dX7_chance_81 : decode cX7_chance 81 = .ok (.iload 5, 2) := by decide +kernel
theorem dX7_chance_83 : decode cX7_chance 83 = .ok (.ifCond .ne 5, 3) := by decide +kernel
theorem dX7_chance_86 : decode cX7_chance 86 = .ok (.iload_n 2, 1) := by decide +kernel
theorem dX7_chance_87 : decode cX7_chance 87 = .ok (.ireturn, 1) := by decide +kernel
theorem dX7_chance_88 : decode cX7_chance 88 = .ok (.iload_n 2, 1) := by decide +kernel
theorem dX7_chance_89 : decode cX7_chance 89 = .ok (.ifCond .ne 7, 3) := by decide +kernel
theorem dX7_chance_92 : decode cX7_chance 92 = .ok (.iload_n 3, 1) := by decide +kernel
theorem dX7_chance_93 : decode cX7_chance 93 = .ok (.goto 5, 3) := by decide +kernel
theorem dX7_chance_96 : decode cX7_chance 96 = .ok (.iload 4, 2) := by decide +kernel
theorem dX7_chance_98 : decode cX7_chance 98 = .ok (.iload 5, 2) := by decide +kernel
theorem dX7_chance_100 : decode cX7_chance 100 = .ok (.idiv, 1) := by decide +kernel
theorem dX7_chance_101 : decode cX7_chance 101 = .ok (.ireturn, 1) := by decide +kernel
theorem dX7_say_0 : decode cX7_say 0 = .ok (.aload_n 0, 1) := by decide +kernel
theorem dX7_say_1 : decode cX7_say 1 = .ok (.getfield 29, 3) := by decide +kernel
theorem dX7_say_4 : decode cX7_say 4 = .ok (.aload_n 0, 1) := by decide +kernel
theorem dX7_say_5 : decode cX7_say 5 = .ok (.getfield 19, 3) := by decide +kernel
theorem dX7_say_8 : decode cX7_say 8 = .ok (.invokevirtual 152, 3) := by decide +kernel
theorem dX7_say_11 : decode cX7_say 11 = .ok (.istore_n 1, 1) := by decide +kernel
theorem dX7_say_12 : decode cX7_say 12 = .ok (.aload_n 0, 1) := by decide +kernel
theorem dX7_say_13 : decode cX7_say 13 = .ok (.getfield 39, 3) := by decide +kernel
theorem dX7_say_16 : decode cX7_say 16 = .ok (.getfield 203, 3) := by decide +kernel
theorem dX7_say_19 : decode cX7_say 19 = .ok (.ifCond .le 31, 3) := by decide +kernel
theorem dX7_say_22 : decode cX7_say 22 = .ok (.aload_n 0, 1) := by decide +kernel
theorem dX7_say_23 : decode cX7_say 23 = .ok (.getfield 19, 3) := by decide +kernel
theorem dX7_say_26 : decode cX7_say 26 = .ok (.getfield 115, 3) := by decide +kernel
theorem dX7_say_29 : decode cX7_say 29 = .ok (.iload_n 1, 1) := by decide +kernel
theorem dX7_say_30 : decode cX7_say 30 = .ok (.aload_n 0, 1) := by decide +kernel
theorem dX7_say_31 : decode cX7_say 31 = .ok (.getfield 39, 3) := by decide +kernel
theorem dX7_say_34 : decode cX7_say 34 = .ok (.invokevirtual 204, 3) := by decide +kernel
theorem dX7_say_37 : decode cX7_say 37 = .ok (.invokestatic 134, 3) := by decide +kernel
theorem dX7_say_40 : decode cX7_say 40 = .ok (.ifCond .ne 10, 3) := by decide +kernel
theorem dX7_say_43 : decode cX7_say 43 = .ok (.aload_n 0, 1) := by decide +kernel
theorem dX7_say_44 : decode cX7_say 44 = .ok (.bipush (-3), 2) := by decide +kernel
theorem dX7_say_46 : decode cX7_say 46 = .ok (.invokevirtual 66, 3) := by decide +kernel
theorem dX7_say_49 : decode cX7_say 49 = .ok (.ireturn, 1) := by decide +kernel
theorem dX7_say_50 : decode cX7_say 50 = .ok (.aload_n 0, 1) := by decide +kernel
theorem dX7_say_51 : decode cX7_say 51 = .ok (.getfield 39, 3) := by decide +kernel
theorem dX7_say_54 : decode cX7_say 54 = .ok (.getfield 203, 3) := by decide +kernel
theorem dX7_say_57 : decode cX7_say 57 = .ok (.bipush 12, 2) := by decide +kernel
theorem dX7_say_59 : decode cX7_say 59 = .ok (.if_icmp .lt 10, 3) := by decide +kernel
theorem dX7_say_62 : decode cX7_say 62 = .ok (.aload_n 0, 1) := by decide +kernel
theorem dX7_say_63 : decode cX7_say 63 = .ok (.bipush (-6), 2) := by decide +kernel
theorem dX7_say_65 : decode cX7_say 65 = .ok (.invokevirtual 66, 3) := by decide +kernel
theorem dX7_say_68 : decode cX7_say 68 = .ok (.ireturn, 1) := by decide +kernel
theorem dX7_say_69 : decode cX7_say 69 = .ok (.aload_n 0, 1) := by decide +kernel
theorem dX7_say_70 : decode cX7_say 70 = .ok (.getfield 29, 3) := by decide +kernel
theorem dX7_say_73 : decode cX7_say 73 = .ok (.iconst 0, 1) := by decide +kernel
theorem dX7_say_74 : decode cX7_say 74 = .ok (.putfield 190, 3) := by decide +kernel
theorem dX7_say_77 : decode cX7_say 77 = .ok (.aload_n 0, 1) := by decide +kernel
theorem dX7_say_78 : decode cX7_say 78 = .ok (.getfield 39, 3) := by decide +kernel
theorem dX7_say_81 : decode cX7_say 81 = .ok (.iload_n 1, 1) := by decide +kernel
theorem dX7_say_82 : decode cX7_say 82 = .ok (.invokevirtual 207, 3) := by decide +kernel
theorem dX7_say_85 : decode cX7_say 85 = .ok (.aload_n 0, 1) := by decide +kernel
theorem dX7_say_86 : decode cX7_say 86 = .ok (.getfield 39, 3) := by decide +kernel
theorem dX7_say_89 : decode cX7_say 89 = .ok (.getfield 203, 3) := by decide +kernel
theorem dX7_say_92 : decode cX7_say 92 = .ok (.ireturn, 1) := by decide +kernel
theorem dX7_saying_0 : decode cX7_saying 0 = .ok (.iload_n 1, 1) := by decide +kernel
theorem dX7_saying_1 : decode cX7_saying 1 = .ok (.ifCond .lt 14, 3) := by decide +kernel
theorem dX7_saying_4 : decode cX7_saying 4 = .ok (.iload_n 1, 1) := by decide +kernel
theorem dX7_saying_5 : decode cX7_saying 5 = .ok (.aload_n 0, 1) := by decide +kernel
theorem dX7_saying_6 : decode cX7_saying 6 = .ok (.getfield 39, 3) := by decide +kernel
theorem dX7_saying_9 : decode cX7_saying 9 = .ok (.getfield 203, 3) := by decide +kernel
theorem dX7_saying_12 : decode cX7_saying 12 = .ok (.if_icmp .lt 9, 3) := by decide +kernel
theorem dX7_saying_15 : decode cX7_saying 15 = .ok (.aload_n 0, 1) := by decide +kernel
theorem dX7_saying_16 : decode cX7_saying 16 = .ok (.iconst (-1), 1) := by decide +kernel
theorem dX7_saying_17 : decode cX7_saying 17 = .ok (.invokevirtual 66, 3) := by decide +kernel
theorem dX7_saying_20 : decode cX7_saying 20 = .ok (.ireturn, 1) := by decide +kernel
theorem dX7_saying_21 : decode cX7_saying 21 = .ok (.aload_n 0, 1) := by decide +kernel
theorem dX7_saying_22 : decode cX7_saying 22 = .ok (.getfield 39, 3) := by decide +kernel
theorem dX7_saying_25 : decode cX7_saying 25 = .ok (.getfield 208, 3) := by decide +kernel
theorem dX7_saying_28 : decode cX7_saying 28 = .ok (.iload_n 1, 1) := by decide +kernel
theorem dX7_saying_29 : decode cX7_saying 29 = .ok (.iaload, 1) := by decide +kernel
theorem dX7_saying_30 : decode cX7_saying 30 = .ok (.istore_n 3, 1) := by decide +kernel
theorem dX7_saying_31 : decode cX7_saying 31 = .ok (.iload_n 2, 1) := by decide +kernel
theorem dX7_saying_32 : decode cX7_saying 32 = .ok (.tableswitch 43 0 2 #[28, 33, 38], 28) := by decide +kernel
theorem dX7_saying_60 : decode cX7_saying 60 = .ok (.iload_n 3, 1) := by decide +kernel
theorem dX7_saying_61 : decode cX7_saying 61 = .ok (.invokestatic 211, 3) := by decide +kernel
theorem dX7_saying_64 : decode cX7_saying 64 = .ok (.ireturn, 1) := by decide +kernel
theorem dX7_saying_65 : decode cX7_saying 65 = .ok (.iload_n 3, 1) := by decide +kernel
theorem dX7_saying_66 : decode cX7_saying 66 = .ok (.invokestatic 125, 3) := by decide +kernel
theorem dX7_saying_69 : decode cX7_saying 69 = .ok (.ireturn, 1) := by decide +kernel
theorem dX7_saying_70 : decode cX7_saying 70 = .ok (.iload_n 3, 1) := by decide +kernel
theorem dX7_saying_71 : decode cX7_saying 71 = .ok (.invokestatic 214, 3) := by decide +kernel
theorem dX7_saying_74 : decode cX7_saying 74 = .ok (.ireturn, 1) := by decide +kernel
theorem dX7_saying_75 : decode cX7_saying 75 = .ok (.aload_n 0, 1) := by decide +kernel
theorem dX7_saying_76 : decode cX7_saying 76 = .ok (.bipush (-2), 2) := by decide +kernel
theorem dX7_saying_78 : decode cX7_saying 78 = .ok (.invokevirtual 66, 3) := by decide +kernel
theorem dX7_saying_81 : decode cX7_saying 81 = .ok (.ireturn, 1) := by decide +kernel
theorem dX7_known_0 : decode cX7_known 0 = .ok (.aload_n 0, 1) := by decide +kernel
theorem dX7_known_1 : decode cX7_known 1 = .ok (.getfield 39, 3) := by decide +kernel
theorem dX7_known_4 : decode cX7_known 4 = .ok (.invokevirtual 217, 3) := by decide +kernel
theorem dX7_known_7 : decode cX7_known 7 = .ok (.ireturn, 1) := by decide +kernel
theorem dX7_silence_0 : decode cX7_silence 0 = .ok (.aload_n 0, 1) := by decide +kernel
theorem dX7_silence_1 : decode cX7_silence 1 = .ok (.getfield 39, 3) := by decide +kernel
theorem dX7_silence_4 : decode cX7_silence 4 = .ok (.getfield 203, 3) := by decide +kernel
theorem dX7_silence_7 : decode cX7_silence 7 = .ok (.istore_n 1, 1) := by decide +kernel
theorem dX7_silence_8 : decode cX7_silence 8 = .ok (.aload_n 0, 1) := by decide +kernel
theorem dX7_silence_9 : decode cX7_silence 9 = .ok (.getfield 39, 3) := by decide +kernel
theorem dX7_silence_12 : decode cX7_silence 12 = .ok (.iconst 0, 1) := by decide +kernel
theorem dX7_silence_13 : decode cX7_silence 13 = .ok (.putfield 203, 3) := by decide +kernel
theorem dX7_silence_16 : decode cX7_silence 16 = .ok (.iload_n 1, 1) := by decide +kernel
theorem dX7_silence_17 : decode cX7_silence 17 = .ok (.ireturn, 1) := by decide +kernel
theorem dX7_longest_0 : decode cX7_longest 0 = .ok (.iload_n 1, 1) := by decide +kernel
theorem dX7_longest_1 : decode cX7_longest 1 = .ok (.iconst 1, 1) := by decide +kernel
theorem dX7_longest_2 : decode cX7_longest 2 = .ok (.if_icmp .ge 10, 3) := by decide +kernel
theorem dX7_longest_5 : decode cX7_longest 5 = .ok (.aload_n 0, 1) := by decide +kernel
theorem dX7_longest_6 : decode cX7_longest 6 = .ok (.bipush (-4), 2) := by decide +kernel
theorem dX7_longest_8 : decode cX7_longest 8 = .ok (.invokevirtual 66, 3) := by decide +kernel
theorem dX7_longest_11 : decode cX7_longest 11 = .ok (.ireturn, 1) := by decide +kernel
theorem dX7_longest_12 : decode cX7_longest 12 = .ok (.iload_n 1, 1) := by decide +kernel
theorem dX7_longest_13 : decode cX7_longest 13 = .ok (.bipush 6, 2) := by decide +kernel
theorem dX7_longest_15 : decode cX7_longest 15 = .ok (.if_icmp .le 10, 3) := by decide +kernel
theorem dX7_longest_18 : decode cX7_longest 18 = .ok (.aload_n 0, 1) := by decide +kernel
theorem dX7_longest_19 : decode cX7_longest 19 = .ok (.bipush (-6), 2) := by decide +kernel
theorem dX7_longest_21 : decode cX7_longest 21 = .ok (.invokevirtual 66, 3) := by decide +kernel
theorem dX7_longest_24 : decode cX7_longest 24 = .ok (.ireturn, 1) := by decide +kernel
theorem dX7_longest_25 : decode cX7_longest 25 = .ok (.aload_n 0, 1) := by decide +kernel
theorem dX7_longest_26 : decode cX7_longest 26 = .ok (.getfield 19, 3) := by decide +kernel
theorem dX7_longest_29 : decode cX7_longest 29 = .ok (.getfield 115, 3) := by decide +kernel
theorem dX7_longest_32 : decode cX7_longest 32 = .ok (.iload_n 1, 1) := by decide +kernel
theorem dX7_longest_33 : decode cX7_longest 33 = .ok (.iconst 1, 1) := by decide +kernel
theorem dX7_longest_34 : decode cX7_longest 34 = .ok (.invokestatic 220, 3) := by decide +kernel
theorem dX7_longest_37 : decode cX7_longest 37 = .ok (.ireturn, 1) := by decide +kernel
theorem dX7_last_0 : decode cX7_last 0 = .ok (.iload_n 1, 1) := by decide +kernel
theorem dX7_last_1 : decode cX7_last 1 = .ok (.iconst 1, 1) := by decide +kernel
theorem dX7_last_2 : decode cX7_last 2 = .ok (.if_icmp .ge 10, 3) := by decide +kernel
theorem dX7_last_5 : decode cX7_last 5 = .ok (.aload_n 0, 1) := by decide +kernel
theorem dX7_last_6 : decode cX7_last 6 = .ok (.bipush (-4), 2) := by decide +kernel
theorem dX7_last_8 : decode cX7_last 8 = .ok (.invokevirtual 66, 3) := by decide +kernel
theorem dX7_last_11 : decode cX7_last 11 = .ok (.ireturn, 1) := by decide +kernel
theorem dX7_last_12 : decode cX7_last 12 = .ok (.iload_n 1, 1) := by decide +kernel
theorem dX7_last_13 : decode cX7_last 13 = .ok (.bipush 6, 2) := by decide +kernel
theorem dX7_last_15 : decode cX7_last 15 = .ok (.if_icmp .le 10, 3) := by decide +kernel
theorem dX7_last_18 : decode cX7_last 18 = .ok (.aload_n 0, 1) := by decide +kernel
theorem dX7_last_19 : decode cX7_last 19 = .ok (.bipush (-6), 2) := by decide +kernel
theorem dX7_last_21 : decode cX7_last 21 = .ok (.invokevirtual 66, 3) := by decide +kernel
theorem dX7_last_24 : decode cX7_last 24 = .ok (.ireturn, 1) := by decide +kernel
theorem dX7_last_25 : decode cX7_last 25 = .ok (.aload_n 0, 1) := by decide +kernel
theorem dX7_last_26 : decode cX7_last 26 = .ok (.getfield 19, 3) := by decide +kernel
theorem dX7_last_29 : decode cX7_last 29 = .ok (.getfield 115, 3) := by decide +kernel
theorem dX7_last_32 : decode cX7_last 32 = .ok (.iload_n 1, 1) := by decide +kernel
theorem dX7_last_33 : decode cX7_last 33 = .ok (.iconst 1, 1) := by decide +kernel
theorem dX7_last_34 : decode cX7_last 34 = .ok (.invokestatic 220, 3) := by decide +kernel
theorem dX7_last_37 : decode cX7_last 37 = .ok (.ifCond .ge 6, 3) := by decide +kernel
theorem dX7_last_40 : decode cX7_last 40 = .ok (.bipush (-9), 2) := by decide +kernel
theorem dX7_last_42 : decode cX7_last 42 = .ok (.ireturn, 1) := by decide +kernel
theorem dX7_last_43 : decode cX7_last 43 = .ok (.aload_n 0, 1) := by decide +kernel
theorem dX7_last_44 : decode cX7_last 44 = .ok (.getfield 19, 3) := by decide +kernel
theorem dX7_last_47 : decode cX7_last 47 = .ok (.getfield 115, 3) := by decide +kernel
theorem dX7_last_50 : decode cX7_last 50 = .ok (.iload_n 1, 1) := by decide +kernel
theorem dX7_last_51 : decode cX7_last 51 = .ok (.iconst 1, 1) := by decide +kernel
theorem dX7_last_52 : decode cX7_last 52 = .ok (.invokestatic 223, 3) := by decide +kernel
theorem dX7_last_55 : decode cX7_last 55 = .ok (.invokestatic 138, 3) := by decide +kernel
theorem dX7_last_58 : decode cX7_last 58 = .ok (.ireturn, 1) := by decide +kernel
theorem dX7_idle_0 : decode cX7_idle 0 = .ok (.aload_n 0, 1) := by decide +kernel
theorem dX7_idle_1 : decode cX7_idle 1 = .ok (.getfield 19, 3) := by decide +kernel
theorem dX7_idle_4 : decode cX7_idle 4 = .ok (.iload_n 1, 1) := by decide +kernel
theorem dX7_idle_5 : decode cX7_idle 5 = .ok (.invokevirtual 149, 3) := by decide +kernel
theorem dX7_idle_8 : decode cX7_idle 8 = .ok (.ifCond .ne 12, 3) := by decide +kernel
theorem dX7_idle_11 : decode cX7_idle 11 = .ok (.ldc 226, 2) := by decide +kernel
theorem dX7_idle_13 : decode cX7_idle 13 = .ok (.aload_n 0, 1) := by decide +kernel
theorem dX7_idle_14 : decode cX7_idle 14 = .ok (.iconst (-1), 1) := by decide +kernel
theorem dX7_idle_15 : decode cX7_idle 15 = .ok (.invokevirtual 66, 3) := by decide +kernel
theorem dX7_idle_18 : decode cX7_idle 18 = .ok (.isub, 1) := by decide +kernel
theorem dX7_idle_19 : decode cX7_idle 19 = .ok (.ireturn, 1) := by decide +kernel
theorem dX7_idle_20 : decode cX7_idle 20 = .ok (.aload_n 0, 1) := by decide +kernel
theorem dX7_idle_21 : decode cX7_idle 21 = .ok (.getfield 19, 3) := by decide +kernel
theorem dX7_idle_24 : decode cX7_idle 24 = .ok (.getfield 174, 3) := by decide +kernel
theorem dX7_idle_27 : decode cX7_idle 27 = .ok (.ifCond .eq 15, 3) := by decide +kernel
theorem dX7_idle_30 : decode cX7_idle 30 = .ok (.aload_n 0, 1) := by decide +kernel
theorem dX7_idle_31 : decode cX7_idle 31 = .ok (.getfield 19, 3) := by decide +kernel
theorem dX7_idle_34 : decode cX7_idle 34 = .ok (.getfield 174, 3) := by decide +kernel
theorem dX7_idle_37 : decode cX7_idle 37 = .ok (.bipush 8, 2) := by decide +kernel
theorem dX7_idle_39 : decode cX7_idle 39 = .ok (.if_icmp .lt 13, 3) := by decide +kernel
theorem dX7_idle_42 : decode cX7_idle 42 = .ok (.ldc 226, 2) := by decide +kernel
theorem dX7_idle_44 : decode cX7_idle 44 = .ok (.aload_n 0, 1) := by decide +kernel
theorem dX7_idle_45 : decode cX7_idle 45 = .ok (.bipush (-3), 2) := by decide +kernel
theorem dX7_idle_47 : decode cX7_idle 47 = .ok (.invokevirtual 66, 3) := by decide +kernel
theorem dX7_idle_50 : decode cX7_idle 50 = .ok (.isub, 1) := by decide +kernel
theorem dX7_idle_51 : decode cX7_idle 51 = .ok (.ireturn, 1) := by decide +kernel
theorem dX7_idle_52 : decode cX7_idle 52 = .ok (.aload_n 0, 1) := by decide +kernel
theorem dX7_idle_53 : decode cX7_idle 53 = .ok (.getfield 19, 3) := by decide +kernel
theorem dX7_idle_56 : decode cX7_idle 56 = .ok (.getfield 155, 3) := by decide +kernel
theorem dX7_idle_59 : decode cX7_idle 59 = .ok (.iload_n 1, 1) := by decide +kernel
theorem dX7_idle_60 : decode cX7_idle 60 = .ok (.iaload, 1) := by decide +kernel
theorem dX7_idle_61 : decode cX7_idle 61 = .ok (.istore_n 2, 1) := by decide +kernel
theorem dX7_idle_62 : decode cX7_idle 62 = .ok (.aload_n 0, 1) := by decide +kernel
theorem dX7_idle_63 : decode cX7_idle 63 = .ok (.getfield 48, 3) := by decide +kernel
theorem dX7_idle_66 : decode cX7_idle 66 = .ok (.iload_n 2, 1) := by decide +kernel
theorem dX7_idle_67 : decode cX7_idle 67 = .ok (.aload_n 0, 1) := by decide +kernel
theorem dX7_idle_68 : decode cX7_idle 68 = .ok (.getfield 19, 3) := by decide +kernel
theorem dX7_idle_71 : decode cX7_idle 71 = .ok (.getfield 115, 3) := by decide +kernel
theorem dX7_idle_74 : decode cX7_idle 74 = .ok (.invokevirtual 177, 3) := by decide +kernel
theorem dX7_idle_77 : decode cX7_idle 77 = .ok (.aload_n 0, 1) := by decide +kernel
theorem dX7_idle_78 : decode cX7_idle 78 = .ok (.getfield 52, 3) := by decide +kernel
theorem dX7_idle_81 : decode cX7_idle 81 = .ok (.iload_n 2, 1) := by decide +kernel
theorem dX7_idle_82 : decode cX7_idle 82 = .ok (.aload_n 0, 1) := by decide +kernel
theorem dX7_idle_83 : decode cX7_idle 83 = .ok (.getfield 19, 3) := by decide +kernel
theorem dX7_idle_86 : decode cX7_idle 86 = .ok (.getfield 115, 3) := by decide +kernel
theorem dX7_idle_89 : decode cX7_idle 89 = .ok (.invokevirtual 177, 3) := by decide +kernel
theorem dX7_idle_92 : decode cX7_idle 92 = .ok (.isub, 1) := by decide +kernel
theorem dX7_idle_93 : decode cX7_idle 93 = .ok (.ireturn, 1) := by decide +kernel
theorem dX7_under_0 : decode cX7_under 0 = .ok (.aload_n 0, 1) := by decide +kernel
theorem dX7_under_1 : decode cX7_under 1 = .ok (.getfield 19, 3) := by decide +kernel
theorem dX7_under_4 : decode cX7_under 4 = .ok (.iload_n 1, 1) := by decide +kernel
theorem dX7_under_5 : decode cX7_under 5 = .ok (.invokevirtual 149, 3) := by decide +kernel
theorem dX7_under_8 : decode cX7_under 8 = .ok (.ifCond .ne 9, 3) := by decide +kernel
theorem dX7_under_11 : decode cX7_under 11 = .ok (.aload_n 0, 1) := by decide +kernel
theorem dX7_under_12 : decode cX7_under 12 = .ok (.iconst (-1), 1) := by decide +kernel
theorem dX7_under_13 : decode cX7_under 13 = .ok (.invokevirtual 66, 3) := by decide +kernel
theorem dX7_under_16 : decode cX7_under 16 = .ok (.ireturn, 1) := by decide +kernel
theorem dX7_under_17 : decode cX7_under 17 = .ok (.iload_n 2, 1) := by decide +kernel
theorem dX7_under_18 : decode cX7_under 18 = .ok (.invokestatic 112, 3) := by decide +kernel
theorem dX7_under_21 : decode cX7_under 21 = .ok (.ifCond .ne 10, 3) := by decide +kernel
theorem dX7_under_24 : decode cX7_under 24 = .ok (.aload_n 0, 1) := by decide +kernel
theorem dX7_under_25 : decode cX7_under 25 = .ok (.bipush (-2), 2) := by decide +kernel
theorem dX7_under_27 : decode cX7_under 27 = .ok (.invokevirtual 66, 3) := by decide +kernel
theorem dX7_under_30 : decode cX7_under 30 = .ok (.ireturn, 1) := by decide +kernel
theorem dX7_under_31 : decode cX7_under 31 = .ok (.aload_n 0, 1) := by decide +kernel
theorem dX7_under_32 : decode cX7_under 32 = .ok (.getfield 19, 3) := by decide +kernel
theorem dX7_under_35 : decode cX7_under 35 = .ok (.getfield 174, 3) := by decide +kernel
theorem dX7_under_38 : decode cX7_under 38 = .ok (.ifCond .ne 8, 3) := by decide +kernel
theorem dX7_under_41 : decode cX7_under 41 = .ok (.bipush (-9), 2) := by decide +kernel
theorem dX7_under_43 : decode cX7_under 43 = .ok (.goto 20, 3) := by decide +kernel
theorem dX7_under_46 : decode cX7_under 46 = .ok (.aload_n 0, 1) := by decide +kernel
theorem dX7_under_47 : decode cX7_under 47 = .ok (.getfield 48, 3) := by decide +kernel
theorem dX7_under_50 : decode cX7_under 50 = .ok (.aload_n 0, 1) := by decide +kernel
theorem dX7_under_51 : decode cX7_under 51 = .ok (.getfield 19, 3) := by decide +kernel
theorem dX7_under_54 : decode cX7_under 54 = .ok (.getfield 155, 3) := by decide +kernel
theorem dX7_under_57 : decode cX7_under 57 = .ok (.iload_n 1, 1) := by decide +kernel
theorem dX7_under_58 : decode cX7_under 58 = .ok (.iaload, 1) := by decide +kernel
theorem dX7_under_59 : decode cX7_under 59 = .ok (.iload_n 2, 1) := by decide +kernel
theorem dX7_under_60 : decode cX7_under 60 = .ok (.invokevirtual 177, 3) := by decide +kernel
theorem dX7_under_63 : decode cX7_under 63 = .ok (.ireturn, 1) := by decide +kernel
theorem dX7_lots_0 : decode cX7_lots 0 = .ok (.aload_n 0, 1) := by decide +kernel
theorem dX7_lots_1 : decode cX7_lots 1 = .ok (.getfield 19, 3) := by decide +kernel
theorem dX7_lots_4 : decode cX7_lots 4 = .ok (.iload_n 1, 1) := by decide +kernel
theorem dX7_lots_5 : decode cX7_lots 5 = .ok (.invokevirtual 149, 3) := by decide +kernel
theorem dX7_lots_8 : decode cX7_lots 8 = .ok (.ifCond .ne 9, 3) := by decide +kernel
theorem dX7_lots_11 : decode cX7_lots 11 = .ok (.aload_n 0, 1) := by decide +kernel
theorem dX7_lots_12 : decode cX7_lots 12 = .ok (.iconst (-1), 1) := by decide +kernel
theorem dX7_lots_13 : decode cX7_lots 13 = .ok (.invokevirtual 66, 3) := by decide +kernel
theorem dX7_lots_16 : decode cX7_lots 16 = .ok (.ireturn, 1) := by decide +kernel
theorem dX7_lots_17 : decode cX7_lots 17 = .ok (.iload_n 2, 1) := by decide +kernel
theorem dX7_lots_18 : decode cX7_lots 18 = .ok (.iconst 1, 1) := by decide +kernel
theorem dX7_lots_19 : decode cX7_lots 19 = .ok (.if_icmp .ge 10, 3) := by decide +kernel
theorem dX7_lots_22 : decode cX7_lots 22 = .ok (.aload_n 0, 1) := by decide +kernel
theorem dX7_lots_23 : decode cX7_lots 23 = .ok (.bipush (-4), 2) := by decide +kernel
theorem dX7_lots_25 : decode cX7_lots 25 = .ok (.invokevirtual 66, 3) := by decide +kernel
theorem dX7_lots_28 : decode cX7_lots 28 = .ok (.ireturn, 1) := by decide +kernel
theorem dX7_lots_29 : decode cX7_lots 29 = .ok (.iload_n 2, 1) := by decide +kernel
theorem dX7_lots_30 : decode cX7_lots 30 = .ok (.bipush 30, 2) := by decide +kernel
theorem dX7_lots_32 : decode cX7_lots 32 = .ok (.if_icmp .le 10, 3) := by decide +kernel
theorem dX7_lots_35 : decode cX7_lots 35 = .ok (.aload_n 0, 1) := by decide +kernel
theorem dX7_lots_36 : decode cX7_lots 36 = .ok (.bipush (-6), 2) := by decide +kernel
theorem dX7_lots_38 : decode cX7_lots 38 = .ok (.invokevirtual 66, 3) := by decide +kernel
theorem dX7_lots_41 : decode cX7_lots 41 = .ok (.ireturn, 1) := by decide +kernel
theorem dX7_lots_42 : decode cX7_lots 42 = .ok (.aload_n 0, 1) := by decide +kernel
theorem dX7_lots_43 : decode cX7_lots 43 = .ok (.getfield 19, 3) := by decide +kernel
theorem dX7_lots_46 : decode cX7_lots 46 = .ok (.getfield 174, 3) := by decide +kernel
theorem dX7_lots_49 : decode cX7_lots 49 = .ok (.ifCond .ne 10, 3) := by decide +kernel
theorem dX7_lots_52 : decode cX7_lots 52 = .ok (.aload_n 0, 1) := by decide +kernel
theorem dX7_lots_53 : decode cX7_lots 53 = .ok (.bipush (-3), 2) := by decide +kernel
theorem dX7_lots_55 : decode cX7_lots 55 = .ok (.invokevirtual 66, 3) := by decide +kernel
theorem dX7_lots_58 : decode cX7_lots 58 = .ok (.ireturn, 1) := by decide +kernel
theorem dX7_lots_59 : decode cX7_lots 59 = .ok (.aload_n 0, 1) := by decide +kernel
theorem dX7_lots_60 : decode cX7_lots 60 = .ok (.getfield 19, 3) := by decide +kernel
theorem dX7_lots_63 : decode cX7_lots 63 = .ok (.aload_n 0, 1) := by decide +kernel
theorem dX7_lots_64 : decode cX7_lots 64 = .ok (.aload_n 0, 1) := by decide +kernel
theorem dX7_lots_65 : decode cX7_lots 65 = .ok (.getfield 19, 3) := by decide +kernel
theorem dX7_lots_68 : decode cX7_lots 68 = .ok (.getfield 155, 3) := by decide +kernel
theorem dX7_lots_71 : decode cX7_lots 71 = .ok (.iload_n 1, 1) := by decide +kernel
theorem dX7_lots_72 : decode cX7_lots 72 = .ok (.iaload, 1) := by decide +kernel
theorem dX7_lots_73 : decode cX7_lots 73 = .ok (.iload_n 2, 1) := by decide +kernel
theorem dX7_lots_74 : decode cX7_lots 74 = .ok (.iload_n 3, 1) := by decide +kernel
theorem dX7_lots_75 : decode cX7_lots 75 = .ok (.invokevirtual 227, 3) := by decide +kernel
theorem dX7_lots_78 : decode cX7_lots 78 = .ok (.invokevirtual 197, 3) := by decide +kernel
theorem dX7_lots_81 : decode cX7_lots 81 = .ok (.ireturn, 1) := by decide +kernel
theorem dX7_image_0 : decode cX7_image 0 = .ok (.aload_n 0, 1) := by decide +kernel
theorem dX7_image_1 : decode cX7_image 1 = .ok (.getfield 58, 3) := by decide +kernel
theorem dX7_image_4 : decode cX7_image 4 = .ok (.getfield 230, 3) := by decide +kernel
theorem dX7_image_7 : decode cX7_image 7 = .ok (.aload_n 0, 1) := by decide +kernel
theorem dX7_image_8 : decode cX7_image 8 = .ok (.getfield 19, 3) := by decide +kernel
theorem dX7_image_11 : decode cX7_image 11 = .ok (.invokevirtual 82, 3) := by decide +kernel
theorem dX7_image_14 : decode cX7_image 14 = .ok (.aload_n 0, 1) := by decide +kernel
theorem dX7_image_15 : decode cX7_image 15 = .ok (.getfield 58, 3) := by decide +kernel
theorem dX7_image_18 : decode cX7_image 18 = .ok (.getfield 233, 3) := by decide +kernel
theorem dX7_image_21 : decode cX7_image 21 = .ok (.aload_n 0, 1) := by decide +kernel
theorem dX7_image_22 : decode cX7_image 22 = .ok (.getfield 39, 3) := by decide +kernel
theorem dX7_image_25 : decode cX7_image 25 = .ok (.invokevirtual 236, 3) := by decide +kernel
theorem dX7_image_28 : decode cX7_image 28 = .ok (.aload_n 0, 1) := by decide +kernel
theorem dX7_image_29 : decode cX7_image 29 = .ok (.getfield 58, 3) := by decide +kernel
theorem dX7_image_32 : decode cX7_image 32 = .ok (.aload_n 0, 1) := by decide +kernel
theorem dX7_image_33 : decode cX7_image 33 = .ok (.getfield 194, 3) := by decide +kernel
theorem dX7_image_36 : decode cX7_image 36 = .ok (.putfield 239, 3) := by decide +kernel
theorem dX7_image_39 : decode cX7_image 39 = .ok (.aload_n 0, 1) := by decide +kernel
theorem dX7_image_40 : decode cX7_image 40 = .ok (.getfield 58, 3) := by decide +kernel
theorem dX7_image_43 : decode cX7_image 43 = .ok (.iconst 1, 1) := by decide +kernel
theorem dX7_image_44 : decode cX7_image 44 = .ok (.putfield 242, 3) := by decide +kernel
theorem dX7_image_47 : decode cX7_image 47 = .ok (.aload_n 0, 1) := by decide +kernel
theorem dX7_image_48 : decode cX7_image 48 = .ok (.getfield 19, 3) := by decide +kernel
theorem dX7_image_51 : decode cX7_image 51 = .ok (.getfield 174, 3) := by decide +kernel
theorem dX7_image_54 : decode cX7_image 54 = .ok (.ireturn, 1) := by decide +kernel
theorem dX7_on_0 : decode cX7_on 0 = .ok (.aload_n 0, 1) := by decide +kernel
theorem dX7_on_1 : decode cX7_on 1 = .ok (.getfield 58, 3) := by decide +kernel
theorem dX7_on_4 : decode cX7_on 4 = .ok (.getfield 242, 3) := by decide +kernel
theorem dX7_on_7 : decode cX7_on 7 = .ok (.ifCond .ne 10, 3) := by decide +kernel
theorem dX7_on_10 : decode cX7_on 10 = .ok (.aload_n 0, 1) := by decide +kernel
theorem dX7_on_11 : decode cX7_on 11 = .ok (.bipush (-3), 2) := by decide +kernel
theorem dX7_on_13 : decode cX7_on 13 = .ok (.invokevirtual 66, 3) := by decide +kernel
theorem dX7_on_16 : decode cX7_on 16 = .ok (.ireturn, 1) := by decide +kernel
theorem dX7_on_17 : decode cX7_on 17 = .ok (.aload_n 0, 1) := by decide +kernel
theorem dX7_on_18 : decode cX7_on 18 = .ok (.getfield 19, 3) := by decide +kernel
theorem dX7_on_21 : decode cX7_on 21 = .ok (.aload_n 0, 1) := by decide +kernel
theorem dX7_on_22 : decode cX7_on 22 = .ok (.getfield 58, 3) := by decide +kernel
theorem dX7_on_25 : decode cX7_on 25 = .ok (.getfield 230, 3) := by decide +kernel
theorem dX7_on_28 : decode cX7_on 28 = .ok (.invokevirtual 82, 3) := by decide +kernel
theorem dX7_on_31 : decode cX7_on 31 = .ok (.aload_n 0, 1) := by decide +kernel
theorem dX7_on_32 : decode cX7_on 32 = .ok (.getfield 39, 3) := by decide +kernel
theorem dX7_on_35 : decode cX7_on 35 = .ok (.aload_n 0, 1) := by decide +kernel
theorem dX7_on_36 : decode cX7_on 36 = .ok (.getfield 58, 3) := by decide +kernel
theorem dX7_on_39 : decode cX7_on 39 = .ok (.getfield 233, 3) := by decide +kernel
theorem dX7_on_42 : decode cX7_on 42 = .ok (.invokevirtual 236, 3) := by decide +kernel
theorem dX7_on_45 : decode cX7_on 45 = .ok (.aload_n 0, 1) := by decide +kernel
theorem dX7_on_46 : decode cX7_on 46 = .ok (.aload_n 0, 1) := by decide +kernel
theorem dX7_on_47 : decode cX7_on 47 = .ok (.getfield 58, 3) := by decide +kernel
theorem dX7_on_50 : decode cX7_on 50 = .ok (.getfield 239, 3) := by decide +kernel
theorem dX7_on_53 : decode cX7_on 53 = .ok (.putfield 194, 3) := by decide +kernel
theorem dX7_on_56 : decode cX7_on 56 = .ok (.aload_n 0, 1) := by decide +kernel
theorem dX7_on_57 : decode cX7_on 57 = .ok (.getfield 29, 3) := by decide +kernel
theorem dX7_on_60 : decode cX7_on 60 = .ok (.iconst 0, 1) := by decide +kernel
theorem dX7_on_61 : decode cX7_on 61 = .ok (.putfield 190, 3) := by decide +kernel
theorem dX7_on_64 : decode cX7_on 64 = .ok (.aload_n 0, 1) := by decide +kernel
theorem dX7_on_65 : decode cX7_on 65 = .ok (.getfield 33, 3) := by decide +kernel
theorem dX7_on_68 : decode cX7_on 68 = .ok (.iconst 0, 1) := by decide +kernel
theorem dX7_on_69 : decode cX7_on 69 = .ok (.putfield 190, 3) := by decide +kernel
theorem dX7_on_72 : decode cX7_on 72 = .ok (.aload_n 0, 1) := by decide +kernel
theorem dX7_on_73 : decode cX7_on 73 = .ok (.invokevirtual 90, 3) := by decide +kernel
theorem dX7_on_76 : decode cX7_on 76 = .ok (.aload_n 0, 1) := by decide +kernel
theorem dX7_on_77 : decode cX7_on 77 = .ok (.getfield 19, 3) := by decide +kernel
theorem dX7_on_80 : decode cX7_on 80 = .ok (.getfield 174, 3) := by decide +kernel
theorem dX7_on_83 : decode cX7_on 83 = .ok (.ireturn, 1) := by decide +kernel
theorem dX7_count_0 : decode cX7_count 0 = .ok (.iload_n 1, 1) := by decide +kernel
theorem dX7_count_1 : decode cX7_count 1 = .ok (.bipush 11, 2) := by decide +kernel
theorem dX7_count_3 : decode cX7_count 3 = .ok (.if_icmp .lt 19, 3) := by decide +kernel
theorem dX7_count_6 : decode cX7_count 6 = .ok (.iload_n 1, 1) := by decide +kernel
theorem dX7_count_7 : decode cX7_count 7 = .ok (.bipush 16, 2) := by decide +kernel
theorem dX7_count_9 : decode cX7_count 9 = .ok (.if_icmp .gt 13, 3) := by decide +kernel
theorem dX7_count_12 : decode cX7_count 12 = .ok (.aload_n 0, 1) := by decide +kernel
theorem dX7_count_13 : decode cX7_count 13 = .ok (.getfield 62, 3) := by decide +kernel
theorem dX7_count_16 : decode cX7_count 16 = .ok (.iload_n 1, 1) := by decide +kernel
theorem dX7_count_17 : decode cX7_count 17 = .ok (.bipush 10, 2) := by decide +kernel
theorem dX7_count_19 : decode cX7_count 19 = .ok (.isub, 1) := by decide +kernel
theorem dX7_count_20 : decode cX7_count 20 = .ok (.iaload, 1) := by decide +kernel
theorem dX7_count_21 : decode cX7_count 21 = .ok (.ireturn, 1) := by decide +kernel
theorem dX7_count_22 : decode cX7_count 22 = .ok (.iload_n 1, 1) := by decide +kernel
theorem dX7_count_23 : decode cX7_count 23 = .ok (.tableswitch 124 0 8 #[49, 57, 65, 73, 81, 89, 97, 105, 116], 49) := by decide +kernel
theorem dX7_count_72 : decode cX7_count 72 = .ok (.aload_n 0, 1) := by decide +kernel
theorem dX7_count_73 : decode cX7_count 73 = .ok (.getfield 19, 3) := by decide +kernel
theorem dX7_count_76 : decode cX7_count 76 = .ok (.getfield 174, 3) := by decide +kernel
theorem dX7_count_79 : decode cX7_count 79 = .ok (.ireturn, 1) := by decide +kernel
theorem dX7_count_80 : decode cX7_count 80 = .ok (.aload_n 0, 1) := by decide +kernel
theorem dX7_count_81 : decode cX7_count 81 = .ok (.getfield 19, 3) := by decide +kernel
theorem dX7_count_84 : decode cX7_count 84 = .ok (.getfield 246, 3) := by decide +kernel
theorem dX7_count_87 : decode cX7_count 87 = .ok (.ireturn, 1) := by decide +kernel
theorem dX7_count_88 : decode cX7_count 88 = .ok (.aload_n 0, 1) := by decide +kernel
theorem dX7_count_89 : decode cX7_count 89 = .ok (.getfield 39, 3) := by decide +kernel
theorem dX7_count_92 : decode cX7_count 92 = .ok (.getfield 203, 3) := by decide +kernel
theorem dX7_count_95 : decode cX7_count 95 = .ok (.ireturn, 1) := by decide +kernel
theorem dX7_count_96 : decode cX7_count 96 = .ok (.aload_n 0, 1) := by decide +kernel
theorem dX7_count_97 : decode cX7_count 97 = .ok (.getfield 29, 3) := by decide +kernel
theorem dX7_count_100 : decode cX7_count 100 = .ok (.getfield 190, 3) := by decide +kernel
theorem dX7_count_103 : decode cX7_count 103 = .ok (.ireturn, 1) := by decide +kernel
theorem dX7_count_104 : decode cX7_count 104 = .ok (.aload_n 0, 1) := by decide +kernel
theorem dX7_count_105 : decode cX7_count 105 = .ok (.getfield 10, 3) := by decide +kernel
theorem dX7_count_108 : decode cX7_count 108 = .ok (.getfield 70, 3) := by decide +kernel
theorem dX7_count_111 : decode cX7_count 111 = .ok (.ireturn, 1) := by decide +kernel
theorem dX7_count_112 : decode cX7_count 112 = .ok (.aload_n 0, 1) := by decide +kernel
theorem dX7_count_113 : decode cX7_count 113 = .ok (.getfield 19, 3) := by decide +kernel
theorem dX7_count_116 : decode cX7_count 116 = .ok (.getfield 115, 3) := by decide +kernel
theorem dX7_count_119 : decode cX7_count 119 = .ok (.ireturn, 1) := by decide +kernel
theorem dX7_count_120 : decode cX7_count 120 = .ok (.aload_n 0, 1) := by decide +kernel
theorem dX7_count_121 : decode cX7_count 121 = .ok (.getfield 19, 3) := by decide +kernel
theorem dX7_count_124 : decode cX7_count 124 = .ok (.getfield 109, 3) := by decide +kernel
theorem dX7_count_127 : decode cX7_count 127 = .ok (.ireturn, 1) := by decide +kernel
theorem dX7_count_128 : decode cX7_count 128 = .ok (.aload_n 0, 1) := by decide +kernel
theorem dX7_count_129 : decode cX7_count 129 = .ok (.getfield 19, 3) := by decide +kernel
theorem dX7_count_132 : decode cX7_count 132 = .ok (.sipush 255, 3) := by decide +kernel
theorem dX7_count_135 : decode cX7_count 135 = .ok (.invokevirtual 197, 3) := by decide +kernel
theorem dX7_count_138 : decode cX7_count 138 = .ok (.ireturn, 1) := by decide +kernel
theorem dX7_count_139 : decode cX7_count 139 = .ok (.aload_n 0, 1) := by decide +kernel
theorem dX7_count_140 : decode cX7_count 140 = .ok (.getfield 33, 3) := by decide +kernel
theorem dX7_count_143 : decode cX7_count 143 = .ok (.getfield 190, 3) := by decide +kernel
theorem dX7_count_146 : decode cX7_count 146 = .ok (.ireturn, 1) := by decide +kernel
theorem dX7_count_147 : decode cX7_count 147 = .ok (.bipush (-9), 2) := by decide +kernel
theorem dX7_count_149 : decode cX7_count 149 = .ok (.ireturn, 1) := by decide +kernel
theorem dX7_refuse_0 : decode cX7_refuse 0 = .ok (.iload_n 1, 1) := by decide +kernel
theorem dX7_refuse_1 : decode cX7_refuse 1 = .ok (.ifCond .ge 24, 3) := by decide +kernel
theorem dX7_refuse_4 : decode cX7_refuse 4 = .ok (.iload_n 1, 1) := by decide +kernel
theorem dX7_refuse_5 : decode cX7_refuse 5 = .ok (.ineg, 1) := by decide +kernel
theorem dX7_refuse_6 : decode cX7_refuse 6 = .ok (.aload_n 0, 1) := by decide +kernel
theorem dX7_refuse_7 : decode cX7_refuse 7 = .ok (.getfield 62, 3) := by decide +kernel
theorem dX7_refuse_10 : decode cX7_refuse 10 = .ok (.arraylength, 1) := by decide +kernel
theorem dX7_refuse_11 : decode cX7_refuse 11 = .ok (.if_icmp .ge 14, 3) := by decide +kernel
theorem dX7_refuse_14 : decode cX7_refuse 14 = .ok (.aload_n 0, 1) := by decide +kernel
theorem dX7_refuse_15 : decode cX7_refuse 15 = .ok (.getfield 62, 3) := by decide +kernel
theorem dX7_refuse_18 : decode cX7_refuse 18 = .ok (.iload_n 1, 1) := by decide +kernel
theorem dX7_refuse_19 : decode cX7_refuse 19 = .ok (.ineg, 1) := by decide +kernel
theorem dX7_refuse_20 : decode cX7_refuse 20 = .ok (.dup2, 1) := by decide +kernel
theorem dX7_refuse_21 : decode cX7_refuse 21 = .ok (.iaload, 1) := by decide +kernel
theorem dX7_refuse_22 : decode cX7_refuse 22 = .ok (.iconst 1, 1) := by decide +kernel
theorem dX7_refuse_23 : decode cX7_refuse 23 = .ok (.iadd, 1) := by decide +kernel
theorem dX7_refuse_24 : decode cX7_refuse 24 = .ok (.iastore, 1) := by decide +kernel
theorem dX7_refuse_25 : decode cX7_refuse 25 = .ok (.iload_n 1, 1) := by decide +kernel
theorem dX7_refuse_26 : decode cX7_refuse 26 = .ok (.ireturn, 1) := by decide +kernel
theorem dX7_addTo_0 : decode cX7_addTo 0 = .ok (.aload_n 0, 1) := by decide +kernel
theorem dX7_addTo_1 : decode cX7_addTo 1 = .ok (.getfield 19, 3) := by decide +kernel
theorem dX7_addTo_4 : decode cX7_addTo 4 = .ok (.iload_n 2, 1) := by decide +kernel
theorem dX7_addTo_5 : decode cX7_addTo 5 = .ok (.invokevirtual 93, 3) := by decide +kernel
theorem dX7_addTo_8 : decode cX7_addTo 8 = .ok (.ifCond .ne 9, 3) := by decide +kernel
theorem dX7_addTo_11 : decode cX7_addTo 11 = .ok (.aload_n 0, 1) := by decide +kernel
theorem dX7_addTo_12 : decode cX7_addTo 12 = .ok (.iconst (-1), 1) := by decide +kernel
theorem dX7_addTo_13 : decode cX7_addTo 13 = .ok (.invokevirtual 66, 3) := by decide +kernel
theorem dX7_addTo_16 : decode cX7_addTo 16 = .ok (.ireturn, 1) := by decide +kernel
theorem dX7_addTo_17 : decode cX7_addTo 17 = .ok (.aload_n 1, 1) := by decide +kernel
theorem dX7_addTo_18 : decode cX7_addTo 18 = .ok (.getfield 190, 3) := by decide +kernel
theorem dX7_addTo_21 : decode cX7_addTo 21 = .ok (.bipush 6, 2) := by decide +kernel
theorem dX7_addTo_23 : decode cX7_addTo 23 = .ok (.if_icmp .lt 10, 3) := by decide +kernel
theorem dX7_addTo_26 : decode cX7_addTo 26 = .ok (.aload_n 0, 1) := by decide +kernel
theorem dX7_addTo_27 : decode cX7_addTo 27 = .ok (.bipush (-6), 2) := by decide +kernel
theorem dX7_addTo_29 : decode cX7_addTo 29 = .ok (.invokevirtual 66, 3) := by decide +kernel
theorem dX7_addTo_32 : decode cX7_addTo 32 = .ok (.ireturn, 1) := by decide +kernel
theorem dX7_addTo_33 : decode cX7_addTo 33 = .ok (.aload_n 1, 1) := by decide +kernel
theorem dX7_addTo_34 : decode cX7_addTo 34 = .ok (.iload_n 2, 1) := by decide +kernel
theorem dX7_addTo_35 : decode cX7_addTo 35 = .ok (.invokevirtual 249, 3) := by decide +kernel
theorem dX7_addTo_38 : decode cX7_addTo 38 = .ok (.aload_n 1, 1) := by decide +kernel
theorem dX7_addTo_39 : decode cX7_addTo 39 = .ok (.getfield 190, 3) := by decide +kernel
theorem dX7_addTo_42 : decode cX7_addTo 42 = .ok (.ireturn, 1) := by decide +kernel
theorem dX7_takeRow_0 : decode cX7_takeRow 0 = .ok (.aload_n 0, 1) := by decide +kernel
theorem dX7_takeRow_1 : decode cX7_takeRow 1 = .ok (.getfield 29, 3) := by decide +kernel
theorem dX7_takeRow_4 : decode cX7_takeRow 4 = .ok (.aload_n 0, 1) := by decide +kernel
theorem dX7_takeRow_5 : decode cX7_takeRow 5 = .ok (.getfield 19, 3) := by decide +kernel
theorem dX7_takeRow_8 : decode cX7_takeRow 8 = .ok (.invokevirtual 152, 3) := by decide +kernel
theorem dX7_takeRow_11 : decode cX7_takeRow 11 = .ok (.istore_n 1, 1) := by decide +kernel
theorem dX7_takeRow_12 : decode cX7_takeRow 12 = .ok (.aload_n 0, 1) := by decide +kernel
theorem dX7_takeRow_13 : decode cX7_takeRow 13 = .ok (.getfield 29, 3) := by decide +kernel
theorem dX7_takeRow_16 : decode cX7_takeRow 16 = .ok (.iconst 0, 1) := by decide +kernel
theorem dX7_takeRow_17 : decode cX7_takeRow 17 = .ok (.putfield 190, 3) := by decide +kernel
theorem dX7_takeRow_20 : decode cX7_takeRow 20 = .ok (.iload_n 1, 1) := by decide +kernel
theorem dX7_takeRow_21 : decode cX7_takeRow 21 = .ok (.ireturn, 1) := by decide +kernel
theorem dX7_lengthOrWord_0 : decode cX7_lengthOrWord 0 = .ok (.iload_n 2, 1) := by decide +kernel
theorem dX7_lengthOrWord_1 : decode cX7_lengthOrWord 1 = .ok (.iconst (-1), 1) := by decide +kernel
theorem dX7_lengthOrWord_2 : decode cX7_lengthOrWord 2 = .ok (.if_icmp .ne 12, 3) := by decide +kernel
theorem dX7_lengthOrWord_5 : decode cX7_lengthOrWord 5 = .ok (.aload_n 0, 1) := by decide +kernel
theorem dX7_lengthOrWord_6 : decode cX7_lengthOrWord 6 = .ok (.getfield 48, 3) := by decide +kernel
theorem dX7_lengthOrWord_9 : decode cX7_lengthOrWord 9 = .ok (.iload_n 1, 1) := by decide +kernel
theorem dX7_lengthOrWord_10 : decode cX7_lengthOrWord 10 = .ok (.invokevirtual 250, 3) := by decide +kernel
theorem dX7_lengthOrWord_13 : decode cX7_lengthOrWord 13 = .ok (.ireturn, 1) := by decide +kernel
theorem dX7_lengthOrWord_14 : decode cX7_lengthOrWord 14 = .ok (.aload_n 0, 1) := by decide +kernel
theorem dX7_lengthOrWord_15 : decode cX7_lengthOrWord 15 = .ok (.getfield 48, 3) := by decide +kernel
theorem dX7_lengthOrWord_18 : decode cX7_lengthOrWord 18 = .ok (.iload_n 1, 1) := by decide +kernel
theorem dX7_lengthOrWord_19 : decode cX7_lengthOrWord 19 = .ok (.iload_n 2, 1) := by decide +kernel
theorem dX7_lengthOrWord_20 : decode cX7_lengthOrWord 20 = .ok (.invokevirtual 253, 3) := by decide +kernel
theorem dX7_lengthOrWord_23 : decode cX7_lengthOrWord 23 = .ok (.ireturn, 1) := by decide +kernel
theorem dX7_forgetSayings_0 : decode cX7_forgetSayings 0 = .ok (.aload_n 0, 1) := by decide +kernel
theorem dX7_forgetSayings_1 : decode cX7_forgetSayings 1 = .ok (.getfield 48, 3) := by decide +kernel
theorem dX7_forgetSayings_4 : decode cX7_forgetSayings 4 = .ok (.iconst 0, 1) := by decide +kernel
theorem dX7_forgetSayings_5 : decode cX7_forgetSayings 5 = .ok (.putfield 256, 3) := by decide +kernel
theorem dX7_forgetSayings_8 : decode cX7_forgetSayings 8 = .ok (.aload_n 0, 1) := by decide +kernel
theorem dX7_forgetSayings_9 : decode cX7_forgetSayings 9 = .ok (.getfield 52, 3) := by decide +kernel
theorem dX7_forgetSayings_12 : decode cX7_forgetSayings 12 = .ok (.iconst 0, 1) := by decide +kernel
theorem dX7_forgetSayings_13 : decode cX7_forgetSayings 13 = .ok (.putfield 256, 3) := by decide +kernel
theorem dX7_forgetSayings_16 : decode cX7_forgetSayings 16 = .ok (.return_, 1) := by decide +kernel
theorem dX7_leftByLots_0 : decode cX7_leftByLots 0 = .ok (.iload_n 3, 1) := by decide +kernel
theorem dX7_leftByLots_1 : decode cX7_leftByLots 1 = .ok (.istore 4, 2) := by decide +kernel
theorem dX7_leftByLots_3 : decode cX7_leftByLots 3 = .ok (.sipush 255, 3) := by decide +kernel
theorem dX7_leftByLots_6 : decode cX7_leftByLots 6 = .ok (.istore 5, 2) := by decide +kernel
theorem dX7_leftByLots_8 : decode cX7_leftByLots 8 = .ok (.iconst 0, 1) := by decide +kernel
theorem dX7_leftByLots_9 : decode cX7_leftByLots 9 = .ok (.istore 6, 2) := by decide +kernel
theorem dX7_leftByLots_11 : decode cX7_leftByLots 11 = .ok (.iload 6, 2) := by decide +kernel
theorem dX7_leftByLots_13 : decode cX7_leftByLots 13 = .ok (.iload_n 2, 1) := by decide +kernel
theorem dX7_leftByLots_14 : decode cX7_leftByLots 14 = .ok (.if_icmp .ge 99, 3) := by decide +kernel
theorem dX7_leftByLots_17 : decode cX7_leftByLots 17 = .ok (.iload 4, 2) := by decide +kernel
theorem dX7_leftByLots_19 : decode cX7_leftByLots 19 = .ok (.invokestatic 259, 3) := by decide +kernel
theorem dX7_leftByLots_22 : decode cX7_leftByLots 22 = .ok (.istore 4, 2) := by decide +kernel
theorem dX7_leftByLots_24 : decode cX7_leftByLots 24 = .ok (.iconst 1, 1) := by decide +kernel
theorem dX7_leftByLots_25 : decode cX7_leftByLots 25 = .ok (.iload 4, 2) := by decide +kernel
theorem dX7_leftByLots_27 : decode cX7_leftByLots 27 = .ok (.iconst 3, 1) := by decide +kernel
theorem dX7_leftByLots_28 : decode cX7_leftByLots 28 = .ok (.invokestatic 262, 3) := by decide +kernel
theorem dX7_leftByLots_31 : decode cX7_leftByLots 31 = .ok (.iadd, 1) := by decide +kernel
theorem dX7_leftByLots_32 : decode cX7_leftByLots 32 = .ok (.istore 7, 2) := by decide +kernel
theorem dX7_leftByLots_34 : decode cX7_leftByLots 34 = .ok (.sipush 255, 3) := by decide +kernel
theorem dX7_leftByLots_37 : decode cX7_leftByLots 37 = .ok (.istore 8, 2) := by decide +kernel
theorem dX7_leftByLots_39 : decode cX7_leftByLots 39 = .ok (.iconst 0, 1) := by decide +kernel
theorem dX7_leftByLots_40 : decode cX7_leftByLots 40 = .ok (.istore 9, 2) := by decide +kernel
theorem dX7_leftByLots_42 : decode cX7_leftByLots 42 = .ok (.iload 9, 2) := by decide +kernel
theorem dX7_leftByLots_44 : decode cX7_leftByLots 44 = .ok (.iload 7, 2) := by decide +kernel
theorem dX7_leftByLots_46 : decode cX7_leftByLots 46 = .ok (.if_icmp .ge 39, 3) := by decide +kernel
theorem dX7_leftByLots_49 : decode cX7_leftByLots 49 = .ok (.iload 4, 2) := by decide +kernel
theorem dX7_leftByLots_51 : decode cX7_leftByLots 51 = .ok (.invokestatic 259, 3) := by decide +kernel
theorem dX7_leftByLots_54 : decode cX7_leftByLots 54 = .ok (.istore 4, 2) := by decide +kernel
theorem dX7_leftByLots_56 : decode cX7_leftByLots 56 = .ok (.aload_n 0, 1) := by decide +kernel
theorem dX7_leftByLots_57 : decode cX7_leftByLots 57 = .ok (.getfield 19, 3) := by decide +kernel
theorem dX7_leftByLots_60 : decode cX7_leftByLots 60 = .ok (.iload 8, 2) := by decide +kernel
theorem dX7_leftByLots_62 : decode cX7_leftByLots 62 = .ok (.iload 4, 2) := by decide +kernel
theorem dX7_leftByLots_64 : decode cX7_leftByLots 64 = .ok (.aload_n 0, 1) := by decide +kernel
theorem dX7_leftByLots_65 : decode cX7_leftByLots 65 = .ok (.getfield 19, 3) := by decide +kernel
theorem dX7_leftByLots_68 : decode cX7_leftByLots 68 = .ok (.getfield 174, 3) := by decide +kernel
theorem dX7_leftByLots_71 : decode cX7_leftByLots 71 = .ok (.invokestatic 262, 3) := by decide +kernel
theorem dX7_leftByLots_74 : decode cX7_leftByLots 74 = .ok (.invokevirtual 265, 3) := by decide +kernel
theorem dX7_leftByLots_77 : decode cX7_leftByLots 77 = .ok (.istore 8, 2) := by decide +kernel
theorem dX7_leftByLots_79 : decode cX7_leftByLots 79 = .ok (.iinc 9 1, 3) := by decide +kernel
theorem dX7_leftByLots_82 : decode cX7_leftByLots 82 = .ok (.goto (-40), 3) := by decide +kernel
theorem dX7_leftByLots_85 : decode cX7_leftByLots 85 = .ok (.iload 5, 2) := by decide +kernel
theorem dX7_leftByLots_87 : decode cX7_leftByLots 87 = .ok (.aload_n 0, 1) := by decide +kernel
theorem dX7_leftByLots_88 : decode cX7_leftByLots 88 = .ok (.getfield 48, 3) := by decide +kernel
theorem dX7_leftByLots_91 : decode cX7_leftByLots 91 = .ok (.iload 8, 2) := by decide +kernel
theorem dX7_leftByLots_93 : decode cX7_leftByLots 93 = .ok (.iload_n 1, 1) := by decide +kernel
theorem dX7_leftByLots_94 : decode cX7_leftByLots 94 = .ok (.aload_n 0, 1) := by decide +kernel
theorem dX7_leftByLots_95 : decode cX7_leftByLots 95 = .ok (.getfield 19, 3) := by decide +kernel
theorem dX7_leftByLots_98 : decode cX7_leftByLots 98 = .ok (.getfield 109, 3) := by decide +kernel
theorem dX7_leftByLots_101 : decode cX7_leftByLots 101 = .ok (.invokevirtual 268, 3) := by decide +kernel
theorem dX7_leftByLots_104 : decode cX7_leftByLots 104 = .ok (.iand, 1) := by decide +kernel
theorem dX7_leftByLots_105 : decode cX7_leftByLots 105 = .ok (.istore 5, 2) := by decide +kernel
theorem dX7_leftByLots_107 : decode cX7_leftByLots 107 = .ok (.iinc 6 1, 3) := by decide +kernel
theorem dX7_leftByLots_110 : decode cX7_leftByLots 110 = .ok (.goto (-99), 3) := by decide +kernel
theorem dX7_leftByLots_113 : decode cX7_leftByLots 113 = .ok (.iload 5, 2) := by decide +kernel
theorem dX7_leftByLots_115 : decode cX7_leftByLots 115 = .ok (.ireturn, 1) := by decide +kernel
theorem dX7_stirred_0 : decode cX7_stirred 0 = .ok (.iload_n 0, 1) := by decide +kernel
theorem dX7_stirred_1 : decode cX7_stirred 1 = .ok (.ldc_w 271, 3) := by decide +kernel
theorem dX7_stirred_4 : decode cX7_stirred 4 = .ok (.imul, 1) := by decide +kernel
theorem dX7_stirred_5 : decode cX7_stirred 5 = .ok (.ldc_w 272, 3) := by decide +kernel
theorem dX7_stirred_8 : decode cX7_stirred 8 = .ok (.iadd, 1) := by decide +kernel
theorem dX7_stirred_9 : decode cX7_stirred 9 = .ok (.ireturn, 1) := by decide +kernel
theorem dX7_drawn_0 : decode cX7_drawn 0 = .ok (.iload_n 1, 1) := by decide +kernel
theorem dX7_drawn_1 : decode cX7_drawn 1 = .ok (.ifCond .gt 7, 3) := by decide +kernel
theorem dX7_drawn_4 : decode cX7_drawn 4 = .ok (.iconst 0, 1) := by decide +kernel
theorem dX7_drawn_5 : decode cX7_drawn 5 = .ok (.goto 14, 3) := by decide +kernel
theorem dX7_drawn_8 : decode cX7_drawn 8 = .ok (.iload_n 0, 1) := by decide +kernel
theorem dX7_drawn_9 : decode cX7_drawn 9 = .ok (.ldc_w 273, 3) := by decide +kernel
theorem dX7_drawn_12 : decode cX7_drawn 12 = .ok (.iand, 1) := by decide +kernel
theorem dX7_drawn_13 : decode cX7_drawn 13 = .ok (.sipush 256, 3) := by decide +kernel
theorem dX7_drawn_16 : decode cX7_drawn 16 = .ok (.idiv, 1) := by decide +kernel
theorem dX7_drawn_17 : decode cX7_drawn 17 = .ok (.iload_n 1, 1) := by decide +kernel
theorem dX7_drawn_18 : decode cX7_drawn 18 = .ok (.irem, 1) := by decide +kernel
theorem dX7_drawn_19 : decode cX7_drawn 19 = .ok (.ireturn, 1) := by decide +kernel
theorem dX7_isCase_0 : decode cX7_isCase 0 = .ok (.iload_n 0, 1) := by decide +kernel
theorem dX7_isCase_1 : decode cX7_isCase 1 = .ok (.ifCond .lt 13, 3) := by decide +kernel
theorem dX7_isCase_4 : decode cX7_isCase 4 = .ok (.iload_n 0, 1) := by decide +kernel
theorem dX7_isCase_5 : decode cX7_isCase 5 = .ok (.bipush 8, 2) := by decide +kernel
theorem dX7_isCase_7 : decode cX7_isCase 7 = .ok (.if_icmp .ge 7, 3) := by decide +kernel
theorem dX7_isCase_10 : decode cX7_isCase 10 = .ok (.iconst 1, 1) := by decide +kernel
theorem dX7_isCase_11 : decode cX7_isCase 11 = .ok (.goto 4, 3) := by decide +kernel
theorem dX7_isCase_14 : decode cX7_isCase 14 = .ok (.iconst 0, 1) := by decide +kernel
theorem dX7_isCase_15 : decode cX7_isCase 15 = .ok (.ireturn, 1) := by decide +kernel
theorem dX7_isSet_0 : decode cX7_isSet 0 = .ok (.iload_n 0, 1) := by decide +kernel
theorem dX7_isSet_1 : decode cX7_isSet 1 = .ok (.ifCond .lt 14, 3) := by decide +kernel
theorem dX7_isSet_4 : decode cX7_isSet 4 = .ok (.iload_n 0, 1) := by decide +kernel
theorem dX7_isSet_5 : decode cX7_isSet 5 = .ok (.sipush 255, 3) := by decide +kernel
theorem dX7_isSet_8 : decode cX7_isSet 8 = .ok (.if_icmp .gt 7, 3) := by decide +kernel
theorem dX7_isSet_11 : decode cX7_isSet 11 = .ok (.iconst 1, 1) := by decide +kernel
theorem dX7_isSet_12 : decode cX7_isSet 12 = .ok (.goto 4, 3) := by decide +kernel
theorem dX7_isSet_15 : decode cX7_isSet 15 = .ok (.iconst 0, 1) := by decide +kernel
theorem dX7_isSet_16 : decode cX7_isSet 16 = .ok (.ireturn, 1) := by decide +kernel
theorem dX7_isLaw_0 : decode cX7_isLaw 0 = .ok (.iload_n 0, 1) := by decide +kernel
theorem dX7_isLaw_1 : decode cX7_isLaw 1 = .ok (.ifCond .lt 12, 3) := by decide +kernel
theorem dX7_isLaw_4 : decode cX7_isLaw 4 = .ok (.iload_n 0, 1) := by decide +kernel
theorem dX7_isLaw_5 : decode cX7_isLaw 5 = .ok (.iconst 5, 1) := by decide +kernel
theorem dX7_isLaw_6 : decode cX7_isLaw 6 = .ok (.if_icmp .ge 7, 3) := by decide +kernel
theorem dX7_isLaw_9 : decode cX7_isLaw 9 = .ok (.iconst 1, 1) := by decide +kernel
theorem dX7_isLaw_10 : decode cX7_isLaw 10 = .ok (.goto 4, 3) := by decide +kernel
theorem dX7_isLaw_13 : decode cX7_isLaw 13 = .ok (.iconst 0, 1) := by decide +kernel
theorem dX7_isLaw_14 : decode cX7_isLaw 14 = .ok (.ireturn, 1) := by decide +kernel
theorem dX7_asBit_0 : decode cX7_asBit 0 = .ok (.iload_n 0, 1) := by decide +kernel
theorem dX7_asBit_1 : decode cX7_asBit 1 = .ok (.ifCond .eq 7, 3) := by decide +kernel
theorem dX7_asBit_4 : decode cX7_asBit 4 = .ok (.iconst 1, 1) := by decide +kernel
theorem dX7_asBit_5 : decode cX7_asBit 5 = .ok (.goto 4, 3) := by decide +kernel
theorem dX7_asBit_8 : decode cX7_asBit 8 = .ok (.iconst 0, 1) := by decide +kernel
theorem dX7_asBit_9 : decode cX7_asBit 9 = .ok (.ireturn, 1) := by decide +kernel
theorem dX7_commonDivisor_0 : decode cX7_commonDivisor 0 = .ok (.iload_n 0, 1) := by decide +kernel
theorem dX7_commonDivisor_1 : decode cX7_commonDivisor 1 = .ok (.istore_n 2, 1) := by decide +kernel
theorem dX7_commonDivisor_2 : decode cX7_commonDivisor 2 = .ok (.iload_n 1, 1) := by decide +kernel
theorem dX7_commonDivisor_3 : decode cX7_commonDivisor 3 = .ok (.istore_n 3, 1) := by decide +kernel
theorem dX7_commonDivisor_4 : decode cX7_commonDivisor 4 = .ok (.iconst 0, 1) := by decide +kernel
theorem dX7_commonDivisor_5 : decode cX7_commonDivisor 5 = .ok (.istore 4, 2) := by decide +kernel
theorem dX7_commonDivisor_7 : decode cX7_commonDivisor 7 = .ok (.iload_n 3, 1) := by decide +kernel
theorem dX7_commonDivisor_8 : decode cX7_commonDivisor 8 = .ok (.ifCond .eq 26, 3) := by decide +kernel
theorem dX7_commonDivisor_11 : decode cX7_commonDivisor 11 = .ok (.iload 4, 2) := by decide +kernel
theorem dX7_commonDivisor_13 : decode cX7_commonDivisor 13 = .ok (.bipush 100, 2) := by decide +kernel
theorem dX7_commonDivisor_15 : decode cX7_commonDivisor 15 = .ok (.if_icmp .ge 19, 3) := by decide +kernel
theorem dX7_commonDivisor_18 : decode cX7_commonDivisor 18 = .ok (.iload_n 2, 1) := by decide +kernel
theorem dX7_commonDivisor_19 : decode cX7_commonDivisor 19 = .ok (.iload_n 3, 1) := by decide +kernel
theorem dX7_commonDivisor_20 : decode cX7_commonDivisor 20 = .ok (.irem, 1) := by decide +kernel
theorem dX7_commonDivisor_21 : decode cX7_commonDivisor 21 = .ok (.istore 5, 2) := by decide +kernel
theorem dX7_commonDivisor_23 : decode cX7_commonDivisor 23 = .ok (.iload_n 3, 1) := by decide +kernel
theorem dX7_commonDivisor_24 : decode cX7_commonDivisor 24 = .ok (.istore_n 2, 1) := by decide +kernel
theorem dX7_commonDivisor_25 : decode cX7_commonDivisor 25 = .ok (.iload 5, 2) := by decide +kernel
theorem dX7_commonDivisor_27 : decode cX7_commonDivisor 27 = .ok (.istore_n 3, 1) := by decide +kernel
theorem dX7_commonDivisor_28 : decode cX7_commonDivisor 28 = .ok (.iinc 4 1, 3) := by decide +kernel
theorem dX7_commonDivisor_31 : decode cX7_commonDivisor 31 = .ok (.goto (-24), 3) := by decide +kernel
theorem dX7_commonDivisor_34 : decode cX7_commonDivisor 34 = .ok (.iload_n 2, 1) := by decide +kernel
theorem dX7_commonDivisor_35 : decode cX7_commonDivisor 35 = .ok (.ireturn, 1) := by decide +kernel
theorem dX7_mayFollow_0 : decode cX7_mayFollow 0 = .ok (.iload_n 1, 1) := by decide +kernel
theorem dX7_mayFollow_1 : decode cX7_mayFollow 1 = .ok (.invokestatic 211, 3) := by decide +kernel
theorem dX7_mayFollow_4 : decode cX7_mayFollow 4 = .ok (.istore_n 3, 1) := by decide +kernel
theorem dX7_mayFollow_5 : decode cX7_mayFollow 5 = .ok (.iload_n 2, 1) := by decide +kernel
theorem dX7_mayFollow_6 : decode cX7_mayFollow 6 = .ok (.invokestatic 211, 3) := by decide +kernel
theorem dX7_mayFollow_9 : decode cX7_mayFollow 9 = .ok (.istore 4, 2) := by decide +kernel
theorem dX7_mayFollow_11 : decode cX7_mayFollow 11 = .ok (.iload_n 0, 1) := by decide +kernel
theorem dX7_mayFollow_12 : decode cX7_mayFollow 12 = .ok (.tableswitch 92 0 3 #[32, 44, 56, 78], 32) := by decide +kernel
theorem dX7_mayFollow_44 : decode cX7_mayFollow 44 = .ok (.iload_n 3, 1) := by decide +kernel
theorem dX7_mayFollow_45 : decode cX7_mayFollow 45 = .ok (.iload 4, 2) := by decide +kernel
theorem dX7_mayFollow_47 : decode cX7_mayFollow 47 = .ok (.if_icmp .ge 7, 3) := by decide +kernel
theorem dX7_mayFollow_50 : decode cX7_mayFollow 50 = .ok (.iconst 1, 1) := by decide +kernel
theorem dX7_mayFollow_51 : decode cX7_mayFollow 51 = .ok (.goto 4, 3) := by decide +kernel
theorem dX7_mayFollow_54 : decode cX7_mayFollow 54 = .ok (.iconst 0, 1) := by decide +kernel
theorem dX7_mayFollow_55 : decode cX7_mayFollow 55 = .ok (.ireturn, 1) := by decide +kernel
theorem dX7_mayFollow_56 : decode cX7_mayFollow 56 = .ok (.iload_n 3, 1) := by decide +kernel
theorem dX7_mayFollow_57 : decode cX7_mayFollow 57 = .ok (.iload 4, 2) := by decide +kernel
theorem dX7_mayFollow_59 : decode cX7_mayFollow 59 = .ok (.if_icmp .gt 7, 3) := by decide +kernel
theorem dX7_mayFollow_62 : decode cX7_mayFollow 62 = .ok (.iconst 1, 1) := by decide +kernel
theorem dX7_mayFollow_63 : decode cX7_mayFollow 63 = .ok (.goto 4, 3) := by decide +kernel
theorem dX7_mayFollow_66 : decode cX7_mayFollow 66 = .ok (.iconst 0, 1) := by decide +kernel
theorem dX7_mayFollow_67 : decode cX7_mayFollow 67 = .ok (.ireturn, 1) := by decide +kernel
theorem dX7_mayFollow_68 : decode cX7_mayFollow 68 = .ok (.iload_n 3, 1) := by decide +kernel
theorem dX7_mayFollow_69 : decode cX7_mayFollow 69 = .ok (.iload_n 1, 1) := by decide +kernel
theorem dX7_mayFollow_70 : decode cX7_mayFollow 70 = .ok (.invokestatic 214, 3) := by decide +kernel
theorem dX7_mayFollow_73 : decode cX7_mayFollow 73 = .ok (.isub, 1) := by decide +kernel
theorem dX7_mayFollow_74 : decode cX7_mayFollow 74 = .ok (.iload 4, 2) := by decide +kernel
theorem dX7_mayFollow_76 : decode cX7_mayFollow 76 = .ok (.iload_n 2, 1) := by decide +kernel
theorem dX7_mayFollow_77 : decode cX7_mayFollow 77 = .ok (.invokestatic 214, 3) := by decide +kernel
theorem dX7_mayFollow_80 : decode cX7_mayFollow 80 = .ok (.isub, 1) := by decide +kernel
theorem dX7_mayFollow_81 : decode cX7_mayFollow 81 = .ok (.if_icmp .ge 7, 3) := by decide +kernel
theorem dX7_mayFollow_84 : decode cX7_mayFollow 84 = .ok (.iconst 1, 1) := by decide +kernel
theorem dX7_mayFollow_85 : decode cX7_mayFollow 85 = .ok (.goto 4, 3) := by decide +kernel
theorem dX7_mayFollow_88 : decode cX7_mayFollow 88 = .ok (.iconst 0, 1) := by decide +kernel
theorem dX7_mayFollow_89 : decode cX7_mayFollow 89 = .ok (.ireturn, 1) := by decide +kernel
theorem dX7_mayFollow_90 : decode cX7_mayFollow 90 = .ok (.iload_n 3, 1) := by decide +kernel
theorem dX7_mayFollow_91 : decode cX7_mayFollow 91 = .ok (.iload 4, 2) := by decide +kernel
theorem dX7_mayFollow_93 : decode cX7_mayFollow 93 = .ok (.iconst 1, 1) := by decide +kernel
theorem dX7_mayFollow_94 : decode cX7_mayFollow 94 = .ok (.iadd, 1) := by decide +kernel
theorem dX7_mayFollow_95 : decode cX7_mayFollow 95 = .ok (.if_icmp .ne 7, 3) := by decide +kernel
theorem dX7_mayFollow_98 : decode cX7_mayFollow 98 = .ok (.iconst 1, 1) := by decide +kernel
theorem dX7_mayFollow_99 : decode cX7_mayFollow 99 = .ok (.goto 4, 3) := by decide +kernel
theorem dX7_mayFollow_102 : decode cX7_mayFollow 102 = .ok (.iconst 0, 1) := by decide +kernel
theorem dX7_mayFollow_103 : decode cX7_mayFollow 103 = .ok (.ireturn, 1) := by decide +kernel
theorem dX7_mayFollow_104 : decode cX7_mayFollow 104 = .ok (.iconst 1, 1) := by decide +kernel
theorem dX7_mayFollow_105 : decode cX7_mayFollow 105 = .ok (.ireturn, 1) := by decide +kernel
theorem dX7_isSettled_0 : decode cX7_isSettled 0 = .ok (.iload_n 1, 1) := by decide +kernel
theorem dX7_isSettled_1 : decode cX7_isSettled 1 = .ok (.ifCond .eq 15, 3) := by decide +kernel
theorem dX7_isSettled_4 : decode cX7_isSettled 4 = .ok (.iload_n 1, 1) := by decide +kernel
theorem dX7_isSettled_5 : decode cX7_isSettled 5 = .ok (.iload_n 0, 1) := by decide +kernel
theorem dX7_isSettled_6 : decode cX7_isSettled 6 = .ok (.invokestatic 274, 3) := by decide +kernel
theorem dX7_isSettled_9 : decode cX7_isSettled 9 = .ok (.ifCond .eq 7, 3) := by decide +kernel
theorem dX7_isSettled_12 : decode cX7_isSettled 12 = .ok (.iconst 1, 1) := by decide +kernel
theorem dX7_isSettled_13 : decode cX7_isSettled 13 = .ok (.goto 4, 3) := by decide +kernel
theorem dX7_isSettled_16 : decode cX7_isSettled 16 = .ok (.iconst 0, 1) := by decide +kernel
theorem dX7_isSettled_17 : decode cX7_isSettled 17 = .ok (.ireturn, 1) := by decide +kernel
theorem dX7_isOnOneSide_0 : decode cX7_isOnOneSide 0 = .ok (.iload_n 0, 1) := by decide +kernel
theorem dX7_isOnOneSide_1 : decode cX7_isOnOneSide 1 = .ok (.iload_n 1, 1) := by decide +kernel
theorem dX7_isOnOneSide_2 : decode cX7_isOnOneSide 2 = .ok (.iconst (-1), 1) := by decide +kernel
theorem dX7_isOnOneSide_3 : decode cX7_isOnOneSide 3 = .ok (.ixor, 1) := by decide +kernel
theorem dX7_isOnOneSide_4 : decode cX7_isOnOneSide 4 = .ok (.iand, 1) := by decide +kernel
theorem dX7_isOnOneSide_5 : decode cX7_isOnOneSide 5 = .ok (.ifCond .eq 9, 3) := by decide +kernel
theorem dX7_isOnOneSide_8 : decode cX7_isOnOneSide 8 = .ok (.iload_n 0, 1) := by decide +kernel
theorem dX7_isOnOneSide_9 : decode cX7_isOnOneSide 9 = .ok (.iload_n 1, 1) := by decide +kernel
theorem dX7_isOnOneSide_10 : decode cX7_isOnOneSide 10 = .ok (.iand, 1) := by decide +kernel
theorem dX7_isOnOneSide_11 : decode cX7_isOnOneSide 11 = .ok (.ifCond .ne 7, 3) := by decide +kernel
theorem dX7_isOnOneSide_14 : decode cX7_isOnOneSide 14 = .ok (.iconst 1, 1) := by decide +kernel
theorem dX7_isOnOneSide_15 : decode cX7_isOnOneSide 15 = .ok (.goto 4, 3) := by decide +kernel
theorem dX7_isOnOneSide_18 : decode cX7_isOnOneSide 18 = .ok (.iconst 0, 1) := by decide +kernel
theorem dX7_isOnOneSide_19 : decode cX7_isOnOneSide 19 = .ok (.ireturn, 1) := by decide +kernel
theorem dX7_longestFrom_0 : decode cX7_longestFrom 0 = .ok (.iload_n 2, 1) := by decide +kernel
theorem dX7_longestFrom_1 : decode cX7_longestFrom 1 = .ok (.bipush 6, 2) := by decide +kernel
theorem dX7_longestFrom_3 : decode cX7_longestFrom 3 = .ok (.if_icmp .le 6, 3) := by decide +kernel
theorem dX7_longestFrom_6 : decode cX7_longestFrom 6 = .ok (.bipush (-9), 2) := by decide +kernel
theorem dX7_longestFrom_8 : decode cX7_longestFrom 8 = .ok (.ireturn, 1) := by decide +kernel
theorem dX7_longestFrom_9 : decode cX7_longestFrom 9 = .ok (.iconst 0, 1) := by decide +kernel
theorem dX7_longestFrom_10 : decode cX7_longestFrom 10 = .ok (.istore_n 3, 1) := by decide +kernel
theorem dX7_longestFrom_11 : decode cX7_longestFrom 11 = .ok (.iconst 1, 1) := by decide +kernel
theorem dX7_longestFrom_12 : decode cX7_longestFrom 12 = .ok (.istore 4, 2) := by decide +kernel
theorem dX7_longestFrom_14 : decode cX7_longestFrom 14 = .ok (.iload 4, 2) := by decide +kernel
theorem dX7_longestFrom_16 : decode cX7_longestFrom 16 = .ok (.bipush 6, 2) := by decide +kernel
theorem dX7_longestFrom_18 : decode cX7_longestFrom 18 = .ok (.if_icmp .gt 53, 3) := by decide +kernel
theorem dX7_longestFrom_21 : decode cX7_longestFrom 21 = .ok (.iload_n 0, 1) := by decide +kernel
theorem dX7_longestFrom_22 : decode cX7_longestFrom 22 = .ok (.iload 4, 2) := by decide +kernel
theorem dX7_longestFrom_24 : decode cX7_longestFrom 24 = .ok (.iconst 0, 1) := by decide +kernel
theorem dX7_longestFrom_25 : decode cX7_longestFrom 25 = .ok (.invokestatic 130, 3) := by decide +kernel
theorem dX7_longestFrom_28 : decode cX7_longestFrom 28 = .ok (.iload_n 1, 1) := by decide +kernel
theorem dX7_longestFrom_29 : decode cX7_longestFrom 29 = .ok (.iconst 0, 1) := by decide +kernel
theorem dX7_longestFrom_30 : decode cX7_longestFrom 30 = .ok (.invokestatic 130, 3) := by decide +kernel
theorem dX7_longestFrom_33 : decode cX7_longestFrom 33 = .ok (.invokestatic 134, 3) := by decide +kernel
theorem dX7_longestFrom_36 : decode cX7_longestFrom 36 = .ok (.ifCond .eq 29, 3) := by decide +kernel
theorem dX7_longestFrom_39 : decode cX7_longestFrom 39 = .ok (.iload_n 0, 1) := by decide +kernel
theorem dX7_longestFrom_40 : decode cX7_longestFrom 40 = .ok (.iload 4, 2) := by decide +kernel
theorem dX7_longestFrom_42 : decode cX7_longestFrom 42 = .ok (.iload_n 2, 1) := by decide +kernel
theorem dX7_longestFrom_43 : decode cX7_longestFrom 43 = .ok (.iconst 1, 1) := by decide +kernel
theorem dX7_longestFrom_44 : decode cX7_longestFrom 44 = .ok (.iadd, 1) := by decide +kernel
theorem dX7_longestFrom_45 : decode cX7_longestFrom 45 = .ok (.invokestatic 220, 3) := by decide +kernel
theorem dX7_longestFrom_48 : decode cX7_longestFrom 48 = .ok (.istore 5, 2) := by decide +kernel
theorem dX7_longestFrom_50 : decode cX7_longestFrom 50 = .ok (.iload 5, 2) := by decide +kernel
theorem dX7_longestFrom_52 : decode cX7_longestFrom 52 = .ok (.ifCond .ge 6, 3) := by decide +kernel
theorem dX7_longestFrom_55 : decode cX7_longestFrom 55 = .ok (.bipush (-9), 2) := by decide +kernel
theorem dX7_longestFrom_57 : decode cX7_longestFrom 57 = .ok (.ireturn, 1) := by decide +kernel
theorem dX7_longestFrom_58 : decode cX7_longestFrom 58 = .ok (.iload_n 3, 1) := by decide +kernel
theorem dX7_longestFrom_59 : decode cX7_longestFrom 59 = .ok (.iload 5, 2) := by decide +kernel
theorem dX7_longestFrom_61 : decode cX7_longestFrom 61 = .ok (.invokestatic 277, 3) := by decide +kernel
theorem dX7_longestFrom_64 : decode cX7_longestFrom 64 = .ok (.istore_n 3, 1) := by decide +kernel
theorem dX7_longestFrom_65 : decode cX7_longestFrom 65 = .ok (.iinc 4 1, 3) := by decide +kernel
theorem dX7_longestFrom_68 : decode cX7_longestFrom 68 = .ok (.goto (-54), 3) := by decide +kernel
theorem dX7_longestFrom_71 : decode cX7_longestFrom 71 = .ok (.iload_n 3, 1) := by decide +kernel
theorem dX7_longestFrom_72 : decode cX7_longestFrom 72 = .ok (.iconst 1, 1) := by decide +kernel
theorem dX7_longestFrom_73 : decode cX7_longestFrom 73 = .ok (.iadd, 1) := by decide +kernel
theorem dX7_longestFrom_74 : decode cX7_longestFrom 74 = .ok (.ireturn, 1) := by decide +kernel
theorem dX7_speaksLast_0 : decode cX7_speaksLast 0 = .ok (.iload_n 2, 1) := by decide +kernel
theorem dX7_speaksLast_1 : decode cX7_speaksLast 1 = .ok (.bipush 6, 2) := by decide +kernel
theorem dX7_speaksLast_3 : decode cX7_speaksLast 3 = .ok (.if_icmp .le 5, 3) := by decide +kernel
theorem dX7_speaksLast_6 : decode cX7_speaksLast 6 = .ok (.iconst 1, 1) := by decide +kernel
theorem dX7_speaksLast_7 : decode cX7_speaksLast 7 = .ok (.ireturn, 1) := by decide +kernel
theorem dX7_speaksLast_8 : decode cX7_speaksLast 8 = .ok (.iconst 1, 1) := by decide +kernel
theorem dX7_speaksLast_9 : decode cX7_speaksLast 9 = .ok (.istore_n 3, 1) := by decide +kernel
theorem dX7_speaksLast_10 : decode cX7_speaksLast 10 = .ok (.iload_n 3, 1) := by decide +kernel
theorem dX7_speaksLast_11 : decode cX7_speaksLast 11 = .ok (.bipush 6, 2) := by decide +kernel
theorem dX7_speaksLast_13 : decode cX7_speaksLast 13 = .ok (.if_icmp .gt 39, 3) := by decide +kernel
theorem dX7_speaksLast_16 : decode cX7_speaksLast 16 = .ok (.iload_n 0, 1) := by decide +kernel
theorem dX7_speaksLast_17 : decode cX7_speaksLast 17 = .ok (.iload_n 3, 1) := by decide +kernel
theorem dX7_speaksLast_18 : decode cX7_speaksLast 18 = .ok (.iconst 0, 1) := by decide +kernel
theorem dX7_speaksLast_19 : decode cX7_speaksLast 19 = .ok (.invokestatic 130, 3) := by decide +kernel
theorem dX7_speaksLast_22 : decode cX7_speaksLast 22 = .ok (.iload_n 1, 1) := by decide +kernel
theorem dX7_speaksLast_23 : decode cX7_speaksLast 23 = .ok (.iconst 0, 1) := by decide +kernel
theorem dX7_speaksLast_24 : decode cX7_speaksLast 24 = .ok (.invokestatic 130, 3) := by decide +kernel
theorem dX7_speaksLast_27 : decode cX7_speaksLast 27 = .ok (.invokestatic 134, 3) := by decide +kernel
theorem dX7_speaksLast_30 : decode cX7_speaksLast 30 = .ok (.ifCond .eq 16, 3) := by decide +kernel
theorem dX7_speaksLast_33 : decode cX7_speaksLast 33 = .ok (.iload_n 0, 1) := by decide +kernel
theorem dX7_speaksLast_34 : decode cX7_speaksLast 34 = .ok (.iload_n 3, 1) := by decide +kernel
theorem dX7_speaksLast_35 : decode cX7_speaksLast 35 = .ok (.iload_n 2, 1) := by decide +kernel
theorem dX7_speaksLast_36 : decode cX7_speaksLast 36 = .ok (.iconst 1, 1) := by decide +kernel
theorem dX7_speaksLast_37 : decode cX7_speaksLast 37 = .ok (.iadd, 1) := by decide +kernel
theorem dX7_speaksLast_38 : decode cX7_speaksLast 38 = .ok (.invokestatic 223, 3) := by decide +kernel
theorem dX7_speaksLast_41 : decode cX7_speaksLast 41 = .ok (.ifCond .eq 5, 3) := by decide +kernel
theorem dX7_speaksLast_44 : decode cX7_speaksLast 44 = .ok (.iconst 0, 1) := by decide +kernel
theorem dX7_speaksLast_45 : decode cX7_speaksLast 45 = .ok (.ireturn, 1) := by decide +kernel
theorem dX7_speaksLast_46 : decode cX7_speaksLast 46 = .ok (.iinc 3 1, 3) := by decide +kernel
theorem dX7_speaksLast_49 : decode cX7_speaksLast 49 = .ok (.goto (-39), 3) := by decide +kernel
theorem dX7_speaksLast_52 : decode cX7_speaksLast 52 = .ok (.iconst 1, 1) := by decide +kernel
theorem dX7_speaksLast_53 : decode cX7_speaksLast 53 = .ok (.ireturn, 1) := by decide +kernel
end
section
theorem dX8_init_0 : decode cX8_init 0 = .ok (.aload_n 0, 1) := by decide +kernel
theorem dX8_init_1 : decode cX8_init 1 = .ok (.invokespecial 1, 3) := by decide +kernel
theorem dX8_init_4 : decode cX8_init 4 = .ok (.aload_n 0, 1) := by decide +kernel
theorem dX8_init_5 : decode cX8_init 5 = .ok (.bipush 64, 2) := by decide +kernel
theorem dX8_init_7 : decode cX8_init 7 = .ok (.newarray .int, 2) := by decide +kernel
theorem dX8_init_9 : decode cX8_init 9 = .ok (.putfield 9, 3) := by decide +kernel
theorem dX8_init_12 : decode cX8_init 12 = .ok (.aload_n 0, 1) := by decide +kernel
theorem dX8_init_13 : decode cX8_init 13 = .ok (.bipush 6, 2) := by decide +kernel
theorem dX8_init_15 : decode cX8_init 15 = .ok (.newarray .int, 2) := by decide +kernel
theorem dX8_init_17 : decode cX8_init 17 = .ok (.putfield 13, 3) := by decide +kernel
theorem dX8_init_20 : decode cX8_init 20 = .ok (.aload_n 0, 1) := by decide +kernel
theorem dX8_init_21 : decode cX8_init 21 = .ok (.bipush 6, 2) := by decide +kernel
theorem dX8_init_23 : decode cX8_init 23 = .ok (.newarray .int, 2) := by decide +kernel
theorem dX8_init_25 : decode cX8_init 25 = .ok (.putfield 16, 3) := by decide +kernel
theorem dX8_init_28 : decode cX8_init 28 = .ok (.aload_n 0, 1) := by decide +kernel
theorem dX8_init_29 : decode cX8_init 29 = .ok (.bipush 8, 2) := by decide +kernel
theorem dX8_init_31 : decode cX8_init 31 = .ok (.newarray .int, 2) := by decide +kernel
theorem dX8_init_33 : decode cX8_init 33 = .ok (.putfield 19, 3) := by decide +kernel
theorem dX8_init_36 : decode cX8_init 36 = .ok (.aload_n 0, 1) := by decide +kernel
theorem dX8_init_37 : decode cX8_init 37 = .ok (.bipush 8, 2) := by decide +kernel
theorem dX8_init_39 : decode cX8_init 39 = .ok (.newarray .int, 2) := by decide +kernel
theorem dX8_init_41 : decode cX8_init 41 = .ok (.putfield 22, 3) := by decide +kernel
theorem dX8_init_44 : decode cX8_init 44 = .ok (.aload_n 0, 1) := by decide +kernel
theorem dX8_init_45 : decode cX8_init 45 = .ok (.bipush 8, 2) := by decide +kernel
theorem dX8_init_47 : decode cX8_init 47 = .ok (.newarray .int, 2) := by decide +kernel
theorem dX8_init_49 : decode cX8_init 49 = .ok (.putfield 25, 3) := by decide +kernel
theorem dX8_init_52 : decode cX8_init 52 = .ok (.aload_n 0, 1) := by decide +kernel
theorem dX8_init_53 : decode cX8_init 53 = .ok (.bipush 8, 2) := by decide +kernel
theorem dX8_init_55 : decode cX8_init 55 = .ok (.newarray .int, 2) := by decide +kernel
theorem dX8_init_57 : decode cX8_init 57 = .ok (.putfield 28, 3) := by decide +kernel
theorem dX8_init_60 : decode cX8_init 60 = .ok (.aload_n 0, 1) := by decide +kernel
theorem dX8_init_61 : decode cX8_init 61 = .ok (.iconst 4, 1) := by decide +kernel
theorem dX8_init_62 : decode cX8_init 62 = .ok (.newarray .int, 2) := by decide +kernel
theorem dX8_init_64 : decode cX8_init 64 = .ok (.putfield 31, 3) := by decide +kernel
theorem dX8_init_67 : decode cX8_init 67 = .ok (.aload_n 0, 1) := by decide +kernel
theorem dX8_init_68 : decode cX8_init 68 = .ok (.bipush 12, 2) := by decide +kernel
theorem dX8_init_70 : decode cX8_init 70 = .ok (.newarray .int, 2) := by decide +kernel
theorem dX8_init_72 : decode cX8_init 72 = .ok (.putfield 34, 3) := by decide +kernel
theorem dX8_init_75 : decode cX8_init 75 = .ok (.aload_n 0, 1) := by decide +kernel
theorem dX8_init_76 : decode cX8_init 76 = .ok (.bipush 12, 2) := by decide +kernel
theorem dX8_init_78 : decode cX8_init 78 = .ok (.newarray .int, 2) := by decide +kernel
theorem dX8_init_80 : decode cX8_init 80 = .ok (.putfield 37, 3) := by decide +kernel
theorem dX8_init_83 : decode cX8_init 83 = .ok (.aload_n 0, 1) := by decide +kernel
theorem dX8_init_84 : decode cX8_init 84 = .ok (.bipush 12, 2) := by decide +kernel
theorem dX8_init_86 : decode cX8_init 86 = .ok (.newarray .int, 2) := by decide +kernel
theorem dX8_init_88 : decode cX8_init 88 = .ok (.putfield 40, 3) := by decide +kernel
theorem dX8_init_91 : decode cX8_init 91 = .ok (.aload_n 0, 1) := by decide +kernel
theorem dX8_init_92 : decode cX8_init 92 = .ok (.sipush 585, 3) := by decide +kernel
theorem dX8_init_95 : decode cX8_init 95 = .ok (.newarray .int, 2) := by decide +kernel
theorem dX8_init_97 : decode cX8_init 97 = .ok (.putfield 43, 3) := by decide +kernel
theorem dX8_init_100 : decode cX8_init 100 = .ok (.aload_n 0, 1) := by decide +kernel
theorem dX8_init_101 : decode cX8_init 101 = .ok (.sipush 585, 3) := by decide +kernel
theorem dX8_init_104 : decode cX8_init 104 = .ok (.iconst 3, 1) := by decide +kernel
theorem dX8_init_105 : decode cX8_init 105 = .ok (.multianewarray 46 2, 4) := by decide +kernel
theorem dX8_init_109 : decode cX8_init 109 = .ok (.putfield 48, 3) := by decide +kernel
theorem dX8_init_112 : decode cX8_init 112 = .ok (.aload_n 0, 1) := by decide +kernel
theorem dX8_init_113 : decode cX8_init 113 = .ok (.sipush 585, 3) := by decide +kernel
theorem dX8_init_116 : decode cX8_init 116 = .ok (.newarray .int, 2) := by decide +kernel
theorem dX8_init_118 : decode cX8_init 118 = .ok (.putfield 51, 3) := by decide +kernel
theorem dX8_init_121 : decode cX8_init 121 = .ok (.aload_n 0, 1) := by decide +kernel
theorem dX8_init_122 : decode cX8_init 122 = .ok (.sipush 585, 3) := by decide +kernel
theorem dX8_init_125 : decode cX8_init 125 = .ok (.newarray .int, 2) := by decide +kernel
theorem dX8_init_127 : decode cX8_init 127 = .ok (.putfield 54, 3) := by decide +kernel
theorem dX8_init_130 : decode cX8_init 130 = .ok (.aload_n 0, 1) := by decide +kernel
theorem dX8_init_131 : decode cX8_init 131 = .ok (.iconst 4, 1) := by decide +kernel
theorem dX8_init_132 : decode cX8_init 132 = .ok (.newarray .int, 2) := by decide +kernel
theorem dX8_init_134 : decode cX8_init 134 = .ok (.putfield 57, 3) := by decide +kernel
theorem dX8_init_137 : decode cX8_init 137 = .ok (.aload_n 0, 1) := by decide +kernel
theorem dX8_init_138 : decode cX8_init 138 = .ok (.iconst 3, 1) := by decide +kernel
theorem dX8_init_139 : decode cX8_init 139 = .ok (.newarray .int, 2) := by decide +kernel
theorem dX8_init_141 : decode cX8_init 141 = .ok (.putfield 60, 3) := by decide +kernel
theorem dX8_init_144 : decode cX8_init 144 = .ok (.iconst 0, 1) := by decide +kernel
theorem dX8_init_145 : decode cX8_init 145 = .ok (.istore_n 1, 1) := by decide +kernel
theorem dX8_init_146 : decode cX8_init 146 = .ok (.iload_n 1, 1) := by decide +kernel
theorem dX8_init_147 : decode cX8_init 147 = .ok (.bipush 8, 2) := by decide +kernel
theorem dX8_init_149 : decode cX8_init 149 = .ok (.if_icmp .ge 16, 3) := by decide +kernel
theorem dX8_init_152 : decode cX8_init 152 = .ok (.aload_n 0, 1) := by decide +kernel
theorem dX8_init_153 : decode cX8_init 153 = .ok (.getfield 28, 3) := by decide +kernel
theorem dX8_init_156 : decode cX8_init 156 = .ok (.iload_n 1, 1) := by decide +kernel
theorem dX8_init_157 : decode cX8_init 157 = .ok (.iconst 1, 1) := by decide +kernel
theorem dX8_init_158 : decode cX8_init 158 = .ok (.iastore, 1) := by decide +kernel
theorem dX8_init_159 : decode cX8_init 159 = .ok (.iinc 1 1, 3) := by decide +kernel
theorem dX8_init_162 : decode cX8_init 162 = .ok (.goto (-16), 3) := by decide +kernel
theorem dX8_init_165 : decode cX8_init 165 = .ok (.return_, 1) := by decide +kernel
theorem dX8_in_0 : decode cX8_in 0 = .ok (.iload_n 0, 1) := by decide +kernel
theorem dX8_in_1 : decode cX8_in 1 = .ok (.iload_n 1, 1) := by decide +kernel
theorem dX8_in_2 : decode cX8_in 2 = .ok (.if_icmp .lt 12, 3) := by decide +kernel
theorem dX8_in_5 : decode cX8_in 5 = .ok (.iload_n 0, 1) := by decide +kernel
theorem dX8_in_6 : decode cX8_in 6 = .ok (.iload_n 2, 1) := by decide +kernel
theorem dX8_in_7 : decode cX8_in 7 = .ok (.if_icmp .gt 7, 3) := by decide +kernel
theorem dX8_in_10 : decode cX8_in 10 = .ok (.iconst 1, 1) := by decide +kernel
theorem dX8_in_11 : decode cX8_in 11 = .ok (.goto 4, 3) := by decide +kernel
theorem dX8_in_14 : decode cX8_in 14 = .ok (.iconst 0, 1) := by decide +kernel
theorem dX8_in_15 : decode cX8_in 15 = .ok (.ireturn, 1) := by decide +kernel
theorem dX8_isCase_0 : decode cX8_isCase 0 = .ok (.iload_n 0, 1) := by decide +kernel
theorem dX8_isCase_1 : decode cX8_isCase 1 = .ok (.iconst 0, 1) := by decide +kernel
theorem dX8_isCase_2 : decode cX8_isCase 2 = .ok (.bipush 7, 2) := by decide +kernel
theorem dX8_isCase_4 : decode cX8_isCase 4 = .ok (.invokestatic 63, 3) := by decide +kernel
theorem dX8_isCase_7 : decode cX8_isCase 7 = .ok (.ireturn, 1) := by decide +kernel
theorem dX8_isWord_0 : decode cX8_isWord 0 = .ok (.iload_n 1, 1) := by decide +kernel
theorem dX8_isWord_1 : decode cX8_isWord 1 = .ok (.iconst 0, 1) := by decide +kernel
theorem dX8_isWord_2 : decode cX8_isWord 2 = .ok (.aload_n 0, 1) := by decide +kernel
theorem dX8_isWord_3 : decode cX8_isWord 3 = .ok (.getfield 67, 3) := by decide +kernel
theorem dX8_isWord_6 : decode cX8_isWord 6 = .ok (.iconst 1, 1) := by decide +kernel
theorem dX8_isWord_7 : decode cX8_isWord 7 = .ok (.isub, 1) := by decide +kernel
theorem dX8_isWord_8 : decode cX8_isWord 8 = .ok (.invokestatic 63, 3) := by decide +kernel
theorem dX8_isWord_11 : decode cX8_isWord 11 = .ok (.ireturn, 1) := by decide +kernel
theorem dX8_isPerson_0 : decode cX8_isPerson 0 = .ok (.iload_n 1, 1) := by decide +kernel
theorem dX8_isPerson_1 : decode cX8_isPerson 1 = .ok (.iconst 0, 1) := by decide +kernel
theorem dX8_isPerson_2 : decode cX8_isPerson 2 = .ok (.aload_n 0, 1) := by decide +kernel
theorem dX8_isPerson_3 : decode cX8_isPerson 3 = .ok (.getfield 71, 3) := by decide +kernel
theorem dX8_isPerson_6 : decode cX8_isPerson 6 = .ok (.iconst 1, 1) := by decide +kernel
theorem dX8_isPerson_7 : decode cX8_isPerson 7 = .ok (.isub, 1) := by decide +kernel
theorem dX8_isPerson_8 : decode cX8_isPerson 8 = .ok (.invokestatic 63, 3) := by decide +kernel
theorem dX8_isPerson_11 : decode cX8_isPerson 11 = .ok (.ireturn, 1) := by decide +kernel
theorem dX8_isSet_0 : decode cX8_isSet 0 = .ok (.iload_n 0, 1) := by decide +kernel
theorem dX8_isSet_1 : decode cX8_isSet 1 = .ok (.iconst 0, 1) := by decide +kernel
theorem dX8_isSet_2 : decode cX8_isSet 2 = .ok (.sipush 255, 3) := by decide +kernel
theorem dX8_isSet_5 : decode cX8_isSet 5 = .ok (.invokestatic 63, 3) := by decide +kernel
theorem dX8_isSet_8 : decode cX8_isSet 8 = .ok (.ireturn, 1) := by decide +kernel
theorem dX8_digit_0 : decode cX8_digit 0 = .ok (.aload_n 0, 1) := by decide +kernel
theorem dX8_digit_1 : decode cX8_digit 1 = .ok (.invokevirtual 84, 3) := by decide +kernel
theorem dX8_digit_4 : decode cX8_digit 4 = .ok (.istore_n 1, 1) := by decide +kernel
theorem dX8_digit_5 : decode cX8_digit 5 = .ok (.aload_n 0, 1) := by decide +kernel
theorem dX8_digit_6 : decode cX8_digit 6 = .ok (.dup, 1) := by decide +kernel
theorem dX8_digit_7 : decode cX8_digit 7 = .ok (.getfield 81, 3) := by decide +kernel
theorem dX8_digit_10 : decode cX8_digit 10 = .ok (.iload_n 1, 1) := by decide +kernel
theorem dX8_digit_11 : decode cX8_digit 11 = .ok (.ifCond .eq 7, 3) := by decide +kernel
theorem dX8_digit_14 : decode cX8_digit 14 = .ok (.iconst 1, 1) := by decide +kernel
theorem dX8_digit_15 : decode cX8_digit 15 = .ok (.goto 4, 3) := by decide +kernel
theorem dX8_digit_18 : decode cX8_digit 18 = .ok (.iconst 0, 1) := by decide +kernel
theorem dX8_digit_19 : decode cX8_digit 19 = .ok (.iadd, 1) := by decide +kernel
theorem dX8_digit_20 : decode cX8_digit 20 = .ok (.putfield 81, 3) := by decide +kernel
theorem dX8_digit_23 : decode cX8_digit 23 = .ok (.iload_n 1, 1) := by decide +kernel
theorem dX8_digit_24 : decode cX8_digit 24 = .ok (.ireturn, 1) := by decide +kernel
theorem dX8_goesBy_0 : decode cX8_goesBy 0 = .ok (.aload_n 0, 1) := by decide +kernel
theorem dX8_goesBy_1 : decode cX8_goesBy 1 = .ok (.bipush 116, 2) := by decide +kernel
theorem dX8_goesBy_3 : decode cX8_goesBy 3 = .ok (.invokevirtual 92, 3) := by decide +kernel
theorem dX8_goesBy_6 : decode cX8_goesBy 6 = .ok (.ifCond .eq 33, 3) := by decide +kernel
theorem dX8_goesBy_9 : decode cX8_goesBy 9 = .ok (.iconst 0, 1) := by decide +kernel
theorem dX8_goesBy_10 : decode cX8_goesBy 10 = .ok (.istore_n 1, 1) := by decide +kernel
theorem dX8_goesBy_11 : decode cX8_goesBy 11 = .ok (.iload_n 1, 1) := by decide +kernel
theorem dX8_goesBy_12 : decode cX8_goesBy 12 = .ok (.bipush 8, 2) := by decide +kernel
theorem dX8_goesBy_14 : decode cX8_goesBy 14 = .ok (.if_icmp .ge 16, 3) := by decide +kernel
theorem dX8_goesBy_17 : decode cX8_goesBy 17 = .ok (.aload_n 0, 1) := by decide +kernel
theorem dX8_goesBy_18 : decode cX8_goesBy 18 = .ok (.invokevirtual 95, 3) := by decide +kernel
theorem dX8_goesBy_21 : decode cX8_goesBy 21 = .ok (.ifCond .eq 9, 3) := by decide +kernel
theorem dX8_goesBy_24 : decode cX8_goesBy 24 = .ok (.iinc 1 1, 3) := by decide +kernel
theorem dX8_goesBy_27 : decode cX8_goesBy 27 = .ok (.goto (-16), 3) := by decide +kernel
theorem dX8_goesBy_30 : decode cX8_goesBy 30 = .ok (.iload_n 1, 1) := by decide +kernel
theorem dX8_goesBy_31 : decode cX8_goesBy 31 = .ok (.ifCond .ne 5, 3) := by decide +kernel
theorem dX8_goesBy_34 : decode cX8_goesBy 34 = .ok (.iconst 0, 1) := by decide +kernel
theorem dX8_goesBy_35 : decode cX8_goesBy 35 = .ok (.ireturn, 1) := by decide +kernel
theorem dX8_goesBy_36 : decode cX8_goesBy 36 = .ok (.goto 115, 3) := by decide +kernel
theorem dX8_goesBy_39 : decode cX8_goesBy 39 = .ok (.aload_n 0, 1) := by decide +kernel
theorem dX8_goesBy_40 : decode cX8_goesBy 40 = .ok (.bipush 119, 2) := by decide +kernel
theorem dX8_goesBy_42 : decode cX8_goesBy 42 = .ok (.invokevirtual 92, 3) := by decide +kernel
theorem dX8_goesBy_45 : decode cX8_goesBy 45 = .ok (.ifCond .eq 28, 3) := by decide +kernel
theorem dX8_goesBy_48 : decode cX8_goesBy 48 = .ok (.aload_n 0, 1) := by decide +kernel
theorem dX8_goesBy_49 : decode cX8_goesBy 49 = .ok (.invokevirtual 95, 3) := by decide +kernel
theorem dX8_goesBy_52 : decode cX8_goesBy 52 = .ok (.ifCond .eq 19, 3) := by decide +kernel
theorem dX8_goesBy_55 : decode cX8_goesBy 55 = .ok (.aload_n 0, 1) := by decide +kernel
theorem dX8_goesBy_56 : decode cX8_goesBy 56 = .ok (.bipush 44, 2) := by decide +kernel
theorem dX8_goesBy_58 : decode cX8_goesBy 58 = .ok (.invokevirtual 92, 3) := by decide +kernel
theorem dX8_goesBy_61 : decode cX8_goesBy 61 = .ok (.ifCond .eq 10, 3) := by decide +kernel
theorem dX8_goesBy_64 : decode cX8_goesBy 64 = .ok (.aload_n 0, 1) := by decide +kernel
theorem dX8_goesBy_65 : decode cX8_goesBy 65 = .ok (.invokevirtual 95, 3) := by decide +kernel
theorem dX8_goesBy_68 : decode cX8_goesBy 68 = .ok (.ifCond .ne 83, 3) := by decide +kernel
theorem dX8_goesBy_71 : decode cX8_goesBy 71 = .ok (.iconst 0, 1) := by decide +kernel
theorem dX8_goesBy_72 : decode cX8_goesBy 72 = .ok (.ireturn, 1) := by decide +kernel
theorem dX8_goesBy_73 : decode cX8_goesBy 73 = .ok (.aload_n 0, 1) := by decide +kernel
theorem dX8_goesBy_74 : decode cX8_goesBy 74 = .ok (.bipush 108, 2) := by decide +kernel
theorem dX8_goesBy_76 : decode cX8_goesBy 76 = .ok (.invokevirtual 92, 3) := by decide +kernel
theorem dX8_goesBy_79 : decode cX8_goesBy 79 = .ok (.ifCond .eq 12, 3) := by decide +kernel
theorem dX8_goesBy_82 : decode cX8_goesBy 82 = .ok (.aload_n 0, 1) := by decide +kernel
theorem dX8_goesBy_83 : decode cX8_goesBy 83 = .ok (.invokevirtual 95, 3) := by decide +kernel
theorem dX8_goesBy_86 : decode cX8_goesBy 86 = .ok (.ifCond .ne 65, 3) := by decide +kernel
theorem dX8_goesBy_89 : decode cX8_goesBy 89 = .ok (.iconst 0, 1) := by decide +kernel
theorem dX8_goesBy_90 : decode cX8_goesBy 90 = .ok (.ireturn, 1) := by decide +kernel
theorem dX8_goesBy_91 : decode cX8_goesBy 91 = .ok (.aload_n 0, 1) := by decide +kernel
theorem dX8_goesBy_92 : decode cX8_goesBy 92 = .ok (.bipush 112, 2) := by decide +kernel
theorem dX8_goesBy_94 : decode cX8_goesBy 94 = .ok (.invokevirtual 92, 3) := by decide +kernel
theorem dX8_goesBy_97 : decode cX8_goesBy 97 = .ok (.ifCond .eq 25, 3) := by decide +kernel
theorem dX8_goesBy_100 : decode cX8_goesBy 100 = .ok (.aload_n 0, 1) := by decide +kernel
theorem dX8_goesBy_101 : decode cX8_goesBy 101 = .ok (.invokevirtual 98, 3) := by decide +kernel
theorem dX8_goesBy_104 : decode cX8_goesBy 104 = .ok (.ifCond .ne 5, 3) := by decide +kernel
theorem dX8_goesBy_107 : decode cX8_goesBy 107 = .ok (.iconst 0, 1) := by decide +kernel
theorem dX8_goesBy_108 : decode cX8_goesBy 108 = .ok (.ireturn, 1) := by decide +kernel
theorem dX8_goesBy_109 : decode cX8_goesBy 109 = .ok (.aload_n 0, 1) := by decide +kernel
theorem dX8_goesBy_110 : decode cX8_goesBy 110 = .ok (.dup, 1) := by decide +kernel
theorem dX8_goesBy_111 : decode cX8_goesBy 111 = .ok (.getfield 81, 3) := by decide +kernel
theorem dX8_goesBy_114 : decode cX8_goesBy 114 = .ok (.iconst 1, 1) := by decide +kernel
theorem dX8_goesBy_115 : decode cX8_goesBy 115 = .ok (.iadd, 1) := by decide +kernel
theorem dX8_goesBy_116 : decode cX8_goesBy 116 = .ok (.putfield 81, 3) := by decide +kernel
theorem dX8_goesBy_119 : decode cX8_goesBy 119 = .ok (.goto 32, 3) := by decide +kernel
theorem dX8_goesBy_122 : decode cX8_goesBy 122 = .ok (.aload_n 0, 1) := by decide +kernel
theorem dX8_goesBy_123 : decode cX8_goesBy 123 = .ok (.bipush 110, 2) := by decide +kernel
theorem dX8_goesBy_125 : decode cX8_goesBy 125 = .ok (.invokevirtual 92, 3) := by decide +kernel
theorem dX8_goesBy_128 : decode cX8_goesBy 128 = .ok (.ifCond .ne 23, 3) := by decide +kernel
theorem dX8_goesBy_131 : decode cX8_goesBy 131 = .ok (.aload_n 0, 1) := by decide +kernel
theorem dX8_goesBy_132 : decode cX8_goesBy 132 = .ok (.bipush 111, 2) := by decide +kernel
theorem dX8_goesBy_134 : decode cX8_goesBy 134 = .ok (.invokevirtual 92, 3) := by decide +kernel
theorem dX8_goesBy_137 : decode cX8_goesBy 137 = .ok (.ifCond .ne 14, 3) := by decide +kernel
theorem dX8_goesBy_140 : decode cX8_goesBy 140 = .ok (.aload_n 0, 1) := by decide +kernel
theorem dX8_goesBy_141 : decode cX8_goesBy 141 = .ok (.bipush 105, 2) := by decide +kernel
theorem dX8_goesBy_143 : decode cX8_goesBy 143 = .ok (.invokevirtual 92, 3) := by decide +kernel
theorem dX8_goesBy_146 : decode cX8_goesBy 146 = .ok (.ifCond .ne 5, 3) := by decide +kernel
theorem dX8_goesBy_149 : decode cX8_goesBy 149 = .ok (.iconst 0, 1) := by decide +kernel
theorem dX8_goesBy_150 : decode cX8_goesBy 150 = .ok (.ireturn, 1) := by decide +kernel
theorem dX8_goesBy_151 : decode cX8_goesBy 151 = .ok (.aload_n 0, 1) := by decide +kernel
theorem dX8_goesBy_152 : decode cX8_goesBy 152 = .ok (.bipush 59, 2) := by decide +kernel
theorem dX8_goesBy_154 : decode cX8_goesBy 154 = .ok (.invokevirtual 92, 3) := by decide +kernel
theorem dX8_goesBy_157 : decode cX8_goesBy 157 = .ok (.ireturn, 1) := by decide +kernel
theorem dX8_faultOfForm_0 : decode cX8_faultOfForm 0 = .ok (.aload_n 0, 1) := by decide +kernel
theorem dX8_faultOfForm_1 : decode cX8_faultOfForm 1 = .ok (.iconst 0, 1) := by decide +kernel
theorem dX8_faultOfForm_2 : decode cX8_faultOfForm 2 = .ok (.putfield 81, 3) := by decide +kernel
theorem dX8_faultOfForm_5 : decode cX8_faultOfForm 5 = .ok (.aload_n 0, 1) := by decide +kernel
theorem dX8_faultOfForm_6 : decode cX8_faultOfForm 6 = .ok (.invokevirtual 101, 3) := by decide +kernel
theorem dX8_faultOfForm_9 : decode cX8_faultOfForm 9 = .ok (.ifCond .ne 8, 3) := by decide +kernel
theorem dX8_faultOfForm_12 : decode cX8_faultOfForm 12 = .ok (.aload_n 0, 1) := by decide +kernel
theorem dX8_faultOfForm_13 : decode cX8_faultOfForm 13 = .ok (.getfield 81, 3) := by decide +kernel
theorem dX8_faultOfForm_16 : decode cX8_faultOfForm 16 = .ok (.ireturn, 1) := by decide +kernel
theorem dX8_faultOfForm_17 : decode cX8_faultOfForm 17 = .ok (.aload_n 0, 1) := by decide +kernel
theorem dX8_faultOfForm_18 : decode cX8_faultOfForm 18 = .ok (.getfield 81, 3) := by decide +kernel
theorem dX8_faultOfForm_21 : decode cX8_faultOfForm 21 = .ok (.aload_n 0, 1) := by decide +kernel
theorem dX8_faultOfForm_22 : decode cX8_faultOfForm 22 = .ok (.getfield 78, 3) := by decide +kernel
theorem dX8_faultOfForm_25 : decode cX8_faultOfForm 25 = .ok (.if_icmp .ge 15, 3) := by decide +kernel
theorem dX8_faultOfForm_28 : decode cX8_faultOfForm 28 = .ok (.aload_n 0, 1) := by decide +kernel
theorem dX8_faultOfForm_29 : decode cX8_faultOfForm 29 = .ok (.invokevirtual 101, 3) := by decide +kernel
theorem dX8_faultOfForm_32 : decode cX8_faultOfForm 32 = .ok (.ifCond .ne (-15), 3) := by decide +kernel
theorem dX8_faultOfForm_35 : decode cX8_faultOfForm 35 = .ok (.aload_n 0, 1) := by decide +kernel
theorem dX8_faultOfForm_36 : decode cX8_faultOfForm 36 = .ok (.getfield 81, 3) := by decide +kernel
theorem dX8_faultOfForm_39 : decode cX8_faultOfForm 39 = .ok (.ireturn, 1) := by decide +kernel
theorem dX8_faultOfForm_40 : decode cX8_faultOfForm 40 = .ok (.bipush (-9), 2) := by decide +kernel
theorem dX8_faultOfForm_42 : decode cX8_faultOfForm 42 = .ok (.ireturn, 1) := by decide +kernel
theorem dX8_addWord_0 : decode cX8_addWord 0 = .ok (.aload_n 0, 1) := by decide +kernel
theorem dX8_addWord_1 : decode cX8_addWord 1 = .ok (.getfield 67, 3) := by decide +kernel
theorem dX8_addWord_4 : decode cX8_addWord 4 = .ok (.bipush 8, 2) := by decide +kernel
theorem dX8_addWord_6 : decode cX8_addWord 6 = .ok (.if_icmp .ne 5, 3) := by decide +kernel
theorem dX8_addWord_9 : decode cX8_addWord 9 = .ok (.iconst 0, 1) := by decide +kernel
theorem dX8_addWord_10 : decode cX8_addWord 10 = .ok (.ireturn, 1) := by decide +kernel
theorem dX8_addWord_11 : decode cX8_addWord 11 = .ok (.aload_n 0, 1) := by decide +kernel
theorem dX8_addWord_12 : decode cX8_addWord 12 = .ok (.getfield 22, 3) := by decide +kernel
theorem dX8_addWord_15 : decode cX8_addWord 15 = .ok (.aload_n 0, 1) := by decide +kernel
theorem dX8_addWord_16 : decode cX8_addWord 16 = .ok (.getfield 67, 3) := by decide +kernel
theorem dX8_addWord_19 : decode cX8_addWord 19 = .ok (.iload_n 1, 1) := by decide +kernel
theorem dX8_addWord_20 : decode cX8_addWord 20 = .ok (.iastore, 1) := by decide +kernel
theorem dX8_addWord_21 : decode cX8_addWord 21 = .ok (.aload_n 0, 1) := by decide +kernel
theorem dX8_addWord_22 : decode cX8_addWord 22 = .ok (.getfield 25, 3) := by decide +kernel
theorem dX8_addWord_25 : decode cX8_addWord 25 = .ok (.aload_n 0, 1) := by decide +kernel
theorem dX8_addWord_26 : decode cX8_addWord 26 = .ok (.dup, 1) := by decide +kernel
theorem dX8_addWord_27 : decode cX8_addWord 27 = .ok (.getfield 67, 3) := by decide +kernel
theorem dX8_addWord_30 : decode cX8_addWord 30 = .ok (.dup_x1, 1) := by decide +kernel
theorem dX8_addWord_31 : decode cX8_addWord 31 = .ok (.iconst 1, 1) := by decide +kernel
theorem dX8_addWord_32 : decode cX8_addWord 32 = .ok (.iadd, 1) := by decide +kernel
theorem dX8_addWord_33 : decode cX8_addWord 33 = .ok (.putfield 67, 3) := by decide +kernel
theorem dX8_addWord_36 : decode cX8_addWord 36 = .ok (.iload_n 2, 1) := by decide +kernel
theorem dX8_addWord_37 : decode cX8_addWord 37 = .ok (.iastore, 1) := by decide +kernel
theorem dX8_addWord_38 : decode cX8_addWord 38 = .ok (.iconst 1, 1) := by decide +kernel
theorem dX8_addWord_39 : decode cX8_addWord 39 = .ok (.ireturn, 1) := by decide +kernel
theorem dX8_comes_0 : decode cX8_comes 0 = .ok (.aload_n 0, 1) := by decide +kernel
theorem dX8_comes_1 : decode cX8_comes 1 = .ok (.getfield 9, 3) := by decide +kernel
theorem dX8_comes_4 : decode cX8_comes 4 = .ok (.aload_n 0, 1) := by decide +kernel
theorem dX8_comes_5 : decode cX8_comes 5 = .ok (.dup, 1) := by decide +kernel
theorem dX8_comes_6 : decode cX8_comes 6 = .ok (.getfield 81, 3) := by decide +kernel
theorem dX8_comes_9 : decode cX8_comes 9 = .ok (.dup_x1, 1) := by decide +kernel
theorem dX8_comes_10 : decode cX8_comes 10 = .ok (.iconst 1, 1) := by decide +kernel
theorem dX8_comes_11 : decode cX8_comes 11 = .ok (.iadd, 1) := by decide +kernel
theorem dX8_comes_12 : decode cX8_comes 12 = .ok (.putfield 81, 3) := by decide +kernel
theorem dX8_comes_15 : decode cX8_comes 15 = .ok (.iaload, 1) := by decide +kernel
theorem dX8_comes_16 : decode cX8_comes 16 = .ok (.istore_n 1, 1) := by decide +kernel
theorem dX8_comes_17 : decode cX8_comes 17 = .ok (.aload_n 0, 1) := by decide +kernel
theorem dX8_comes_18 : decode cX8_comes 18 = .ok (.getfield 81, 3) := by decide +kernel
theorem dX8_comes_21 : decode cX8_comes 21 = .ok (.aload_n 0, 1) := by decide +kernel
theorem dX8_comes_22 : decode cX8_comes 22 = .ok (.getfield 78, 3) := by decide +kernel
theorem dX8_comes_25 : decode cX8_comes 25 = .ok (.if_icmp .ge 18, 3) := by decide +kernel
theorem dX8_comes_28 : decode cX8_comes 28 = .ok (.aload_n 0, 1) := by decide +kernel
theorem dX8_comes_29 : decode cX8_comes 29 = .ok (.getfield 9, 3) := by decide +kernel
theorem dX8_comes_32 : decode cX8_comes 32 = .ok (.aload_n 0, 1) := by decide +kernel
theorem dX8_comes_33 : decode cX8_comes 33 = .ok (.getfield 81, 3) := by decide +kernel
theorem dX8_comes_36 : decode cX8_comes 36 = .ok (.iaload, 1) := by decide +kernel
theorem dX8_comes_37 : decode cX8_comes 37 = .ok (.bipush 48, 2) := by decide +kernel
theorem dX8_comes_39 : decode cX8_comes 39 = .ok (.isub, 1) := by decide +kernel
theorem dX8_comes_40 : decode cX8_comes 40 = .ok (.goto 4, 3) := by decide +kernel
theorem dX8_comes_43 : decode cX8_comes 43 = .ok (.iconst 0, 1) := by decide +kernel
theorem dX8_comes_44 : decode cX8_comes 44 = .ok (.istore_n 2, 1) := by decide +kernel
theorem dX8_comes_45 : decode cX8_comes 45 = .ok (.iload_n 1, 1) := by decide +kernel
theorem dX8_comes_46 : decode cX8_comes 46 = .ok (.tableswitch 144 105 119 #[93, 144, 144, 130, 144, 79, 86, 144, 144, 144, 144, 74, 144, 144, 100], 74) := by decide +kernel
theorem dX8_comes_120 : decode cX8_comes 120 = .ok (.aload_n 0, 1) := by decide +kernel
theorem dX8_comes_121 : decode cX8_comes 121 = .ok (.invokevirtual 108, 3) := by decide +kernel
theorem dX8_comes_124 : decode cX8_comes 124 = .ok (.ireturn, 1) := by decide +kernel
theorem dX8_comes_125 : decode cX8_comes 125 = .ok (.aload_n 0, 1) := by decide +kernel
theorem dX8_comes_126 : decode cX8_comes 126 = .ok (.iconst 1, 1) := by decide +kernel
theorem dX8_comes_127 : decode cX8_comes 127 = .ok (.iconst 0, 1) := by decide +kernel
theorem dX8_comes_128 : decode cX8_comes 128 = .ok (.invokevirtual 104, 3) := by decide +kernel
theorem dX8_comes_131 : decode cX8_comes 131 = .ok (.ireturn, 1) := by decide +kernel
theorem dX8_comes_132 : decode cX8_comes 132 = .ok (.aload_n 0, 1) := by decide +kernel
theorem dX8_comes_133 : decode cX8_comes 133 = .ok (.iconst 2, 1) := by decide +kernel
theorem dX8_comes_134 : decode cX8_comes 134 = .ok (.iconst 0, 1) := by decide +kernel
theorem dX8_comes_135 : decode cX8_comes 135 = .ok (.invokevirtual 104, 3) := by decide +kernel
theorem dX8_comes_138 : decode cX8_comes 138 = .ok (.ireturn, 1) := by decide +kernel
theorem dX8_comes_139 : decode cX8_comes 139 = .ok (.aload_n 0, 1) := by decide +kernel
theorem dX8_comes_140 : decode cX8_comes 140 = .ok (.iconst 3, 1) := by decide +kernel
theorem dX8_comes_141 : decode cX8_comes 141 = .ok (.iconst 0, 1) := by decide +kernel
theorem dX8_comes_142 : decode cX8_comes 142 = .ok (.invokevirtual 104, 3) := by decide +kernel
theorem dX8_comes_145 : decode cX8_comes 145 = .ok (.ireturn, 1) := by decide +kernel
theorem dX8_comes_146 : decode cX8_comes 146 = .ok (.iload_n 2, 1) := by decide +kernel
theorem dX8_comes_147 : decode cX8_comes 147 = .ok (.bipush 7, 2) := by decide +kernel
theorem dX8_comes_149 : decode cX8_comes 149 = .ok (.if_icmp .le 5, 3) := by decide +kernel
theorem dX8_comes_152 : decode cX8_comes 152 = .ok (.iconst 0, 1) := by decide +kernel
theorem dX8_comes_153 : decode cX8_comes 153 = .ok (.ireturn, 1) := by decide +kernel
theorem dX8_comes_154 : decode cX8_comes 154 = .ok (.aload_n 0, 1) := by decide +kernel
theorem dX8_comes_155 : decode cX8_comes 155 = .ok (.getfield 28, 3) := by decide +kernel
theorem dX8_comes_158 : decode cX8_comes 158 = .ok (.iload_n 2, 1) := by decide +kernel
theorem dX8_comes_159 : decode cX8_comes 159 = .ok (.aload_n 0, 1) := by decide +kernel
theorem dX8_comes_160 : decode cX8_comes 160 = .ok (.getfield 9, 3) := by decide +kernel
theorem dX8_comes_163 : decode cX8_comes 163 = .ok (.aload_n 0, 1) := by decide +kernel
theorem dX8_comes_164 : decode cX8_comes 164 = .ok (.getfield 81, 3) := by decide +kernel
theorem dX8_comes_167 : decode cX8_comes 167 = .ok (.iconst 2, 1) := by decide +kernel
theorem dX8_comes_168 : decode cX8_comes 168 = .ok (.iadd, 1) := by decide +kernel
theorem dX8_comes_169 : decode cX8_comes 169 = .ok (.iaload, 1) := by decide +kernel
theorem dX8_comes_170 : decode cX8_comes 170 = .ok (.bipush 48, 2) := by decide +kernel
theorem dX8_comes_172 : decode cX8_comes 172 = .ok (.isub, 1) := by decide +kernel
theorem dX8_comes_173 : decode cX8_comes 173 = .ok (.iastore, 1) := by decide +kernel
theorem dX8_comes_174 : decode cX8_comes 174 = .ok (.iconst 1, 1) := by decide +kernel
theorem dX8_comes_175 : decode cX8_comes 175 = .ok (.ireturn, 1) := by decide +kernel
theorem dX8_comes_176 : decode cX8_comes 176 = .ok (.iload_n 2, 1) := by decide +kernel
theorem dX8_comes_177 : decode cX8_comes 177 = .ok (.iconst 4, 1) := by decide +kernel
theorem dX8_comes_178 : decode cX8_comes 178 = .ok (.if_icmp .le 5, 3) := by decide +kernel
theorem dX8_comes_181 : decode cX8_comes 181 = .ok (.iconst 0, 1) := by decide +kernel
theorem dX8_comes_182 : decode cX8_comes 182 = .ok (.ireturn, 1) := by decide +kernel
theorem dX8_comes_183 : decode cX8_comes 183 = .ok (.aload_n 0, 1) := by decide +kernel
theorem dX8_comes_184 : decode cX8_comes 184 = .ok (.iload_n 2, 1) := by decide +kernel
theorem dX8_comes_185 : decode cX8_comes 185 = .ok (.putfield 111, 3) := by decide +kernel
theorem dX8_comes_188 : decode cX8_comes 188 = .ok (.iconst 1, 1) := by decide +kernel
theorem dX8_comes_189 : decode cX8_comes 189 = .ok (.ireturn, 1) := by decide +kernel
theorem dX8_comes_190 : decode cX8_comes 190 = .ok (.aload_n 0, 1) := by decide +kernel
theorem dX8_comes_191 : decode cX8_comes 191 = .ok (.getfield 71, 3) := by decide +kernel
theorem dX8_comes_194 : decode cX8_comes 194 = .ok (.iconst 4, 1) := by decide +kernel
theorem dX8_comes_195 : decode cX8_comes 195 = .ok (.if_icmp .ne 5, 3) := by decide +kernel
theorem dX8_comes_198 : decode cX8_comes 198 = .ok (.iconst 0, 1) := by decide +kernel
theorem dX8_comes_199 : decode cX8_comes 199 = .ok (.ireturn, 1) := by decide +kernel
theorem dX8_comes_200 : decode cX8_comes 200 = .ok (.aload_n 0, 1) := by decide +kernel
theorem dX8_comes_201 : decode cX8_comes 201 = .ok (.getfield 31, 3) := by decide +kernel
theorem dX8_comes_204 : decode cX8_comes 204 = .ok (.aload_n 0, 1) := by decide +kernel
theorem dX8_comes_205 : decode cX8_comes 205 = .ok (.dup, 1) := by decide +kernel
theorem dX8_comes_206 : decode cX8_comes 206 = .ok (.getfield 71, 3) := by decide +kernel
theorem dX8_comes_209 : decode cX8_comes 209 = .ok (.dup_x1, 1) := by decide +kernel
theorem dX8_comes_210 : decode cX8_comes 210 = .ok (.iconst 1, 1) := by decide +kernel
theorem dX8_comes_211 : decode cX8_comes 211 = .ok (.iadd, 1) := by decide +kernel
theorem dX8_comes_212 : decode cX8_comes 212 = .ok (.putfield 71, 3) := by decide +kernel
theorem dX8_comes_215 : decode cX8_comes 215 = .ok (.aload_n 0, 1) := by decide +kernel
theorem dX8_comes_216 : decode cX8_comes 216 = .ok (.getfield 9, 3) := by decide +kernel
theorem dX8_comes_219 : decode cX8_comes 219 = .ok (.aload_n 0, 1) := by decide +kernel
theorem dX8_comes_220 : decode cX8_comes 220 = .ok (.getfield 81, 3) := by decide +kernel
theorem dX8_comes_223 : decode cX8_comes 223 = .ok (.iaload, 1) := by decide +kernel
theorem dX8_comes_224 : decode cX8_comes 224 = .ok (.iastore, 1) := by decide +kernel
theorem dX8_comes_225 : decode cX8_comes 225 = .ok (.iconst 1, 1) := by decide +kernel
theorem dX8_comes_226 : decode cX8_comes 226 = .ok (.ireturn, 1) := by decide +kernel
theorem dX8_idleOf_0 : decode cX8_idleOf 0 = .ok (.iconst 0, 1) := by decide +kernel
theorem dX8_idleOf_1 : decode cX8_idleOf 1 = .ok (.istore_n 3, 1) := by decide +kernel
theorem dX8_idleOf_2 : decode cX8_idleOf 2 = .ok (.iconst 0, 1) := by decide +kernel
theorem dX8_idleOf_3 : decode cX8_idleOf 3 = .ok (.istore 4, 2) := by decide +kernel
theorem dX8_idleOf_5 : decode cX8_idleOf 5 = .ok (.iload 4, 2) := by decide +kernel
theorem dX8_idleOf_7 : decode cX8_idleOf 7 = .ok (.iload_n 2, 1) := by decide +kernel
theorem dX8_idleOf_8 : decode cX8_idleOf 8 = .ok (.if_icmp .ge 30, 3) := by decide +kernel
theorem dX8_idleOf_11 : decode cX8_idleOf 11 = .ok (.iload_n 3, 1) := by decide +kernel
theorem dX8_idleOf_12 : decode cX8_idleOf 12 = .ok (.aload_n 0, 1) := by decide +kernel
theorem dX8_idleOf_13 : decode cX8_idleOf 13 = .ok (.getfield 22, 3) := by decide +kernel
theorem dX8_idleOf_16 : decode cX8_idleOf 16 = .ok (.aload_n 1, 1) := by decide +kernel
theorem dX8_idleOf_17 : decode cX8_idleOf 17 = .ok (.iload 4, 2) := by decide +kernel
theorem dX8_idleOf_19 : decode cX8_idleOf 19 = .ok (.iaload, 1) := by decide +kernel
theorem dX8_idleOf_20 : decode cX8_idleOf 20 = .ok (.iaload, 1) := by decide +kernel
theorem dX8_idleOf_21 : decode cX8_idleOf 21 = .ok (.iconst 3, 1) := by decide +kernel
theorem dX8_idleOf_22 : decode cX8_idleOf 22 = .ok (.if_icmp .ne 7, 3) := by decide +kernel
theorem dX8_idleOf_25 : decode cX8_idleOf 25 = .ok (.iconst 1, 1) := by decide +kernel
theorem dX8_idleOf_26 : decode cX8_idleOf 26 = .ok (.goto 4, 3) := by decide +kernel
theorem dX8_idleOf_29 : decode cX8_idleOf 29 = .ok (.iconst 0, 1) := by decide +kernel
theorem dX8_idleOf_30 : decode cX8_idleOf 30 = .ok (.iadd, 1) := by decide +kernel
theorem dX8_idleOf_31 : decode cX8_idleOf 31 = .ok (.istore_n 3, 1) := by decide +kernel
theorem dX8_idleOf_32 : decode cX8_idleOf 32 = .ok (.iinc 4 1, 3) := by decide +kernel
theorem dX8_idleOf_35 : decode cX8_idleOf 35 = .ok (.goto (-30), 3) := by decide +kernel
theorem dX8_idleOf_38 : decode cX8_idleOf 38 = .ok (.iload_n 3, 1) := by decide +kernel
theorem dX8_idleOf_39 : decode cX8_idleOf 39 = .ok (.ireturn, 1) := by decide +kernel
theorem dX8_doesSettle_0 : decode cX8_doesSettle 0 = .ok (.iload_n 1, 1) := by decide +kernel
theorem dX8_doesSettle_1 : decode cX8_doesSettle 1 = .ok (.ifCond .eq 21, 3) := by decide +kernel
theorem dX8_doesSettle_4 : decode cX8_doesSettle 4 = .ok (.iload_n 1, 1) := by decide +kernel
theorem dX8_doesSettle_5 : decode cX8_doesSettle 5 = .ok (.iload_n 0, 1) := by decide +kernel
theorem dX8_doesSettle_6 : decode cX8_doesSettle 6 = .ok (.iconst (-1), 1) := by decide +kernel
theorem dX8_doesSettle_7 : decode cX8_doesSettle 7 = .ok (.ixor, 1) := by decide +kernel
theorem dX8_doesSettle_8 : decode cX8_doesSettle 8 = .ok (.iand, 1) := by decide +kernel
theorem dX8_doesSettle_9 : decode cX8_doesSettle 9 = .ok (.ifCond .eq 9, 3) := by decide +kernel
theorem dX8_doesSettle_12 : decode cX8_doesSettle 12 = .ok (.iload_n 1, 1) := by decide +kernel
theorem dX8_doesSettle_13 : decode cX8_doesSettle 13 = .ok (.iload_n 0, 1) := by decide +kernel
theorem dX8_doesSettle_14 : decode cX8_doesSettle 14 = .ok (.iand, 1) := by decide +kernel
theorem dX8_doesSettle_15 : decode cX8_doesSettle 15 = .ok (.ifCond .ne 7, 3) := by decide +kernel
theorem dX8_doesSettle_18 : decode cX8_doesSettle 18 = .ok (.iconst 1, 1) := by decide +kernel
theorem dX8_doesSettle_19 : decode cX8_doesSettle 19 = .ok (.goto 4, 3) := by decide +kernel
theorem dX8_doesSettle_22 : decode cX8_doesSettle 22 = .ok (.iconst 0, 1) := by decide +kernel
theorem dX8_doesSettle_23 : decode cX8_doesSettle 23 = .ok (.ireturn, 1) := by decide +kernel
theorem dX8_follows_0 : decode cX8_follows 0 = .ok (.iload_n 1, 1) := by decide +kernel
theorem dX8_follows_1 : decode cX8_follows 1 = .ok (.ifCond .lt 7, 3) := by decide +kernel
theorem dX8_follows_4 : decode cX8_follows 4 = .ok (.iload_n 2, 1) := by decide +kernel
theorem dX8_follows_5 : decode cX8_follows 5 = .ok (.ifCond .ge 10, 3) := by decide +kernel
theorem dX8_follows_8 : decode cX8_follows 8 = .ok (.aload_n 0, 1) := by decide +kernel
theorem dX8_follows_9 : decode cX8_follows 9 = .ok (.bipush (-4), 2) := by decide +kernel
theorem dX8_follows_11 : decode cX8_follows 11 = .ok (.invokevirtual 74, 3) := by decide +kernel
theorem dX8_follows_14 : decode cX8_follows 14 = .ok (.ireturn, 1) := by decide +kernel
theorem dX8_follows_15 : decode cX8_follows 15 = .ok (.iload_n 1, 1) := by decide +kernel
theorem dX8_follows_16 : decode cX8_follows 16 = .ok (.bipush 6, 2) := by decide +kernel
theorem dX8_follows_18 : decode cX8_follows 18 = .ok (.if_icmp .gt 8, 3) := by decide +kernel
theorem dX8_follows_21 : decode cX8_follows 21 = .ok (.iload_n 2, 1) := by decide +kernel
theorem dX8_follows_22 : decode cX8_follows 22 = .ok (.iload_n 1, 1) := by decide +kernel
theorem dX8_follows_23 : decode cX8_follows 23 = .ok (.if_icmp .le 10, 3) := by decide +kernel
theorem dX8_follows_26 : decode cX8_follows 26 = .ok (.aload_n 0, 1) := by decide +kernel
theorem dX8_follows_27 : decode cX8_follows 27 = .ok (.bipush (-6), 2) := by decide +kernel
theorem dX8_follows_29 : decode cX8_follows 29 = .ok (.invokevirtual 74, 3) := by decide +kernel
theorem dX8_follows_32 : decode cX8_follows 32 = .ok (.ireturn, 1) := by decide +kernel
theorem dX8_follows_33 : decode cX8_follows 33 = .ok (.aload_n 0, 1) := by decide +kernel
theorem dX8_follows_34 : decode cX8_follows 34 = .ok (.getfield 111, 3) := by decide +kernel
theorem dX8_follows_37 : decode cX8_follows 37 = .ok (.aload_n 0, 1) := by decide +kernel
theorem dX8_follows_38 : decode cX8_follows 38 = .ok (.getfield 139, 3) := by decide +kernel
theorem dX8_follows_41 : decode cX8_follows 41 = .ok (.aload_n 0, 1) := by decide +kernel
theorem dX8_follows_42 : decode cX8_follows 42 = .ok (.aload_n 0, 1) := by decide +kernel
theorem dX8_follows_43 : decode cX8_follows 43 = .ok (.getfield 13, 3) := by decide +kernel
theorem dX8_follows_46 : decode cX8_follows 46 = .ok (.aload_n 0, 1) := by decide +kernel
theorem dX8_follows_47 : decode cX8_follows 47 = .ok (.getfield 139, 3) := by decide +kernel
theorem dX8_follows_50 : decode cX8_follows 50 = .ok (.invokevirtual 146, 3) := by decide +kernel
theorem dX8_follows_53 : decode cX8_follows 53 = .ok (.iload_n 1, 1) := by decide +kernel
theorem dX8_follows_54 : decode cX8_follows 54 = .ok (.iload_n 2, 1) := by decide +kernel
theorem dX8_follows_55 : decode cX8_follows 55 = .ok (.invokestatic 149, 3) := by decide +kernel
theorem dX8_follows_58 : decode cX8_follows 58 = .ok (.istore_n 3, 1) := by decide +kernel
theorem dX8_follows_59 : decode cX8_follows 59 = .ok (.aload_n 0, 1) := by decide +kernel
theorem dX8_follows_60 : decode cX8_follows 60 = .ok (.iconst 0, 1) := by decide +kernel
theorem dX8_follows_61 : decode cX8_follows 61 = .ok (.putfield 139, 3) := by decide +kernel
theorem dX8_follows_64 : decode cX8_follows 64 = .ok (.iload_n 3, 1) := by decide +kernel
theorem dX8_follows_65 : decode cX8_follows 65 = .ok (.ifCond .eq 7, 3) := by decide +kernel
theorem dX8_follows_68 : decode cX8_follows 68 = .ok (.iconst 1, 1) := by decide +kernel
theorem dX8_follows_69 : decode cX8_follows 69 = .ok (.goto 4, 3) := by decide +kernel
theorem dX8_follows_72 : decode cX8_follows 72 = .ok (.iconst 0, 1) := by decide +kernel
theorem dX8_follows_73 : decode cX8_follows 73 = .ok (.ireturn, 1) := by decide +kernel
theorem dX8_add_0 : decode cX8_add 0 = .ok (.aload_n 0, 1) := by decide +kernel
theorem dX8_add_1 : decode cX8_add 1 = .ok (.getfield 48, 3) := by decide +kernel
theorem dX8_add_4 : decode cX8_add 4 = .ok (.aload_n 0, 1) := by decide +kernel
theorem dX8_add_5 : decode cX8_add 5 = .ok (.getfield 159, 3) := by decide +kernel
theorem dX8_add_8 : decode cX8_add 8 = .ok (.aaload, 1) := by decide +kernel
theorem dX8_add_9 : decode cX8_add 9 = .ok (.astore 5, 2) := by decide +kernel
theorem dX8_add_11 : decode cX8_add 11 = .ok (.aload 5, 2) := by decide +kernel
theorem dX8_add_13 : decode cX8_add 13 = .ok (.iconst 0, 1) := by decide +kernel
theorem dX8_add_14 : decode cX8_add 14 = .ok (.iload_n 2, 1) := by decide +kernel
theorem dX8_add_15 : decode cX8_add 15 = .ok (.iastore, 1) := by decide +kernel
theorem dX8_add_16 : decode cX8_add 16 = .ok (.aload 5, 2) := by decide +kernel
theorem dX8_add_18 : decode cX8_add 18 = .ok (.iconst 1, 1) := by decide +kernel
theorem dX8_add_19 : decode cX8_add 19 = .ok (.iload_n 3, 1) := by decide +kernel
theorem dX8_add_20 : decode cX8_add 20 = .ok (.iastore, 1) := by decide +kernel
theorem dX8_add_21 : decode cX8_add 21 = .ok (.aload 5, 2) := by decide +kernel
theorem dX8_add_23 : decode cX8_add 23 = .ok (.iconst 2, 1) := by decide +kernel
theorem dX8_add_24 : decode cX8_add 24 = .ok (.iload 4, 2) := by decide +kernel
theorem dX8_add_26 : decode cX8_add 26 = .ok (.iastore, 1) := by decide +kernel
theorem dX8_add_27 : decode cX8_add 27 = .ok (.aload_n 0, 1) := by decide +kernel
theorem dX8_add_28 : decode cX8_add 28 = .ok (.getfield 43, 3) := by decide +kernel
theorem dX8_add_31 : decode cX8_add 31 = .ok (.aload_n 0, 1) := by decide +kernel
theorem dX8_add_32 : decode cX8_add 32 = .ok (.getfield 159, 3) := by decide +kernel
theorem dX8_add_35 : decode cX8_add 35 = .ok (.iload_n 1, 1) := by decide +kernel
theorem dX8_add_36 : decode cX8_add 36 = .ok (.iastore, 1) := by decide +kernel
theorem dX8_add_37 : decode cX8_add 37 = .ok (.aload_n 0, 1) := by decide +kernel
theorem dX8_add_38 : decode cX8_add 38 = .ok (.getfield 51, 3) := by decide +kernel
theorem dX8_add_41 : decode cX8_add 41 = .ok (.aload_n 0, 1) := by decide +kernel
theorem dX8_add_42 : decode cX8_add 42 = .ok (.getfield 159, 3) := by decide +kernel
theorem dX8_add_45 : decode cX8_add 45 = .ok (.aload_n 0, 1) := by decide +kernel
theorem dX8_add_46 : decode cX8_add 46 = .ok (.aload 5, 2) := by decide +kernel
theorem dX8_add_48 : decode cX8_add 48 = .ok (.iload_n 1, 1) := by decide +kernel
theorem dX8_add_49 : decode cX8_add 49 = .ok (.invokevirtual 142, 3) := by decide +kernel
theorem dX8_add_52 : decode cX8_add 52 = .ok (.iastore, 1) := by decide +kernel
theorem dX8_add_53 : decode cX8_add 53 = .ok (.aload_n 0, 1) := by decide +kernel
theorem dX8_add_54 : decode cX8_add 54 = .ok (.getfield 54, 3) := by decide +kernel
theorem dX8_add_57 : decode cX8_add 57 = .ok (.aload_n 0, 1) := by decide +kernel
theorem dX8_add_58 : decode cX8_add 58 = .ok (.getfield 159, 3) := by decide +kernel
theorem dX8_add_61 : decode cX8_add 61 = .ok (.aload_n 0, 1) := by decide +kernel
theorem dX8_add_62 : decode cX8_add 62 = .ok (.aload 5, 2) := by decide +kernel
theorem dX8_add_64 : decode cX8_add 64 = .ok (.iload_n 1, 1) := by decide +kernel
theorem dX8_add_65 : decode cX8_add 65 = .ok (.invokevirtual 146, 3) := by decide +kernel
theorem dX8_add_68 : decode cX8_add 68 = .ok (.iastore, 1) := by decide +kernel
theorem dX8_add_69 : decode cX8_add 69 = .ok (.aload_n 0, 1) := by decide +kernel
theorem dX8_add_70 : decode cX8_add 70 = .ok (.dup, 1) := by decide +kernel
theorem dX8_add_71 : decode cX8_add 71 = .ok (.getfield 159, 3) := by decide +kernel
theorem dX8_add_74 : decode cX8_add 74 = .ok (.iconst 1, 1) := by decide +kernel
theorem dX8_add_75 : decode cX8_add 75 = .ok (.iadd, 1) := by decide +kernel
theorem dX8_add_76 : decode cX8_add 76 = .ok (.putfield 159, 3) := by decide +kernel
theorem dX8_add_79 : decode cX8_add 79 = .ok (.return_, 1) := by decide +kernel
theorem dX8_asks_0 : decode cX8_asks 0 = .ok (.aload_n 0, 1) := by decide +kernel
theorem dX8_asks_1 : decode cX8_asks 1 = .ok (.iload_n 1, 1) := by decide +kernel
theorem dX8_asks_2 : decode cX8_asks 2 = .ok (.putfield 166, 3) := by decide +kernel
theorem dX8_asks_5 : decode cX8_asks 5 = .ok (.aload_n 0, 1) := by decide +kernel
theorem dX8_asks_6 : decode cX8_asks 6 = .ok (.iload_n 2, 1) := by decide +kernel
theorem dX8_asks_7 : decode cX8_asks 7 = .ok (.putfield 169, 3) := by decide +kernel
theorem dX8_asks_10 : decode cX8_asks 10 = .ok (.aload_n 0, 1) := by decide +kernel
theorem dX8_asks_11 : decode cX8_asks 11 = .ok (.iload_n 3, 1) := by decide +kernel
theorem dX8_asks_12 : decode cX8_asks 12 = .ok (.putfield 172, 3) := by decide +kernel
theorem dX8_asks_15 : decode cX8_asks 15 = .ok (.aload_n 0, 1) := by decide +kernel
theorem dX8_asks_16 : decode cX8_asks 16 = .ok (.iload 4, 2) := by decide +kernel
theorem dX8_asks_18 : decode cX8_asks 18 = .ok (.putfield 175, 3) := by decide +kernel
theorem dX8_asks_21 : decode cX8_asks 21 = .ok (.return_, 1) := by decide +kernel
theorem dX8_asksRow_0 : decode cX8_asksRow 0 = .ok (.aload_n 0, 1) := by decide +kernel
theorem dX8_asksRow_1 : decode cX8_asksRow 1 = .ok (.aload_n 0, 1) := by decide +kernel
theorem dX8_asksRow_2 : decode cX8_asksRow 2 = .ok (.getfield 139, 3) := by decide +kernel
theorem dX8_asksRow_5 : decode cX8_asksRow 5 = .ok (.aload_n 0, 1) := by decide +kernel
theorem dX8_asksRow_6 : decode cX8_asksRow 6 = .ok (.aload_n 0, 1) := by decide +kernel
theorem dX8_asksRow_7 : decode cX8_asksRow 7 = .ok (.getfield 13, 3) := by decide +kernel
theorem dX8_asksRow_10 : decode cX8_asksRow 10 = .ok (.aload_n 0, 1) := by decide +kernel
theorem dX8_asksRow_11 : decode cX8_asksRow 11 = .ok (.getfield 139, 3) := by decide +kernel
theorem dX8_asksRow_14 : decode cX8_asksRow 14 = .ok (.invokevirtual 146, 3) := by decide +kernel
theorem dX8_asksRow_17 : decode cX8_asksRow 17 = .ok (.aload_n 0, 1) := by decide +kernel
theorem dX8_asksRow_18 : decode cX8_asksRow 18 = .ok (.aload_n 0, 1) := by decide +kernel
theorem dX8_asksRow_19 : decode cX8_asksRow 19 = .ok (.getfield 13, 3) := by decide +kernel
theorem dX8_asksRow_22 : decode cX8_asksRow 22 = .ok (.aload_n 0, 1) := by decide +kernel
theorem dX8_asksRow_23 : decode cX8_asksRow 23 = .ok (.getfield 139, 3) := by decide +kernel
theorem dX8_asksRow_26 : decode cX8_asksRow 26 = .ok (.invokevirtual 142, 3) := by decide +kernel
theorem dX8_asksRow_29 : decode cX8_asksRow 29 = .ok (.aload_n 0, 1) := by decide +kernel
theorem dX8_asksRow_30 : decode cX8_asksRow 30 = .ok (.getfield 111, 3) := by decide +kernel
theorem dX8_asksRow_33 : decode cX8_asksRow 33 = .ok (.invokevirtual 178, 3) := by decide +kernel
theorem dX8_asksRow_36 : decode cX8_asksRow 36 = .ok (.return_, 1) := by decide +kernel
theorem dX8_isAnswer_0 : decode cX8_isAnswer 0 = .ok (.aload_n 0, 1) := by decide +kernel
theorem dX8_isAnswer_1 : decode cX8_isAnswer 1 = .ok (.getfield 175, 3) := by decide +kernel
theorem dX8_isAnswer_4 : decode cX8_isAnswer 4 = .ok (.aload_n 0, 1) := by decide +kernel
theorem dX8_isAnswer_5 : decode cX8_isAnswer 5 = .ok (.getfield 43, 3) := by decide +kernel
theorem dX8_isAnswer_8 : decode cX8_isAnswer 8 = .ok (.iload_n 1, 1) := by decide +kernel
theorem dX8_isAnswer_9 : decode cX8_isAnswer 9 = .ok (.iaload, 1) := by decide +kernel
theorem dX8_isAnswer_10 : decode cX8_isAnswer 10 = .ok (.aload_n 0, 1) := by decide +kernel
theorem dX8_isAnswer_11 : decode cX8_isAnswer 11 = .ok (.getfield 54, 3) := by decide +kernel
theorem dX8_isAnswer_14 : decode cX8_isAnswer 14 = .ok (.iload_n 1, 1) := by decide +kernel
theorem dX8_isAnswer_15 : decode cX8_isAnswer 15 = .ok (.iaload, 1) := by decide +kernel
theorem dX8_isAnswer_16 : decode cX8_isAnswer 16 = .ok (.aload_n 0, 1) := by decide +kernel
theorem dX8_isAnswer_17 : decode cX8_isAnswer 17 = .ok (.getfield 166, 3) := by decide +kernel
theorem dX8_isAnswer_20 : decode cX8_isAnswer 20 = .ok (.aload_n 0, 1) := by decide +kernel
theorem dX8_isAnswer_21 : decode cX8_isAnswer 21 = .ok (.getfield 169, 3) := by decide +kernel
theorem dX8_isAnswer_24 : decode cX8_isAnswer 24 = .ok (.invokestatic 149, 3) := by decide +kernel
theorem dX8_isAnswer_27 : decode cX8_isAnswer 27 = .ok (.ifCond .eq 23, 3) := by decide +kernel
theorem dX8_isAnswer_30 : decode cX8_isAnswer 30 = .ok (.aload_n 0, 1) := by decide +kernel
theorem dX8_isAnswer_31 : decode cX8_isAnswer 31 = .ok (.getfield 172, 3) := by decide +kernel
theorem dX8_isAnswer_34 : decode cX8_isAnswer 34 = .ok (.aload_n 0, 1) := by decide +kernel
theorem dX8_isAnswer_35 : decode cX8_isAnswer 35 = .ok (.getfield 51, 3) := by decide +kernel
theorem dX8_isAnswer_38 : decode cX8_isAnswer 38 = .ok (.iload_n 1, 1) := by decide +kernel
theorem dX8_isAnswer_39 : decode cX8_isAnswer 39 = .ok (.iaload, 1) := by decide +kernel
theorem dX8_isAnswer_40 : decode cX8_isAnswer 40 = .ok (.invokestatic 156, 3) := by decide +kernel
theorem dX8_isAnswer_43 : decode cX8_isAnswer 43 = .ok (.ifCond .eq 7, 3) := by decide +kernel
theorem dX8_isAnswer_46 : decode cX8_isAnswer 46 = .ok (.iconst 1, 1) := by decide +kernel
theorem dX8_isAnswer_47 : decode cX8_isAnswer 47 = .ok (.goto 4, 3) := by decide +kernel
theorem dX8_isAnswer_50 : decode cX8_isAnswer 50 = .ok (.iconst 0, 1) := by decide +kernel
theorem dX8_isAnswer_51 : decode cX8_isAnswer 51 = .ok (.ireturn, 1) := by decide +kernel
theorem dX8_isBetter_0 : decode cX8_isBetter 0 = .ok (.aload_n 0, 1) := by decide +kernel
theorem dX8_isBetter_1 : decode cX8_isBetter 1 = .ok (.aload_n 0, 1) := by decide +kernel
theorem dX8_isBetter_2 : decode cX8_isBetter 2 = .ok (.getfield 51, 3) := by decide +kernel
theorem dX8_isBetter_5 : decode cX8_isBetter 5 = .ok (.iload_n 2, 1) := by decide +kernel
theorem dX8_isBetter_6 : decode cX8_isBetter 6 = .ok (.iaload, 1) := by decide +kernel
theorem dX8_isBetter_7 : decode cX8_isBetter 7 = .ok (.invokevirtual 181, 3) := by decide +kernel
theorem dX8_isBetter_10 : decode cX8_isBetter 10 = .ok (.aload_n 0, 1) := by decide +kernel
theorem dX8_isBetter_11 : decode cX8_isBetter 11 = .ok (.aload_n 0, 1) := by decide +kernel
theorem dX8_isBetter_12 : decode cX8_isBetter 12 = .ok (.getfield 51, 3) := by decide +kernel
theorem dX8_isBetter_15 : decode cX8_isBetter 15 = .ok (.iload_n 3, 1) := by decide +kernel
theorem dX8_isBetter_16 : decode cX8_isBetter 16 = .ok (.iaload, 1) := by decide +kernel
theorem dX8_isBetter_17 : decode cX8_isBetter 17 = .ok (.invokevirtual 181, 3) := by decide +kernel
theorem dX8_isBetter_20 : decode cX8_isBetter 20 = .ok (.isub, 1) := by decide +kernel
theorem dX8_isBetter_21 : decode cX8_isBetter 21 = .ok (.istore 4, 2) := by decide +kernel
theorem dX8_isBetter_23 : decode cX8_isBetter 23 = .ok (.iload_n 1, 1) := by decide +kernel
theorem dX8_isBetter_24 : decode cX8_isBetter 24 = .ok (.lookupswitch 148 #[(98, 66), (103, 107), (104, 44), (111, 55)], 44) := by decide +kernel
theorem dX8_isBetter_68 : decode cX8_isBetter 68 = .ok (.iload 4, 2) := by decide +kernel
theorem dX8_isBetter_70 : decode cX8_isBetter 70 = .ok (.ifCond .le 7, 3) := by decide +kernel
theorem dX8_isBetter_73 : decode cX8_isBetter 73 = .ok (.iconst 1, 1) := by decide +kernel
theorem dX8_isBetter_74 : decode cX8_isBetter 74 = .ok (.goto 4, 3) := by decide +kernel
theorem dX8_isBetter_77 : decode cX8_isBetter 77 = .ok (.iconst 0, 1) := by decide +kernel
theorem dX8_isBetter_78 : decode cX8_isBetter 78 = .ok (.ireturn, 1) := by decide +kernel
theorem dX8_isBetter_79 : decode cX8_isBetter 79 = .ok (.iload 4, 2) := by decide +kernel
theorem dX8_isBetter_81 : decode cX8_isBetter 81 = .ok (.ifCond .ge 7, 3) := by decide +kernel
theorem dX8_isBetter_84 : decode cX8_isBetter 84 = .ok (.iconst 1, 1) := by decide +kernel
theorem dX8_isBetter_85 : decode cX8_isBetter 85 = .ok (.goto 4, 3) := by decide +kernel
theorem dX8_isBetter_88 : decode cX8_isBetter 88 = .ok (.iconst 0, 1) := by decide +kernel
theorem dX8_isBetter_89 : decode cX8_isBetter 89 = .ok (.ireturn, 1) := by decide +kernel
theorem dX8_isBetter_90 : decode cX8_isBetter 90 = .ok (.aload_n 0, 1) := by decide +kernel
theorem dX8_isBetter_91 : decode cX8_isBetter 91 = .ok (.getfield 43, 3) := by decide +kernel
theorem dX8_isBetter_94 : decode cX8_isBetter 94 = .ok (.iload_n 2, 1) := by decide +kernel
theorem dX8_isBetter_95 : decode cX8_isBetter 95 = .ok (.iaload, 1) := by decide +kernel
theorem dX8_isBetter_96 : decode cX8_isBetter 96 = .ok (.aload_n 0, 1) := by decide +kernel
theorem dX8_isBetter_97 : decode cX8_isBetter 97 = .ok (.getfield 43, 3) := by decide +kernel
theorem dX8_isBetter_100 : decode cX8_isBetter 100 = .ok (.iload_n 3, 1) := by decide +kernel
theorem dX8_isBetter_101 : decode cX8_isBetter 101 = .ok (.iaload, 1) := by decide +kernel
theorem dX8_isBetter_102 : decode cX8_isBetter 102 = .ok (.if_icmp .lt 23, 3) := by decide +kernel
theorem dX8_isBetter_105 : decode cX8_isBetter 105 = .ok (.aload_n 0, 1) := by decide +kernel
theorem dX8_isBetter_106 : decode cX8_isBetter 106 = .ok (.getfield 43, 3) := by decide +kernel
theorem dX8_isBetter_109 : decode cX8_isBetter 109 = .ok (.iload_n 2, 1) := by decide +kernel
theorem dX8_isBetter_110 : decode cX8_isBetter 110 = .ok (.iaload, 1) := by decide +kernel
theorem dX8_isBetter_111 : decode cX8_isBetter 111 = .ok (.aload_n 0, 1) := by decide +kernel
theorem dX8_isBetter_112 : decode cX8_isBetter 112 = .ok (.getfield 43, 3) := by decide +kernel
theorem dX8_isBetter_115 : decode cX8_isBetter 115 = .ok (.iload_n 3, 1) := by decide +kernel
theorem dX8_isBetter_116 : decode cX8_isBetter 116 = .ok (.iaload, 1) := by decide +kernel
theorem dX8_isBetter_117 : decode cX8_isBetter 117 = .ok (.if_icmp .ne 12, 3) := by decide +kernel
theorem dX8_isBetter_120 : decode cX8_isBetter 120 = .ok (.iload 4, 2) := by decide +kernel
theorem dX8_isBetter_122 : decode cX8_isBetter 122 = .ok (.ifCond .le 7, 3) := by decide +kernel
theorem dX8_isBetter_125 : decode cX8_isBetter 125 = .ok (.iconst 1, 1) := by decide +kernel
theorem dX8_isBetter_126 : decode cX8_isBetter 126 = .ok (.goto 4, 3) := by decide +kernel
theorem dX8_isBetter_129 : decode cX8_isBetter 129 = .ok (.iconst 0, 1) := by decide +kernel
theorem dX8_isBetter_130 : decode cX8_isBetter 130 = .ok (.ireturn, 1) := by decide +kernel
theorem dX8_isBetter_131 : decode cX8_isBetter 131 = .ok (.aload_n 0, 1) := by decide +kernel
theorem dX8_isBetter_132 : decode cX8_isBetter 132 = .ok (.getfield 43, 3) := by decide +kernel
theorem dX8_isBetter_135 : decode cX8_isBetter 135 = .ok (.iload_n 2, 1) := by decide +kernel
theorem dX8_isBetter_136 : decode cX8_isBetter 136 = .ok (.iaload, 1) := by decide +kernel
theorem dX8_isBetter_137 : decode cX8_isBetter 137 = .ok (.aload_n 0, 1) := by decide +kernel
theorem dX8_isBetter_138 : decode cX8_isBetter 138 = .ok (.getfield 43, 3) := by decide +kernel
theorem dX8_isBetter_141 : decode cX8_isBetter 141 = .ok (.iload_n 3, 1) := by decide +kernel
theorem dX8_isBetter_142 : decode cX8_isBetter 142 = .ok (.iaload, 1) := by decide +kernel
theorem dX8_isBetter_143 : decode cX8_isBetter 143 = .ok (.if_icmp .gt 23, 3) := by decide +kernel
theorem dX8_isBetter_146 : decode cX8_isBetter 146 = .ok (.aload_n 0, 1) := by decide +kernel
theorem dX8_isBetter_147 : decode cX8_isBetter 147 = .ok (.getfield 43, 3) := by decide +kernel
theorem dX8_isBetter_150 : decode cX8_isBetter 150 = .ok (.iload_n 2, 1) := by decide +kernel
theorem dX8_isBetter_151 : decode cX8_isBetter 151 = .ok (.iaload, 1) := by decide +kernel
theorem dX8_isBetter_152 : decode cX8_isBetter 152 = .ok (.aload_n 0, 1) := by decide +kernel
theorem dX8_isBetter_153 : decode cX8_isBetter 153 = .ok (.getfield 43, 3) := by decide +kernel
theorem dX8_isBetter_156 : decode cX8_isBetter 156 = .ok (.iload_n 3, 1) := by decide +kernel
theorem dX8_isBetter_157 : decode cX8_isBetter 157 = .ok (.iaload, 1) := by decide +kernel
theorem dX8_isBetter_158 : decode cX8_isBetter 158 = .ok (.if_icmp .ne 12, 3) := by decide +kernel
theorem dX8_isBetter_161 : decode cX8_isBetter 161 = .ok (.iload 4, 2) := by decide +kernel
theorem dX8_isBetter_163 : decode cX8_isBetter 163 = .ok (.ifCond .ge 7, 3) := by decide +kernel
theorem dX8_isBetter_166 : decode cX8_isBetter 166 = .ok (.iconst 1, 1) := by decide +kernel
theorem dX8_isBetter_167 : decode cX8_isBetter 167 = .ok (.goto 4, 3) := by decide +kernel
theorem dX8_isBetter_170 : decode cX8_isBetter 170 = .ok (.iconst 0, 1) := by decide +kernel
theorem dX8_isBetter_171 : decode cX8_isBetter 171 = .ok (.ireturn, 1) := by decide +kernel
theorem dX8_isBetter_172 : decode cX8_isBetter 172 = .ok (.iconst 0, 1) := by decide +kernel
theorem dX8_isBetter_173 : decode cX8_isBetter 173 = .ok (.ireturn, 1) := by decide +kernel
theorem dX8_answerOf_0 : decode cX8_answerOf 0 = .ok (.bipush (-9), 2) := by decide +kernel
theorem dX8_answerOf_2 : decode cX8_answerOf 2 = .ok (.istore_n 3, 1) := by decide +kernel
theorem dX8_answerOf_3 : decode cX8_answerOf 3 = .ok (.iconst 0, 1) := by decide +kernel
theorem dX8_answerOf_4 : decode cX8_answerOf 4 = .ok (.istore 4, 2) := by decide +kernel
theorem dX8_answerOf_6 : decode cX8_answerOf 6 = .ok (.iload 4, 2) := by decide +kernel
theorem dX8_answerOf_8 : decode cX8_answerOf 8 = .ok (.aload_n 0, 1) := by decide +kernel
theorem dX8_answerOf_9 : decode cX8_answerOf 9 = .ok (.getfield 159, 3) := by decide +kernel
theorem dX8_answerOf_12 : decode cX8_answerOf 12 = .ok (.if_icmp .ge 56, 3) := by decide +kernel
theorem dX8_answerOf_15 : decode cX8_answerOf 15 = .ok (.aload_n 0, 1) := by decide +kernel
theorem dX8_answerOf_16 : decode cX8_answerOf 16 = .ok (.getfield 51, 3) := by decide +kernel
theorem dX8_answerOf_19 : decode cX8_answerOf 19 = .ok (.iload 4, 2) := by decide +kernel
theorem dX8_answerOf_21 : decode cX8_answerOf 21 = .ok (.iaload, 1) := by decide +kernel
theorem dX8_answerOf_22 : decode cX8_answerOf 22 = .ok (.iload_n 2, 1) := by decide +kernel
theorem dX8_answerOf_23 : decode cX8_answerOf 23 = .ok (.ishr, 1) := by decide +kernel
theorem dX8_answerOf_24 : decode cX8_answerOf 24 = .ok (.iconst 1, 1) := by decide +kernel
theorem dX8_answerOf_25 : decode cX8_answerOf 25 = .ok (.iand, 1) := by decide +kernel
theorem dX8_answerOf_26 : decode cX8_answerOf 26 = .ok (.ifCond .eq 36, 3) := by decide +kernel
theorem dX8_answerOf_29 : decode cX8_answerOf 29 = .ok (.aload_n 0, 1) := by decide +kernel
theorem dX8_answerOf_30 : decode cX8_answerOf 30 = .ok (.iload 4, 2) := by decide +kernel
theorem dX8_answerOf_32 : decode cX8_answerOf 32 = .ok (.invokevirtual 184, 3) := by decide +kernel
theorem dX8_answerOf_35 : decode cX8_answerOf 35 = .ok (.ifCond .eq 27, 3) := by decide +kernel
theorem dX8_answerOf_38 : decode cX8_answerOf 38 = .ok (.iload_n 3, 1) := by decide +kernel
theorem dX8_answerOf_39 : decode cX8_answerOf 39 = .ok (.bipush (-9), 2) := by decide +kernel
theorem dX8_answerOf_41 : decode cX8_answerOf 41 = .ok (.if_icmp .eq 14, 3) := by decide +kernel
theorem dX8_answerOf_44 : decode cX8_answerOf 44 = .ok (.aload_n 0, 1) := by decide +kernel
theorem dX8_answerOf_45 : decode cX8_answerOf 45 = .ok (.iload_n 1, 1) := by decide +kernel
theorem dX8_answerOf_46 : decode cX8_answerOf 46 = .ok (.iload 4, 2) := by decide +kernel
theorem dX8_answerOf_48 : decode cX8_answerOf 48 = .ok (.iload_n 3, 1) := by decide +kernel
theorem dX8_answerOf_49 : decode cX8_answerOf 49 = .ok (.invokevirtual 187, 3) := by decide +kernel
theorem dX8_answerOf_52 : decode cX8_answerOf 52 = .ok (.ifCond .eq 8, 3) := by decide +kernel
theorem dX8_answerOf_55 : decode cX8_answerOf 55 = .ok (.iload 4, 2) := by decide +kernel
theorem dX8_answerOf_57 : decode cX8_answerOf 57 = .ok (.goto 4, 3) := by decide +kernel
theorem dX8_answerOf_60 : decode cX8_answerOf 60 = .ok (.iload_n 3, 1) := by decide +kernel
theorem dX8_answerOf_61 : decode cX8_answerOf 61 = .ok (.istore_n 3, 1) := by decide +kernel
theorem dX8_answerOf_62 : decode cX8_answerOf 62 = .ok (.iinc 4 1, 3) := by decide +kernel
theorem dX8_answerOf_65 : decode cX8_answerOf 65 = .ok (.goto (-59), 3) := by decide +kernel
theorem dX8_answerOf_68 : decode cX8_answerOf 68 = .ok (.iload_n 3, 1) := by decide +kernel
theorem dX8_answerOf_69 : decode cX8_answerOf 69 = .ok (.ireturn, 1) := by decide +kernel
theorem dX8_answer_0 : decode cX8_answer 0 = .ok (.aload_n 0, 1) := by decide +kernel
theorem dX8_answer_1 : decode cX8_answer 1 = .ok (.iload_n 1, 1) := by decide +kernel
theorem dX8_answer_2 : decode cX8_answer 2 = .ok (.invokevirtual 190, 3) := by decide +kernel
theorem dX8_answer_5 : decode cX8_answer 5 = .ok (.ifCond .ne 9, 3) := by decide +kernel
theorem dX8_answer_8 : decode cX8_answer 8 = .ok (.aload_n 0, 1) := by decide +kernel
theorem dX8_answer_9 : decode cX8_answer 9 = .ok (.iconst (-1), 1) := by decide +kernel
theorem dX8_answer_10 : decode cX8_answer 10 = .ok (.invokevirtual 74, 3) := by decide +kernel
theorem dX8_answer_13 : decode cX8_answer 13 = .ok (.ireturn, 1) := by decide +kernel
theorem dX8_answer_14 : decode cX8_answer 14 = .ok (.iload_n 2, 1) := by decide +kernel
theorem dX8_answer_15 : decode cX8_answer 15 = .ok (.iconst (-1), 1) := by decide +kernel
theorem dX8_answer_16 : decode cX8_answer 16 = .ok (.if_icmp .ge 10, 3) := by decide +kernel
theorem dX8_answer_19 : decode cX8_answer 19 = .ok (.aload_n 0, 1) := by decide +kernel
theorem dX8_answer_20 : decode cX8_answer 20 = .ok (.bipush (-4), 2) := by decide +kernel
theorem dX8_answer_22 : decode cX8_answer 22 = .ok (.invokevirtual 74, 3) := by decide +kernel
theorem dX8_answer_25 : decode cX8_answer 25 = .ok (.ireturn, 1) := by decide +kernel
theorem dX8_answer_26 : decode cX8_answer 26 = .ok (.aload_n 0, 1) := by decide +kernel
theorem dX8_answer_27 : decode cX8_answer 27 = .ok (.invokevirtual 193, 3) := by decide +kernel
theorem dX8_answer_30 : decode cX8_answer 30 = .ok (.aload_n 0, 1) := by decide +kernel
theorem dX8_answer_31 : decode cX8_answer 31 = .ok (.invokevirtual 196, 3) := by decide +kernel
theorem dX8_answer_34 : decode cX8_answer 34 = .ok (.aload_n 0, 1) := by decide +kernel
theorem dX8_answer_35 : decode cX8_answer 35 = .ok (.aload_n 0, 1) := by decide +kernel
theorem dX8_answer_36 : decode cX8_answer 36 = .ok (.getfield 31, 3) := by decide +kernel
theorem dX8_answer_39 : decode cX8_answer 39 = .ok (.iload_n 1, 1) := by decide +kernel
theorem dX8_answer_40 : decode cX8_answer 40 = .ok (.iaload, 1) := by decide +kernel
theorem dX8_answer_41 : decode cX8_answer 41 = .ok (.aload_n 0, 1) := by decide +kernel
theorem dX8_answer_42 : decode cX8_answer 42 = .ok (.getfield 136, 3) := by decide +kernel
theorem dX8_answer_45 : decode cX8_answer 45 = .ok (.invokevirtual 199, 3) := by decide +kernel
theorem dX8_answer_48 : decode cX8_answer 48 = .ok (.istore_n 3, 1) := by decide +kernel
theorem dX8_answer_49 : decode cX8_answer 49 = .ok (.iload_n 3, 1) := by decide +kernel
theorem dX8_answer_50 : decode cX8_answer 50 = .ok (.bipush (-9), 2) := by decide +kernel
theorem dX8_answer_52 : decode cX8_answer 52 = .ok (.if_icmp .eq 13, 3) := by decide +kernel
theorem dX8_answer_55 : decode cX8_answer 55 = .ok (.iload_n 2, 1) := by decide +kernel
theorem dX8_answer_56 : decode cX8_answer 56 = .ok (.aload_n 0, 1) := by decide +kernel
theorem dX8_answer_57 : decode cX8_answer 57 = .ok (.getfield 43, 3) := by decide +kernel
theorem dX8_answer_60 : decode cX8_answer 60 = .ok (.iload_n 3, 1) := by decide +kernel
theorem dX8_answer_61 : decode cX8_answer 61 = .ok (.iaload, 1) := by decide +kernel
theorem dX8_answer_62 : decode cX8_answer 62 = .ok (.if_icmp .lt 6, 3) := by decide +kernel
theorem dX8_answer_65 : decode cX8_answer 65 = .ok (.bipush (-9), 2) := by decide +kernel
theorem dX8_answer_67 : decode cX8_answer 67 = .ok (.ireturn, 1) := by decide +kernel
theorem dX8_answer_68 : decode cX8_answer 68 = .ok (.iload_n 2, 1) := by decide +kernel
theorem dX8_answer_69 : decode cX8_answer 69 = .ok (.iconst (-1), 1) := by decide +kernel
theorem dX8_answer_70 : decode cX8_answer 70 = .ok (.if_icmp .ne 12, 3) := by decide +kernel
theorem dX8_answer_73 : decode cX8_answer 73 = .ok (.aload_n 0, 1) := by decide +kernel
theorem dX8_answer_74 : decode cX8_answer 74 = .ok (.getfield 43, 3) := by decide +kernel
theorem dX8_answer_77 : decode cX8_answer 77 = .ok (.iload_n 3, 1) := by decide +kernel
theorem dX8_answer_78 : decode cX8_answer 78 = .ok (.iaload, 1) := by decide +kernel
theorem dX8_answer_79 : decode cX8_answer 79 = .ok (.goto 11, 3) := by decide +kernel
theorem dX8_answer_82 : decode cX8_answer 82 = .ok (.aload_n 0, 1) := by decide +kernel
theorem dX8_answer_83 : decode cX8_answer 83 = .ok (.getfield 48, 3) := by decide +kernel
theorem dX8_answer_86 : decode cX8_answer 86 = .ok (.iload_n 3, 1) := by decide +kernel
theorem dX8_answer_87 : decode cX8_answer 87 = .ok (.aaload, 1) := by decide +kernel
theorem dX8_answer_88 : decode cX8_answer 88 = .ok (.iload_n 2, 1) := by decide +kernel
theorem dX8_answer_89 : decode cX8_answer 89 = .ok (.iaload, 1) := by decide +kernel
theorem dX8_answer_90 : decode cX8_answer 90 = .ok (.ireturn, 1) := by decide +kernel
theorem dX8_answers_0 : decode cX8_answers 0 = .ok (.iload_n 1, 1) := by decide +kernel
theorem dX8_answers_1 : decode cX8_answers 1 = .ok (.invokestatic 133, 3) := by decide +kernel
theorem dX8_answers_4 : decode cX8_answers 4 = .ok (.ifCond .ne 9, 3) := by decide +kernel
theorem dX8_answers_7 : decode cX8_answers 7 = .ok (.aload_n 0, 1) := by decide +kernel
theorem dX8_answers_8 : decode cX8_answers 8 = .ok (.iconst (-1), 1) := by decide +kernel
theorem dX8_answers_9 : decode cX8_answers 9 = .ok (.invokevirtual 74, 3) := by decide +kernel
theorem dX8_answers_12 : decode cX8_answers 12 = .ok (.ireturn, 1) := by decide +kernel
theorem dX8_answers_13 : decode cX8_answers 13 = .ok (.aload_n 0, 1) := by decide +kernel
theorem dX8_answers_14 : decode cX8_answers 14 = .ok (.invokevirtual 193, 3) := by decide +kernel
theorem dX8_answers_17 : decode cX8_answers 17 = .ok (.aload_n 0, 1) := by decide +kernel
theorem dX8_answers_18 : decode cX8_answers 18 = .ok (.invokevirtual 196, 3) := by decide +kernel
theorem dX8_answers_21 : decode cX8_answers 21 = .ok (.iconst 0, 1) := by decide +kernel
theorem dX8_answers_22 : decode cX8_answers 22 = .ok (.istore_n 2, 1) := by decide +kernel
theorem dX8_answers_23 : decode cX8_answers 23 = .ok (.iconst 0, 1) := by decide +kernel
theorem dX8_answers_24 : decode cX8_answers 24 = .ok (.istore_n 3, 1) := by decide +kernel
theorem dX8_answers_25 : decode cX8_answers 25 = .ok (.iload_n 3, 1) := by decide +kernel
theorem dX8_answers_26 : decode cX8_answers 26 = .ok (.aload_n 0, 1) := by decide +kernel
theorem dX8_answers_27 : decode cX8_answers 27 = .ok (.getfield 159, 3) := by decide +kernel
theorem dX8_answers_30 : decode cX8_answers 30 = .ok (.if_icmp .ge 38, 3) := by decide +kernel
theorem dX8_answers_33 : decode cX8_answers 33 = .ok (.iload_n 2, 1) := by decide +kernel
theorem dX8_answers_34 : decode cX8_answers 34 = .ok (.aload_n 0, 1) := by decide +kernel
theorem dX8_answers_35 : decode cX8_answers 35 = .ok (.getfield 51, 3) := by decide +kernel
theorem dX8_answers_38 : decode cX8_answers 38 = .ok (.iload_n 3, 1) := by decide +kernel
theorem dX8_answers_39 : decode cX8_answers 39 = .ok (.iaload, 1) := by decide +kernel
theorem dX8_answers_40 : decode cX8_answers 40 = .ok (.iload_n 1, 1) := by decide +kernel
theorem dX8_answers_41 : decode cX8_answers 41 = .ok (.ishr, 1) := by decide +kernel
theorem dX8_answers_42 : decode cX8_answers 42 = .ok (.iconst 1, 1) := by decide +kernel
theorem dX8_answers_43 : decode cX8_answers 43 = .ok (.iand, 1) := by decide +kernel
theorem dX8_answers_44 : decode cX8_answers 44 = .ok (.ifCond .eq 15, 3) := by decide +kernel
theorem dX8_answers_47 : decode cX8_answers 47 = .ok (.aload_n 0, 1) := by decide +kernel
theorem dX8_answers_48 : decode cX8_answers 48 = .ok (.iload_n 3, 1) := by decide +kernel
theorem dX8_answers_49 : decode cX8_answers 49 = .ok (.invokevirtual 184, 3) := by decide +kernel
theorem dX8_answers_52 : decode cX8_answers 52 = .ok (.ifCond .eq 7, 3) := by decide +kernel
theorem dX8_answers_55 : decode cX8_answers 55 = .ok (.iconst 1, 1) := by decide +kernel
theorem dX8_answers_56 : decode cX8_answers 56 = .ok (.goto 4, 3) := by decide +kernel
theorem dX8_answers_59 : decode cX8_answers 59 = .ok (.iconst 0, 1) := by decide +kernel
theorem dX8_answers_60 : decode cX8_answers 60 = .ok (.iadd, 1) := by decide +kernel
theorem dX8_answers_61 : decode cX8_answers 61 = .ok (.istore_n 2, 1) := by decide +kernel
theorem dX8_answers_62 : decode cX8_answers 62 = .ok (.iinc 3 1, 3) := by decide +kernel
theorem dX8_answers_65 : decode cX8_answers 65 = .ok (.goto (-40), 3) := by decide +kernel
theorem dX8_answers_68 : decode cX8_answers 68 = .ok (.iload_n 2, 1) := by decide +kernel
theorem dX8_answers_69 : decode cX8_answers 69 = .ok (.ireturn, 1) := by decide +kernel
theorem dX8_goesOn_0 : decode cX8_goesOn 0 = .ok (.iconst 3, 1) := by decide +kernel
theorem dX8_goesOn_1 : decode cX8_goesOn 1 = .ok (.istore_n 1, 1) := by decide +kernel
theorem dX8_goesOn_2 : decode cX8_goesOn 2 = .ok (.iload_n 1, 1) := by decide +kernel
theorem dX8_goesOn_3 : decode cX8_goesOn 3 = .ok (.ifCond .lt 31, 3) := by decide +kernel
theorem dX8_goesOn_6 : decode cX8_goesOn 6 = .ok (.aload_n 0, 1) := by decide +kernel
theorem dX8_goesOn_7 : decode cX8_goesOn 7 = .ok (.getfield 57, 3) := by decide +kernel
theorem dX8_goesOn_10 : decode cX8_goesOn 10 = .ok (.iload_n 1, 1) := by decide +kernel
theorem dX8_goesOn_11 : decode cX8_goesOn 11 = .ok (.iaload, 1) := by decide +kernel
theorem dX8_goesOn_12 : decode cX8_goesOn 12 = .ok (.aload_n 0, 1) := by decide +kernel
theorem dX8_goesOn_13 : decode cX8_goesOn 13 = .ok (.getfield 67, 3) := by decide +kernel
theorem dX8_goesOn_16 : decode cX8_goesOn 16 = .ok (.iconst 1, 1) := by decide +kernel
theorem dX8_goesOn_17 : decode cX8_goesOn 17 = .ok (.isub, 1) := by decide +kernel
theorem dX8_goesOn_18 : decode cX8_goesOn 18 = .ok (.if_icmp .ne 16, 3) := by decide +kernel
theorem dX8_goesOn_21 : decode cX8_goesOn 21 = .ok (.aload_n 0, 1) := by decide +kernel
theorem dX8_goesOn_22 : decode cX8_goesOn 22 = .ok (.getfield 57, 3) := by decide +kernel
theorem dX8_goesOn_25 : decode cX8_goesOn 25 = .ok (.iload_n 1, 1) := by decide +kernel
theorem dX8_goesOn_26 : decode cX8_goesOn 26 = .ok (.iconst 0, 1) := by decide +kernel
theorem dX8_goesOn_27 : decode cX8_goesOn 27 = .ok (.iastore, 1) := by decide +kernel
theorem dX8_goesOn_28 : decode cX8_goesOn 28 = .ok (.iinc 1 (-1), 3) := by decide +kernel
theorem dX8_goesOn_31 : decode cX8_goesOn 31 = .ok (.goto (-29), 3) := by decide +kernel
theorem dX8_goesOn_34 : decode cX8_goesOn 34 = .ok (.iload_n 1, 1) := by decide +kernel
theorem dX8_goesOn_35 : decode cX8_goesOn 35 = .ok (.ifCond .lt 13, 3) := by decide +kernel
theorem dX8_goesOn_38 : decode cX8_goesOn 38 = .ok (.aload_n 0, 1) := by decide +kernel
theorem dX8_goesOn_39 : decode cX8_goesOn 39 = .ok (.getfield 57, 3) := by decide +kernel
theorem dX8_goesOn_42 : decode cX8_goesOn 42 = .ok (.iload_n 1, 1) := by decide +kernel
theorem dX8_goesOn_43 : decode cX8_goesOn 43 = .ok (.dup2, 1) := by decide +kernel
theorem dX8_goesOn_44 : decode cX8_goesOn 44 = .ok (.iaload, 1) := by decide +kernel
theorem dX8_goesOn_45 : decode cX8_goesOn 45 = .ok (.iconst 1, 1) := by decide +kernel
theorem dX8_goesOn_46 : decode cX8_goesOn 46 = .ok (.iadd, 1) := by decide +kernel
theorem dX8_goesOn_47 : decode cX8_goesOn 47 = .ok (.iastore, 1) := by decide +kernel
theorem dX8_goesOn_48 : decode cX8_goesOn 48 = .ok (.iload_n 1, 1) := by decide +kernel
theorem dX8_goesOn_49 : decode cX8_goesOn 49 = .ok (.ifCond .lt 7, 3) := by decide +kernel
theorem dX8_goesOn_52 : decode cX8_goesOn 52 = .ok (.iconst 1, 1) := by decide +kernel
theorem dX8_goesOn_53 : decode cX8_goesOn 53 = .ok (.goto 4, 3) := by decide +kernel
theorem dX8_goesOn_56 : decode cX8_goesOn 56 = .ok (.iconst 0, 1) := by decide +kernel
theorem dX8_goesOn_57 : decode cX8_goesOn 57 = .ok (.ireturn, 1) := by decide +kernel
theorem dX8_bestOf_0 : decode cX8_bestOf 0 = .ok (.aload_n 0, 1) := by decide +kernel
theorem dX8_bestOf_1 : decode cX8_bestOf 1 = .ok (.invokevirtual 193, 3) := by decide +kernel
theorem dX8_bestOf_4 : decode cX8_bestOf 4 = .ok (.bipush (-9), 2) := by decide +kernel
theorem dX8_bestOf_6 : decode cX8_bestOf 6 = .ok (.istore_n 3, 1) := by decide +kernel
theorem dX8_bestOf_7 : decode cX8_bestOf 7 = .ok (.iconst 1, 1) := by decide +kernel
theorem dX8_bestOf_8 : decode cX8_bestOf 8 = .ok (.istore 4, 2) := by decide +kernel
theorem dX8_bestOf_10 : decode cX8_bestOf 10 = .ok (.iload 4, 2) := by decide +kernel
theorem dX8_bestOf_12 : decode cX8_bestOf 12 = .ok (.aload_n 0, 1) := by decide +kernel
theorem dX8_bestOf_13 : decode cX8_bestOf 13 = .ok (.getfield 159, 3) := by decide +kernel
theorem dX8_bestOf_16 : decode cX8_bestOf 16 = .ok (.if_icmp .ge 66, 3) := by decide +kernel
theorem dX8_bestOf_19 : decode cX8_bestOf 19 = .ok (.aload_n 0, 1) := by decide +kernel
theorem dX8_bestOf_20 : decode cX8_bestOf 20 = .ok (.aload_n 0, 1) := by decide +kernel
theorem dX8_bestOf_21 : decode cX8_bestOf 21 = .ok (.getfield 43, 3) := by decide +kernel
theorem dX8_bestOf_24 : decode cX8_bestOf 24 = .ok (.iload 4, 2) := by decide +kernel
theorem dX8_bestOf_26 : decode cX8_bestOf 26 = .ok (.iaload, 1) := by decide +kernel
theorem dX8_bestOf_27 : decode cX8_bestOf 27 = .ok (.aload_n 0, 1) := by decide +kernel
theorem dX8_bestOf_28 : decode cX8_bestOf 28 = .ok (.getfield 54, 3) := by decide +kernel
theorem dX8_bestOf_31 : decode cX8_bestOf 31 = .ok (.iload 4, 2) := by decide +kernel
theorem dX8_bestOf_33 : decode cX8_bestOf 33 = .ok (.iaload, 1) := by decide +kernel
theorem dX8_bestOf_34 : decode cX8_bestOf 34 = .ok (.aload_n 0, 1) := by decide +kernel
theorem dX8_bestOf_35 : decode cX8_bestOf 35 = .ok (.getfield 51, 3) := by decide +kernel
theorem dX8_bestOf_38 : decode cX8_bestOf 38 = .ok (.iload 4, 2) := by decide +kernel
theorem dX8_bestOf_40 : decode cX8_bestOf 40 = .ok (.iaload, 1) := by decide +kernel
theorem dX8_bestOf_41 : decode cX8_bestOf 41 = .ok (.iload_n 2, 1) := by decide +kernel
theorem dX8_bestOf_42 : decode cX8_bestOf 42 = .ok (.invokevirtual 178, 3) := by decide +kernel
theorem dX8_bestOf_45 : decode cX8_bestOf 45 = .ok (.aload_n 0, 1) := by decide +kernel
theorem dX8_bestOf_46 : decode cX8_bestOf 46 = .ok (.iload_n 1, 1) := by decide +kernel
theorem dX8_bestOf_47 : decode cX8_bestOf 47 = .ok (.invokevirtual 206, 3) := by decide +kernel
theorem dX8_bestOf_50 : decode cX8_bestOf 50 = .ok (.istore 5, 2) := by decide +kernel
theorem dX8_bestOf_52 : decode cX8_bestOf 52 = .ok (.iload_n 3, 1) := by decide +kernel
theorem dX8_bestOf_53 : decode cX8_bestOf 53 = .ok (.bipush (-9), 2) := by decide +kernel
theorem dX8_bestOf_55 : decode cX8_bestOf 55 = .ok (.if_icmp .eq 12, 3) := by decide +kernel
theorem dX8_bestOf_58 : decode cX8_bestOf 58 = .ok (.iload 5, 2) := by decide +kernel
theorem dX8_bestOf_60 : decode cX8_bestOf 60 = .ok (.aload_n 0, 1) := by decide +kernel
theorem dX8_bestOf_61 : decode cX8_bestOf 61 = .ok (.getfield 209, 3) := by decide +kernel
theorem dX8_bestOf_64 : decode cX8_bestOf 64 = .ok (.if_icmp .ge 12, 3) := by decide +kernel
theorem dX8_bestOf_67 : decode cX8_bestOf 67 = .ok (.iload 4, 2) := by decide +kernel
theorem dX8_bestOf_69 : decode cX8_bestOf 69 = .ok (.istore_n 3, 1) := by decide +kernel
theorem dX8_bestOf_70 : decode cX8_bestOf 70 = .ok (.aload_n 0, 1) := by decide +kernel
theorem dX8_bestOf_71 : decode cX8_bestOf 71 = .ok (.iload 5, 2) := by decide +kernel
theorem dX8_bestOf_73 : decode cX8_bestOf 73 = .ok (.putfield 209, 3) := by decide +kernel
theorem dX8_bestOf_76 : decode cX8_bestOf 76 = .ok (.iinc 4 1, 3) := by decide +kernel
theorem dX8_bestOf_79 : decode cX8_bestOf 79 = .ok (.goto (-69), 3) := by decide +kernel
theorem dX8_bestOf_82 : decode cX8_bestOf 82 = .ok (.iload_n 3, 1) := by decide +kernel
theorem dX8_bestOf_83 : decode cX8_bestOf 83 = .ok (.ireturn, 1) := by decide +kernel
theorem dX8_best_0 : decode cX8_best 0 = .ok (.aload_n 0, 1) := by decide +kernel
theorem dX8_best_1 : decode cX8_best 1 = .ok (.iload_n 1, 1) := by decide +kernel
theorem dX8_best_2 : decode cX8_best 2 = .ok (.invokevirtual 190, 3) := by decide +kernel
theorem dX8_best_5 : decode cX8_best 5 = .ok (.ifCond .ne 9, 3) := by decide +kernel
theorem dX8_best_8 : decode cX8_best 8 = .ok (.aload_n 0, 1) := by decide +kernel
theorem dX8_best_9 : decode cX8_best 9 = .ok (.iconst (-1), 1) := by decide +kernel
theorem dX8_best_10 : decode cX8_best 10 = .ok (.invokevirtual 74, 3) := by decide +kernel
theorem dX8_best_13 : decode cX8_best 13 = .ok (.ireturn, 1) := by decide +kernel
theorem dX8_best_14 : decode cX8_best 14 = .ok (.iload_n 2, 1) := by decide +kernel
theorem dX8_best_15 : decode cX8_best 15 = .ok (.iconst (-1), 1) := by decide +kernel
theorem dX8_best_16 : decode cX8_best 16 = .ok (.if_icmp .ge 10, 3) := by decide +kernel
theorem dX8_best_19 : decode cX8_best 19 = .ok (.aload_n 0, 1) := by decide +kernel
theorem dX8_best_20 : decode cX8_best 20 = .ok (.bipush (-4), 2) := by decide +kernel
theorem dX8_best_22 : decode cX8_best 22 = .ok (.invokevirtual 74, 3) := by decide +kernel
theorem dX8_best_25 : decode cX8_best 25 = .ok (.ireturn, 1) := by decide +kernel
theorem dX8_best_26 : decode cX8_best 26 = .ok (.aload_n 0, 1) := by decide +kernel
theorem dX8_best_27 : decode cX8_best 27 = .ok (.aload_n 0, 1) := by decide +kernel
theorem dX8_best_28 : decode cX8_best 28 = .ok (.getfield 31, 3) := by decide +kernel
theorem dX8_best_31 : decode cX8_best 31 = .ok (.iload_n 1, 1) := by decide +kernel
theorem dX8_best_32 : decode cX8_best 32 = .ok (.iaload, 1) := by decide +kernel
theorem dX8_best_33 : decode cX8_best 33 = .ok (.aload_n 0, 1) := by decide +kernel
theorem dX8_best_34 : decode cX8_best 34 = .ok (.getfield 111, 3) := by decide +kernel
theorem dX8_best_37 : decode cX8_best 37 = .ok (.invokevirtual 212, 3) := by decide +kernel
theorem dX8_best_40 : decode cX8_best 40 = .ok (.istore_n 3, 1) := by decide +kernel
theorem dX8_best_41 : decode cX8_best 41 = .ok (.iload_n 3, 1) := by decide +kernel
theorem dX8_best_42 : decode cX8_best 42 = .ok (.bipush (-9), 2) := by decide +kernel
theorem dX8_best_44 : decode cX8_best 44 = .ok (.if_icmp .eq 13, 3) := by decide +kernel
theorem dX8_best_47 : decode cX8_best 47 = .ok (.iload_n 2, 1) := by decide +kernel
theorem dX8_best_48 : decode cX8_best 48 = .ok (.aload_n 0, 1) := by decide +kernel
theorem dX8_best_49 : decode cX8_best 49 = .ok (.getfield 43, 3) := by decide +kernel
theorem dX8_best_52 : decode cX8_best 52 = .ok (.iload_n 3, 1) := by decide +kernel
theorem dX8_best_53 : decode cX8_best 53 = .ok (.iaload, 1) := by decide +kernel
theorem dX8_best_54 : decode cX8_best 54 = .ok (.if_icmp .le 6, 3) := by decide +kernel
theorem dX8_best_57 : decode cX8_best 57 = .ok (.bipush (-9), 2) := by decide +kernel
theorem dX8_best_59 : decode cX8_best 59 = .ok (.ireturn, 1) := by decide +kernel
theorem dX8_best_60 : decode cX8_best 60 = .ok (.iload_n 2, 1) := by decide +kernel
theorem dX8_best_61 : decode cX8_best 61 = .ok (.iconst (-1), 1) := by decide +kernel
theorem dX8_best_62 : decode cX8_best 62 = .ok (.if_icmp .ne 10, 3) := by decide +kernel
theorem dX8_best_65 : decode cX8_best 65 = .ok (.aload_n 0, 1) := by decide +kernel
theorem dX8_best_66 : decode cX8_best 66 = .ok (.getfield 209, 3) := by decide +kernel
theorem dX8_best_69 : decode cX8_best 69 = .ok (.goto 26, 3) := by decide +kernel
theorem dX8_best_72 : decode cX8_best 72 = .ok (.iload_n 2, 1) := by decide +kernel
theorem dX8_best_73 : decode cX8_best 73 = .ok (.ifCond .ne 12, 3) := by decide +kernel
theorem dX8_best_76 : decode cX8_best 76 = .ok (.aload_n 0, 1) := by decide +kernel
theorem dX8_best_77 : decode cX8_best 77 = .ok (.getfield 43, 3) := by decide +kernel
theorem dX8_best_80 : decode cX8_best 80 = .ok (.iload_n 3, 1) := by decide +kernel
theorem dX8_best_81 : decode cX8_best 81 = .ok (.iaload, 1) := by decide +kernel
theorem dX8_best_82 : decode cX8_best 82 = .ok (.goto 13, 3) := by decide +kernel
theorem dX8_best_85 : decode cX8_best 85 = .ok (.aload_n 0, 1) := by decide +kernel
theorem dX8_best_86 : decode cX8_best 86 = .ok (.getfield 48, 3) := by decide +kernel
theorem dX8_best_89 : decode cX8_best 89 = .ok (.iload_n 3, 1) := by decide +kernel
theorem dX8_best_90 : decode cX8_best 90 = .ok (.aaload, 1) := by decide +kernel
theorem dX8_best_91 : decode cX8_best 91 = .ok (.iload_n 2, 1) := by decide +kernel
theorem dX8_best_92 : decode cX8_best 92 = .ok (.iconst 1, 1) := by decide +kernel
theorem dX8_best_93 : decode cX8_best 93 = .ok (.isub, 1) := by decide +kernel
theorem dX8_best_94 : decode cX8_best 94 = .ok (.iaload, 1) := by decide +kernel
theorem dX8_best_95 : decode cX8_best 95 = .ok (.ireturn, 1) := by decide +kernel
theorem dX8_forces_0 : decode cX8_forces 0 = .ok (.iconst 0, 1) := by decide +kernel
theorem dX8_forces_1 : decode cX8_forces 1 = .ok (.istore_n 2, 1) := by decide +kernel
theorem dX8_forces_2 : decode cX8_forces 2 = .ok (.iconst 0, 1) := by decide +kernel
theorem dX8_forces_3 : decode cX8_forces 3 = .ok (.istore_n 3, 1) := by decide +kernel
theorem dX8_forces_4 : decode cX8_forces 4 = .ok (.iload_n 3, 1) := by decide +kernel
theorem dX8_forces_5 : decode cX8_forces 5 = .ok (.aload_n 0, 1) := by decide +kernel
theorem dX8_forces_6 : decode cX8_forces 6 = .ok (.getfield 159, 3) := by decide +kernel
theorem dX8_forces_9 : decode cX8_forces 9 = .ok (.if_icmp .ge 102, 3) := by decide +kernel
theorem dX8_forces_12 : decode cX8_forces 12 = .ok (.aload_n 0, 1) := by decide +kernel
theorem dX8_forces_13 : decode cX8_forces 13 = .ok (.iload_n 3, 1) := by decide +kernel
theorem dX8_forces_14 : decode cX8_forces 14 = .ok (.invokevirtual 184, 3) := by decide +kernel
theorem dX8_forces_17 : decode cX8_forces 17 = .ok (.ifCond .eq 88, 3) := by decide +kernel
theorem dX8_forces_20 : decode cX8_forces 20 = .ok (.aload_n 0, 1) := by decide +kernel
theorem dX8_forces_21 : decode cX8_forces 21 = .ok (.getfield 51, 3) := by decide +kernel
theorem dX8_forces_24 : decode cX8_forces 24 = .ok (.iload_n 3, 1) := by decide +kernel
theorem dX8_forces_25 : decode cX8_forces 25 = .ok (.iaload, 1) := by decide +kernel
theorem dX8_forces_26 : decode cX8_forces 26 = .ok (.istore 4, 2) := by decide +kernel
theorem dX8_forces_28 : decode cX8_forces 28 = .ok (.iconst 0, 1) := by decide +kernel
theorem dX8_forces_29 : decode cX8_forces 29 = .ok (.istore 5, 2) := by decide +kernel
theorem dX8_forces_31 : decode cX8_forces 31 = .ok (.iconst 0, 1) := by decide +kernel
theorem dX8_forces_32 : decode cX8_forces 32 = .ok (.istore 6, 2) := by decide +kernel
theorem dX8_forces_34 : decode cX8_forces 34 = .ok (.iload 6, 2) := by decide +kernel
theorem dX8_forces_36 : decode cX8_forces 36 = .ok (.bipush 8, 2) := by decide +kernel
theorem dX8_forces_38 : decode cX8_forces 38 = .ok (.if_icmp .ge 39, 3) := by decide +kernel
theorem dX8_forces_41 : decode cX8_forces 41 = .ok (.iload 5, 2) := by decide +kernel
theorem dX8_forces_43 : decode cX8_forces 43 = .ok (.aload_n 0, 1) := by decide +kernel
theorem dX8_forces_44 : decode cX8_forces 44 = .ok (.getfield 28, 3) := by decide +kernel
theorem dX8_forces_47 : decode cX8_forces 47 = .ok (.iload 6, 2) := by decide +kernel
theorem dX8_forces_49 : decode cX8_forces 49 = .ok (.iaload, 1) := by decide +kernel
theorem dX8_forces_50 : decode cX8_forces 50 = .ok (.ifCond .le 17, 3) := by decide +kernel
theorem dX8_forces_53 : decode cX8_forces 53 = .ok (.iload 4, 2) := by decide +kernel
theorem dX8_forces_55 : decode cX8_forces 55 = .ok (.iload 6, 2) := by decide +kernel
theorem dX8_forces_57 : decode cX8_forces 57 = .ok (.ishr, 1) := by decide +kernel
theorem dX8_forces_58 : decode cX8_forces 58 = .ok (.iconst 1, 1) := by decide +kernel
theorem dX8_forces_59 : decode cX8_forces 59 = .ok (.iand, 1) := by decide +kernel
theorem dX8_forces_60 : decode cX8_forces 60 = .ok (.ifCond .eq 7, 3) := by decide +kernel
theorem dX8_forces_63 : decode cX8_forces 63 = .ok (.iconst 1, 1) := by decide +kernel
theorem dX8_forces_64 : decode cX8_forces 64 = .ok (.goto 4, 3) := by decide +kernel
theorem dX8_forces_67 : decode cX8_forces 67 = .ok (.iconst 0, 1) := by decide +kernel
theorem dX8_forces_68 : decode cX8_forces 68 = .ok (.ior, 1) := by decide +kernel
theorem dX8_forces_69 : decode cX8_forces 69 = .ok (.istore 5, 2) := by decide +kernel
theorem dX8_forces_71 : decode cX8_forces 71 = .ok (.iinc 6 1, 3) := by decide +kernel
theorem dX8_forces_74 : decode cX8_forces 74 = .ok (.goto (-40), 3) := by decide +kernel
theorem dX8_forces_77 : decode cX8_forces 77 = .ok (.iload 5, 2) := by decide +kernel
theorem dX8_forces_79 : decode cX8_forces 79 = .ok (.ifCond .eq 21, 3) := by decide +kernel
theorem dX8_forces_82 : decode cX8_forces 82 = .ok (.iload 4, 2) := by decide +kernel
theorem dX8_forces_84 : decode cX8_forces 84 = .ok (.iload_n 1, 1) := by decide +kernel
theorem dX8_forces_85 : decode cX8_forces 85 = .ok (.iconst (-1), 1) := by decide +kernel
theorem dX8_forces_86 : decode cX8_forces 86 = .ok (.ixor, 1) := by decide +kernel
theorem dX8_forces_87 : decode cX8_forces 87 = .ok (.iand, 1) := by decide +kernel
theorem dX8_forces_88 : decode cX8_forces 88 = .ok (.ifCond .eq 12, 3) := by decide +kernel
theorem dX8_forces_91 : decode cX8_forces 91 = .ok (.iload 4, 2) := by decide +kernel
theorem dX8_forces_93 : decode cX8_forces 93 = .ok (.iload_n 1, 1) := by decide +kernel
theorem dX8_forces_94 : decode cX8_forces 94 = .ok (.iand, 1) := by decide +kernel
theorem dX8_forces_95 : decode cX8_forces 95 = .ok (.ifCond .eq 5, 3) := by decide +kernel
theorem dX8_forces_98 : decode cX8_forces 98 = .ok (.iconst 0, 1) := by decide +kernel
theorem dX8_forces_99 : decode cX8_forces 99 = .ok (.ireturn, 1) := by decide +kernel
theorem dX8_forces_100 : decode cX8_forces 100 = .ok (.iload_n 2, 1) := by decide +kernel
theorem dX8_forces_101 : decode cX8_forces 101 = .ok (.iload 4, 2) := by decide +kernel
theorem dX8_forces_103 : decode cX8_forces 103 = .ok (.ior, 1) := by decide +kernel
theorem dX8_forces_104 : decode cX8_forces 104 = .ok (.istore_n 2, 1) := by decide +kernel
theorem dX8_forces_105 : decode cX8_forces 105 = .ok (.iinc 3 1, 3) := by decide +kernel
theorem dX8_forces_108 : decode cX8_forces 108 = .ok (.goto (-104), 3) := by decide +kernel
theorem dX8_forces_111 : decode cX8_forces 111 = .ok (.iconst 0, 1) := by decide +kernel
theorem dX8_forces_112 : decode cX8_forces 112 = .ok (.istore_n 3, 1) := by decide +kernel
theorem dX8_forces_113 : decode cX8_forces 113 = .ok (.iload_n 3, 1) := by decide +kernel
theorem dX8_forces_114 : decode cX8_forces 114 = .ok (.bipush 8, 2) := by decide +kernel
theorem dX8_forces_116 : decode cX8_forces 116 = .ok (.if_icmp .ge 28, 3) := by decide +kernel
theorem dX8_forces_119 : decode cX8_forces 119 = .ok (.aload_n 0, 1) := by decide +kernel
theorem dX8_forces_120 : decode cX8_forces 120 = .ok (.getfield 28, 3) := by decide +kernel
theorem dX8_forces_123 : decode cX8_forces 123 = .ok (.iload_n 3, 1) := by decide +kernel
theorem dX8_forces_124 : decode cX8_forces 124 = .ok (.iaload, 1) := by decide +kernel
theorem dX8_forces_125 : decode cX8_forces 125 = .ok (.ifCond .le 13, 3) := by decide +kernel
theorem dX8_forces_128 : decode cX8_forces 128 = .ok (.iload_n 2, 1) := by decide +kernel
theorem dX8_forces_129 : decode cX8_forces 129 = .ok (.iload_n 3, 1) := by decide +kernel
theorem dX8_forces_130 : decode cX8_forces 130 = .ok (.ishr, 1) := by decide +kernel
theorem dX8_forces_131 : decode cX8_forces 131 = .ok (.iconst 1, 1) := by decide +kernel
theorem dX8_forces_132 : decode cX8_forces 132 = .ok (.iand, 1) := by decide +kernel
theorem dX8_forces_133 : decode cX8_forces 133 = .ok (.ifCond .ne 5, 3) := by decide +kernel
theorem dX8_forces_136 : decode cX8_forces 136 = .ok (.iconst 0, 1) := by decide +kernel
theorem dX8_forces_137 : decode cX8_forces 137 = .ok (.ireturn, 1) := by decide +kernel
theorem dX8_forces_138 : decode cX8_forces 138 = .ok (.iinc 3 1, 3) := by decide +kernel
theorem dX8_forces_141 : decode cX8_forces 141 = .ok (.goto (-28), 3) := by decide +kernel
theorem dX8_forces_144 : decode cX8_forces 144 = .ok (.iconst 1, 1) := by decide +kernel
theorem dX8_forces_145 : decode cX8_forces 145 = .ok (.ireturn, 1) := by decide +kernel
theorem dX8_force_0 : decode cX8_force 0 = .ok (.iload_n 1, 1) := by decide +kernel
theorem dX8_force_1 : decode cX8_force 1 = .ok (.invokestatic 153, 3) := by decide +kernel
theorem dX8_force_4 : decode cX8_force 4 = .ok (.ifCond .ne 9, 3) := by decide +kernel
theorem dX8_force_7 : decode cX8_force 7 = .ok (.aload_n 0, 1) := by decide +kernel
theorem dX8_force_8 : decode cX8_force 8 = .ok (.iconst (-1), 1) := by decide +kernel
theorem dX8_force_9 : decode cX8_force 9 = .ok (.invokevirtual 74, 3) := by decide +kernel
theorem dX8_force_12 : decode cX8_force 12 = .ok (.ireturn, 1) := by decide +kernel
theorem dX8_force_13 : decode cX8_force 13 = .ok (.iload_n 2, 1) := by decide +kernel
theorem dX8_force_14 : decode cX8_force 14 = .ok (.iconst (-1), 1) := by decide +kernel
theorem dX8_force_15 : decode cX8_force 15 = .ok (.if_icmp .ge 10, 3) := by decide +kernel
theorem dX8_force_18 : decode cX8_force 18 = .ok (.aload_n 0, 1) := by decide +kernel
theorem dX8_force_19 : decode cX8_force 19 = .ok (.bipush (-4), 2) := by decide +kernel
theorem dX8_force_21 : decode cX8_force 21 = .ok (.invokevirtual 74, 3) := by decide +kernel
theorem dX8_force_24 : decode cX8_force 24 = .ok (.ireturn, 1) := by decide +kernel
theorem dX8_force_25 : decode cX8_force 25 = .ok (.aload_n 0, 1) := by decide +kernel
theorem dX8_force_26 : decode cX8_force 26 = .ok (.invokevirtual 193, 3) := by decide +kernel
theorem dX8_force_29 : decode cX8_force 29 = .ok (.iconst 1, 1) := by decide +kernel
theorem dX8_force_30 : decode cX8_force 30 = .ok (.istore_n 3, 1) := by decide +kernel
theorem dX8_force_31 : decode cX8_force 31 = .ok (.iload_n 3, 1) := by decide +kernel
theorem dX8_force_32 : decode cX8_force 32 = .ok (.aload_n 0, 1) := by decide +kernel
theorem dX8_force_33 : decode cX8_force 33 = .ok (.getfield 159, 3) := by decide +kernel
theorem dX8_force_36 : decode cX8_force 36 = .ok (.if_icmp .ge 81, 3) := by decide +kernel
theorem dX8_force_39 : decode cX8_force 39 = .ok (.aload_n 0, 1) := by decide +kernel
theorem dX8_force_40 : decode cX8_force 40 = .ok (.aload_n 0, 1) := by decide +kernel
theorem dX8_force_41 : decode cX8_force 41 = .ok (.getfield 43, 3) := by decide +kernel
theorem dX8_force_44 : decode cX8_force 44 = .ok (.iload_n 3, 1) := by decide +kernel
theorem dX8_force_45 : decode cX8_force 45 = .ok (.iaload, 1) := by decide +kernel
theorem dX8_force_46 : decode cX8_force 46 = .ok (.aload_n 0, 1) := by decide +kernel
theorem dX8_force_47 : decode cX8_force 47 = .ok (.getfield 54, 3) := by decide +kernel
theorem dX8_force_50 : decode cX8_force 50 = .ok (.iload_n 3, 1) := by decide +kernel
theorem dX8_force_51 : decode cX8_force 51 = .ok (.iaload, 1) := by decide +kernel
theorem dX8_force_52 : decode cX8_force 52 = .ok (.aload_n 0, 1) := by decide +kernel
theorem dX8_force_53 : decode cX8_force 53 = .ok (.getfield 51, 3) := by decide +kernel
theorem dX8_force_56 : decode cX8_force 56 = .ok (.iload_n 3, 1) := by decide +kernel
theorem dX8_force_57 : decode cX8_force 57 = .ok (.iaload, 1) := by decide +kernel
theorem dX8_force_58 : decode cX8_force 58 = .ok (.aload_n 0, 1) := by decide +kernel
theorem dX8_force_59 : decode cX8_force 59 = .ok (.getfield 111, 3) := by decide +kernel
theorem dX8_force_62 : decode cX8_force 62 = .ok (.invokevirtual 178, 3) := by decide +kernel
theorem dX8_force_65 : decode cX8_force 65 = .ok (.aload_n 0, 1) := by decide +kernel
theorem dX8_force_66 : decode cX8_force 66 = .ok (.iload_n 1, 1) := by decide +kernel
theorem dX8_force_67 : decode cX8_force 67 = .ok (.invokevirtual 215, 3) := by decide +kernel
theorem dX8_force_70 : decode cX8_force 70 = .ok (.ifCond .eq 41, 3) := by decide +kernel
theorem dX8_force_73 : decode cX8_force 73 = .ok (.iload_n 2, 1) := by decide +kernel
theorem dX8_force_74 : decode cX8_force 74 = .ok (.iconst (-1), 1) := by decide +kernel
theorem dX8_force_75 : decode cX8_force 75 = .ok (.if_icmp .ne 12, 3) := by decide +kernel
theorem dX8_force_78 : decode cX8_force 78 = .ok (.aload_n 0, 1) := by decide +kernel
theorem dX8_force_79 : decode cX8_force 79 = .ok (.getfield 43, 3) := by decide +kernel
theorem dX8_force_82 : decode cX8_force 82 = .ok (.iload_n 3, 1) := by decide +kernel
theorem dX8_force_83 : decode cX8_force 83 = .ok (.iaload, 1) := by decide +kernel
theorem dX8_force_84 : decode cX8_force 84 = .ok (.goto 26, 3) := by decide +kernel
theorem dX8_force_87 : decode cX8_force 87 = .ok (.iload_n 2, 1) := by decide +kernel
theorem dX8_force_88 : decode cX8_force 88 = .ok (.aload_n 0, 1) := by decide +kernel
theorem dX8_force_89 : decode cX8_force 89 = .ok (.getfield 43, 3) := by decide +kernel
theorem dX8_force_92 : decode cX8_force 92 = .ok (.iload_n 3, 1) := by decide +kernel
theorem dX8_force_93 : decode cX8_force 93 = .ok (.iaload, 1) := by decide +kernel
theorem dX8_force_94 : decode cX8_force 94 = .ok (.if_icmp .ge 14, 3) := by decide +kernel
theorem dX8_force_97 : decode cX8_force 97 = .ok (.aload_n 0, 1) := by decide +kernel
theorem dX8_force_98 : decode cX8_force 98 = .ok (.getfield 48, 3) := by decide +kernel
theorem dX8_force_101 : decode cX8_force 101 = .ok (.iload_n 3, 1) := by decide +kernel
theorem dX8_force_102 : decode cX8_force 102 = .ok (.aaload, 1) := by decide +kernel
theorem dX8_force_103 : decode cX8_force 103 = .ok (.iload_n 2, 1) := by decide +kernel
theorem dX8_force_104 : decode cX8_force 104 = .ok (.iaload, 1) := by decide +kernel
theorem dX8_force_105 : decode cX8_force 105 = .ok (.goto 5, 3) := by decide +kernel
theorem dX8_force_108 : decode cX8_force 108 = .ok (.bipush (-9), 2) := by decide +kernel
theorem dX8_force_110 : decode cX8_force 110 = .ok (.ireturn, 1) := by decide +kernel
theorem dX8_force_111 : decode cX8_force 111 = .ok (.iinc 3 1, 3) := by decide +kernel
theorem dX8_force_114 : decode cX8_force 114 = .ok (.goto (-83), 3) := by decide +kernel
theorem dX8_force_117 : decode cX8_force 117 = .ok (.bipush (-9), 2) := by decide +kernel
theorem dX8_force_119 : decode cX8_force 119 = .ok (.ireturn, 1) := by decide +kernel
theorem dX8_isTold_0 : decode cX8_isTold 0 = .ok (.aload_n 0, 1) := by decide +kernel
theorem dX8_isTold_1 : decode cX8_isTold 1 = .ok (.getfield 43, 3) := by decide +kernel
theorem dX8_isTold_4 : decode cX8_isTold 4 = .ok (.iload_n 1, 1) := by decide +kernel
theorem dX8_isTold_5 : decode cX8_isTold 5 = .ok (.iaload, 1) := by decide +kernel
theorem dX8_isTold_6 : decode cX8_isTold 6 = .ok (.aload_n 0, 1) := by decide +kernel
theorem dX8_isTold_7 : decode cX8_isTold 7 = .ok (.getfield 218, 3) := by decide +kernel
theorem dX8_isTold_10 : decode cX8_isTold 10 = .ok (.if_icmp .eq 5, 3) := by decide +kernel
theorem dX8_isTold_13 : decode cX8_isTold 13 = .ok (.iconst 0, 1) := by decide +kernel
theorem dX8_isTold_14 : decode cX8_isTold 14 = .ok (.ireturn, 1) := by decide +kernel
theorem dX8_isTold_15 : decode cX8_isTold 15 = .ok (.iconst 0, 1) := by decide +kernel
theorem dX8_isTold_16 : decode cX8_isTold 16 = .ok (.istore_n 2, 1) := by decide +kernel
theorem dX8_isTold_17 : decode cX8_isTold 17 = .ok (.iload_n 2, 1) := by decide +kernel
theorem dX8_isTold_18 : decode cX8_isTold 18 = .ok (.aload_n 0, 1) := by decide +kernel
theorem dX8_isTold_19 : decode cX8_isTold 19 = .ok (.getfield 218, 3) := by decide +kernel
theorem dX8_isTold_22 : decode cX8_isTold 22 = .ok (.if_icmp .ge 28, 3) := by decide +kernel
theorem dX8_isTold_25 : decode cX8_isTold 25 = .ok (.aload_n 0, 1) := by decide +kernel
theorem dX8_isTold_26 : decode cX8_isTold 26 = .ok (.getfield 48, 3) := by decide +kernel
theorem dX8_isTold_29 : decode cX8_isTold 29 = .ok (.iload_n 1, 1) := by decide +kernel
theorem dX8_isTold_30 : decode cX8_isTold 30 = .ok (.aaload, 1) := by decide +kernel
theorem dX8_isTold_31 : decode cX8_isTold 31 = .ok (.iload_n 2, 1) := by decide +kernel
theorem dX8_isTold_32 : decode cX8_isTold 32 = .ok (.iaload, 1) := by decide +kernel
theorem dX8_isTold_33 : decode cX8_isTold 33 = .ok (.aload_n 0, 1) := by decide +kernel
theorem dX8_isTold_34 : decode cX8_isTold 34 = .ok (.getfield 16, 3) := by decide +kernel
theorem dX8_isTold_37 : decode cX8_isTold 37 = .ok (.iload_n 2, 1) := by decide +kernel
theorem dX8_isTold_38 : decode cX8_isTold 38 = .ok (.iaload, 1) := by decide +kernel
theorem dX8_isTold_39 : decode cX8_isTold 39 = .ok (.if_icmp .eq 5, 3) := by decide +kernel
theorem dX8_isTold_42 : decode cX8_isTold 42 = .ok (.iconst 0, 1) := by decide +kernel
theorem dX8_isTold_43 : decode cX8_isTold 43 = .ok (.ireturn, 1) := by decide +kernel
theorem dX8_isTold_44 : decode cX8_isTold 44 = .ok (.iinc 2 1, 3) := by decide +kernel
theorem dX8_isTold_47 : decode cX8_isTold 47 = .ok (.goto (-30), 3) := by decide +kernel
theorem dX8_isTold_50 : decode cX8_isTold 50 = .ok (.iconst 1, 1) := by decide +kernel
theorem dX8_isTold_51 : decode cX8_isTold 51 = .ok (.ireturn, 1) := by decide +kernel
theorem dX8_common_0 : decode cX8_common 0 = .ok (.iload_n 0, 1) := by decide +kernel
theorem dX8_common_1 : decode cX8_common 1 = .ok (.istore_n 2, 1) := by decide +kernel
theorem dX8_common_2 : decode cX8_common 2 = .ok (.iload_n 1, 1) := by decide +kernel
theorem dX8_common_3 : decode cX8_common 3 = .ok (.istore_n 3, 1) := by decide +kernel
theorem dX8_common_4 : decode cX8_common 4 = .ok (.iload_n 3, 1) := by decide +kernel
theorem dX8_common_5 : decode cX8_common 5 = .ok (.ifCond .eq 16, 3) := by decide +kernel
theorem dX8_common_8 : decode cX8_common 8 = .ok (.iload_n 2, 1) := by decide +kernel
theorem dX8_common_9 : decode cX8_common 9 = .ok (.iload_n 3, 1) := by decide +kernel
theorem dX8_common_10 : decode cX8_common 10 = .ok (.irem, 1) := by decide +kernel
theorem dX8_common_11 : decode cX8_common 11 = .ok (.istore 4, 2) := by decide +kernel
theorem dX8_common_13 : decode cX8_common 13 = .ok (.iload_n 3, 1) := by decide +kernel
theorem dX8_common_14 : decode cX8_common 14 = .ok (.istore_n 2, 1) := by decide +kernel
theorem dX8_common_15 : decode cX8_common 15 = .ok (.iload 4, 2) := by decide +kernel
theorem dX8_common_17 : decode cX8_common 17 = .ok (.istore_n 3, 1) := by decide +kernel
theorem dX8_common_18 : decode cX8_common 18 = .ok (.goto (-14), 3) := by decide +kernel
theorem dX8_common_21 : decode cX8_common 21 = .ok (.iload_n 2, 1) := by decide +kernel
theorem dX8_common_22 : decode cX8_common 22 = .ok (.ireturn, 1) := by decide +kernel
theorem dX8_chance_0 : decode cX8_chance 0 = .ok (.iload_n 1, 1) := by decide +kernel
theorem dX8_chance_1 : decode cX8_chance 1 = .ok (.invokestatic 133, 3) := by decide +kernel
theorem dX8_chance_4 : decode cX8_chance 4 = .ok (.ifCond .ne 9, 3) := by decide +kernel
theorem dX8_chance_7 : decode cX8_chance 7 = .ok (.aload_n 0, 1) := by decide +kernel
theorem dX8_chance_8 : decode cX8_chance 8 = .ok (.iconst (-1), 1) := by decide +kernel
theorem dX8_chance_9 : decode cX8_chance 9 = .ok (.invokevirtual 74, 3) := by decide +kernel
theorem dX8_chance_12 : decode cX8_chance 12 = .ok (.ireturn, 1) := by decide +kernel
theorem dX8_chance_13 : decode cX8_chance 13 = .ok (.iload_n 2, 1) := by decide +kernel
theorem dX8_chance_14 : decode cX8_chance 14 = .ok (.iconst 0, 1) := by decide +kernel
theorem dX8_chance_15 : decode cX8_chance 15 = .ok (.iconst 1, 1) := by decide +kernel
theorem dX8_chance_16 : decode cX8_chance 16 = .ok (.invokestatic 63, 3) := by decide +kernel
theorem dX8_chance_19 : decode cX8_chance 19 = .ok (.ifCond .ne 10, 3) := by decide +kernel
theorem dX8_chance_22 : decode cX8_chance 22 = .ok (.aload_n 0, 1) := by decide +kernel
theorem dX8_chance_23 : decode cX8_chance 23 = .ok (.bipush (-2), 2) := by decide +kernel
theorem dX8_chance_25 : decode cX8_chance 25 = .ok (.invokevirtual 74, 3) := by decide +kernel
theorem dX8_chance_28 : decode cX8_chance 28 = .ok (.ireturn, 1) := by decide +kernel
theorem dX8_chance_29 : decode cX8_chance 29 = .ok (.aload_n 0, 1) := by decide +kernel
theorem dX8_chance_30 : decode cX8_chance 30 = .ok (.getfield 221, 3) := by decide +kernel
theorem dX8_chance_33 : decode cX8_chance 33 = .ok (.iload_n 1, 1) := by decide +kernel
theorem dX8_chance_34 : decode cX8_chance 34 = .ok (.ishr, 1) := by decide +kernel
theorem dX8_chance_35 : decode cX8_chance 35 = .ok (.iconst 1, 1) := by decide +kernel
theorem dX8_chance_36 : decode cX8_chance 36 = .ok (.iand, 1) := by decide +kernel
theorem dX8_chance_37 : decode cX8_chance 37 = .ok (.ifCond .eq 12, 3) := by decide +kernel
theorem dX8_chance_40 : decode cX8_chance 40 = .ok (.aload_n 0, 1) := by decide +kernel
theorem dX8_chance_41 : decode cX8_chance 41 = .ok (.getfield 28, 3) := by decide +kernel
theorem dX8_chance_44 : decode cX8_chance 44 = .ok (.iload_n 1, 1) := by decide +kernel
theorem dX8_chance_45 : decode cX8_chance 45 = .ok (.iaload, 1) := by decide +kernel
theorem dX8_chance_46 : decode cX8_chance 46 = .ok (.goto 4, 3) := by decide +kernel
theorem dX8_chance_49 : decode cX8_chance 49 = .ok (.iconst 0, 1) := by decide +kernel
theorem dX8_chance_50 : decode cX8_chance 50 = .ok (.istore_n 3, 1) := by decide +kernel
theorem dX8_chance_51 : decode cX8_chance 51 = .ok (.aload_n 0, 1) := by decide +kernel
theorem dX8_chance_52 : decode cX8_chance 52 = .ok (.aload_n 0, 1) := by decide +kernel
theorem dX8_chance_53 : decode cX8_chance 53 = .ok (.getfield 221, 3) := by decide +kernel
theorem dX8_chance_56 : decode cX8_chance 56 = .ok (.invokevirtual 181, 3) := by decide +kernel
theorem dX8_chance_59 : decode cX8_chance 59 = .ok (.istore 4, 2) := by decide +kernel
theorem dX8_chance_61 : decode cX8_chance 61 = .ok (.iload_n 3, 1) := by decide +kernel
theorem dX8_chance_62 : decode cX8_chance 62 = .ok (.ifCond .ne 5, 3) := by decide +kernel
theorem dX8_chance_65 : decode cX8_chance 65 = .ok (.iload_n 2, 1) := by decide +kernel
theorem dX8_chance_66 : decode cX8_chance 66 = .ok (.ireturn, 1) := by decide +kernel
theorem dX8_chance_67 : decode cX8_chance 67 = .ok (.iload 4, 2) := by decide +kernel
theorem dX8_chance_69 : decode cX8_chance 69 = .ok (.iload_n 3, 1) := by decide +kernel
theorem dX8_chance_70 : decode cX8_chance 70 = .ok (.invokestatic 227, 3) := by decide +kernel
theorem dX8_chance_73 : decode cX8_chance 73 = .ok (.istore 5, 2) := by decide +kernel
theorem dX8_chance_75 : decode cX8_chance 75 = .ok (.iload_n 2, 1) := by decide +kernel
theorem dX8_chance_76 : decode cX8_chance 76 = .ok (.ifCond .ne 10, 3) := by decide +kernel
theorem dX8_chance_79 : decode cX8_chance 79 = .ok (.iload_n 3, 1) := by decide +kernel
theorem dX8_chance_80 : decode cX8_chance 80 = .ok (.iload 5, 2) := by decide +kernel
theorem dX8_chance_82 : decode cX8_chance 82 = .ok (.idiv, 1) := by decide +kernel
theorem dX8_chance_83 : decode cX8_chance 83 = .ok (.goto 8, 3) := by decide +kernel
theorem dX8_chance_86 : decode cX8_chance 86 = .ok (.iload 4, 2) := by decide +kernel
theorem dX8_chance_88 : decode cX8_chance 88 = .ok (.iload 5, 2) := by decide +kernel
theorem dX8_chance_90 : decode cX8_chance 90 = .ok (.idiv, 1) := by decide +kernel
theorem dX8_chance_91 : decode cX8_chance 91 = .ok (.ireturn, 1) := by decide +kernel
theorem dX8_idle_0 : decode cX8_idle 0 = .ok (.aload_n 0, 1) := by decide +kernel
theorem dX8_idle_1 : decode cX8_idle 1 = .ok (.iload_n 1, 1) := by decide +kernel
theorem dX8_idle_2 : decode cX8_idle 2 = .ok (.invokevirtual 190, 3) := by decide +kernel
theorem dX8_idle_5 : decode cX8_idle 5 = .ok (.ifCond .ne 12, 3) := by decide +kernel
theorem dX8_idle_8 : decode cX8_idle 8 = .ok (.ldc 233, 2) := by decide +kernel
theorem dX8_idle_10 : decode cX8_idle 10 = .ok (.aload_n 0, 1) := by decide +kernel
theorem dX8_idle_11 : decode cX8_idle 11 = .ok (.iconst (-1), 1) := by decide +kernel
theorem dX8_idle_12 : decode cX8_idle 12 = .ok (.invokevirtual 74, 3) := by decide +kernel
theorem dX8_idle_15 : decode cX8_idle 15 = .ok (.isub, 1) := by decide +kernel
theorem dX8_idle_16 : decode cX8_idle 16 = .ok (.ireturn, 1) := by decide +kernel
theorem dX8_idle_17 : decode cX8_idle 17 = .ok (.aload_n 0, 1) := by decide +kernel
theorem dX8_idle_18 : decode cX8_idle 18 = .ok (.getfield 67, 3) := by decide +kernel
theorem dX8_idle_21 : decode cX8_idle 21 = .ok (.bipush 8, 2) := by decide +kernel
theorem dX8_idle_23 : decode cX8_idle 23 = .ok (.if_icmp .eq 10, 3) := by decide +kernel
theorem dX8_idle_26 : decode cX8_idle 26 = .ok (.aload_n 0, 1) := by decide +kernel
theorem dX8_idle_27 : decode cX8_idle 27 = .ok (.getfield 67, 3) := by decide +kernel
theorem dX8_idle_30 : decode cX8_idle 30 = .ok (.ifCond .ne 13, 3) := by decide +kernel
theorem dX8_idle_33 : decode cX8_idle 33 = .ok (.ldc 233, 2) := by decide +kernel
theorem dX8_idle_35 : decode cX8_idle 35 = .ok (.aload_n 0, 1) := by decide +kernel
theorem dX8_idle_36 : decode cX8_idle 36 = .ok (.bipush (-3), 2) := by decide +kernel
theorem dX8_idle_38 : decode cX8_idle 38 = .ok (.invokevirtual 74, 3) := by decide +kernel
theorem dX8_idle_41 : decode cX8_idle 41 = .ok (.isub, 1) := by decide +kernel
theorem dX8_idle_42 : decode cX8_idle 42 = .ok (.ireturn, 1) := by decide +kernel
theorem dX8_idle_43 : decode cX8_idle 43 = .ok (.aload_n 0, 1) := by decide +kernel
theorem dX8_idle_44 : decode cX8_idle 44 = .ok (.aload_n 0, 1) := by decide +kernel
theorem dX8_idle_45 : decode cX8_idle 45 = .ok (.getfield 31, 3) := by decide +kernel
theorem dX8_idle_48 : decode cX8_idle 48 = .ok (.iload_n 1, 1) := by decide +kernel
theorem dX8_idle_49 : decode cX8_idle 49 = .ok (.iaload, 1) := by decide +kernel
theorem dX8_idle_50 : decode cX8_idle 50 = .ok (.aload_n 0, 1) := by decide +kernel
theorem dX8_idle_51 : decode cX8_idle 51 = .ok (.getfield 111, 3) := by decide +kernel
theorem dX8_idle_54 : decode cX8_idle 54 = .ok (.invokevirtual 212, 3) := by decide +kernel
theorem dX8_idle_57 : decode cX8_idle 57 = .ok (.pop, 1) := by decide +kernel
theorem dX8_idle_58 : decode cX8_idle 58 = .ok (.aload_n 0, 1) := by decide +kernel
theorem dX8_idle_59 : decode cX8_idle 59 = .ok (.getfield 209, 3) := by decide +kernel
theorem dX8_idle_62 : decode cX8_idle 62 = .ok (.istore_n 2, 1) := by decide +kernel
theorem dX8_idle_63 : decode cX8_idle 63 = .ok (.aload_n 0, 1) := by decide +kernel
theorem dX8_idle_64 : decode cX8_idle 64 = .ok (.iconst 3, 1) := by decide +kernel
theorem dX8_idle_65 : decode cX8_idle 65 = .ok (.iconst 0, 1) := by decide +kernel
theorem dX8_idle_66 : decode cX8_idle 66 = .ok (.invokevirtual 104, 3) := by decide +kernel
theorem dX8_idle_69 : decode cX8_idle 69 = .ok (.pop, 1) := by decide +kernel
theorem dX8_idle_70 : decode cX8_idle 70 = .ok (.aload_n 0, 1) := by decide +kernel
theorem dX8_idle_71 : decode cX8_idle 71 = .ok (.aload_n 0, 1) := by decide +kernel
theorem dX8_idle_72 : decode cX8_idle 72 = .ok (.getfield 31, 3) := by decide +kernel
theorem dX8_idle_75 : decode cX8_idle 75 = .ok (.iload_n 1, 1) := by decide +kernel
theorem dX8_idle_76 : decode cX8_idle 76 = .ok (.iaload, 1) := by decide +kernel
theorem dX8_idle_77 : decode cX8_idle 77 = .ok (.aload_n 0, 1) := by decide +kernel
theorem dX8_idle_78 : decode cX8_idle 78 = .ok (.getfield 111, 3) := by decide +kernel
theorem dX8_idle_81 : decode cX8_idle 81 = .ok (.invokevirtual 212, 3) := by decide +kernel
theorem dX8_idle_84 : decode cX8_idle 84 = .ok (.pop, 1) := by decide +kernel
theorem dX8_idle_85 : decode cX8_idle 85 = .ok (.aload_n 0, 1) := by decide +kernel
theorem dX8_idle_86 : decode cX8_idle 86 = .ok (.dup, 1) := by decide +kernel
theorem dX8_idle_87 : decode cX8_idle 87 = .ok (.getfield 67, 3) := by decide +kernel
theorem dX8_idle_90 : decode cX8_idle 90 = .ok (.iconst 1, 1) := by decide +kernel
theorem dX8_idle_91 : decode cX8_idle 91 = .ok (.isub, 1) := by decide +kernel
theorem dX8_idle_92 : decode cX8_idle 92 = .ok (.putfield 67, 3) := by decide +kernel
theorem dX8_idle_95 : decode cX8_idle 95 = .ok (.iload_n 2, 1) := by decide +kernel
theorem dX8_idle_96 : decode cX8_idle 96 = .ok (.aload_n 0, 1) := by decide +kernel
theorem dX8_idle_97 : decode cX8_idle 97 = .ok (.getfield 209, 3) := by decide +kernel
theorem dX8_idle_100 : decode cX8_idle 100 = .ok (.isub, 1) := by decide +kernel
theorem dX8_idle_101 : decode cX8_idle 101 = .ok (.ireturn, 1) := by decide +kernel
theorem dX8_draw_0 : decode cX8_draw 0 = .ok (.aload_n 0, 1) := by decide +kernel
theorem dX8_draw_1 : decode cX8_draw 1 = .ok (.aload_n 0, 1) := by decide +kernel
theorem dX8_draw_2 : decode cX8_draw 2 = .ok (.getfield 234, 3) := by decide +kernel
theorem dX8_draw_5 : decode cX8_draw 5 = .ok (.ldc 237, 2) := by decide +kernel
theorem dX8_draw_7 : decode cX8_draw 7 = .ok (.imul, 1) := by decide +kernel
theorem dX8_draw_8 : decode cX8_draw 8 = .ok (.ldc 238, 2) := by decide +kernel
theorem dX8_draw_10 : decode cX8_draw 10 = .ok (.iadd, 1) := by decide +kernel
theorem dX8_draw_11 : decode cX8_draw 11 = .ok (.putfield 234, 3) := by decide +kernel
theorem dX8_draw_14 : decode cX8_draw 14 = .ok (.aload_n 0, 1) := by decide +kernel
theorem dX8_draw_15 : decode cX8_draw 15 = .ok (.getfield 234, 3) := by decide +kernel
theorem dX8_draw_18 : decode cX8_draw 18 = .ok (.ldc 239, 2) := by decide +kernel
theorem dX8_draw_20 : decode cX8_draw 20 = .ok (.iand, 1) := by decide +kernel
theorem dX8_draw_21 : decode cX8_draw 21 = .ok (.sipush 256, 3) := by decide +kernel
theorem dX8_draw_24 : decode cX8_draw 24 = .ok (.idiv, 1) := by decide +kernel
theorem dX8_draw_25 : decode cX8_draw 25 = .ok (.iload_n 1, 1) := by decide +kernel
theorem dX8_draw_26 : decode cX8_draw 26 = .ok (.irem, 1) := by decide +kernel
theorem dX8_draw_27 : decode cX8_draw 27 = .ok (.ireturn, 1) := by decide +kernel
theorem dX8_image_0 : decode cX8_image 0 = .ok (.aload_n 0, 1) := by decide +kernel
theorem dX8_image_1 : decode cX8_image 1 = .ok (.getfield 247, 3) := by decide +kernel
theorem dX8_image_4 : decode cX8_image 4 = .ok (.ifnonnull 14, 3) := by decide +kernel
theorem dX8_image_7 : decode cX8_image 7 = .ok (.aload_n 0, 1) := by decide +kernel
theorem dX8_image_8 : decode cX8_image 8 = .ok (.new 7, 3) := by decide +kernel
theorem dX8_image_11 : decode cX8_image 11 = .ok (.dup, 1) := by decide +kernel
theorem dX8_image_12 : decode cX8_image 12 = .ok (.invokespecial 122, 3) := by decide +kernel
theorem dX8_image_15 : decode cX8_image 15 = .ok (.putfield 247, 3) := by decide +kernel
theorem dX8_image_18 : decode cX8_image 18 = .ok (.aload_n 0, 1) := by decide +kernel
theorem dX8_image_19 : decode cX8_image 19 = .ok (.getfield 247, 3) := by decide +kernel
theorem dX8_image_22 : decode cX8_image 22 = .ok (.aload_n 0, 1) := by decide +kernel
theorem dX8_image_23 : decode cX8_image 23 = .ok (.invokevirtual 123, 3) := by decide +kernel
theorem dX8_image_26 : decode cX8_image 26 = .ok (.aload_n 0, 1) := by decide +kernel
theorem dX8_image_27 : decode cX8_image 27 = .ok (.getfield 67, 3) := by decide +kernel
theorem dX8_image_30 : decode cX8_image 30 = .ok (.ireturn, 1) := by decide +kernel
theorem dX8_count_0 : decode cX8_count 0 = .ok (.iload_n 1, 1) := by decide +kernel
theorem dX8_count_1 : decode cX8_count 1 = .ok (.tableswitch 99 0 8 #[51, 56, 61, 66, 71, 76, 81, 86, 94], 51) := by decide +kernel
theorem dX8_count_52 : decode cX8_count 52 = .ok (.aload_n 0, 1) := by decide +kernel
theorem dX8_count_53 : decode cX8_count 53 = .ok (.getfield 67, 3) := by decide +kernel
theorem dX8_count_56 : decode cX8_count 56 = .ok (.ireturn, 1) := by decide +kernel
theorem dX8_count_57 : decode cX8_count 57 = .ok (.aload_n 0, 1) := by decide +kernel
theorem dX8_count_58 : decode cX8_count 58 = .ok (.getfield 71, 3) := by decide +kernel
theorem dX8_count_61 : decode cX8_count 61 = .ok (.ireturn, 1) := by decide +kernel
theorem dX8_count_62 : decode cX8_count 62 = .ok (.aload_n 0, 1) := by decide +kernel
theorem dX8_count_63 : decode cX8_count 63 = .ok (.getfield 230, 3) := by decide +kernel
theorem dX8_count_66 : decode cX8_count 66 = .ok (.ireturn, 1) := by decide +kernel
theorem dX8_count_67 : decode cX8_count 67 = .ok (.aload_n 0, 1) := by decide +kernel
theorem dX8_count_68 : decode cX8_count 68 = .ok (.getfield 139, 3) := by decide +kernel
theorem dX8_count_71 : decode cX8_count 71 = .ok (.ireturn, 1) := by decide +kernel
theorem dX8_count_72 : decode cX8_count 72 = .ok (.aload_n 0, 1) := by decide +kernel
theorem dX8_count_73 : decode cX8_count 73 = .ok (.getfield 78, 3) := by decide +kernel
theorem dX8_count_76 : decode cX8_count 76 = .ok (.ireturn, 1) := by decide +kernel
theorem dX8_count_77 : decode cX8_count 77 = .ok (.aload_n 0, 1) := by decide +kernel
theorem dX8_count_78 : decode cX8_count 78 = .ok (.getfield 111, 3) := by decide +kernel
theorem dX8_count_81 : decode cX8_count 81 = .ok (.ireturn, 1) := by decide +kernel
theorem dX8_count_82 : decode cX8_count 82 = .ok (.aload_n 0, 1) := by decide +kernel
theorem dX8_count_83 : decode cX8_count 83 = .ok (.getfield 136, 3) := by decide +kernel
theorem dX8_count_86 : decode cX8_count 86 = .ok (.ireturn, 1) := by decide +kernel
theorem dX8_count_87 : decode cX8_count 87 = .ok (.aload_n 0, 1) := by decide +kernel
theorem dX8_count_88 : decode cX8_count 88 = .ok (.sipush 255, 3) := by decide +kernel
theorem dX8_count_91 : decode cX8_count 91 = .ok (.invokevirtual 181, 3) := by decide +kernel
theorem dX8_count_94 : decode cX8_count 94 = .ok (.ireturn, 1) := by decide +kernel
theorem dX8_count_95 : decode cX8_count 95 = .ok (.aload_n 0, 1) := by decide +kernel
theorem dX8_count_96 : decode cX8_count 96 = .ok (.getfield 218, 3) := by decide +kernel
theorem dX8_count_99 : decode cX8_count 99 = .ok (.ireturn, 1) := by decide +kernel
theorem dX8_count_100 : decode cX8_count 100 = .ok (.iload_n 1, 1) := by decide +kernel
theorem dX8_count_101 : decode cX8_count 101 = .ok (.bipush 11, 2) := by decide +kernel
theorem dX8_count_103 : decode cX8_count 103 = .ok (.bipush 16, 2) := by decide +kernel
theorem dX8_count_105 : decode cX8_count 105 = .ok (.invokestatic 63, 3) := by decide +kernel
theorem dX8_count_108 : decode cX8_count 108 = .ok (.ifCond .eq 15, 3) := by decide +kernel
theorem dX8_count_111 : decode cX8_count 111 = .ok (.aload_n 0, 1) := by decide +kernel
theorem dX8_count_112 : decode cX8_count 112 = .ok (.getfield 19, 3) := by decide +kernel
theorem dX8_count_115 : decode cX8_count 115 = .ok (.iload_n 1, 1) := by decide +kernel
theorem dX8_count_116 : decode cX8_count 116 = .ok (.bipush 10, 2) := by decide +kernel
theorem dX8_count_118 : decode cX8_count 118 = .ok (.isub, 1) := by decide +kernel
theorem dX8_count_119 : decode cX8_count 119 = .ok (.iaload, 1) := by decide +kernel
theorem dX8_count_120 : decode cX8_count 120 = .ok (.goto 5, 3) := by decide +kernel
theorem dX8_count_123 : decode cX8_count 123 = .ok (.bipush (-9), 2) := by decide +kernel
theorem dX8_count_125 : decode cX8_count 125 = .ok (.ireturn, 1) := by decide +kernel
end
section
theorem dX8_refuse_0 : decode cX8_refuse 0 = .ok (.aload_n 0, 1) := by decide +kernel
theorem dX8_refuse_1 : decode cX8_refuse 1 = .ok (.getfield 19, 3) := by decide +kernel
theorem dX8_refuse_4 : decode cX8_refuse 4 = .ok (.iload_n 1, 1) := by decide +kernel
theorem dX8_refuse_5 : decode cX8_refuse 5 = .ok (.ineg, 1) := by decide +kernel
theorem dX8_refuse_6 : decode cX8_refuse 6 = .ok (.dup2, 1) := by decide +kernel
theorem dX8_refuse_7 : decode cX8_refuse 7 = .ok (.iaload, 1) := by decide +kernel
theorem dX8_refuse_8 : decode cX8_refuse 8 = .ok (.iconst 1, 1) := by decide +kernel
theorem dX8_refuse_9 : decode cX8_refuse 9 = .ok (.iadd, 1) := by decide +kernel
theorem dX8_refuse_10 : decode cX8_refuse 10 = .ok (.iastore, 1) := by decide +kernel
theorem dX8_refuse_11 : decode cX8_refuse 11 = .ok (.iload_n 1, 1) := by decide +kernel
theorem dX8_refuse_12 : decode cX8_refuse 12 = .ok (.ireturn, 1) := by decide +kernel
theorem dX8_weightOf_0 : decode cX8_weightOf 0 = .ok (.iconst 0, 1) := by decide +kernel
theorem dX8_weightOf_1 : decode cX8_weightOf 1 = .ok (.istore_n 2, 1) := by decide +kernel
theorem dX8_weightOf_2 : decode cX8_weightOf 2 = .ok (.iconst 0, 1) := by decide +kernel
theorem dX8_weightOf_3 : decode cX8_weightOf 3 = .ok (.istore_n 3, 1) := by decide +kernel
theorem dX8_weightOf_4 : decode cX8_weightOf 4 = .ok (.iload_n 3, 1) := by decide +kernel
theorem dX8_weightOf_5 : decode cX8_weightOf 5 = .ok (.bipush 8, 2) := by decide +kernel
theorem dX8_weightOf_7 : decode cX8_weightOf 7 = .ok (.if_icmp .ge 30, 3) := by decide +kernel
theorem dX8_weightOf_10 : decode cX8_weightOf 10 = .ok (.iload_n 2, 1) := by decide +kernel
theorem dX8_weightOf_11 : decode cX8_weightOf 11 = .ok (.iload_n 1, 1) := by decide +kernel
theorem dX8_weightOf_12 : decode cX8_weightOf 12 = .ok (.iload_n 3, 1) := by decide +kernel
theorem dX8_weightOf_13 : decode cX8_weightOf 13 = .ok (.ishr, 1) := by decide +kernel
theorem dX8_weightOf_14 : decode cX8_weightOf 14 = .ok (.iconst 1, 1) := by decide +kernel
theorem dX8_weightOf_15 : decode cX8_weightOf 15 = .ok (.iand, 1) := by decide +kernel
theorem dX8_weightOf_16 : decode cX8_weightOf 16 = .ok (.ifCond .eq 12, 3) := by decide +kernel
theorem dX8_weightOf_19 : decode cX8_weightOf 19 = .ok (.aload_n 0, 1) := by decide +kernel
theorem dX8_weightOf_20 : decode cX8_weightOf 20 = .ok (.getfield 28, 3) := by decide +kernel
theorem dX8_weightOf_23 : decode cX8_weightOf 23 = .ok (.iload_n 3, 1) := by decide +kernel
theorem dX8_weightOf_24 : decode cX8_weightOf 24 = .ok (.iaload, 1) := by decide +kernel
theorem dX8_weightOf_25 : decode cX8_weightOf 25 = .ok (.goto 4, 3) := by decide +kernel
theorem dX8_weightOf_28 : decode cX8_weightOf 28 = .ok (.iconst 0, 1) := by decide +kernel
theorem dX8_weightOf_29 : decode cX8_weightOf 29 = .ok (.iadd, 1) := by decide +kernel
theorem dX8_weightOf_30 : decode cX8_weightOf 30 = .ok (.istore_n 2, 1) := by decide +kernel
theorem dX8_weightOf_31 : decode cX8_weightOf 31 = .ok (.iinc 3 1, 3) := by decide +kernel
theorem dX8_weightOf_34 : decode cX8_weightOf 34 = .ok (.goto (-30), 3) := by decide +kernel
theorem dX8_weightOf_37 : decode cX8_weightOf 37 = .ok (.iload_n 2, 1) := by decide +kernel
theorem dX8_weightOf_38 : decode cX8_weightOf 38 = .ok (.ireturn, 1) := by decide +kernel
theorem dX8_letter_0 : decode cX8_letter 0 = .ok (.iload_n 1, 1) := by decide +kernel
theorem dX8_letter_1 : decode cX8_letter 1 = .ok (.ifCond .ge 10, 3) := by decide +kernel
theorem dX8_letter_4 : decode cX8_letter 4 = .ok (.aload_n 0, 1) := by decide +kernel
theorem dX8_letter_5 : decode cX8_letter 5 = .ok (.bipush (-4), 2) := by decide +kernel
theorem dX8_letter_7 : decode cX8_letter 7 = .ok (.invokevirtual 74, 3) := by decide +kernel
theorem dX8_letter_10 : decode cX8_letter 10 = .ok (.ireturn, 1) := by decide +kernel
theorem dX8_letter_11 : decode cX8_letter 11 = .ok (.iload_n 1, 1) := by decide +kernel
theorem dX8_letter_12 : decode cX8_letter 12 = .ok (.sipush 255, 3) := by decide +kernel
theorem dX8_letter_15 : decode cX8_letter 15 = .ok (.if_icmp .gt 12, 3) := by decide +kernel
theorem dX8_letter_18 : decode cX8_letter 18 = .ok (.aload_n 0, 1) := by decide +kernel
theorem dX8_letter_19 : decode cX8_letter 19 = .ok (.getfield 78, 3) := by decide +kernel
theorem dX8_letter_22 : decode cX8_letter 22 = .ok (.bipush 64, 2) := by decide +kernel
theorem dX8_letter_24 : decode cX8_letter 24 = .ok (.if_icmp .ne 10, 3) := by decide +kernel
theorem dX8_letter_27 : decode cX8_letter 27 = .ok (.aload_n 0, 1) := by decide +kernel
theorem dX8_letter_28 : decode cX8_letter 28 = .ok (.bipush (-6), 2) := by decide +kernel
theorem dX8_letter_30 : decode cX8_letter 30 = .ok (.invokevirtual 74, 3) := by decide +kernel
theorem dX8_letter_33 : decode cX8_letter 33 = .ok (.ireturn, 1) := by decide +kernel
theorem dX8_letter_34 : decode cX8_letter 34 = .ok (.aload_n 0, 1) := by decide +kernel
theorem dX8_letter_35 : decode cX8_letter 35 = .ok (.getfield 9, 3) := by decide +kernel
theorem dX8_letter_38 : decode cX8_letter 38 = .ok (.aload_n 0, 1) := by decide +kernel
theorem dX8_letter_39 : decode cX8_letter 39 = .ok (.dup, 1) := by decide +kernel
theorem dX8_letter_40 : decode cX8_letter 40 = .ok (.getfield 78, 3) := by decide +kernel
theorem dX8_letter_43 : decode cX8_letter 43 = .ok (.dup_x1, 1) := by decide +kernel
theorem dX8_letter_44 : decode cX8_letter 44 = .ok (.iconst 1, 1) := by decide +kernel
theorem dX8_letter_45 : decode cX8_letter 45 = .ok (.iadd, 1) := by decide +kernel
theorem dX8_letter_46 : decode cX8_letter 46 = .ok (.putfield 78, 3) := by decide +kernel
theorem dX8_letter_49 : decode cX8_letter 49 = .ok (.iload_n 1, 1) := by decide +kernel
theorem dX8_letter_50 : decode cX8_letter 50 = .ok (.iastore, 1) := by decide +kernel
theorem dX8_letter_51 : decode cX8_letter 51 = .ok (.aload_n 0, 1) := by decide +kernel
theorem dX8_letter_52 : decode cX8_letter 52 = .ok (.getfield 78, 3) := by decide +kernel
theorem dX8_letter_55 : decode cX8_letter 55 = .ok (.ireturn, 1) := by decide +kernel
theorem dX8_sees_0 : decode cX8_sees 0 = .ok (.aload_n 0, 1) := by decide +kernel
theorem dX8_sees_1 : decode cX8_sees 1 = .ok (.getfield 81, 3) := by decide +kernel
theorem dX8_sees_4 : decode cX8_sees 4 = .ok (.aload_n 0, 1) := by decide +kernel
theorem dX8_sees_5 : decode cX8_sees 5 = .ok (.getfield 78, 3) := by decide +kernel
theorem dX8_sees_8 : decode cX8_sees 8 = .ok (.if_icmp .ge 20, 3) := by decide +kernel
theorem dX8_sees_11 : decode cX8_sees 11 = .ok (.aload_n 0, 1) := by decide +kernel
theorem dX8_sees_12 : decode cX8_sees 12 = .ok (.getfield 9, 3) := by decide +kernel
theorem dX8_sees_15 : decode cX8_sees 15 = .ok (.aload_n 0, 1) := by decide +kernel
theorem dX8_sees_16 : decode cX8_sees 16 = .ok (.getfield 81, 3) := by decide +kernel
theorem dX8_sees_19 : decode cX8_sees 19 = .ok (.iaload, 1) := by decide +kernel
theorem dX8_sees_20 : decode cX8_sees 20 = .ok (.iload_n 1, 1) := by decide +kernel
theorem dX8_sees_21 : decode cX8_sees 21 = .ok (.if_icmp .ne 7, 3) := by decide +kernel
theorem dX8_sees_24 : decode cX8_sees 24 = .ok (.iconst 1, 1) := by decide +kernel
theorem dX8_sees_25 : decode cX8_sees 25 = .ok (.goto 4, 3) := by decide +kernel
theorem dX8_sees_28 : decode cX8_sees 28 = .ok (.iconst 0, 1) := by decide +kernel
theorem dX8_sees_29 : decode cX8_sees 29 = .ok (.ireturn, 1) := by decide +kernel
theorem dX8_seesDigit_0 : decode cX8_seesDigit 0 = .ok (.aload_n 0, 1) := by decide +kernel
theorem dX8_seesDigit_1 : decode cX8_seesDigit 1 = .ok (.getfield 81, 3) := by decide +kernel
theorem dX8_seesDigit_4 : decode cX8_seesDigit 4 = .ok (.aload_n 0, 1) := by decide +kernel
theorem dX8_seesDigit_5 : decode cX8_seesDigit 5 = .ok (.getfield 78, 3) := by decide +kernel
theorem dX8_seesDigit_8 : decode cX8_seesDigit 8 = .ok (.if_icmp .ge 35, 3) := by decide +kernel
theorem dX8_seesDigit_11 : decode cX8_seesDigit 11 = .ok (.aload_n 0, 1) := by decide +kernel
theorem dX8_seesDigit_12 : decode cX8_seesDigit 12 = .ok (.getfield 9, 3) := by decide +kernel
theorem dX8_seesDigit_15 : decode cX8_seesDigit 15 = .ok (.aload_n 0, 1) := by decide +kernel
theorem dX8_seesDigit_16 : decode cX8_seesDigit 16 = .ok (.getfield 81, 3) := by decide +kernel
theorem dX8_seesDigit_19 : decode cX8_seesDigit 19 = .ok (.iaload, 1) := by decide +kernel
theorem dX8_seesDigit_20 : decode cX8_seesDigit 20 = .ok (.bipush 48, 2) := by decide +kernel
theorem dX8_seesDigit_22 : decode cX8_seesDigit 22 = .ok (.if_icmp .lt 21, 3) := by decide +kernel
theorem dX8_seesDigit_25 : decode cX8_seesDigit 25 = .ok (.aload_n 0, 1) := by decide +kernel
theorem dX8_seesDigit_26 : decode cX8_seesDigit 26 = .ok (.getfield 9, 3) := by decide +kernel
theorem dX8_seesDigit_29 : decode cX8_seesDigit 29 = .ok (.aload_n 0, 1) := by decide +kernel
theorem dX8_seesDigit_30 : decode cX8_seesDigit 30 = .ok (.getfield 81, 3) := by decide +kernel
theorem dX8_seesDigit_33 : decode cX8_seesDigit 33 = .ok (.iaload, 1) := by decide +kernel
theorem dX8_seesDigit_34 : decode cX8_seesDigit 34 = .ok (.bipush 57, 2) := by decide +kernel
theorem dX8_seesDigit_36 : decode cX8_seesDigit 36 = .ok (.if_icmp .gt 7, 3) := by decide +kernel
theorem dX8_seesDigit_39 : decode cX8_seesDigit 39 = .ok (.iconst 1, 1) := by decide +kernel
theorem dX8_seesDigit_40 : decode cX8_seesDigit 40 = .ok (.goto 4, 3) := by decide +kernel
theorem dX8_seesDigit_43 : decode cX8_seesDigit 43 = .ok (.iconst 0, 1) := by decide +kernel
theorem dX8_seesDigit_44 : decode cX8_seesDigit 44 = .ok (.ireturn, 1) := by decide +kernel
theorem dX8_must_0 : decode cX8_must 0 = .ok (.aload_n 0, 1) := by decide +kernel
theorem dX8_must_1 : decode cX8_must 1 = .ok (.iload_n 1, 1) := by decide +kernel
theorem dX8_must_2 : decode cX8_must 2 = .ok (.invokevirtual 88, 3) := by decide +kernel
theorem dX8_must_5 : decode cX8_must 5 = .ok (.istore_n 2, 1) := by decide +kernel
theorem dX8_must_6 : decode cX8_must 6 = .ok (.aload_n 0, 1) := by decide +kernel
theorem dX8_must_7 : decode cX8_must 7 = .ok (.dup, 1) := by decide +kernel
theorem dX8_must_8 : decode cX8_must 8 = .ok (.getfield 81, 3) := by decide +kernel
theorem dX8_must_11 : decode cX8_must 11 = .ok (.iload_n 2, 1) := by decide +kernel
theorem dX8_must_12 : decode cX8_must 12 = .ok (.ifCond .eq 7, 3) := by decide +kernel
theorem dX8_must_15 : decode cX8_must 15 = .ok (.iconst 1, 1) := by decide +kernel
theorem dX8_must_16 : decode cX8_must 16 = .ok (.goto 4, 3) := by decide +kernel
theorem dX8_must_19 : decode cX8_must 19 = .ok (.iconst 0, 1) := by decide +kernel
theorem dX8_must_20 : decode cX8_must 20 = .ok (.iadd, 1) := by decide +kernel
theorem dX8_must_21 : decode cX8_must 21 = .ok (.putfield 81, 3) := by decide +kernel
theorem dX8_must_24 : decode cX8_must 24 = .ok (.iload_n 2, 1) := by decide +kernel
theorem dX8_must_25 : decode cX8_must 25 = .ok (.ireturn, 1) := by decide +kernel
theorem dX8_seesTalker_0 : decode cX8_seesTalker 0 = .ok (.aload_n 0, 1) := by decide +kernel
theorem dX8_seesTalker_1 : decode cX8_seesTalker 1 = .ok (.bipush 104, 2) := by decide +kernel
theorem dX8_seesTalker_3 : decode cX8_seesTalker 3 = .ok (.invokevirtual 88, 3) := by decide +kernel
theorem dX8_seesTalker_6 : decode cX8_seesTalker 6 = .ok (.ifCond .ne 39, 3) := by decide +kernel
theorem dX8_seesTalker_9 : decode cX8_seesTalker 9 = .ok (.aload_n 0, 1) := by decide +kernel
theorem dX8_seesTalker_10 : decode cX8_seesTalker 10 = .ok (.bipush 111, 2) := by decide +kernel
theorem dX8_seesTalker_12 : decode cX8_seesTalker 12 = .ok (.invokevirtual 88, 3) := by decide +kernel
theorem dX8_seesTalker_15 : decode cX8_seesTalker 15 = .ok (.ifCond .ne 30, 3) := by decide +kernel
theorem dX8_seesTalker_18 : decode cX8_seesTalker 18 = .ok (.aload_n 0, 1) := by decide +kernel
theorem dX8_seesTalker_19 : decode cX8_seesTalker 19 = .ok (.bipush 98, 2) := by decide +kernel
theorem dX8_seesTalker_21 : decode cX8_seesTalker 21 = .ok (.invokevirtual 88, 3) := by decide +kernel
theorem dX8_seesTalker_24 : decode cX8_seesTalker 24 = .ok (.ifCond .ne 21, 3) := by decide +kernel
theorem dX8_seesTalker_27 : decode cX8_seesTalker 27 = .ok (.aload_n 0, 1) := by decide +kernel
theorem dX8_seesTalker_28 : decode cX8_seesTalker 28 = .ok (.bipush 103, 2) := by decide +kernel
theorem dX8_seesTalker_30 : decode cX8_seesTalker 30 = .ok (.invokevirtual 88, 3) := by decide +kernel
theorem dX8_seesTalker_33 : decode cX8_seesTalker 33 = .ok (.ifCond .ne 12, 3) := by decide +kernel
theorem dX8_seesTalker_36 : decode cX8_seesTalker 36 = .ok (.aload_n 0, 1) := by decide +kernel
theorem dX8_seesTalker_37 : decode cX8_seesTalker 37 = .ok (.bipush 102, 2) := by decide +kernel
theorem dX8_seesTalker_39 : decode cX8_seesTalker 39 = .ok (.invokevirtual 88, 3) := by decide +kernel
theorem dX8_seesTalker_42 : decode cX8_seesTalker 42 = .ok (.ifCond .eq 7, 3) := by decide +kernel
theorem dX8_seesTalker_45 : decode cX8_seesTalker 45 = .ok (.iconst 1, 1) := by decide +kernel
theorem dX8_seesTalker_46 : decode cX8_seesTalker 46 = .ok (.goto 4, 3) := by decide +kernel
theorem dX8_seesTalker_49 : decode cX8_seesTalker 49 = .ok (.iconst 0, 1) := by decide +kernel
theorem dX8_seesTalker_50 : decode cX8_seesTalker 50 = .ok (.ireturn, 1) := by decide +kernel
theorem dX8_tellingComes_0 : decode cX8_tellingComes 0 = .ok (.iconst 0, 1) := by decide +kernel
theorem dX8_tellingComes_1 : decode cX8_tellingComes 1 = .ok (.istore_n 1, 1) := by decide +kernel
theorem dX8_tellingComes_2 : decode cX8_tellingComes 2 = .ok (.iconst (-1), 1) := by decide +kernel
theorem dX8_tellingComes_3 : decode cX8_tellingComes 3 = .ok (.istore_n 2, 1) := by decide +kernel
theorem dX8_tellingComes_4 : decode cX8_tellingComes 4 = .ok (.aload_n 0, 1) := by decide +kernel
theorem dX8_tellingComes_5 : decode cX8_tellingComes 5 = .ok (.invokevirtual 84, 3) := by decide +kernel
theorem dX8_tellingComes_8 : decode cX8_tellingComes 8 = .ok (.ifCond .eq 50, 3) := by decide +kernel
theorem dX8_tellingComes_11 : decode cX8_tellingComes 11 = .ok (.aload_n 0, 1) := by decide +kernel
theorem dX8_tellingComes_12 : decode cX8_tellingComes 12 = .ok (.getfield 9, 3) := by decide +kernel
theorem dX8_tellingComes_15 : decode cX8_tellingComes 15 = .ok (.aload_n 0, 1) := by decide +kernel
theorem dX8_tellingComes_16 : decode cX8_tellingComes 16 = .ok (.getfield 81, 3) := by decide +kernel
theorem dX8_tellingComes_19 : decode cX8_tellingComes 19 = .ok (.iaload, 1) := by decide +kernel
theorem dX8_tellingComes_20 : decode cX8_tellingComes 20 = .ok (.bipush 48, 2) := by decide +kernel
theorem dX8_tellingComes_22 : decode cX8_tellingComes 22 = .ok (.isub, 1) := by decide +kernel
theorem dX8_tellingComes_23 : decode cX8_tellingComes 23 = .ok (.istore_n 3, 1) := by decide +kernel
theorem dX8_tellingComes_24 : decode cX8_tellingComes 24 = .ok (.iload_n 3, 1) := by decide +kernel
theorem dX8_tellingComes_25 : decode cX8_tellingComes 25 = .ok (.bipush 7, 2) := by decide +kernel
theorem dX8_tellingComes_27 : decode cX8_tellingComes 27 = .ok (.if_icmp .gt 8, 3) := by decide +kernel
theorem dX8_tellingComes_30 : decode cX8_tellingComes 30 = .ok (.iload_n 3, 1) := by decide +kernel
theorem dX8_tellingComes_31 : decode cX8_tellingComes 31 = .ok (.iload_n 2, 1) := by decide +kernel
theorem dX8_tellingComes_32 : decode cX8_tellingComes 32 = .ok (.if_icmp .gt 5, 3) := by decide +kernel
theorem dX8_tellingComes_35 : decode cX8_tellingComes 35 = .ok (.iconst 0, 1) := by decide +kernel
theorem dX8_tellingComes_36 : decode cX8_tellingComes 36 = .ok (.ireturn, 1) := by decide +kernel
theorem dX8_tellingComes_37 : decode cX8_tellingComes 37 = .ok (.iload_n 1, 1) := by decide +kernel
theorem dX8_tellingComes_38 : decode cX8_tellingComes 38 = .ok (.iconst 1, 1) := by decide +kernel
theorem dX8_tellingComes_39 : decode cX8_tellingComes 39 = .ok (.iload_n 3, 1) := by decide +kernel
theorem dX8_tellingComes_40 : decode cX8_tellingComes 40 = .ok (.ishl, 1) := by decide +kernel
theorem dX8_tellingComes_41 : decode cX8_tellingComes 41 = .ok (.ior, 1) := by decide +kernel
theorem dX8_tellingComes_42 : decode cX8_tellingComes 42 = .ok (.istore_n 1, 1) := by decide +kernel
theorem dX8_tellingComes_43 : decode cX8_tellingComes 43 = .ok (.iload_n 3, 1) := by decide +kernel
theorem dX8_tellingComes_44 : decode cX8_tellingComes 44 = .ok (.istore_n 2, 1) := by decide +kernel
theorem dX8_tellingComes_45 : decode cX8_tellingComes 45 = .ok (.aload_n 0, 1) := by decide +kernel
theorem dX8_tellingComes_46 : decode cX8_tellingComes 46 = .ok (.dup, 1) := by decide +kernel
theorem dX8_tellingComes_47 : decode cX8_tellingComes 47 = .ok (.getfield 81, 3) := by decide +kernel
theorem dX8_tellingComes_50 : decode cX8_tellingComes 50 = .ok (.iconst 1, 1) := by decide +kernel
theorem dX8_tellingComes_51 : decode cX8_tellingComes 51 = .ok (.iadd, 1) := by decide +kernel
theorem dX8_tellingComes_52 : decode cX8_tellingComes 52 = .ok (.putfield 81, 3) := by decide +kernel
theorem dX8_tellingComes_55 : decode cX8_tellingComes 55 = .ok (.goto (-51), 3) := by decide +kernel
theorem dX8_tellingComes_58 : decode cX8_tellingComes 58 = .ok (.aload_n 0, 1) := by decide +kernel
theorem dX8_tellingComes_59 : decode cX8_tellingComes 59 = .ok (.iconst 0, 1) := by decide +kernel
theorem dX8_tellingComes_60 : decode cX8_tellingComes 60 = .ok (.iload_n 1, 1) := by decide +kernel
theorem dX8_tellingComes_61 : decode cX8_tellingComes 61 = .ok (.invokevirtual 104, 3) := by decide +kernel
theorem dX8_tellingComes_64 : decode cX8_tellingComes 64 = .ok (.ireturn, 1) := by decide +kernel
theorem dX8_tongue_0 : decode cX8_tongue 0 = .ok (.aload_n 0, 1) := by decide +kernel
theorem dX8_tongue_1 : decode cX8_tongue 1 = .ok (.invokevirtual 114, 3) := by decide +kernel
theorem dX8_tongue_4 : decode cX8_tongue 4 = .ok (.istore_n 1, 1) := by decide +kernel
theorem dX8_tongue_5 : decode cX8_tongue 5 = .ok (.iload_n 1, 1) := by decide +kernel
theorem dX8_tongue_6 : decode cX8_tongue 6 = .ok (.bipush (-9), 2) := by decide +kernel
theorem dX8_tongue_8 : decode cX8_tongue 8 = .ok (.if_icmp .eq 14, 3) := by decide +kernel
theorem dX8_tongue_11 : decode cX8_tongue 11 = .ok (.aload_n 0, 1) := by decide +kernel
theorem dX8_tongue_12 : decode cX8_tongue 12 = .ok (.iconst 0, 1) := by decide +kernel
theorem dX8_tongue_13 : decode cX8_tongue 13 = .ok (.putfield 78, 3) := by decide +kernel
theorem dX8_tongue_16 : decode cX8_tongue 16 = .ok (.sipush (-1000), 3) := by decide +kernel
theorem dX8_tongue_19 : decode cX8_tongue 19 = .ok (.iload_n 1, 1) := by decide +kernel
theorem dX8_tongue_20 : decode cX8_tongue 20 = .ok (.isub, 1) := by decide +kernel
theorem dX8_tongue_21 : decode cX8_tongue 21 = .ok (.ireturn, 1) := by decide +kernel
theorem dX8_tongue_22 : decode cX8_tongue 22 = .ok (.aload_n 0, 1) := by decide +kernel
theorem dX8_tongue_23 : decode cX8_tongue 23 = .ok (.getfield 118, 3) := by decide +kernel
theorem dX8_tongue_26 : decode cX8_tongue 26 = .ok (.ifnonnull 14, 3) := by decide +kernel
theorem dX8_tongue_29 : decode cX8_tongue 29 = .ok (.aload_n 0, 1) := by decide +kernel
theorem dX8_tongue_30 : decode cX8_tongue 30 = .ok (.new 7, 3) := by decide +kernel
theorem dX8_tongue_33 : decode cX8_tongue 33 = .ok (.dup, 1) := by decide +kernel
theorem dX8_tongue_34 : decode cX8_tongue 34 = .ok (.invokespecial 122, 3) := by decide +kernel
theorem dX8_tongue_37 : decode cX8_tongue 37 = .ok (.putfield 118, 3) := by decide +kernel
theorem dX8_tongue_40 : decode cX8_tongue 40 = .ok (.aload_n 0, 1) := by decide +kernel
theorem dX8_tongue_41 : decode cX8_tongue 41 = .ok (.getfield 118, 3) := by decide +kernel
theorem dX8_tongue_44 : decode cX8_tongue 44 = .ok (.aload_n 0, 1) := by decide +kernel
theorem dX8_tongue_45 : decode cX8_tongue 45 = .ok (.invokevirtual 123, 3) := by decide +kernel
theorem dX8_tongue_48 : decode cX8_tongue 48 = .ok (.iconst 0, 1) := by decide +kernel
theorem dX8_tongue_49 : decode cX8_tongue 49 = .ok (.istore_n 2, 1) := by decide +kernel
theorem dX8_tongue_50 : decode cX8_tongue 50 = .ok (.aload_n 0, 1) := by decide +kernel
theorem dX8_tongue_51 : decode cX8_tongue 51 = .ok (.iconst 0, 1) := by decide +kernel
theorem dX8_tongue_52 : decode cX8_tongue 52 = .ok (.putfield 81, 3) := by decide +kernel
theorem dX8_tongue_55 : decode cX8_tongue 55 = .ok (.aload_n 0, 1) := by decide +kernel
theorem dX8_tongue_56 : decode cX8_tongue 56 = .ok (.getfield 81, 3) := by decide +kernel
theorem dX8_tongue_59 : decode cX8_tongue 59 = .ok (.aload_n 0, 1) := by decide +kernel
theorem dX8_tongue_60 : decode cX8_tongue 60 = .ok (.getfield 78, 3) := by decide +kernel
theorem dX8_tongue_63 : decode cX8_tongue 63 = .ok (.if_icmp .ge 77, 3) := by decide +kernel
theorem dX8_tongue_66 : decode cX8_tongue 66 = .ok (.aload_n 0, 1) := by decide +kernel
theorem dX8_tongue_67 : decode cX8_tongue 67 = .ok (.getfield 81, 3) := by decide +kernel
theorem dX8_tongue_70 : decode cX8_tongue 70 = .ok (.istore_n 3, 1) := by decide +kernel
theorem dX8_tongue_71 : decode cX8_tongue 71 = .ok (.aload_n 0, 1) := by decide +kernel
theorem dX8_tongue_72 : decode cX8_tongue 72 = .ok (.invokevirtual 127, 3) := by decide +kernel
theorem dX8_tongue_75 : decode cX8_tongue 75 = .ok (.ifCond .ne 22, 3) := by decide +kernel
theorem dX8_tongue_78 : decode cX8_tongue 78 = .ok (.aload_n 0, 1) := by decide +kernel
theorem dX8_tongue_79 : decode cX8_tongue 79 = .ok (.aload_n 0, 1) := by decide +kernel
theorem dX8_tongue_80 : decode cX8_tongue 80 = .ok (.getfield 118, 3) := by decide +kernel
theorem dX8_tongue_83 : decode cX8_tongue 83 = .ok (.invokevirtual 123, 3) := by decide +kernel
theorem dX8_tongue_86 : decode cX8_tongue 86 = .ok (.aload_n 0, 1) := by decide +kernel
theorem dX8_tongue_87 : decode cX8_tongue 87 = .ok (.iconst 0, 1) := by decide +kernel
theorem dX8_tongue_88 : decode cX8_tongue 88 = .ok (.putfield 78, 3) := by decide +kernel
theorem dX8_tongue_91 : decode cX8_tongue 91 = .ok (.sipush (-2000), 3) := by decide +kernel
theorem dX8_tongue_94 : decode cX8_tongue 94 = .ok (.iload_n 3, 1) := by decide +kernel
theorem dX8_tongue_95 : decode cX8_tongue 95 = .ok (.isub, 1) := by decide +kernel
theorem dX8_tongue_96 : decode cX8_tongue 96 = .ok (.ireturn, 1) := by decide +kernel
theorem dX8_tongue_97 : decode cX8_tongue 97 = .ok (.aload_n 0, 1) := by decide +kernel
theorem dX8_tongue_98 : decode cX8_tongue 98 = .ok (.getfield 9, 3) := by decide +kernel
theorem dX8_tongue_101 : decode cX8_tongue 101 = .ok (.aload_n 0, 1) := by decide +kernel
theorem dX8_tongue_102 : decode cX8_tongue 102 = .ok (.getfield 81, 3) := by decide +kernel
theorem dX8_tongue_105 : decode cX8_tongue 105 = .ok (.iaload, 1) := by decide +kernel
theorem dX8_tongue_106 : decode cX8_tongue 106 = .ok (.bipush 59, 2) := by decide +kernel
theorem dX8_tongue_108 : decode cX8_tongue 108 = .ok (.if_icmp .eq 16, 3) := by decide +kernel
theorem dX8_tongue_111 : decode cX8_tongue 111 = .ok (.aload_n 0, 1) := by decide +kernel
theorem dX8_tongue_112 : decode cX8_tongue 112 = .ok (.dup, 1) := by decide +kernel
theorem dX8_tongue_113 : decode cX8_tongue 113 = .ok (.getfield 81, 3) := by decide +kernel
theorem dX8_tongue_116 : decode cX8_tongue 116 = .ok (.iconst 1, 1) := by decide +kernel
theorem dX8_tongue_117 : decode cX8_tongue 117 = .ok (.iadd, 1) := by decide +kernel
theorem dX8_tongue_118 : decode cX8_tongue 118 = .ok (.putfield 81, 3) := by decide +kernel
theorem dX8_tongue_121 : decode cX8_tongue 121 = .ok (.goto (-24), 3) := by decide +kernel
theorem dX8_tongue_124 : decode cX8_tongue 124 = .ok (.aload_n 0, 1) := by decide +kernel
theorem dX8_tongue_125 : decode cX8_tongue 125 = .ok (.dup, 1) := by decide +kernel
theorem dX8_tongue_126 : decode cX8_tongue 126 = .ok (.getfield 81, 3) := by decide +kernel
theorem dX8_tongue_129 : decode cX8_tongue 129 = .ok (.iconst 1, 1) := by decide +kernel
theorem dX8_tongue_130 : decode cX8_tongue 130 = .ok (.iadd, 1) := by decide +kernel
theorem dX8_tongue_131 : decode cX8_tongue 131 = .ok (.putfield 81, 3) := by decide +kernel
theorem dX8_tongue_134 : decode cX8_tongue 134 = .ok (.iinc 2 1, 3) := by decide +kernel
theorem dX8_tongue_137 : decode cX8_tongue 137 = .ok (.goto (-82), 3) := by decide +kernel
theorem dX8_tongue_140 : decode cX8_tongue 140 = .ok (.aload_n 0, 1) := by decide +kernel
theorem dX8_tongue_141 : decode cX8_tongue 141 = .ok (.iconst 0, 1) := by decide +kernel
theorem dX8_tongue_142 : decode cX8_tongue 142 = .ok (.putfield 78, 3) := by decide +kernel
theorem dX8_tongue_145 : decode cX8_tongue 145 = .ok (.iload_n 2, 1) := by decide +kernel
theorem dX8_tongue_146 : decode cX8_tongue 146 = .ok (.ireturn, 1) := by decide +kernel
theorem dX8_word_0 : decode cX8_word 0 = .ok (.aload_n 0, 1) := by decide +kernel
theorem dX8_word_1 : decode cX8_word 1 = .ok (.iload_n 1, 1) := by decide +kernel
theorem dX8_word_2 : decode cX8_word 2 = .ok (.invokevirtual 130, 3) := by decide +kernel
theorem dX8_word_5 : decode cX8_word 5 = .ok (.ifCond .ne 9, 3) := by decide +kernel
theorem dX8_word_8 : decode cX8_word 8 = .ok (.aload_n 0, 1) := by decide +kernel
theorem dX8_word_9 : decode cX8_word 9 = .ok (.iconst (-1), 1) := by decide +kernel
theorem dX8_word_10 : decode cX8_word 10 = .ok (.invokevirtual 74, 3) := by decide +kernel
theorem dX8_word_13 : decode cX8_word 13 = .ok (.ireturn, 1) := by decide +kernel
theorem dX8_word_14 : decode cX8_word 14 = .ok (.iload_n 2, 1) := by decide +kernel
theorem dX8_word_15 : decode cX8_word 15 = .ok (.iconst 0, 1) := by decide +kernel
theorem dX8_word_16 : decode cX8_word 16 = .ok (.iconst 1, 1) := by decide +kernel
theorem dX8_word_17 : decode cX8_word 17 = .ok (.invokestatic 63, 3) := by decide +kernel
theorem dX8_word_20 : decode cX8_word 20 = .ok (.ifCond .ne 10, 3) := by decide +kernel
theorem dX8_word_23 : decode cX8_word 23 = .ok (.aload_n 0, 1) := by decide +kernel
theorem dX8_word_24 : decode cX8_word 24 = .ok (.bipush (-2), 2) := by decide +kernel
theorem dX8_word_26 : decode cX8_word 26 = .ok (.invokevirtual 74, 3) := by decide +kernel
theorem dX8_word_29 : decode cX8_word 29 = .ok (.ireturn, 1) := by decide +kernel
theorem dX8_word_30 : decode cX8_word 30 = .ok (.iload_n 2, 1) := by decide +kernel
theorem dX8_word_31 : decode cX8_word 31 = .ok (.ifCond .ne 12, 3) := by decide +kernel
theorem dX8_word_34 : decode cX8_word 34 = .ok (.aload_n 0, 1) := by decide +kernel
theorem dX8_word_35 : decode cX8_word 35 = .ok (.getfield 22, 3) := by decide +kernel
theorem dX8_word_38 : decode cX8_word 38 = .ok (.iload_n 1, 1) := by decide +kernel
theorem dX8_word_39 : decode cX8_word 39 = .ok (.iaload, 1) := by decide +kernel
theorem dX8_word_40 : decode cX8_word 40 = .ok (.goto 9, 3) := by decide +kernel
theorem dX8_word_43 : decode cX8_word 43 = .ok (.aload_n 0, 1) := by decide +kernel
theorem dX8_word_44 : decode cX8_word 44 = .ok (.getfield 25, 3) := by decide +kernel
theorem dX8_word_47 : decode cX8_word 47 = .ok (.iload_n 1, 1) := by decide +kernel
theorem dX8_word_48 : decode cX8_word 48 = .ok (.iaload, 1) := by decide +kernel
theorem dX8_word_49 : decode cX8_word 49 = .ok (.ireturn, 1) := by decide +kernel
theorem dX8_weight_0 : decode cX8_weight 0 = .ok (.iload_n 1, 1) := by decide +kernel
theorem dX8_weight_1 : decode cX8_weight 1 = .ok (.invokestatic 133, 3) := by decide +kernel
theorem dX8_weight_4 : decode cX8_weight 4 = .ok (.ifCond .eq 12, 3) := by decide +kernel
theorem dX8_weight_7 : decode cX8_weight 7 = .ok (.aload_n 0, 1) := by decide +kernel
theorem dX8_weight_8 : decode cX8_weight 8 = .ok (.getfield 28, 3) := by decide +kernel
theorem dX8_weight_11 : decode cX8_weight 11 = .ok (.iload_n 1, 1) := by decide +kernel
theorem dX8_weight_12 : decode cX8_weight 12 = .ok (.iaload, 1) := by decide +kernel
theorem dX8_weight_13 : decode cX8_weight 13 = .ok (.goto 8, 3) := by decide +kernel
theorem dX8_weight_16 : decode cX8_weight 16 = .ok (.aload_n 0, 1) := by decide +kernel
theorem dX8_weight_17 : decode cX8_weight 17 = .ok (.iconst (-1), 1) := by decide +kernel
theorem dX8_weight_18 : decode cX8_weight 18 = .ok (.invokevirtual 74, 3) := by decide +kernel
theorem dX8_weight_21 : decode cX8_weight 21 = .ok (.ireturn, 1) := by decide +kernel
theorem dX8_truth_0 : decode cX8_truth 0 = .ok (.iload_n 1, 1) := by decide +kernel
theorem dX8_truth_1 : decode cX8_truth 1 = .ok (.invokestatic 133, 3) := by decide +kernel
theorem dX8_truth_4 : decode cX8_truth 4 = .ok (.ifCond .ne 9, 3) := by decide +kernel
theorem dX8_truth_7 : decode cX8_truth 7 = .ok (.aload_n 0, 1) := by decide +kernel
theorem dX8_truth_8 : decode cX8_truth 8 = .ok (.iconst (-1), 1) := by decide +kernel
theorem dX8_truth_9 : decode cX8_truth 9 = .ok (.invokevirtual 74, 3) := by decide +kernel
theorem dX8_truth_12 : decode cX8_truth 12 = .ok (.ireturn, 1) := by decide +kernel
theorem dX8_truth_13 : decode cX8_truth 13 = .ok (.aload_n 0, 1) := by decide +kernel
theorem dX8_truth_14 : decode cX8_truth 14 = .ok (.getfield 136, 3) := by decide +kernel
theorem dX8_truth_17 : decode cX8_truth 17 = .ok (.istore_n 2, 1) := by decide +kernel
theorem dX8_truth_18 : decode cX8_truth 18 = .ok (.aload_n 0, 1) := by decide +kernel
theorem dX8_truth_19 : decode cX8_truth 19 = .ok (.iload_n 1, 1) := by decide +kernel
theorem dX8_truth_20 : decode cX8_truth 20 = .ok (.putfield 136, 3) := by decide +kernel
theorem dX8_truth_23 : decode cX8_truth 23 = .ok (.iload_n 2, 1) := by decide +kernel
theorem dX8_truth_24 : decode cX8_truth 24 = .ok (.ireturn, 1) := by decide +kernel
theorem dX8_law_0 : decode cX8_law 0 = .ok (.iload_n 1, 1) := by decide +kernel
theorem dX8_law_1 : decode cX8_law 1 = .ok (.iconst 0, 1) := by decide +kernel
theorem dX8_law_2 : decode cX8_law 2 = .ok (.iconst 4, 1) := by decide +kernel
theorem dX8_law_3 : decode cX8_law 3 = .ok (.invokestatic 63, 3) := by decide +kernel
theorem dX8_law_6 : decode cX8_law 6 = .ok (.ifCond .ne 10, 3) := by decide +kernel
theorem dX8_law_9 : decode cX8_law 9 = .ok (.aload_n 0, 1) := by decide +kernel
theorem dX8_law_10 : decode cX8_law 10 = .ok (.bipush (-2), 2) := by decide +kernel
theorem dX8_law_12 : decode cX8_law 12 = .ok (.invokevirtual 74, 3) := by decide +kernel
theorem dX8_law_15 : decode cX8_law 15 = .ok (.ireturn, 1) := by decide +kernel
theorem dX8_law_16 : decode cX8_law 16 = .ok (.aload_n 0, 1) := by decide +kernel
theorem dX8_law_17 : decode cX8_law 17 = .ok (.getfield 111, 3) := by decide +kernel
theorem dX8_law_20 : decode cX8_law 20 = .ok (.istore_n 2, 1) := by decide +kernel
theorem dX8_law_21 : decode cX8_law 21 = .ok (.aload_n 0, 1) := by decide +kernel
theorem dX8_law_22 : decode cX8_law 22 = .ok (.iload_n 1, 1) := by decide +kernel
theorem dX8_law_23 : decode cX8_law 23 = .ok (.putfield 111, 3) := by decide +kernel
theorem dX8_law_26 : decode cX8_law 26 = .ok (.iload_n 2, 1) := by decide +kernel
theorem dX8_law_27 : decode cX8_law 27 = .ok (.ireturn, 1) := by decide +kernel
theorem dX8_row_0 : decode cX8_row 0 = .ok (.aload_n 0, 1) := by decide +kernel
theorem dX8_row_1 : decode cX8_row 1 = .ok (.iload_n 1, 1) := by decide +kernel
theorem dX8_row_2 : decode cX8_row 2 = .ok (.invokevirtual 130, 3) := by decide +kernel
theorem dX8_row_5 : decode cX8_row 5 = .ok (.ifCond .ne 9, 3) := by decide +kernel
theorem dX8_row_8 : decode cX8_row 8 = .ok (.aload_n 0, 1) := by decide +kernel
theorem dX8_row_9 : decode cX8_row 9 = .ok (.iconst (-1), 1) := by decide +kernel
theorem dX8_row_10 : decode cX8_row 10 = .ok (.invokevirtual 74, 3) := by decide +kernel
theorem dX8_row_13 : decode cX8_row 13 = .ok (.ireturn, 1) := by decide +kernel
theorem dX8_row_14 : decode cX8_row 14 = .ok (.aload_n 0, 1) := by decide +kernel
theorem dX8_row_15 : decode cX8_row 15 = .ok (.getfield 139, 3) := by decide +kernel
theorem dX8_row_18 : decode cX8_row 18 = .ok (.bipush 6, 2) := by decide +kernel
theorem dX8_row_20 : decode cX8_row 20 = .ok (.if_icmp .ne 10, 3) := by decide +kernel
theorem dX8_row_23 : decode cX8_row 23 = .ok (.aload_n 0, 1) := by decide +kernel
theorem dX8_row_24 : decode cX8_row 24 = .ok (.bipush (-6), 2) := by decide +kernel
theorem dX8_row_26 : decode cX8_row 26 = .ok (.invokevirtual 74, 3) := by decide +kernel
theorem dX8_row_29 : decode cX8_row 29 = .ok (.ireturn, 1) := by decide +kernel
theorem dX8_row_30 : decode cX8_row 30 = .ok (.aload_n 0, 1) := by decide +kernel
theorem dX8_row_31 : decode cX8_row 31 = .ok (.getfield 13, 3) := by decide +kernel
theorem dX8_row_34 : decode cX8_row 34 = .ok (.aload_n 0, 1) := by decide +kernel
theorem dX8_row_35 : decode cX8_row 35 = .ok (.dup, 1) := by decide +kernel
theorem dX8_row_36 : decode cX8_row 36 = .ok (.getfield 139, 3) := by decide +kernel
theorem dX8_row_39 : decode cX8_row 39 = .ok (.dup_x1, 1) := by decide +kernel
theorem dX8_row_40 : decode cX8_row 40 = .ok (.iconst 1, 1) := by decide +kernel
theorem dX8_row_41 : decode cX8_row 41 = .ok (.iadd, 1) := by decide +kernel
theorem dX8_row_42 : decode cX8_row 42 = .ok (.putfield 139, 3) := by decide +kernel
theorem dX8_row_45 : decode cX8_row 45 = .ok (.iload_n 1, 1) := by decide +kernel
theorem dX8_row_46 : decode cX8_row 46 = .ok (.iastore, 1) := by decide +kernel
theorem dX8_row_47 : decode cX8_row 47 = .ok (.aload_n 0, 1) := by decide +kernel
theorem dX8_row_48 : decode cX8_row 48 = .ok (.getfield 139, 3) := by decide +kernel
theorem dX8_row_51 : decode cX8_row 51 = .ok (.ireturn, 1) := by decide +kernel
theorem dX8_meaning_0 : decode cX8_meaning 0 = .ok (.sipush 255, 3) := by decide +kernel
theorem dX8_meaning_3 : decode cX8_meaning 3 = .ok (.istore_n 3, 1) := by decide +kernel
theorem dX8_meaning_4 : decode cX8_meaning 4 = .ok (.iconst 0, 1) := by decide +kernel
theorem dX8_meaning_5 : decode cX8_meaning 5 = .ok (.istore 4, 2) := by decide +kernel
theorem dX8_meaning_7 : decode cX8_meaning 7 = .ok (.iconst 0, 1) := by decide +kernel
theorem dX8_meaning_8 : decode cX8_meaning 8 = .ok (.istore 5, 2) := by decide +kernel
theorem dX8_meaning_10 : decode cX8_meaning 10 = .ok (.iconst 1, 1) := by decide +kernel
theorem dX8_meaning_11 : decode cX8_meaning 11 = .ok (.istore 6, 2) := by decide +kernel
theorem dX8_meaning_13 : decode cX8_meaning 13 = .ok (.iconst 0, 1) := by decide +kernel
theorem dX8_meaning_14 : decode cX8_meaning 14 = .ok (.istore 7, 2) := by decide +kernel
theorem dX8_meaning_16 : decode cX8_meaning 16 = .ok (.iload 7, 2) := by decide +kernel
theorem dX8_meaning_18 : decode cX8_meaning 18 = .ok (.iload_n 2, 1) := by decide +kernel
theorem dX8_meaning_19 : decode cX8_meaning 19 = .ok (.if_icmp .ge 128, 3) := by decide +kernel
theorem dX8_meaning_22 : decode cX8_meaning 22 = .ok (.aload_n 1, 1) := by decide +kernel
theorem dX8_meaning_23 : decode cX8_meaning 23 = .ok (.iload 7, 2) := by decide +kernel
theorem dX8_meaning_25 : decode cX8_meaning 25 = .ok (.iaload, 1) := by decide +kernel
theorem dX8_meaning_26 : decode cX8_meaning 26 = .ok (.istore 8, 2) := by decide +kernel
theorem dX8_meaning_28 : decode cX8_meaning 28 = .ok (.iload 4, 2) := by decide +kernel
theorem dX8_meaning_30 : decode cX8_meaning 30 = .ok (.aload_n 0, 1) := by decide +kernel
theorem dX8_meaning_31 : decode cX8_meaning 31 = .ok (.getfield 22, 3) := by decide +kernel
theorem dX8_meaning_34 : decode cX8_meaning 34 = .ok (.iload 8, 2) := by decide +kernel
theorem dX8_meaning_36 : decode cX8_meaning 36 = .ok (.iaload, 1) := by decide +kernel
theorem dX8_meaning_37 : decode cX8_meaning 37 = .ok (.iconst 1, 1) := by decide +kernel
theorem dX8_meaning_38 : decode cX8_meaning 38 = .ok (.if_icmp .ne 7, 3) := by decide +kernel
theorem dX8_meaning_41 : decode cX8_meaning 41 = .ok (.iconst 1, 1) := by decide +kernel
theorem dX8_meaning_42 : decode cX8_meaning 42 = .ok (.goto 4, 3) := by decide +kernel
theorem dX8_meaning_45 : decode cX8_meaning 45 = .ok (.iconst 0, 1) := by decide +kernel
theorem dX8_meaning_46 : decode cX8_meaning 46 = .ok (.ixor, 1) := by decide +kernel
theorem dX8_meaning_47 : decode cX8_meaning 47 = .ok (.istore 4, 2) := by decide +kernel
theorem dX8_meaning_49 : decode cX8_meaning 49 = .ok (.iload 5, 2) := by decide +kernel
theorem dX8_meaning_51 : decode cX8_meaning 51 = .ok (.aload_n 0, 1) := by decide +kernel
theorem dX8_meaning_52 : decode cX8_meaning 52 = .ok (.getfield 22, 3) := by decide +kernel
theorem dX8_meaning_55 : decode cX8_meaning 55 = .ok (.iload 8, 2) := by decide +kernel
theorem dX8_meaning_57 : decode cX8_meaning 57 = .ok (.iaload, 1) := by decide +kernel
theorem dX8_meaning_58 : decode cX8_meaning 58 = .ok (.iconst 2, 1) := by decide +kernel
theorem dX8_meaning_59 : decode cX8_meaning 59 = .ok (.if_icmp .ne 7, 3) := by decide +kernel
theorem dX8_meaning_62 : decode cX8_meaning 62 = .ok (.iconst 1, 1) := by decide +kernel
theorem dX8_meaning_63 : decode cX8_meaning 63 = .ok (.goto 4, 3) := by decide +kernel
theorem dX8_meaning_66 : decode cX8_meaning 66 = .ok (.iconst 0, 1) := by decide +kernel
theorem dX8_meaning_67 : decode cX8_meaning 67 = .ok (.ior, 1) := by decide +kernel
theorem dX8_meaning_68 : decode cX8_meaning 68 = .ok (.istore 5, 2) := by decide +kernel
theorem dX8_meaning_70 : decode cX8_meaning 70 = .ok (.aload_n 0, 1) := by decide +kernel
theorem dX8_meaning_71 : decode cX8_meaning 71 = .ok (.getfield 22, 3) := by decide +kernel
theorem dX8_meaning_74 : decode cX8_meaning 74 = .ok (.iload 8, 2) := by decide +kernel
theorem dX8_meaning_76 : decode cX8_meaning 76 = .ok (.iaload, 1) := by decide +kernel
theorem dX8_meaning_77 : decode cX8_meaning 77 = .ok (.ifCond .ne 64, 3) := by decide +kernel
theorem dX8_meaning_80 : decode cX8_meaning 80 = .ok (.iload 4, 2) := by decide +kernel
theorem dX8_meaning_82 : decode cX8_meaning 82 = .ok (.ifCond .eq 19, 3) := by decide +kernel
theorem dX8_meaning_85 : decode cX8_meaning 85 = .ok (.sipush 255, 3) := by decide +kernel
theorem dX8_meaning_88 : decode cX8_meaning 88 = .ok (.aload_n 0, 1) := by decide +kernel
theorem dX8_meaning_89 : decode cX8_meaning 89 = .ok (.getfield 25, 3) := by decide +kernel
theorem dX8_meaning_92 : decode cX8_meaning 92 = .ok (.iload 8, 2) := by decide +kernel
theorem dX8_meaning_94 : decode cX8_meaning 94 = .ok (.iaload, 1) := by decide +kernel
theorem dX8_meaning_95 : decode cX8_meaning 95 = .ok (.iconst (-1), 1) := by decide +kernel
theorem dX8_meaning_96 : decode cX8_meaning 96 = .ok (.ixor, 1) := by decide +kernel
theorem dX8_meaning_97 : decode cX8_meaning 97 = .ok (.iand, 1) := by decide +kernel
theorem dX8_meaning_98 : decode cX8_meaning 98 = .ok (.goto 10, 3) := by decide +kernel
theorem dX8_meaning_101 : decode cX8_meaning 101 = .ok (.aload_n 0, 1) := by decide +kernel
theorem dX8_meaning_102 : decode cX8_meaning 102 = .ok (.getfield 25, 3) := by decide +kernel
theorem dX8_meaning_105 : decode cX8_meaning 105 = .ok (.iload 8, 2) := by decide +kernel
theorem dX8_meaning_107 : decode cX8_meaning 107 = .ok (.iaload, 1) := by decide +kernel
theorem dX8_meaning_108 : decode cX8_meaning 108 = .ok (.istore 9, 2) := by decide +kernel
theorem dX8_meaning_110 : decode cX8_meaning 110 = .ok (.iload 5, 2) := by decide +kernel
theorem dX8_meaning_112 : decode cX8_meaning 112 = .ok (.ifCond .eq 15, 3) := by decide +kernel
theorem dX8_meaning_115 : decode cX8_meaning 115 = .ok (.iload 6, 2) := by decide +kernel
theorem dX8_meaning_117 : decode cX8_meaning 117 = .ok (.ifCond .ne 10, 3) := by decide +kernel
theorem dX8_meaning_120 : decode cX8_meaning 120 = .ok (.iload_n 3, 1) := by decide +kernel
theorem dX8_meaning_121 : decode cX8_meaning 121 = .ok (.iload 9, 2) := by decide +kernel
theorem dX8_meaning_123 : decode cX8_meaning 123 = .ok (.ior, 1) := by decide +kernel
theorem dX8_meaning_124 : decode cX8_meaning 124 = .ok (.goto 7, 3) := by decide +kernel
theorem dX8_meaning_127 : decode cX8_meaning 127 = .ok (.iload_n 3, 1) := by decide +kernel
theorem dX8_meaning_128 : decode cX8_meaning 128 = .ok (.iload 9, 2) := by decide +kernel
theorem dX8_meaning_130 : decode cX8_meaning 130 = .ok (.iand, 1) := by decide +kernel
theorem dX8_meaning_131 : decode cX8_meaning 131 = .ok (.istore_n 3, 1) := by decide +kernel
theorem dX8_meaning_132 : decode cX8_meaning 132 = .ok (.iconst 0, 1) := by decide +kernel
theorem dX8_meaning_133 : decode cX8_meaning 133 = .ok (.istore 4, 2) := by decide +kernel
theorem dX8_meaning_135 : decode cX8_meaning 135 = .ok (.iconst 0, 1) := by decide +kernel
theorem dX8_meaning_136 : decode cX8_meaning 136 = .ok (.istore 5, 2) := by decide +kernel
theorem dX8_meaning_138 : decode cX8_meaning 138 = .ok (.iconst 0, 1) := by decide +kernel
theorem dX8_meaning_139 : decode cX8_meaning 139 = .ok (.istore 6, 2) := by decide +kernel
theorem dX8_meaning_141 : decode cX8_meaning 141 = .ok (.iinc 7 1, 3) := by decide +kernel
theorem dX8_meaning_144 : decode cX8_meaning 144 = .ok (.goto (-128), 3) := by decide +kernel
theorem dX8_meaning_147 : decode cX8_meaning 147 = .ok (.iload_n 3, 1) := by decide +kernel
theorem dX8_meaning_148 : decode cX8_meaning 148 = .ok (.ireturn, 1) := by decide +kernel
theorem dX8_mayFollow_0 : decode cX8_mayFollow 0 = .ok (.iload_n 0, 1) := by decide +kernel
theorem dX8_mayFollow_1 : decode cX8_mayFollow 1 = .ok (.tableswitch 82 0 3 #[31, 42, 53, 69], 31) := by decide +kernel
theorem dX8_mayFollow_32 : decode cX8_mayFollow 32 = .ok (.iload_n 1, 1) := by decide +kernel
theorem dX8_mayFollow_33 : decode cX8_mayFollow 33 = .ok (.iload_n 3, 1) := by decide +kernel
theorem dX8_mayFollow_34 : decode cX8_mayFollow 34 = .ok (.if_icmp .ge 7, 3) := by decide +kernel
theorem dX8_mayFollow_37 : decode cX8_mayFollow 37 = .ok (.iconst 1, 1) := by decide +kernel
theorem dX8_mayFollow_38 : decode cX8_mayFollow 38 = .ok (.goto 4, 3) := by decide +kernel
theorem dX8_mayFollow_41 : decode cX8_mayFollow 41 = .ok (.iconst 0, 1) := by decide +kernel
theorem dX8_mayFollow_42 : decode cX8_mayFollow 42 = .ok (.ireturn, 1) := by decide +kernel
theorem dX8_mayFollow_43 : decode cX8_mayFollow 43 = .ok (.iload_n 1, 1) := by decide +kernel
theorem dX8_mayFollow_44 : decode cX8_mayFollow 44 = .ok (.iload_n 3, 1) := by decide +kernel
theorem dX8_mayFollow_45 : decode cX8_mayFollow 45 = .ok (.if_icmp .gt 7, 3) := by decide +kernel
theorem dX8_mayFollow_48 : decode cX8_mayFollow 48 = .ok (.iconst 1, 1) := by decide +kernel
theorem dX8_mayFollow_49 : decode cX8_mayFollow 49 = .ok (.goto 4, 3) := by decide +kernel
theorem dX8_mayFollow_52 : decode cX8_mayFollow 52 = .ok (.iconst 0, 1) := by decide +kernel
theorem dX8_mayFollow_53 : decode cX8_mayFollow 53 = .ok (.ireturn, 1) := by decide +kernel
theorem dX8_mayFollow_54 : decode cX8_mayFollow 54 = .ok (.iload_n 1, 1) := by decide +kernel
theorem dX8_mayFollow_55 : decode cX8_mayFollow 55 = .ok (.iload_n 2, 1) := by decide +kernel
theorem dX8_mayFollow_56 : decode cX8_mayFollow 56 = .ok (.isub, 1) := by decide +kernel
theorem dX8_mayFollow_57 : decode cX8_mayFollow 57 = .ok (.iload_n 3, 1) := by decide +kernel
theorem dX8_mayFollow_58 : decode cX8_mayFollow 58 = .ok (.iload 4, 2) := by decide +kernel
theorem dX8_mayFollow_60 : decode cX8_mayFollow 60 = .ok (.isub, 1) := by decide +kernel
theorem dX8_mayFollow_61 : decode cX8_mayFollow 61 = .ok (.if_icmp .ge 7, 3) := by decide +kernel
theorem dX8_mayFollow_64 : decode cX8_mayFollow 64 = .ok (.iconst 1, 1) := by decide +kernel
theorem dX8_mayFollow_65 : decode cX8_mayFollow 65 = .ok (.goto 4, 3) := by decide +kernel
theorem dX8_mayFollow_68 : decode cX8_mayFollow 68 = .ok (.iconst 0, 1) := by decide +kernel
theorem dX8_mayFollow_69 : decode cX8_mayFollow 69 = .ok (.ireturn, 1) := by decide +kernel
theorem dX8_mayFollow_70 : decode cX8_mayFollow 70 = .ok (.iload_n 1, 1) := by decide +kernel
theorem dX8_mayFollow_71 : decode cX8_mayFollow 71 = .ok (.iload_n 3, 1) := by decide +kernel
theorem dX8_mayFollow_72 : decode cX8_mayFollow 72 = .ok (.iconst 1, 1) := by decide +kernel
theorem dX8_mayFollow_73 : decode cX8_mayFollow 73 = .ok (.iadd, 1) := by decide +kernel
theorem dX8_mayFollow_74 : decode cX8_mayFollow 74 = .ok (.if_icmp .ne 7, 3) := by decide +kernel
theorem dX8_mayFollow_77 : decode cX8_mayFollow 77 = .ok (.iconst 1, 1) := by decide +kernel
theorem dX8_mayFollow_78 : decode cX8_mayFollow 78 = .ok (.goto 4, 3) := by decide +kernel
theorem dX8_mayFollow_81 : decode cX8_mayFollow 81 = .ok (.iconst 0, 1) := by decide +kernel
theorem dX8_mayFollow_82 : decode cX8_mayFollow 82 = .ok (.ireturn, 1) := by decide +kernel
theorem dX8_mayFollow_83 : decode cX8_mayFollow 83 = .ok (.iconst 1, 1) := by decide +kernel
theorem dX8_mayFollow_84 : decode cX8_mayFollow 84 = .ok (.ireturn, 1) := by decide +kernel
theorem dX8_means_0 : decode cX8_means 0 = .ok (.aload_n 0, 1) := by decide +kernel
theorem dX8_means_1 : decode cX8_means 1 = .ok (.aload_n 0, 1) := by decide +kernel
theorem dX8_means_2 : decode cX8_means 2 = .ok (.getfield 13, 3) := by decide +kernel
theorem dX8_means_5 : decode cX8_means 5 = .ok (.aload_n 0, 1) := by decide +kernel
theorem dX8_means_6 : decode cX8_means 6 = .ok (.getfield 139, 3) := by decide +kernel
theorem dX8_means_9 : decode cX8_means 9 = .ok (.invokevirtual 142, 3) := by decide +kernel
theorem dX8_means_12 : decode cX8_means 12 = .ok (.istore_n 1, 1) := by decide +kernel
theorem dX8_means_13 : decode cX8_means 13 = .ok (.aload_n 0, 1) := by decide +kernel
theorem dX8_means_14 : decode cX8_means 14 = .ok (.iconst 0, 1) := by decide +kernel
theorem dX8_means_15 : decode cX8_means 15 = .ok (.putfield 139, 3) := by decide +kernel
theorem dX8_means_18 : decode cX8_means 18 = .ok (.iload_n 1, 1) := by decide +kernel
theorem dX8_means_19 : decode cX8_means 19 = .ok (.ireturn, 1) := by decide +kernel
theorem dX8_settles_0 : decode cX8_settles 0 = .ok (.iload_n 1, 1) := by decide +kernel
theorem dX8_settles_1 : decode cX8_settles 1 = .ok (.invokestatic 153, 3) := by decide +kernel
theorem dX8_settles_4 : decode cX8_settles 4 = .ok (.ifCond .ne 9, 3) := by decide +kernel
theorem dX8_settles_7 : decode cX8_settles 7 = .ok (.aload_n 0, 1) := by decide +kernel
theorem dX8_settles_8 : decode cX8_settles 8 = .ok (.iconst (-1), 1) := by decide +kernel
theorem dX8_settles_9 : decode cX8_settles 9 = .ok (.invokevirtual 74, 3) := by decide +kernel
theorem dX8_settles_12 : decode cX8_settles 12 = .ok (.ireturn, 1) := by decide +kernel
theorem dX8_settles_13 : decode cX8_settles 13 = .ok (.iload_n 1, 1) := by decide +kernel
theorem dX8_settles_14 : decode cX8_settles 14 = .ok (.aload_n 0, 1) := by decide +kernel
theorem dX8_settles_15 : decode cX8_settles 15 = .ok (.aload_n 0, 1) := by decide +kernel
theorem dX8_settles_16 : decode cX8_settles 16 = .ok (.getfield 13, 3) := by decide +kernel
theorem dX8_settles_19 : decode cX8_settles 19 = .ok (.aload_n 0, 1) := by decide +kernel
theorem dX8_settles_20 : decode cX8_settles 20 = .ok (.getfield 139, 3) := by decide +kernel
theorem dX8_settles_23 : decode cX8_settles 23 = .ok (.invokevirtual 142, 3) := by decide +kernel
theorem dX8_settles_26 : decode cX8_settles 26 = .ok (.invokestatic 156, 3) := by decide +kernel
theorem dX8_settles_29 : decode cX8_settles 29 = .ok (.istore_n 2, 1) := by decide +kernel
theorem dX8_settles_30 : decode cX8_settles 30 = .ok (.aload_n 0, 1) := by decide +kernel
theorem dX8_settles_31 : decode cX8_settles 31 = .ok (.iconst 0, 1) := by decide +kernel
theorem dX8_settles_32 : decode cX8_settles 32 = .ok (.putfield 139, 3) := by decide +kernel
theorem dX8_settles_35 : decode cX8_settles 35 = .ok (.iload_n 2, 1) := by decide +kernel
theorem dX8_settles_36 : decode cX8_settles 36 = .ok (.ifCond .eq 7, 3) := by decide +kernel
theorem dX8_settles_39 : decode cX8_settles 39 = .ok (.iconst 1, 1) := by decide +kernel
theorem dX8_settles_40 : decode cX8_settles 40 = .ok (.goto 4, 3) := by decide +kernel
theorem dX8_settles_43 : decode cX8_settles 43 = .ok (.iconst 0, 1) := by decide +kernel
theorem dX8_settles_44 : decode cX8_settles 44 = .ok (.ireturn, 1) := by decide +kernel
theorem dX8_list_0 : decode cX8_list 0 = .ok (.aload_n 0, 1) := by decide +kernel
theorem dX8_list_1 : decode cX8_list 1 = .ok (.iconst 0, 1) := by decide +kernel
theorem dX8_list_2 : decode cX8_list 2 = .ok (.putfield 159, 3) := by decide +kernel
theorem dX8_list_5 : decode cX8_list 5 = .ok (.aload_n 0, 1) := by decide +kernel
theorem dX8_list_6 : decode cX8_list 6 = .ok (.iconst 0, 1) := by decide +kernel
theorem dX8_list_7 : decode cX8_list 7 = .ok (.iconst 0, 1) := by decide +kernel
theorem dX8_list_8 : decode cX8_list 8 = .ok (.iconst 0, 1) := by decide +kernel
theorem dX8_list_9 : decode cX8_list 9 = .ok (.iconst 0, 1) := by decide +kernel
theorem dX8_list_10 : decode cX8_list 10 = .ok (.invokevirtual 162, 3) := by decide +kernel
theorem dX8_list_13 : decode cX8_list 13 = .ok (.iconst 0, 1) := by decide +kernel
theorem dX8_list_14 : decode cX8_list 14 = .ok (.istore_n 1, 1) := by decide +kernel
theorem dX8_list_15 : decode cX8_list 15 = .ok (.iload_n 1, 1) := by decide +kernel
theorem dX8_list_16 : decode cX8_list 16 = .ok (.aload_n 0, 1) := by decide +kernel
theorem dX8_list_17 : decode cX8_list 17 = .ok (.getfield 67, 3) := by decide +kernel
theorem dX8_list_20 : decode cX8_list 20 = .ok (.if_icmp .ge 17, 3) := by decide +kernel
theorem dX8_list_23 : decode cX8_list 23 = .ok (.aload_n 0, 1) := by decide +kernel
theorem dX8_list_24 : decode cX8_list 24 = .ok (.iconst 1, 1) := by decide +kernel
theorem dX8_list_25 : decode cX8_list 25 = .ok (.iload_n 1, 1) := by decide +kernel
theorem dX8_list_26 : decode cX8_list 26 = .ok (.iconst 0, 1) := by decide +kernel
theorem dX8_list_27 : decode cX8_list 27 = .ok (.iconst 0, 1) := by decide +kernel
theorem dX8_list_28 : decode cX8_list 28 = .ok (.invokevirtual 162, 3) := by decide +kernel
theorem dX8_list_31 : decode cX8_list 31 = .ok (.iinc 1 1, 3) := by decide +kernel
theorem dX8_list_34 : decode cX8_list 34 = .ok (.goto (-19), 3) := by decide +kernel
theorem dX8_list_37 : decode cX8_list 37 = .ok (.iconst 0, 1) := by decide +kernel
theorem dX8_list_38 : decode cX8_list 38 = .ok (.istore_n 1, 1) := by decide +kernel
theorem dX8_list_39 : decode cX8_list 39 = .ok (.iload_n 1, 1) := by decide +kernel
theorem dX8_list_40 : decode cX8_list 40 = .ok (.aload_n 0, 1) := by decide +kernel
theorem dX8_list_41 : decode cX8_list 41 = .ok (.getfield 67, 3) := by decide +kernel
theorem dX8_list_44 : decode cX8_list 44 = .ok (.if_icmp .ge 33, 3) := by decide +kernel
theorem dX8_list_47 : decode cX8_list 47 = .ok (.iconst 0, 1) := by decide +kernel
theorem dX8_list_48 : decode cX8_list 48 = .ok (.istore_n 2, 1) := by decide +kernel
theorem dX8_list_49 : decode cX8_list 49 = .ok (.iload_n 2, 1) := by decide +kernel
theorem dX8_list_50 : decode cX8_list 50 = .ok (.aload_n 0, 1) := by decide +kernel
theorem dX8_list_51 : decode cX8_list 51 = .ok (.getfield 67, 3) := by decide +kernel
theorem dX8_list_54 : decode cX8_list 54 = .ok (.if_icmp .ge 17, 3) := by decide +kernel
theorem dX8_list_57 : decode cX8_list 57 = .ok (.aload_n 0, 1) := by decide +kernel
theorem dX8_list_58 : decode cX8_list 58 = .ok (.iconst 2, 1) := by decide +kernel
theorem dX8_list_59 : decode cX8_list 59 = .ok (.iload_n 1, 1) := by decide +kernel
theorem dX8_list_60 : decode cX8_list 60 = .ok (.iload_n 2, 1) := by decide +kernel
theorem dX8_list_61 : decode cX8_list 61 = .ok (.iconst 0, 1) := by decide +kernel
theorem dX8_list_62 : decode cX8_list 62 = .ok (.invokevirtual 162, 3) := by decide +kernel
theorem dX8_list_65 : decode cX8_list 65 = .ok (.iinc 2 1, 3) := by decide +kernel
theorem dX8_list_68 : decode cX8_list 68 = .ok (.goto (-19), 3) := by decide +kernel
theorem dX8_list_71 : decode cX8_list 71 = .ok (.iinc 1 1, 3) := by decide +kernel
theorem dX8_list_74 : decode cX8_list 74 = .ok (.goto (-35), 3) := by decide +kernel
theorem dX8_list_77 : decode cX8_list 77 = .ok (.iconst 0, 1) := by decide +kernel
theorem dX8_list_78 : decode cX8_list 78 = .ok (.istore_n 1, 1) := by decide +kernel
theorem dX8_list_79 : decode cX8_list 79 = .ok (.iload_n 1, 1) := by decide +kernel
theorem dX8_list_80 : decode cX8_list 80 = .ok (.aload_n 0, 1) := by decide +kernel
theorem dX8_list_81 : decode cX8_list 81 = .ok (.getfield 67, 3) := by decide +kernel
theorem dX8_list_84 : decode cX8_list 84 = .ok (.if_icmp .ge 49, 3) := by decide +kernel
theorem dX8_list_87 : decode cX8_list 87 = .ok (.iconst 0, 1) := by decide +kernel
theorem dX8_list_88 : decode cX8_list 88 = .ok (.istore_n 2, 1) := by decide +kernel
theorem dX8_list_89 : decode cX8_list 89 = .ok (.iload_n 2, 1) := by decide +kernel
theorem dX8_list_90 : decode cX8_list 90 = .ok (.aload_n 0, 1) := by decide +kernel
theorem dX8_list_91 : decode cX8_list 91 = .ok (.getfield 67, 3) := by decide +kernel
theorem dX8_list_94 : decode cX8_list 94 = .ok (.if_icmp .ge 33, 3) := by decide +kernel
theorem dX8_list_97 : decode cX8_list 97 = .ok (.iconst 0, 1) := by decide +kernel
theorem dX8_list_98 : decode cX8_list 98 = .ok (.istore_n 3, 1) := by decide +kernel
theorem dX8_list_99 : decode cX8_list 99 = .ok (.iload_n 3, 1) := by decide +kernel
theorem dX8_list_100 : decode cX8_list 100 = .ok (.aload_n 0, 1) := by decide +kernel
theorem dX8_list_101 : decode cX8_list 101 = .ok (.getfield 67, 3) := by decide +kernel
theorem dX8_list_104 : decode cX8_list 104 = .ok (.if_icmp .ge 17, 3) := by decide +kernel
theorem dX8_list_107 : decode cX8_list 107 = .ok (.aload_n 0, 1) := by decide +kernel
theorem dX8_list_108 : decode cX8_list 108 = .ok (.iconst 3, 1) := by decide +kernel
theorem dX8_list_109 : decode cX8_list 109 = .ok (.iload_n 1, 1) := by decide +kernel
theorem dX8_list_110 : decode cX8_list 110 = .ok (.iload_n 2, 1) := by decide +kernel
theorem dX8_list_111 : decode cX8_list 111 = .ok (.iload_n 3, 1) := by decide +kernel
theorem dX8_list_112 : decode cX8_list 112 = .ok (.invokevirtual 162, 3) := by decide +kernel
theorem dX8_list_115 : decode cX8_list 115 = .ok (.iinc 3 1, 3) := by decide +kernel
theorem dX8_list_118 : decode cX8_list 118 = .ok (.goto (-19), 3) := by decide +kernel
theorem dX8_list_121 : decode cX8_list 121 = .ok (.iinc 2 1, 3) := by decide +kernel
theorem dX8_list_124 : decode cX8_list 124 = .ok (.goto (-35), 3) := by decide +kernel
theorem dX8_list_127 : decode cX8_list 127 = .ok (.iinc 1 1, 3) := by decide +kernel
theorem dX8_list_130 : decode cX8_list 130 = .ok (.goto (-51), 3) := by decide +kernel
theorem dX8_list_133 : decode cX8_list 133 = .ok (.return_, 1) := by decide +kernel
theorem dX8_least_0 : decode cX8_least 0 = .ok (.iload_n 1, 1) := by decide +kernel
theorem dX8_least_1 : decode cX8_least 1 = .ok (.invokestatic 153, 3) := by decide +kernel
theorem dX8_least_4 : decode cX8_least 4 = .ok (.ifCond .ne 9, 3) := by decide +kernel
theorem dX8_least_7 : decode cX8_least 7 = .ok (.aload_n 0, 1) := by decide +kernel
theorem dX8_least_8 : decode cX8_least 8 = .ok (.iconst (-1), 1) := by decide +kernel
theorem dX8_least_9 : decode cX8_least 9 = .ok (.invokevirtual 74, 3) := by decide +kernel
theorem dX8_least_12 : decode cX8_least 12 = .ok (.ireturn, 1) := by decide +kernel
theorem dX8_least_13 : decode cX8_least 13 = .ok (.iload_n 2, 1) := by decide +kernel
theorem dX8_least_14 : decode cX8_least 14 = .ok (.iconst (-1), 1) := by decide +kernel
theorem dX8_least_15 : decode cX8_least 15 = .ok (.if_icmp .ge 10, 3) := by decide +kernel
theorem dX8_least_18 : decode cX8_least 18 = .ok (.aload_n 0, 1) := by decide +kernel
theorem dX8_least_19 : decode cX8_least 19 = .ok (.bipush (-4), 2) := by decide +kernel
theorem dX8_least_21 : decode cX8_least 21 = .ok (.invokevirtual 74, 3) := by decide +kernel
theorem dX8_least_24 : decode cX8_least 24 = .ok (.ireturn, 1) := by decide +kernel
theorem dX8_least_25 : decode cX8_least 25 = .ok (.aload_n 0, 1) := by decide +kernel
theorem dX8_least_26 : decode cX8_least 26 = .ok (.invokevirtual 193, 3) := by decide +kernel
theorem dX8_least_29 : decode cX8_least 29 = .ok (.iconst 0, 1) := by decide +kernel
theorem dX8_least_30 : decode cX8_least 30 = .ok (.istore_n 3, 1) := by decide +kernel
theorem dX8_least_31 : decode cX8_least 31 = .ok (.iload_n 3, 1) := by decide +kernel
theorem dX8_least_32 : decode cX8_least 32 = .ok (.aload_n 0, 1) := by decide +kernel
theorem dX8_least_33 : decode cX8_least 33 = .ok (.getfield 159, 3) := by decide +kernel
theorem dX8_least_36 : decode cX8_least 36 = .ok (.if_icmp .ge 57, 3) := by decide +kernel
theorem dX8_least_39 : decode cX8_least 39 = .ok (.aload_n 0, 1) := by decide +kernel
theorem dX8_least_40 : decode cX8_least 40 = .ok (.getfield 51, 3) := by decide +kernel
theorem dX8_least_43 : decode cX8_least 43 = .ok (.iload_n 3, 1) := by decide +kernel
theorem dX8_least_44 : decode cX8_least 44 = .ok (.iaload, 1) := by decide +kernel
theorem dX8_least_45 : decode cX8_least 45 = .ok (.iload_n 1, 1) := by decide +kernel
theorem dX8_least_46 : decode cX8_least 46 = .ok (.if_icmp .ne 41, 3) := by decide +kernel
theorem dX8_least_49 : decode cX8_least 49 = .ok (.iload_n 2, 1) := by decide +kernel
theorem dX8_least_50 : decode cX8_least 50 = .ok (.iconst (-1), 1) := by decide +kernel
theorem dX8_least_51 : decode cX8_least 51 = .ok (.if_icmp .ne 12, 3) := by decide +kernel
theorem dX8_least_54 : decode cX8_least 54 = .ok (.aload_n 0, 1) := by decide +kernel
theorem dX8_least_55 : decode cX8_least 55 = .ok (.getfield 43, 3) := by decide +kernel
theorem dX8_least_58 : decode cX8_least 58 = .ok (.iload_n 3, 1) := by decide +kernel
theorem dX8_least_59 : decode cX8_least 59 = .ok (.iaload, 1) := by decide +kernel
theorem dX8_least_60 : decode cX8_least 60 = .ok (.goto 26, 3) := by decide +kernel
theorem dX8_least_63 : decode cX8_least 63 = .ok (.iload_n 2, 1) := by decide +kernel
theorem dX8_least_64 : decode cX8_least 64 = .ok (.aload_n 0, 1) := by decide +kernel
theorem dX8_least_65 : decode cX8_least 65 = .ok (.getfield 43, 3) := by decide +kernel
theorem dX8_least_68 : decode cX8_least 68 = .ok (.iload_n 3, 1) := by decide +kernel
theorem dX8_least_69 : decode cX8_least 69 = .ok (.iaload, 1) := by decide +kernel
theorem dX8_least_70 : decode cX8_least 70 = .ok (.if_icmp .ge 14, 3) := by decide +kernel
theorem dX8_least_73 : decode cX8_least 73 = .ok (.aload_n 0, 1) := by decide +kernel
theorem dX8_least_74 : decode cX8_least 74 = .ok (.getfield 48, 3) := by decide +kernel
theorem dX8_least_77 : decode cX8_least 77 = .ok (.iload_n 3, 1) := by decide +kernel
theorem dX8_least_78 : decode cX8_least 78 = .ok (.aaload, 1) := by decide +kernel
theorem dX8_least_79 : decode cX8_least 79 = .ok (.iload_n 2, 1) := by decide +kernel
theorem dX8_least_80 : decode cX8_least 80 = .ok (.iaload, 1) := by decide +kernel
theorem dX8_least_81 : decode cX8_least 81 = .ok (.goto 5, 3) := by decide +kernel
theorem dX8_least_84 : decode cX8_least 84 = .ok (.bipush (-9), 2) := by decide +kernel
theorem dX8_least_86 : decode cX8_least 86 = .ok (.ireturn, 1) := by decide +kernel
theorem dX8_least_87 : decode cX8_least 87 = .ok (.iinc 3 1, 3) := by decide +kernel
theorem dX8_least_90 : decode cX8_least 90 = .ok (.goto (-59), 3) := by decide +kernel
theorem dX8_least_93 : decode cX8_least 93 = .ok (.iconst 0, 1) := by decide +kernel
theorem dX8_least_94 : decode cX8_least 94 = .ok (.istore_n 3, 1) := by decide +kernel
theorem dX8_least_95 : decode cX8_least 95 = .ok (.iload_n 3, 1) := by decide +kernel
theorem dX8_least_96 : decode cX8_least 96 = .ok (.iconst 4, 1) := by decide +kernel
theorem dX8_least_97 : decode cX8_least 97 = .ok (.if_icmp .ge 16, 3) := by decide +kernel
theorem dX8_least_100 : decode cX8_least 100 = .ok (.aload_n 0, 1) := by decide +kernel
theorem dX8_least_101 : decode cX8_least 101 = .ok (.getfield 57, 3) := by decide +kernel
theorem dX8_least_104 : decode cX8_least 104 = .ok (.iload_n 3, 1) := by decide +kernel
theorem dX8_least_105 : decode cX8_least 105 = .ok (.iconst 0, 1) := by decide +kernel
theorem dX8_least_106 : decode cX8_least 106 = .ok (.iastore, 1) := by decide +kernel
theorem dX8_least_107 : decode cX8_least 107 = .ok (.iinc 3 1, 3) := by decide +kernel
theorem dX8_least_110 : decode cX8_least 110 = .ok (.goto (-15), 3) := by decide +kernel
theorem dX8_least_113 : decode cX8_least 113 = .ok (.aload_n 0, 1) := by decide +kernel
theorem dX8_least_114 : decode cX8_least 114 = .ok (.getfield 67, 3) := by decide +kernel
theorem dX8_least_117 : decode cX8_least 117 = .ok (.ifCond .le 7, 3) := by decide +kernel
theorem dX8_least_120 : decode cX8_least 120 = .ok (.iconst 1, 1) := by decide +kernel
theorem dX8_least_121 : decode cX8_least 121 = .ok (.goto 4, 3) := by decide +kernel
theorem dX8_least_124 : decode cX8_least 124 = .ok (.iconst 0, 1) := by decide +kernel
theorem dX8_least_125 : decode cX8_least 125 = .ok (.istore_n 3, 1) := by decide +kernel
theorem dX8_least_126 : decode cX8_least 126 = .ok (.iload_n 3, 1) := by decide +kernel
theorem dX8_least_127 : decode cX8_least 127 = .ok (.ifCond .eq 50, 3) := by decide +kernel
theorem dX8_least_130 : decode cX8_least 130 = .ok (.aload_n 0, 1) := by decide +kernel
theorem dX8_least_131 : decode cX8_least 131 = .ok (.aload_n 0, 1) := by decide +kernel
theorem dX8_least_132 : decode cX8_least 132 = .ok (.getfield 57, 3) := by decide +kernel
theorem dX8_least_135 : decode cX8_least 135 = .ok (.iconst 4, 1) := by decide +kernel
theorem dX8_least_136 : decode cX8_least 136 = .ok (.invokevirtual 142, 3) := by decide +kernel
theorem dX8_least_139 : decode cX8_least 139 = .ok (.iload_n 1, 1) := by decide +kernel
theorem dX8_least_140 : decode cX8_least 140 = .ok (.if_icmp .ne 29, 3) := by decide +kernel
theorem dX8_least_143 : decode cX8_least 143 = .ok (.iload_n 2, 1) := by decide +kernel
theorem dX8_least_144 : decode cX8_least 144 = .ok (.iconst (-1), 1) := by decide +kernel
theorem dX8_least_145 : decode cX8_least 145 = .ok (.if_icmp .ne 7, 3) := by decide +kernel
theorem dX8_least_148 : decode cX8_least 148 = .ok (.iconst 4, 1) := by decide +kernel
theorem dX8_least_149 : decode cX8_least 149 = .ok (.goto 19, 3) := by decide +kernel
theorem dX8_least_152 : decode cX8_least 152 = .ok (.iload_n 2, 1) := by decide +kernel
theorem dX8_least_153 : decode cX8_least 153 = .ok (.iconst 4, 1) := by decide +kernel
theorem dX8_least_154 : decode cX8_least 154 = .ok (.if_icmp .ge 12, 3) := by decide +kernel
theorem dX8_least_157 : decode cX8_least 157 = .ok (.aload_n 0, 1) := by decide +kernel
theorem dX8_least_158 : decode cX8_least 158 = .ok (.getfield 57, 3) := by decide +kernel
theorem dX8_least_161 : decode cX8_least 161 = .ok (.iload_n 2, 1) := by decide +kernel
theorem dX8_least_162 : decode cX8_least 162 = .ok (.iaload, 1) := by decide +kernel
theorem dX8_least_163 : decode cX8_least 163 = .ok (.goto 5, 3) := by decide +kernel
theorem dX8_least_166 : decode cX8_least 166 = .ok (.bipush (-9), 2) := by decide +kernel
theorem dX8_least_168 : decode cX8_least 168 = .ok (.ireturn, 1) := by decide +kernel
theorem dX8_least_169 : decode cX8_least 169 = .ok (.aload_n 0, 1) := by decide +kernel
theorem dX8_least_170 : decode cX8_least 170 = .ok (.invokevirtual 203, 3) := by decide +kernel
theorem dX8_least_173 : decode cX8_least 173 = .ok (.istore_n 3, 1) := by decide +kernel
theorem dX8_least_174 : decode cX8_least 174 = .ok (.goto (-48), 3) := by decide +kernel
theorem dX8_least_177 : decode cX8_least 177 = .ok (.bipush (-9), 2) := by decide +kernel
theorem dX8_least_179 : decode cX8_least 179 = .ok (.ireturn, 1) := by decide +kernel
theorem dX8_leftOf_0 : decode cX8_leftOf 0 = .ok (.iconst 0, 1) := by decide +kernel
theorem dX8_leftOf_1 : decode cX8_leftOf 1 = .ok (.istore_n 2, 1) := by decide +kernel
theorem dX8_leftOf_2 : decode cX8_leftOf 2 = .ok (.iconst 0, 1) := by decide +kernel
theorem dX8_leftOf_3 : decode cX8_leftOf 3 = .ok (.istore_n 3, 1) := by decide +kernel
theorem dX8_leftOf_4 : decode cX8_leftOf 4 = .ok (.iload_n 3, 1) := by decide +kernel
theorem dX8_leftOf_5 : decode cX8_leftOf 5 = .ok (.bipush 8, 2) := by decide +kernel
theorem dX8_leftOf_7 : decode cX8_leftOf 7 = .ok (.if_icmp .ge 60, 3) := by decide +kernel
theorem dX8_leftOf_10 : decode cX8_leftOf 10 = .ok (.aload_n 0, 1) := by decide +kernel
theorem dX8_leftOf_11 : decode cX8_leftOf 11 = .ok (.getfield 28, 3) := by decide +kernel
theorem dX8_leftOf_14 : decode cX8_leftOf 14 = .ok (.iload_n 3, 1) := by decide +kernel
theorem dX8_leftOf_15 : decode cX8_leftOf 15 = .ok (.iaload, 1) := by decide +kernel
theorem dX8_leftOf_16 : decode cX8_leftOf 16 = .ok (.ifCond .le 45, 3) := by decide +kernel
theorem dX8_leftOf_19 : decode cX8_leftOf 19 = .ok (.aload_n 0, 1) := by decide +kernel
theorem dX8_leftOf_20 : decode cX8_leftOf 20 = .ok (.iload_n 1, 1) := by decide +kernel
theorem dX8_leftOf_21 : decode cX8_leftOf 21 = .ok (.iload_n 3, 1) := by decide +kernel
theorem dX8_leftOf_22 : decode cX8_leftOf 22 = .ok (.invokevirtual 199, 3) := by decide +kernel
theorem dX8_leftOf_25 : decode cX8_leftOf 25 = .ok (.istore 4, 2) := by decide +kernel
theorem dX8_leftOf_27 : decode cX8_leftOf 27 = .ok (.iload_n 2, 1) := by decide +kernel
theorem dX8_leftOf_28 : decode cX8_leftOf 28 = .ok (.aload_n 0, 1) := by decide +kernel
theorem dX8_leftOf_29 : decode cX8_leftOf 29 = .ok (.getfield 28, 3) := by decide +kernel
theorem dX8_leftOf_32 : decode cX8_leftOf 32 = .ok (.iload_n 3, 1) := by decide +kernel
theorem dX8_leftOf_33 : decode cX8_leftOf 33 = .ok (.iaload, 1) := by decide +kernel
theorem dX8_leftOf_34 : decode cX8_leftOf 34 = .ok (.aload_n 0, 1) := by decide +kernel
theorem dX8_leftOf_35 : decode cX8_leftOf 35 = .ok (.iload 4, 2) := by decide +kernel
theorem dX8_leftOf_37 : decode cX8_leftOf 37 = .ok (.bipush (-9), 2) := by decide +kernel
theorem dX8_leftOf_39 : decode cX8_leftOf 39 = .ok (.if_icmp .ne 9, 3) := by decide +kernel
theorem dX8_leftOf_42 : decode cX8_leftOf 42 = .ok (.sipush 255, 3) := by decide +kernel
theorem dX8_leftOf_45 : decode cX8_leftOf 45 = .ok (.goto 10, 3) := by decide +kernel
theorem dX8_leftOf_48 : decode cX8_leftOf 48 = .ok (.aload_n 0, 1) := by decide +kernel
theorem dX8_leftOf_49 : decode cX8_leftOf 49 = .ok (.getfield 51, 3) := by decide +kernel
theorem dX8_leftOf_52 : decode cX8_leftOf 52 = .ok (.iload 4, 2) := by decide +kernel
theorem dX8_leftOf_54 : decode cX8_leftOf 54 = .ok (.iaload, 1) := by decide +kernel
theorem dX8_leftOf_55 : decode cX8_leftOf 55 = .ok (.invokevirtual 181, 3) := by decide +kernel
theorem dX8_leftOf_58 : decode cX8_leftOf 58 = .ok (.imul, 1) := by decide +kernel
theorem dX8_leftOf_59 : decode cX8_leftOf 59 = .ok (.iadd, 1) := by decide +kernel
theorem dX8_leftOf_60 : decode cX8_leftOf 60 = .ok (.istore_n 2, 1) := by decide +kernel
theorem dX8_leftOf_61 : decode cX8_leftOf 61 = .ok (.iinc 3 1, 3) := by decide +kernel
theorem dX8_leftOf_64 : decode cX8_leftOf 64 = .ok (.goto (-60), 3) := by decide +kernel
theorem dX8_leftOf_67 : decode cX8_leftOf 67 = .ok (.iload_n 2, 1) := by decide +kernel
theorem dX8_leftOf_68 : decode cX8_leftOf 68 = .ok (.ireturn, 1) := by decide +kernel
theorem dX8_left_0 : decode cX8_left 0 = .ok (.aload_n 0, 1) := by decide +kernel
theorem dX8_left_1 : decode cX8_left 1 = .ok (.iload_n 1, 1) := by decide +kernel
theorem dX8_left_2 : decode cX8_left 2 = .ok (.invokevirtual 190, 3) := by decide +kernel
theorem dX8_left_5 : decode cX8_left 5 = .ok (.ifCond .ne 9, 3) := by decide +kernel
theorem dX8_left_8 : decode cX8_left 8 = .ok (.aload_n 0, 1) := by decide +kernel
theorem dX8_left_9 : decode cX8_left 9 = .ok (.iconst (-1), 1) := by decide +kernel
theorem dX8_left_10 : decode cX8_left 10 = .ok (.invokevirtual 74, 3) := by decide +kernel
theorem dX8_left_13 : decode cX8_left 13 = .ok (.ireturn, 1) := by decide +kernel
theorem dX8_left_14 : decode cX8_left 14 = .ok (.aload_n 0, 1) := by decide +kernel
theorem dX8_left_15 : decode cX8_left 15 = .ok (.invokevirtual 193, 3) := by decide +kernel
theorem dX8_left_18 : decode cX8_left 18 = .ok (.aload_n 0, 1) := by decide +kernel
theorem dX8_left_19 : decode cX8_left 19 = .ok (.invokevirtual 196, 3) := by decide +kernel
theorem dX8_left_22 : decode cX8_left 22 = .ok (.aload_n 0, 1) := by decide +kernel
theorem dX8_left_23 : decode cX8_left 23 = .ok (.iconst 0, 1) := by decide +kernel
theorem dX8_left_24 : decode cX8_left 24 = .ok (.putfield 139, 3) := by decide +kernel
theorem dX8_left_27 : decode cX8_left 27 = .ok (.aload_n 0, 1) := by decide +kernel
theorem dX8_left_28 : decode cX8_left 28 = .ok (.aload_n 0, 1) := by decide +kernel
theorem dX8_left_29 : decode cX8_left 29 = .ok (.getfield 31, 3) := by decide +kernel
theorem dX8_left_32 : decode cX8_left 32 = .ok (.iload_n 1, 1) := by decide +kernel
theorem dX8_left_33 : decode cX8_left 33 = .ok (.iaload, 1) := by decide +kernel
theorem dX8_left_34 : decode cX8_left 34 = .ok (.invokevirtual 206, 3) := by decide +kernel
theorem dX8_left_37 : decode cX8_left 37 = .ok (.ireturn, 1) := by decide +kernel
theorem dX8_told_0 : decode cX8_told 0 = .ok (.aload_n 0, 1) := by decide +kernel
theorem dX8_told_1 : decode cX8_told 1 = .ok (.iload_n 1, 1) := by decide +kernel
theorem dX8_told_2 : decode cX8_told 2 = .ok (.invokevirtual 130, 3) := by decide +kernel
theorem dX8_told_5 : decode cX8_told 5 = .ok (.ifCond .ne 9, 3) := by decide +kernel
theorem dX8_told_8 : decode cX8_told 8 = .ok (.aload_n 0, 1) := by decide +kernel
theorem dX8_told_9 : decode cX8_told 9 = .ok (.iconst (-1), 1) := by decide +kernel
theorem dX8_told_10 : decode cX8_told 10 = .ok (.invokevirtual 74, 3) := by decide +kernel
theorem dX8_told_13 : decode cX8_told 13 = .ok (.ireturn, 1) := by decide +kernel
theorem dX8_told_14 : decode cX8_told 14 = .ok (.aload_n 0, 1) := by decide +kernel
theorem dX8_told_15 : decode cX8_told 15 = .ok (.getfield 218, 3) := by decide +kernel
theorem dX8_told_18 : decode cX8_told 18 = .ok (.bipush 6, 2) := by decide +kernel
theorem dX8_told_20 : decode cX8_told 20 = .ok (.if_icmp .ne 10, 3) := by decide +kernel
theorem dX8_told_23 : decode cX8_told 23 = .ok (.aload_n 0, 1) := by decide +kernel
theorem dX8_told_24 : decode cX8_told 24 = .ok (.bipush (-6), 2) := by decide +kernel
theorem dX8_told_26 : decode cX8_told 26 = .ok (.invokevirtual 74, 3) := by decide +kernel
theorem dX8_told_29 : decode cX8_told 29 = .ok (.ireturn, 1) := by decide +kernel
theorem dX8_told_30 : decode cX8_told 30 = .ok (.aload_n 0, 1) := by decide +kernel
theorem dX8_told_31 : decode cX8_told 31 = .ok (.getfield 16, 3) := by decide +kernel
theorem dX8_told_34 : decode cX8_told 34 = .ok (.aload_n 0, 1) := by decide +kernel
theorem dX8_told_35 : decode cX8_told 35 = .ok (.dup, 1) := by decide +kernel
theorem dX8_told_36 : decode cX8_told 36 = .ok (.getfield 218, 3) := by decide +kernel
theorem dX8_told_39 : decode cX8_told 39 = .ok (.dup_x1, 1) := by decide +kernel
theorem dX8_told_40 : decode cX8_told 40 = .ok (.iconst 1, 1) := by decide +kernel
theorem dX8_told_41 : decode cX8_told 41 = .ok (.iadd, 1) := by decide +kernel
theorem dX8_told_42 : decode cX8_told 42 = .ok (.putfield 218, 3) := by decide +kernel
theorem dX8_told_45 : decode cX8_told 45 = .ok (.iload_n 1, 1) := by decide +kernel
theorem dX8_told_46 : decode cX8_told 46 = .ok (.iastore, 1) := by decide +kernel
theorem dX8_told_47 : decode cX8_told 47 = .ok (.aload_n 0, 1) := by decide +kernel
theorem dX8_told_48 : decode cX8_told 48 = .ok (.getfield 218, 3) := by decide +kernel
theorem dX8_told_51 : decode cX8_told 51 = .ok (.ireturn, 1) := by decide +kernel
theorem dX8_meant_0 : decode cX8_meant 0 = .ok (.aload_n 0, 1) := by decide +kernel
theorem dX8_meant_1 : decode cX8_meant 1 = .ok (.iload_n 1, 1) := by decide +kernel
theorem dX8_meant_2 : decode cX8_meant 2 = .ok (.invokevirtual 190, 3) := by decide +kernel
theorem dX8_meant_5 : decode cX8_meant 5 = .ok (.ifCond .ne 9, 3) := by decide +kernel
theorem dX8_meant_8 : decode cX8_meant 8 = .ok (.aload_n 0, 1) := by decide +kernel
theorem dX8_meant_9 : decode cX8_meant 9 = .ok (.iconst (-1), 1) := by decide +kernel
theorem dX8_meant_10 : decode cX8_meant 10 = .ok (.invokevirtual 74, 3) := by decide +kernel
theorem dX8_meant_13 : decode cX8_meant 13 = .ok (.ireturn, 1) := by decide +kernel
theorem dX8_meant_14 : decode cX8_meant 14 = .ok (.aload_n 0, 1) := by decide +kernel
theorem dX8_meant_15 : decode cX8_meant 15 = .ok (.invokevirtual 193, 3) := by decide +kernel
theorem dX8_meant_18 : decode cX8_meant 18 = .ok (.aload_n 0, 1) := by decide +kernel
theorem dX8_meant_19 : decode cX8_meant 19 = .ok (.invokevirtual 196, 3) := by decide +kernel
theorem dX8_meant_22 : decode cX8_meant 22 = .ok (.aload_n 0, 1) := by decide +kernel
theorem dX8_meant_23 : decode cX8_meant 23 = .ok (.iconst 0, 1) := by decide +kernel
theorem dX8_meant_24 : decode cX8_meant 24 = .ok (.putfield 221, 3) := by decide +kernel
theorem dX8_meant_27 : decode cX8_meant 27 = .ok (.iconst 0, 1) := by decide +kernel
theorem dX8_meant_28 : decode cX8_meant 28 = .ok (.istore_n 2, 1) := by decide +kernel
theorem dX8_meant_29 : decode cX8_meant 29 = .ok (.iload_n 2, 1) := by decide +kernel
theorem dX8_meant_30 : decode cX8_meant 30 = .ok (.bipush 8, 2) := by decide +kernel
theorem dX8_meant_32 : decode cX8_meant 32 = .ok (.if_icmp .ge 51, 3) := by decide +kernel
theorem dX8_meant_35 : decode cX8_meant 35 = .ok (.aload_n 0, 1) := by decide +kernel
theorem dX8_meant_36 : decode cX8_meant 36 = .ok (.aload_n 0, 1) := by decide +kernel
theorem dX8_meant_37 : decode cX8_meant 37 = .ok (.getfield 31, 3) := by decide +kernel
theorem dX8_meant_40 : decode cX8_meant 40 = .ok (.iload_n 1, 1) := by decide +kernel
theorem dX8_meant_41 : decode cX8_meant 41 = .ok (.iaload, 1) := by decide +kernel
theorem dX8_meant_42 : decode cX8_meant 42 = .ok (.iload_n 2, 1) := by decide +kernel
theorem dX8_meant_43 : decode cX8_meant 43 = .ok (.invokevirtual 199, 3) := by decide +kernel
theorem dX8_meant_46 : decode cX8_meant 46 = .ok (.istore_n 3, 1) := by decide +kernel
theorem dX8_meant_47 : decode cX8_meant 47 = .ok (.aload_n 0, 1) := by decide +kernel
theorem dX8_meant_48 : decode cX8_meant 48 = .ok (.dup, 1) := by decide +kernel
theorem dX8_meant_49 : decode cX8_meant 49 = .ok (.getfield 221, 3) := by decide +kernel
theorem dX8_meant_52 : decode cX8_meant 52 = .ok (.iload_n 3, 1) := by decide +kernel
theorem dX8_meant_53 : decode cX8_meant 53 = .ok (.bipush (-9), 2) := by decide +kernel
theorem dX8_meant_55 : decode cX8_meant 55 = .ok (.if_icmp .eq 17, 3) := by decide +kernel
theorem dX8_meant_58 : decode cX8_meant 58 = .ok (.aload_n 0, 1) := by decide +kernel
theorem dX8_meant_59 : decode cX8_meant 59 = .ok (.iload_n 3, 1) := by decide +kernel
theorem dX8_meant_60 : decode cX8_meant 60 = .ok (.invokevirtual 224, 3) := by decide +kernel
theorem dX8_meant_63 : decode cX8_meant 63 = .ok (.ifCond .eq 9, 3) := by decide +kernel
theorem dX8_meant_66 : decode cX8_meant 66 = .ok (.iconst 1, 1) := by decide +kernel
theorem dX8_meant_67 : decode cX8_meant 67 = .ok (.iload_n 2, 1) := by decide +kernel
theorem dX8_meant_68 : decode cX8_meant 68 = .ok (.ishl, 1) := by decide +kernel
theorem dX8_meant_69 : decode cX8_meant 69 = .ok (.goto 4, 3) := by decide +kernel
theorem dX8_meant_72 : decode cX8_meant 72 = .ok (.iconst 0, 1) := by decide +kernel
theorem dX8_meant_73 : decode cX8_meant 73 = .ok (.ior, 1) := by decide +kernel
theorem dX8_meant_74 : decode cX8_meant 74 = .ok (.putfield 221, 3) := by decide +kernel
theorem dX8_meant_77 : decode cX8_meant 77 = .ok (.iinc 2 1, 3) := by decide +kernel
theorem dX8_meant_80 : decode cX8_meant 80 = .ok (.goto (-51), 3) := by decide +kernel
theorem dX8_meant_83 : decode cX8_meant 83 = .ok (.aload_n 0, 1) := by decide +kernel
theorem dX8_meant_84 : decode cX8_meant 84 = .ok (.iconst 0, 1) := by decide +kernel
theorem dX8_meant_85 : decode cX8_meant 85 = .ok (.putfield 139, 3) := by decide +kernel
theorem dX8_meant_88 : decode cX8_meant 88 = .ok (.aload_n 0, 1) := by decide +kernel
theorem dX8_meant_89 : decode cX8_meant 89 = .ok (.iconst 0, 1) := by decide +kernel
theorem dX8_meant_90 : decode cX8_meant 90 = .ok (.putfield 218, 3) := by decide +kernel
theorem dX8_meant_93 : decode cX8_meant 93 = .ok (.aload_n 0, 1) := by decide +kernel
theorem dX8_meant_94 : decode cX8_meant 94 = .ok (.getfield 221, 3) := by decide +kernel
theorem dX8_meant_97 : decode cX8_meant 97 = .ok (.ireturn, 1) := by decide +kernel
theorem dX8_say_0 : decode cX8_say 0 = .ok (.aload_n 0, 1) := by decide +kernel
theorem dX8_say_1 : decode cX8_say 1 = .ok (.aload_n 0, 1) := by decide +kernel
theorem dX8_say_2 : decode cX8_say 2 = .ok (.getfield 13, 3) := by decide +kernel
theorem dX8_say_5 : decode cX8_say 5 = .ok (.aload_n 0, 1) := by decide +kernel
theorem dX8_say_6 : decode cX8_say 6 = .ok (.getfield 139, 3) := by decide +kernel
theorem dX8_say_9 : decode cX8_say 9 = .ok (.invokevirtual 146, 3) := by decide +kernel
theorem dX8_say_12 : decode cX8_say 12 = .ok (.istore_n 1, 1) := by decide +kernel
theorem dX8_say_13 : decode cX8_say 13 = .ok (.aload_n 0, 1) := by decide +kernel
theorem dX8_say_14 : decode cX8_say 14 = .ok (.getfield 230, 3) := by decide +kernel
theorem dX8_say_17 : decode cX8_say 17 = .ok (.iconst 1, 1) := by decide +kernel
theorem dX8_say_18 : decode cX8_say 18 = .ok (.isub, 1) := by decide +kernel
theorem dX8_say_19 : decode cX8_say 19 = .ok (.istore_n 2, 1) := by decide +kernel
theorem dX8_say_20 : decode cX8_say 20 = .ok (.aload_n 0, 1) := by decide +kernel
theorem dX8_say_21 : decode cX8_say 21 = .ok (.getfield 230, 3) := by decide +kernel
theorem dX8_say_24 : decode cX8_say 24 = .ok (.ifCond .le 37, 3) := by decide +kernel
theorem dX8_say_27 : decode cX8_say 27 = .ok (.aload_n 0, 1) := by decide +kernel
theorem dX8_say_28 : decode cX8_say 28 = .ok (.getfield 111, 3) := by decide +kernel
theorem dX8_say_31 : decode cX8_say 31 = .ok (.aload_n 0, 1) := by decide +kernel
theorem dX8_say_32 : decode cX8_say 32 = .ok (.getfield 139, 3) := by decide +kernel
theorem dX8_say_35 : decode cX8_say 35 = .ok (.iload_n 1, 1) := by decide +kernel
theorem dX8_say_36 : decode cX8_say 36 = .ok (.aload_n 0, 1) := by decide +kernel
theorem dX8_say_37 : decode cX8_say 37 = .ok (.getfield 34, 3) := by decide +kernel
theorem dX8_say_40 : decode cX8_say 40 = .ok (.iload_n 2, 1) := by decide +kernel
theorem dX8_say_41 : decode cX8_say 41 = .ok (.iaload, 1) := by decide +kernel
theorem dX8_say_42 : decode cX8_say 42 = .ok (.aload_n 0, 1) := by decide +kernel
theorem dX8_say_43 : decode cX8_say 43 = .ok (.getfield 40, 3) := by decide +kernel
theorem dX8_say_46 : decode cX8_say 46 = .ok (.iload_n 2, 1) := by decide +kernel
theorem dX8_say_47 : decode cX8_say 47 = .ok (.iaload, 1) := by decide +kernel
theorem dX8_say_48 : decode cX8_say 48 = .ok (.invokestatic 149, 3) := by decide +kernel
theorem dX8_say_51 : decode cX8_say 51 = .ok (.ifCond .ne 10, 3) := by decide +kernel
theorem dX8_say_54 : decode cX8_say 54 = .ok (.aload_n 0, 1) := by decide +kernel
theorem dX8_say_55 : decode cX8_say 55 = .ok (.bipush (-3), 2) := by decide +kernel
theorem dX8_say_57 : decode cX8_say 57 = .ok (.invokevirtual 74, 3) := by decide +kernel
theorem dX8_say_60 : decode cX8_say 60 = .ok (.ireturn, 1) := by decide +kernel
theorem dX8_say_61 : decode cX8_say 61 = .ok (.aload_n 0, 1) := by decide +kernel
theorem dX8_say_62 : decode cX8_say 62 = .ok (.getfield 230, 3) := by decide +kernel
theorem dX8_say_65 : decode cX8_say 65 = .ok (.bipush 12, 2) := by decide +kernel
theorem dX8_say_67 : decode cX8_say 67 = .ok (.if_icmp .ne 10, 3) := by decide +kernel
theorem dX8_say_70 : decode cX8_say 70 = .ok (.aload_n 0, 1) := by decide +kernel
theorem dX8_say_71 : decode cX8_say 71 = .ok (.bipush (-6), 2) := by decide +kernel
theorem dX8_say_73 : decode cX8_say 73 = .ok (.invokevirtual 74, 3) := by decide +kernel
theorem dX8_say_76 : decode cX8_say 76 = .ok (.ireturn, 1) := by decide +kernel
theorem dX8_say_77 : decode cX8_say 77 = .ok (.aload_n 0, 1) := by decide +kernel
theorem dX8_say_78 : decode cX8_say 78 = .ok (.getfield 34, 3) := by decide +kernel
theorem dX8_say_81 : decode cX8_say 81 = .ok (.aload_n 0, 1) := by decide +kernel
theorem dX8_say_82 : decode cX8_say 82 = .ok (.getfield 230, 3) := by decide +kernel
theorem dX8_say_85 : decode cX8_say 85 = .ok (.aload_n 0, 1) := by decide +kernel
theorem dX8_say_86 : decode cX8_say 86 = .ok (.getfield 139, 3) := by decide +kernel
theorem dX8_say_89 : decode cX8_say 89 = .ok (.iastore, 1) := by decide +kernel
theorem dX8_say_90 : decode cX8_say 90 = .ok (.aload_n 0, 1) := by decide +kernel
theorem dX8_say_91 : decode cX8_say 91 = .ok (.getfield 37, 3) := by decide +kernel
theorem dX8_say_94 : decode cX8_say 94 = .ok (.aload_n 0, 1) := by decide +kernel
theorem dX8_say_95 : decode cX8_say 95 = .ok (.getfield 230, 3) := by decide +kernel
theorem dX8_say_98 : decode cX8_say 98 = .ok (.aload_n 0, 1) := by decide +kernel
theorem dX8_say_99 : decode cX8_say 99 = .ok (.aload_n 0, 1) := by decide +kernel
theorem dX8_say_100 : decode cX8_say 100 = .ok (.getfield 13, 3) := by decide +kernel
theorem dX8_say_103 : decode cX8_say 103 = .ok (.aload_n 0, 1) := by decide +kernel
theorem dX8_say_104 : decode cX8_say 104 = .ok (.getfield 139, 3) := by decide +kernel
theorem dX8_say_107 : decode cX8_say 107 = .ok (.invokevirtual 142, 3) := by decide +kernel
theorem dX8_say_110 : decode cX8_say 110 = .ok (.iastore, 1) := by decide +kernel
theorem dX8_say_111 : decode cX8_say 111 = .ok (.aload_n 0, 1) := by decide +kernel
theorem dX8_say_112 : decode cX8_say 112 = .ok (.getfield 40, 3) := by decide +kernel
theorem dX8_say_115 : decode cX8_say 115 = .ok (.aload_n 0, 1) := by decide +kernel
theorem dX8_say_116 : decode cX8_say 116 = .ok (.dup, 1) := by decide +kernel
theorem dX8_say_117 : decode cX8_say 117 = .ok (.getfield 230, 3) := by decide +kernel
theorem dX8_say_120 : decode cX8_say 120 = .ok (.dup_x1, 1) := by decide +kernel
theorem dX8_say_121 : decode cX8_say 121 = .ok (.iconst 1, 1) := by decide +kernel
theorem dX8_say_122 : decode cX8_say 122 = .ok (.iadd, 1) := by decide +kernel
theorem dX8_say_123 : decode cX8_say 123 = .ok (.putfield 230, 3) := by decide +kernel
theorem dX8_say_126 : decode cX8_say 126 = .ok (.iload_n 1, 1) := by decide +kernel
theorem dX8_say_127 : decode cX8_say 127 = .ok (.iastore, 1) := by decide +kernel
theorem dX8_say_128 : decode cX8_say 128 = .ok (.aload_n 0, 1) := by decide +kernel
theorem dX8_say_129 : decode cX8_say 129 = .ok (.iconst 0, 1) := by decide +kernel
theorem dX8_say_130 : decode cX8_say 130 = .ok (.putfield 139, 3) := by decide +kernel
theorem dX8_say_133 : decode cX8_say 133 = .ok (.aload_n 0, 1) := by decide +kernel
theorem dX8_say_134 : decode cX8_say 134 = .ok (.getfield 230, 3) := by decide +kernel
theorem dX8_say_137 : decode cX8_say 137 = .ok (.ireturn, 1) := by decide +kernel
theorem dX8_saying_0 : decode cX8_saying 0 = .ok (.iload_n 1, 1) := by decide +kernel
theorem dX8_saying_1 : decode cX8_saying 1 = .ok (.iconst 0, 1) := by decide +kernel
theorem dX8_saying_2 : decode cX8_saying 2 = .ok (.aload_n 0, 1) := by decide +kernel
theorem dX8_saying_3 : decode cX8_saying 3 = .ok (.getfield 230, 3) := by decide +kernel
theorem dX8_saying_6 : decode cX8_saying 6 = .ok (.iconst 1, 1) := by decide +kernel
theorem dX8_saying_7 : decode cX8_saying 7 = .ok (.isub, 1) := by decide +kernel
theorem dX8_saying_8 : decode cX8_saying 8 = .ok (.invokestatic 63, 3) := by decide +kernel
theorem dX8_saying_11 : decode cX8_saying 11 = .ok (.ifCond .ne 9, 3) := by decide +kernel
theorem dX8_saying_14 : decode cX8_saying 14 = .ok (.aload_n 0, 1) := by decide +kernel
theorem dX8_saying_15 : decode cX8_saying 15 = .ok (.iconst (-1), 1) := by decide +kernel
theorem dX8_saying_16 : decode cX8_saying 16 = .ok (.invokevirtual 74, 3) := by decide +kernel
theorem dX8_saying_19 : decode cX8_saying 19 = .ok (.ireturn, 1) := by decide +kernel
theorem dX8_saying_20 : decode cX8_saying 20 = .ok (.iload_n 2, 1) := by decide +kernel
theorem dX8_saying_21 : decode cX8_saying 21 = .ok (.iconst 0, 1) := by decide +kernel
theorem dX8_saying_22 : decode cX8_saying 22 = .ok (.iconst 2, 1) := by decide +kernel
theorem dX8_saying_23 : decode cX8_saying 23 = .ok (.invokestatic 63, 3) := by decide +kernel
theorem dX8_saying_26 : decode cX8_saying 26 = .ok (.ifCond .ne 10, 3) := by decide +kernel
theorem dX8_saying_29 : decode cX8_saying 29 = .ok (.aload_n 0, 1) := by decide +kernel
theorem dX8_saying_30 : decode cX8_saying 30 = .ok (.bipush (-2), 2) := by decide +kernel
theorem dX8_saying_32 : decode cX8_saying 32 = .ok (.invokevirtual 74, 3) := by decide +kernel
theorem dX8_saying_35 : decode cX8_saying 35 = .ok (.ireturn, 1) := by decide +kernel
theorem dX8_saying_36 : decode cX8_saying 36 = .ok (.iload_n 2, 1) := by decide +kernel
theorem dX8_saying_37 : decode cX8_saying 37 = .ok (.ifCond .ne 12, 3) := by decide +kernel
theorem dX8_saying_40 : decode cX8_saying 40 = .ok (.aload_n 0, 1) := by decide +kernel
theorem dX8_saying_41 : decode cX8_saying 41 = .ok (.getfield 34, 3) := by decide +kernel
theorem dX8_saying_44 : decode cX8_saying 44 = .ok (.iload_n 1, 1) := by decide +kernel
theorem dX8_saying_45 : decode cX8_saying 45 = .ok (.iaload, 1) := by decide +kernel
theorem dX8_saying_46 : decode cX8_saying 46 = .ok (.goto 23, 3) := by decide +kernel
theorem dX8_saying_49 : decode cX8_saying 49 = .ok (.iload_n 2, 1) := by decide +kernel
theorem dX8_saying_50 : decode cX8_saying 50 = .ok (.iconst 1, 1) := by decide +kernel
theorem dX8_saying_51 : decode cX8_saying 51 = .ok (.if_icmp .ne 12, 3) := by decide +kernel
theorem dX8_saying_54 : decode cX8_saying 54 = .ok (.aload_n 0, 1) := by decide +kernel
theorem dX8_saying_55 : decode cX8_saying 55 = .ok (.getfield 37, 3) := by decide +kernel
theorem dX8_saying_58 : decode cX8_saying 58 = .ok (.iload_n 1, 1) := by decide +kernel
theorem dX8_saying_59 : decode cX8_saying 59 = .ok (.iaload, 1) := by decide +kernel
theorem dX8_saying_60 : decode cX8_saying 60 = .ok (.goto 9, 3) := by decide +kernel
theorem dX8_saying_63 : decode cX8_saying 63 = .ok (.aload_n 0, 1) := by decide +kernel
theorem dX8_saying_64 : decode cX8_saying 64 = .ok (.getfield 40, 3) := by decide +kernel
theorem dX8_saying_67 : decode cX8_saying 67 = .ok (.iload_n 1, 1) := by decide +kernel
theorem dX8_saying_68 : decode cX8_saying 68 = .ok (.iaload, 1) := by decide +kernel
theorem dX8_saying_69 : decode cX8_saying 69 = .ok (.ireturn, 1) := by decide +kernel
theorem dX8_known_0 : decode cX8_known 0 = .ok (.sipush 255, 3) := by decide +kernel
theorem dX8_known_3 : decode cX8_known 3 = .ok (.istore_n 1, 1) := by decide +kernel
theorem dX8_known_4 : decode cX8_known 4 = .ok (.iconst 1, 1) := by decide +kernel
theorem dX8_known_5 : decode cX8_known 5 = .ok (.istore_n 2, 1) := by decide +kernel
theorem dX8_known_6 : decode cX8_known 6 = .ok (.iload_n 2, 1) := by decide +kernel
theorem dX8_known_7 : decode cX8_known 7 = .ok (.aload_n 0, 1) := by decide +kernel
theorem dX8_known_8 : decode cX8_known 8 = .ok (.getfield 230, 3) := by decide +kernel
theorem dX8_known_11 : decode cX8_known 11 = .ok (.if_icmp .ge 18, 3) := by decide +kernel
theorem dX8_known_14 : decode cX8_known 14 = .ok (.iload_n 1, 1) := by decide +kernel
theorem dX8_known_15 : decode cX8_known 15 = .ok (.aload_n 0, 1) := by decide +kernel
theorem dX8_known_16 : decode cX8_known 16 = .ok (.getfield 37, 3) := by decide +kernel
theorem dX8_known_19 : decode cX8_known 19 = .ok (.iload_n 2, 1) := by decide +kernel
theorem dX8_known_20 : decode cX8_known 20 = .ok (.iaload, 1) := by decide +kernel
theorem dX8_known_21 : decode cX8_known 21 = .ok (.iand, 1) := by decide +kernel
theorem dX8_known_22 : decode cX8_known 22 = .ok (.istore_n 1, 1) := by decide +kernel
theorem dX8_known_23 : decode cX8_known 23 = .ok (.iinc 2 2, 3) := by decide +kernel
theorem dX8_known_26 : decode cX8_known 26 = .ok (.goto (-20), 3) := by decide +kernel
theorem dX8_known_29 : decode cX8_known 29 = .ok (.iload_n 1, 1) := by decide +kernel
theorem dX8_known_30 : decode cX8_known 30 = .ok (.ireturn, 1) := by decide +kernel
theorem dX8_silence_0 : decode cX8_silence 0 = .ok (.aload_n 0, 1) := by decide +kernel
theorem dX8_silence_1 : decode cX8_silence 1 = .ok (.getfield 230, 3) := by decide +kernel
theorem dX8_silence_4 : decode cX8_silence 4 = .ok (.istore_n 1, 1) := by decide +kernel
theorem dX8_silence_5 : decode cX8_silence 5 = .ok (.aload_n 0, 1) := by decide +kernel
theorem dX8_silence_6 : decode cX8_silence 6 = .ok (.iconst 0, 1) := by decide +kernel
theorem dX8_silence_7 : decode cX8_silence 7 = .ok (.putfield 230, 3) := by decide +kernel
theorem dX8_silence_10 : decode cX8_silence 10 = .ok (.iload_n 1, 1) := by decide +kernel
theorem dX8_silence_11 : decode cX8_silence 11 = .ok (.ireturn, 1) := by decide +kernel
theorem dX8_longest_0 : decode cX8_longest 0 = .ok (.iload_n 1, 1) := by decide +kernel
theorem dX8_longest_1 : decode cX8_longest 1 = .ok (.iconst 1, 1) := by decide +kernel
theorem dX8_longest_2 : decode cX8_longest 2 = .ok (.if_icmp .ge 10, 3) := by decide +kernel
theorem dX8_longest_5 : decode cX8_longest 5 = .ok (.aload_n 0, 1) := by decide +kernel
theorem dX8_longest_6 : decode cX8_longest 6 = .ok (.bipush (-4), 2) := by decide +kernel
theorem dX8_longest_8 : decode cX8_longest 8 = .ok (.invokevirtual 74, 3) := by decide +kernel
theorem dX8_longest_11 : decode cX8_longest 11 = .ok (.ireturn, 1) := by decide +kernel
theorem dX8_longest_12 : decode cX8_longest 12 = .ok (.iload_n 1, 1) := by decide +kernel
theorem dX8_longest_13 : decode cX8_longest 13 = .ok (.bipush 6, 2) := by decide +kernel
theorem dX8_longest_15 : decode cX8_longest 15 = .ok (.if_icmp .le 10, 3) := by decide +kernel
theorem dX8_longest_18 : decode cX8_longest 18 = .ok (.aload_n 0, 1) := by decide +kernel
theorem dX8_longest_19 : decode cX8_longest 19 = .ok (.bipush (-6), 2) := by decide +kernel
theorem dX8_longest_21 : decode cX8_longest 21 = .ok (.invokevirtual 74, 3) := by decide +kernel
theorem dX8_longest_24 : decode cX8_longest 24 = .ok (.ireturn, 1) := by decide +kernel
theorem dX8_longest_25 : decode cX8_longest 25 = .ok (.aload_n 0, 1) := by decide +kernel
theorem dX8_longest_26 : decode cX8_longest 26 = .ok (.getfield 111, 3) := by decide +kernel
theorem dX8_longest_29 : decode cX8_longest 29 = .ok (.tableswitch 38 0 3 #[31, 38, 31, 33], 31) := by decide +kernel
theorem dX8_longest_60 : decode cX8_longest 60 = .ok (.iload_n 1, 1) := by decide +kernel
theorem dX8_longest_61 : decode cX8_longest 61 = .ok (.ireturn, 1) := by decide +kernel
theorem dX8_longest_62 : decode cX8_longest 62 = .ok (.bipush 7, 2) := by decide +kernel
theorem dX8_longest_64 : decode cX8_longest 64 = .ok (.iload_n 1, 1) := by decide +kernel
theorem dX8_longest_65 : decode cX8_longest 65 = .ok (.isub, 1) := by decide +kernel
theorem dX8_longest_66 : decode cX8_longest 66 = .ok (.ireturn, 1) := by decide +kernel
theorem dX8_longest_67 : decode cX8_longest 67 = .ok (.bipush (-9), 2) := by decide +kernel
theorem dX8_longest_69 : decode cX8_longest 69 = .ok (.ireturn, 1) := by decide +kernel
theorem dX8_last_0 : decode cX8_last 0 = .ok (.iload_n 1, 1) := by decide +kernel
theorem dX8_last_1 : decode cX8_last 1 = .ok (.iconst 1, 1) := by decide +kernel
theorem dX8_last_2 : decode cX8_last 2 = .ok (.if_icmp .ge 10, 3) := by decide +kernel
theorem dX8_last_5 : decode cX8_last 5 = .ok (.aload_n 0, 1) := by decide +kernel
theorem dX8_last_6 : decode cX8_last 6 = .ok (.bipush (-4), 2) := by decide +kernel
theorem dX8_last_8 : decode cX8_last 8 = .ok (.invokevirtual 74, 3) := by decide +kernel
theorem dX8_last_11 : decode cX8_last 11 = .ok (.ireturn, 1) := by decide +kernel
theorem dX8_last_12 : decode cX8_last 12 = .ok (.iload_n 1, 1) := by decide +kernel
theorem dX8_last_13 : decode cX8_last 13 = .ok (.bipush 6, 2) := by decide +kernel
theorem dX8_last_15 : decode cX8_last 15 = .ok (.if_icmp .le 10, 3) := by decide +kernel
theorem dX8_last_18 : decode cX8_last 18 = .ok (.aload_n 0, 1) := by decide +kernel
theorem dX8_last_19 : decode cX8_last 19 = .ok (.bipush (-6), 2) := by decide +kernel
theorem dX8_last_21 : decode cX8_last 21 = .ok (.invokevirtual 74, 3) := by decide +kernel
theorem dX8_last_24 : decode cX8_last 24 = .ok (.ireturn, 1) := by decide +kernel
theorem dX8_last_25 : decode cX8_last 25 = .ok (.aload_n 0, 1) := by decide +kernel
theorem dX8_last_26 : decode cX8_last 26 = .ok (.getfield 111, 3) := by decide +kernel
theorem dX8_last_29 : decode cX8_last 29 = .ok (.tableswitch 49 0 3 #[31, 49, 31, 42], 31) := by decide +kernel
theorem dX8_last_60 : decode cX8_last 60 = .ok (.iload_n 1, 1) := by decide +kernel
theorem dX8_last_61 : decode cX8_last 61 = .ok (.iconst 1, 1) := by decide +kernel
theorem dX8_last_62 : decode cX8_last 62 = .ok (.if_icmp .ne 7, 3) := by decide +kernel
theorem dX8_last_65 : decode cX8_last 65 = .ok (.iconst 1, 1) := by decide +kernel
theorem dX8_last_66 : decode cX8_last 66 = .ok (.goto 4, 3) := by decide +kernel
theorem dX8_last_69 : decode cX8_last 69 = .ok (.iconst 0, 1) := by decide +kernel
theorem dX8_last_70 : decode cX8_last 70 = .ok (.ireturn, 1) := by decide +kernel
theorem dX8_last_71 : decode cX8_last 71 = .ok (.bipush 7, 2) := by decide +kernel
theorem dX8_last_73 : decode cX8_last 73 = .ok (.iload_n 1, 1) := by decide +kernel
theorem dX8_last_74 : decode cX8_last 74 = .ok (.isub, 1) := by decide +kernel
theorem dX8_last_75 : decode cX8_last 75 = .ok (.iconst 2, 1) := by decide +kernel
theorem dX8_last_76 : decode cX8_last 76 = .ok (.irem, 1) := by decide +kernel
theorem dX8_last_77 : decode cX8_last 77 = .ok (.ireturn, 1) := by decide +kernel
theorem dX8_last_78 : decode cX8_last 78 = .ok (.bipush (-9), 2) := by decide +kernel
theorem dX8_last_80 : decode cX8_last 80 = .ok (.ireturn, 1) := by decide +kernel
theorem dX8_under_0 : decode cX8_under 0 = .ok (.aload_n 0, 1) := by decide +kernel
theorem dX8_under_1 : decode cX8_under 1 = .ok (.iload_n 1, 1) := by decide +kernel
theorem dX8_under_2 : decode cX8_under 2 = .ok (.invokevirtual 190, 3) := by decide +kernel
theorem dX8_under_5 : decode cX8_under 5 = .ok (.ifCond .ne 9, 3) := by decide +kernel
theorem dX8_under_8 : decode cX8_under 8 = .ok (.aload_n 0, 1) := by decide +kernel
theorem dX8_under_9 : decode cX8_under 9 = .ok (.iconst (-1), 1) := by decide +kernel
theorem dX8_under_10 : decode cX8_under 10 = .ok (.invokevirtual 74, 3) := by decide +kernel
theorem dX8_under_13 : decode cX8_under 13 = .ok (.ireturn, 1) := by decide +kernel
theorem dX8_under_14 : decode cX8_under 14 = .ok (.iload_n 2, 1) := by decide +kernel
theorem dX8_under_15 : decode cX8_under 15 = .ok (.iconst 0, 1) := by decide +kernel
theorem dX8_under_16 : decode cX8_under 16 = .ok (.iconst 4, 1) := by decide +kernel
theorem dX8_under_17 : decode cX8_under 17 = .ok (.invokestatic 63, 3) := by decide +kernel
theorem dX8_under_20 : decode cX8_under 20 = .ok (.ifCond .ne 10, 3) := by decide +kernel
theorem dX8_under_23 : decode cX8_under 23 = .ok (.aload_n 0, 1) := by decide +kernel
theorem dX8_under_24 : decode cX8_under 24 = .ok (.bipush (-2), 2) := by decide +kernel
theorem dX8_under_26 : decode cX8_under 26 = .ok (.invokevirtual 74, 3) := by decide +kernel
theorem dX8_under_29 : decode cX8_under 29 = .ok (.ireturn, 1) := by decide +kernel
theorem dX8_under_30 : decode cX8_under 30 = .ok (.aload_n 0, 1) := by decide +kernel
theorem dX8_under_31 : decode cX8_under 31 = .ok (.aload_n 0, 1) := by decide +kernel
theorem dX8_under_32 : decode cX8_under 32 = .ok (.getfield 31, 3) := by decide +kernel
theorem dX8_under_35 : decode cX8_under 35 = .ok (.iload_n 1, 1) := by decide +kernel
theorem dX8_under_36 : decode cX8_under 36 = .ok (.iaload, 1) := by decide +kernel
theorem dX8_under_37 : decode cX8_under 37 = .ok (.iload_n 2, 1) := by decide +kernel
theorem dX8_under_38 : decode cX8_under 38 = .ok (.invokevirtual 212, 3) := by decide +kernel
theorem dX8_under_41 : decode cX8_under 41 = .ok (.bipush (-9), 2) := by decide +kernel
theorem dX8_under_43 : decode cX8_under 43 = .ok (.if_icmp .ne 8, 3) := by decide +kernel
theorem dX8_under_46 : decode cX8_under 46 = .ok (.bipush (-9), 2) := by decide +kernel
theorem dX8_under_48 : decode cX8_under 48 = .ok (.goto 7, 3) := by decide +kernel
theorem dX8_under_51 : decode cX8_under 51 = .ok (.aload_n 0, 1) := by decide +kernel
theorem dX8_under_52 : decode cX8_under 52 = .ok (.getfield 209, 3) := by decide +kernel
theorem dX8_under_55 : decode cX8_under 55 = .ok (.ireturn, 1) := by decide +kernel
theorem dX8_lots_0 : decode cX8_lots 0 = .ok (.aload_n 0, 1) := by decide +kernel
theorem dX8_lots_1 : decode cX8_lots 1 = .ok (.iload_n 1, 1) := by decide +kernel
theorem dX8_lots_2 : decode cX8_lots 2 = .ok (.invokevirtual 190, 3) := by decide +kernel
theorem dX8_lots_5 : decode cX8_lots 5 = .ok (.ifCond .ne 9, 3) := by decide +kernel
theorem dX8_lots_8 : decode cX8_lots 8 = .ok (.aload_n 0, 1) := by decide +kernel
theorem dX8_lots_9 : decode cX8_lots 9 = .ok (.iconst (-1), 1) := by decide +kernel
theorem dX8_lots_10 : decode cX8_lots 10 = .ok (.invokevirtual 74, 3) := by decide +kernel
theorem dX8_lots_13 : decode cX8_lots 13 = .ok (.ireturn, 1) := by decide +kernel
theorem dX8_lots_14 : decode cX8_lots 14 = .ok (.iload_n 2, 1) := by decide +kernel
theorem dX8_lots_15 : decode cX8_lots 15 = .ok (.iconst 1, 1) := by decide +kernel
theorem dX8_lots_16 : decode cX8_lots 16 = .ok (.if_icmp .ge 10, 3) := by decide +kernel
theorem dX8_lots_19 : decode cX8_lots 19 = .ok (.aload_n 0, 1) := by decide +kernel
theorem dX8_lots_20 : decode cX8_lots 20 = .ok (.bipush (-4), 2) := by decide +kernel
theorem dX8_lots_22 : decode cX8_lots 22 = .ok (.invokevirtual 74, 3) := by decide +kernel
theorem dX8_lots_25 : decode cX8_lots 25 = .ok (.ireturn, 1) := by decide +kernel
theorem dX8_lots_26 : decode cX8_lots 26 = .ok (.iload_n 2, 1) := by decide +kernel
theorem dX8_lots_27 : decode cX8_lots 27 = .ok (.bipush 30, 2) := by decide +kernel
theorem dX8_lots_29 : decode cX8_lots 29 = .ok (.if_icmp .le 10, 3) := by decide +kernel
theorem dX8_lots_32 : decode cX8_lots 32 = .ok (.aload_n 0, 1) := by decide +kernel
theorem dX8_lots_33 : decode cX8_lots 33 = .ok (.bipush (-6), 2) := by decide +kernel
theorem dX8_lots_35 : decode cX8_lots 35 = .ok (.invokevirtual 74, 3) := by decide +kernel
theorem dX8_lots_38 : decode cX8_lots 38 = .ok (.ireturn, 1) := by decide +kernel
theorem dX8_lots_39 : decode cX8_lots 39 = .ok (.aload_n 0, 1) := by decide +kernel
theorem dX8_lots_40 : decode cX8_lots 40 = .ok (.getfield 67, 3) := by decide +kernel
theorem dX8_lots_43 : decode cX8_lots 43 = .ok (.ifCond .ne 10, 3) := by decide +kernel
theorem dX8_lots_46 : decode cX8_lots 46 = .ok (.aload_n 0, 1) := by decide +kernel
theorem dX8_lots_47 : decode cX8_lots 47 = .ok (.bipush (-3), 2) := by decide +kernel
theorem dX8_lots_49 : decode cX8_lots 49 = .ok (.invokevirtual 74, 3) := by decide +kernel
theorem dX8_lots_52 : decode cX8_lots 52 = .ok (.ireturn, 1) := by decide +kernel
theorem dX8_lots_53 : decode cX8_lots 53 = .ok (.aload_n 0, 1) := by decide +kernel
theorem dX8_lots_54 : decode cX8_lots 54 = .ok (.invokevirtual 193, 3) := by decide +kernel
theorem dX8_lots_57 : decode cX8_lots 57 = .ok (.aload_n 0, 1) := by decide +kernel
theorem dX8_lots_58 : decode cX8_lots 58 = .ok (.iload_n 3, 1) := by decide +kernel
theorem dX8_lots_59 : decode cX8_lots 59 = .ok (.putfield 234, 3) := by decide +kernel
theorem dX8_lots_62 : decode cX8_lots 62 = .ok (.sipush 255, 3) := by decide +kernel
theorem dX8_lots_65 : decode cX8_lots 65 = .ok (.istore 4, 2) := by decide +kernel
theorem dX8_lots_67 : decode cX8_lots 67 = .ok (.iconst 0, 1) := by decide +kernel
theorem dX8_lots_68 : decode cX8_lots 68 = .ok (.istore 5, 2) := by decide +kernel
theorem dX8_lots_70 : decode cX8_lots 70 = .ok (.iload 5, 2) := by decide +kernel
theorem dX8_lots_72 : decode cX8_lots 72 = .ok (.iload_n 2, 1) := by decide +kernel
theorem dX8_lots_73 : decode cX8_lots 73 = .ok (.if_icmp .ge 120, 3) := by decide +kernel
theorem dX8_lots_76 : decode cX8_lots 76 = .ok (.aload_n 0, 1) := by decide +kernel
theorem dX8_lots_77 : decode cX8_lots 77 = .ok (.iconst 3, 1) := by decide +kernel
theorem dX8_lots_78 : decode cX8_lots 78 = .ok (.invokevirtual 240, 3) := by decide +kernel
theorem dX8_lots_81 : decode cX8_lots 81 = .ok (.iconst 1, 1) := by decide +kernel
theorem dX8_lots_82 : decode cX8_lots 82 = .ok (.iadd, 1) := by decide +kernel
theorem dX8_lots_83 : decode cX8_lots 83 = .ok (.istore 6, 2) := by decide +kernel
theorem dX8_lots_85 : decode cX8_lots 85 = .ok (.iconst 0, 1) := by decide +kernel
theorem dX8_lots_86 : decode cX8_lots 86 = .ok (.istore 7, 2) := by decide +kernel
theorem dX8_lots_88 : decode cX8_lots 88 = .ok (.iload 7, 2) := by decide +kernel
theorem dX8_lots_90 : decode cX8_lots 90 = .ok (.iload 6, 2) := by decide +kernel
theorem dX8_lots_92 : decode cX8_lots 92 = .ok (.if_icmp .ge 24, 3) := by decide +kernel
theorem dX8_lots_95 : decode cX8_lots 95 = .ok (.aload_n 0, 1) := by decide +kernel
theorem dX8_lots_96 : decode cX8_lots 96 = .ok (.getfield 60, 3) := by decide +kernel
theorem dX8_lots_99 : decode cX8_lots 99 = .ok (.iload 7, 2) := by decide +kernel
theorem dX8_lots_101 : decode cX8_lots 101 = .ok (.aload_n 0, 1) := by decide +kernel
theorem dX8_lots_102 : decode cX8_lots 102 = .ok (.aload_n 0, 1) := by decide +kernel
theorem dX8_lots_103 : decode cX8_lots 103 = .ok (.getfield 67, 3) := by decide +kernel
theorem dX8_lots_106 : decode cX8_lots 106 = .ok (.invokevirtual 240, 3) := by decide +kernel
theorem dX8_lots_109 : decode cX8_lots 109 = .ok (.iastore, 1) := by decide +kernel
theorem dX8_lots_110 : decode cX8_lots 110 = .ok (.iinc 7 1, 3) := by decide +kernel
theorem dX8_lots_113 : decode cX8_lots 113 = .ok (.goto (-25), 3) := by decide +kernel
theorem dX8_lots_116 : decode cX8_lots 116 = .ok (.aload_n 0, 1) := by decide +kernel
theorem dX8_lots_117 : decode cX8_lots 117 = .ok (.iload 6, 2) := by decide +kernel
theorem dX8_lots_119 : decode cX8_lots 119 = .ok (.aload_n 0, 1) := by decide +kernel
theorem dX8_lots_120 : decode cX8_lots 120 = .ok (.aload_n 0, 1) := by decide +kernel
theorem dX8_lots_121 : decode cX8_lots 121 = .ok (.getfield 60, 3) := by decide +kernel
theorem dX8_lots_124 : decode cX8_lots 124 = .ok (.iload 6, 2) := by decide +kernel
theorem dX8_lots_126 : decode cX8_lots 126 = .ok (.invokevirtual 146, 3) := by decide +kernel
theorem dX8_lots_129 : decode cX8_lots 129 = .ok (.aload_n 0, 1) := by decide +kernel
theorem dX8_lots_130 : decode cX8_lots 130 = .ok (.aload_n 0, 1) := by decide +kernel
theorem dX8_lots_131 : decode cX8_lots 131 = .ok (.getfield 60, 3) := by decide +kernel
theorem dX8_lots_134 : decode cX8_lots 134 = .ok (.iload 6, 2) := by decide +kernel
theorem dX8_lots_136 : decode cX8_lots 136 = .ok (.invokevirtual 142, 3) := by decide +kernel
theorem dX8_lots_139 : decode cX8_lots 139 = .ok (.aload_n 0, 1) := by decide +kernel
theorem dX8_lots_140 : decode cX8_lots 140 = .ok (.getfield 111, 3) := by decide +kernel
theorem dX8_lots_143 : decode cX8_lots 143 = .ok (.invokevirtual 178, 3) := by decide +kernel
theorem dX8_lots_146 : decode cX8_lots 146 = .ok (.aload_n 0, 1) := by decide +kernel
theorem dX8_lots_147 : decode cX8_lots 147 = .ok (.aload_n 0, 1) := by decide +kernel
theorem dX8_lots_148 : decode cX8_lots 148 = .ok (.getfield 31, 3) := by decide +kernel
theorem dX8_lots_151 : decode cX8_lots 151 = .ok (.iload_n 1, 1) := by decide +kernel
theorem dX8_lots_152 : decode cX8_lots 152 = .ok (.iaload, 1) := by decide +kernel
theorem dX8_lots_153 : decode cX8_lots 153 = .ok (.aload_n 0, 1) := by decide +kernel
theorem dX8_lots_154 : decode cX8_lots 154 = .ok (.getfield 136, 3) := by decide +kernel
theorem dX8_lots_157 : decode cX8_lots 157 = .ok (.invokevirtual 199, 3) := by decide +kernel
theorem dX8_lots_160 : decode cX8_lots 160 = .ok (.istore 7, 2) := by decide +kernel
theorem dX8_lots_162 : decode cX8_lots 162 = .ok (.iload 4, 2) := by decide +kernel
theorem dX8_lots_164 : decode cX8_lots 164 = .ok (.iload 7, 2) := by decide +kernel
theorem dX8_lots_166 : decode cX8_lots 166 = .ok (.bipush (-9), 2) := by decide +kernel
theorem dX8_lots_168 : decode cX8_lots 168 = .ok (.if_icmp .ne 9, 3) := by decide +kernel
theorem dX8_lots_171 : decode cX8_lots 171 = .ok (.sipush 255, 3) := by decide +kernel
theorem dX8_lots_174 : decode cX8_lots 174 = .ok (.goto 10, 3) := by decide +kernel
theorem dX8_lots_177 : decode cX8_lots 177 = .ok (.aload_n 0, 1) := by decide +kernel
theorem dX8_lots_178 : decode cX8_lots 178 = .ok (.getfield 51, 3) := by decide +kernel
theorem dX8_lots_181 : decode cX8_lots 181 = .ok (.iload 7, 2) := by decide +kernel
theorem dX8_lots_183 : decode cX8_lots 183 = .ok (.iaload, 1) := by decide +kernel
theorem dX8_lots_184 : decode cX8_lots 184 = .ok (.iand, 1) := by decide +kernel
theorem dX8_lots_185 : decode cX8_lots 185 = .ok (.istore 4, 2) := by decide +kernel
theorem dX8_lots_187 : decode cX8_lots 187 = .ok (.iinc 5 1, 3) := by decide +kernel
theorem dX8_lots_190 : decode cX8_lots 190 = .ok (.goto (-120), 3) := by decide +kernel
theorem dX8_lots_193 : decode cX8_lots 193 = .ok (.aload_n 0, 1) := by decide +kernel
theorem dX8_lots_194 : decode cX8_lots 194 = .ok (.iload 4, 2) := by decide +kernel
theorem dX8_lots_196 : decode cX8_lots 196 = .ok (.invokevirtual 181, 3) := by decide +kernel
theorem dX8_lots_199 : decode cX8_lots 199 = .ok (.ireturn, 1) := by decide +kernel
theorem dX8_over_0 : decode cX8_over 0 = .ok (.iconst 0, 1) := by decide +kernel
theorem dX8_over_1 : decode cX8_over 1 = .ok (.istore_n 2, 1) := by decide +kernel
theorem dX8_over_2 : decode cX8_over 2 = .ok (.iload_n 2, 1) := by decide +kernel
theorem dX8_over_3 : decode cX8_over 3 = .ok (.aload_n 0, 1) := by decide +kernel
theorem dX8_over_4 : decode cX8_over 4 = .ok (.arraylength, 1) := by decide +kernel
theorem dX8_over_5 : decode cX8_over 5 = .ok (.if_icmp .ge 15, 3) := by decide +kernel
theorem dX8_over_8 : decode cX8_over 8 = .ok (.aload_n 1, 1) := by decide +kernel
theorem dX8_over_9 : decode cX8_over 9 = .ok (.iload_n 2, 1) := by decide +kernel
theorem dX8_over_10 : decode cX8_over 10 = .ok (.aload_n 0, 1) := by decide +kernel
theorem dX8_over_11 : decode cX8_over 11 = .ok (.iload_n 2, 1) := by decide +kernel
theorem dX8_over_12 : decode cX8_over 12 = .ok (.iaload, 1) := by decide +kernel
theorem dX8_over_13 : decode cX8_over 13 = .ok (.iastore, 1) := by decide +kernel
theorem dX8_over_14 : decode cX8_over 14 = .ok (.iinc 2 1, 3) := by decide +kernel
theorem dX8_over_17 : decode cX8_over 17 = .ok (.goto (-15), 3) := by decide +kernel
theorem dX8_over_20 : decode cX8_over 20 = .ok (.return_, 1) := by decide +kernel
theorem dX8_takeFrom_0 : decode cX8_takeFrom 0 = .ok (.aload_n 0, 1) := by decide +kernel
theorem dX8_takeFrom_1 : decode cX8_takeFrom 1 = .ok (.aload_n 1, 1) := by decide +kernel
theorem dX8_takeFrom_2 : decode cX8_takeFrom 2 = .ok (.getfield 67, 3) := by decide +kernel
theorem dX8_takeFrom_5 : decode cX8_takeFrom 5 = .ok (.putfield 67, 3) := by decide +kernel
theorem dX8_takeFrom_8 : decode cX8_takeFrom 8 = .ok (.aload_n 1, 1) := by decide +kernel
theorem dX8_takeFrom_9 : decode cX8_takeFrom 9 = .ok (.getfield 22, 3) := by decide +kernel
theorem dX8_takeFrom_12 : decode cX8_takeFrom 12 = .ok (.aload_n 0, 1) := by decide +kernel
theorem dX8_takeFrom_13 : decode cX8_takeFrom 13 = .ok (.getfield 22, 3) := by decide +kernel
theorem dX8_takeFrom_16 : decode cX8_takeFrom 16 = .ok (.invokestatic 243, 3) := by decide +kernel
theorem dX8_takeFrom_19 : decode cX8_takeFrom 19 = .ok (.aload_n 1, 1) := by decide +kernel
theorem dX8_takeFrom_20 : decode cX8_takeFrom 20 = .ok (.getfield 25, 3) := by decide +kernel
theorem dX8_takeFrom_23 : decode cX8_takeFrom 23 = .ok (.aload_n 0, 1) := by decide +kernel
theorem dX8_takeFrom_24 : decode cX8_takeFrom 24 = .ok (.getfield 25, 3) := by decide +kernel
theorem dX8_takeFrom_27 : decode cX8_takeFrom 27 = .ok (.invokestatic 243, 3) := by decide +kernel
theorem dX8_takeFrom_30 : decode cX8_takeFrom 30 = .ok (.aload_n 1, 1) := by decide +kernel
theorem dX8_takeFrom_31 : decode cX8_takeFrom 31 = .ok (.getfield 28, 3) := by decide +kernel
theorem dX8_takeFrom_34 : decode cX8_takeFrom 34 = .ok (.aload_n 0, 1) := by decide +kernel
theorem dX8_takeFrom_35 : decode cX8_takeFrom 35 = .ok (.getfield 28, 3) := by decide +kernel
theorem dX8_takeFrom_38 : decode cX8_takeFrom 38 = .ok (.invokestatic 243, 3) := by decide +kernel
theorem dX8_takeFrom_41 : decode cX8_takeFrom 41 = .ok (.aload_n 0, 1) := by decide +kernel
theorem dX8_takeFrom_42 : decode cX8_takeFrom 42 = .ok (.aload_n 1, 1) := by decide +kernel
theorem dX8_takeFrom_43 : decode cX8_takeFrom 43 = .ok (.getfield 71, 3) := by decide +kernel
theorem dX8_takeFrom_46 : decode cX8_takeFrom 46 = .ok (.putfield 71, 3) := by decide +kernel
theorem dX8_takeFrom_49 : decode cX8_takeFrom 49 = .ok (.aload_n 1, 1) := by decide +kernel
theorem dX8_takeFrom_50 : decode cX8_takeFrom 50 = .ok (.getfield 31, 3) := by decide +kernel
theorem dX8_takeFrom_53 : decode cX8_takeFrom 53 = .ok (.aload_n 0, 1) := by decide +kernel
theorem dX8_takeFrom_54 : decode cX8_takeFrom 54 = .ok (.getfield 31, 3) := by decide +kernel
theorem dX8_takeFrom_57 : decode cX8_takeFrom 57 = .ok (.invokestatic 243, 3) := by decide +kernel
theorem dX8_takeFrom_60 : decode cX8_takeFrom 60 = .ok (.aload_n 0, 1) := by decide +kernel
theorem dX8_takeFrom_61 : decode cX8_takeFrom 61 = .ok (.aload_n 1, 1) := by decide +kernel
theorem dX8_takeFrom_62 : decode cX8_takeFrom 62 = .ok (.getfield 111, 3) := by decide +kernel
theorem dX8_takeFrom_65 : decode cX8_takeFrom 65 = .ok (.putfield 111, 3) := by decide +kernel
theorem dX8_takeFrom_68 : decode cX8_takeFrom 68 = .ok (.aload_n 0, 1) := by decide +kernel
theorem dX8_takeFrom_69 : decode cX8_takeFrom 69 = .ok (.aload_n 1, 1) := by decide +kernel
theorem dX8_takeFrom_70 : decode cX8_takeFrom 70 = .ok (.getfield 136, 3) := by decide +kernel
theorem dX8_takeFrom_73 : decode cX8_takeFrom 73 = .ok (.putfield 136, 3) := by decide +kernel
theorem dX8_takeFrom_76 : decode cX8_takeFrom 76 = .ok (.aload_n 0, 1) := by decide +kernel
theorem dX8_takeFrom_77 : decode cX8_takeFrom 77 = .ok (.aload_n 1, 1) := by decide +kernel
theorem dX8_takeFrom_78 : decode cX8_takeFrom 78 = .ok (.getfield 230, 3) := by decide +kernel
theorem dX8_takeFrom_81 : decode cX8_takeFrom 81 = .ok (.putfield 230, 3) := by decide +kernel
theorem dX8_takeFrom_84 : decode cX8_takeFrom 84 = .ok (.aload_n 1, 1) := by decide +kernel
theorem dX8_takeFrom_85 : decode cX8_takeFrom 85 = .ok (.getfield 34, 3) := by decide +kernel
theorem dX8_takeFrom_88 : decode cX8_takeFrom 88 = .ok (.aload_n 0, 1) := by decide +kernel
theorem dX8_takeFrom_89 : decode cX8_takeFrom 89 = .ok (.getfield 34, 3) := by decide +kernel
theorem dX8_takeFrom_92 : decode cX8_takeFrom 92 = .ok (.invokestatic 243, 3) := by decide +kernel
theorem dX8_takeFrom_95 : decode cX8_takeFrom 95 = .ok (.aload_n 1, 1) := by decide +kernel
theorem dX8_takeFrom_96 : decode cX8_takeFrom 96 = .ok (.getfield 37, 3) := by decide +kernel
theorem dX8_takeFrom_99 : decode cX8_takeFrom 99 = .ok (.aload_n 0, 1) := by decide +kernel
theorem dX8_takeFrom_100 : decode cX8_takeFrom 100 = .ok (.getfield 37, 3) := by decide +kernel
theorem dX8_takeFrom_103 : decode cX8_takeFrom 103 = .ok (.invokestatic 243, 3) := by decide +kernel
theorem dX8_takeFrom_106 : decode cX8_takeFrom 106 = .ok (.aload_n 1, 1) := by decide +kernel
theorem dX8_takeFrom_107 : decode cX8_takeFrom 107 = .ok (.getfield 40, 3) := by decide +kernel
theorem dX8_takeFrom_110 : decode cX8_takeFrom 110 = .ok (.aload_n 0, 1) := by decide +kernel
theorem dX8_takeFrom_111 : decode cX8_takeFrom 111 = .ok (.getfield 40, 3) := by decide +kernel
theorem dX8_takeFrom_114 : decode cX8_takeFrom 114 = .ok (.invokestatic 243, 3) := by decide +kernel
theorem dX8_takeFrom_117 : decode cX8_takeFrom 117 = .ok (.aload_n 0, 1) := by decide +kernel
theorem dX8_takeFrom_118 : decode cX8_takeFrom 118 = .ok (.aload_n 1, 1) := by decide +kernel
theorem dX8_takeFrom_119 : decode cX8_takeFrom 119 = .ok (.getfield 221, 3) := by decide +kernel
theorem dX8_takeFrom_122 : decode cX8_takeFrom 122 = .ok (.putfield 221, 3) := by decide +kernel
theorem dX8_takeFrom_125 : decode cX8_takeFrom 125 = .ok (.return_, 1) := by decide +kernel
theorem dX8_on_0 : decode cX8_on 0 = .ok (.aload_n 0, 1) := by decide +kernel
theorem dX8_on_1 : decode cX8_on 1 = .ok (.getfield 247, 3) := by decide +kernel
theorem dX8_on_4 : decode cX8_on 4 = .ok (.ifnonnull 10, 3) := by decide +kernel
theorem dX8_on_7 : decode cX8_on 7 = .ok (.aload_n 0, 1) := by decide +kernel
theorem dX8_on_8 : decode cX8_on 8 = .ok (.bipush (-3), 2) := by decide +kernel
theorem dX8_on_10 : decode cX8_on 10 = .ok (.invokevirtual 74, 3) := by decide +kernel
theorem dX8_on_13 : decode cX8_on 13 = .ok (.ireturn, 1) := by decide +kernel
theorem dX8_on_14 : decode cX8_on 14 = .ok (.aload_n 0, 1) := by decide +kernel
theorem dX8_on_15 : decode cX8_on 15 = .ok (.aload_n 0, 1) := by decide +kernel
theorem dX8_on_16 : decode cX8_on 16 = .ok (.getfield 247, 3) := by decide +kernel
theorem dX8_on_19 : decode cX8_on 19 = .ok (.invokevirtual 123, 3) := by decide +kernel
theorem dX8_on_22 : decode cX8_on 22 = .ok (.aload_n 0, 1) := by decide +kernel
theorem dX8_on_23 : decode cX8_on 23 = .ok (.iconst 0, 1) := by decide +kernel
theorem dX8_on_24 : decode cX8_on 24 = .ok (.putfield 139, 3) := by decide +kernel
theorem dX8_on_27 : decode cX8_on 27 = .ok (.aload_n 0, 1) := by decide +kernel
theorem dX8_on_28 : decode cX8_on 28 = .ok (.iconst 0, 1) := by decide +kernel
theorem dX8_on_29 : decode cX8_on 29 = .ok (.putfield 218, 3) := by decide +kernel
theorem dX8_on_32 : decode cX8_on 32 = .ok (.aload_n 0, 1) := by decide +kernel
theorem dX8_on_33 : decode cX8_on 33 = .ok (.getfield 67, 3) := by decide +kernel
theorem dX8_on_36 : decode cX8_on 36 = .ok (.ireturn, 1) := by decide +kernel
end
section
theorem dJ11_isValidCodePoint_9a6ad_0 : decode cJ11_isValidCodePoint_9a6ad 0 = .ok (.iload_n 0, 1) := by decide +kernel
theorem dJ11_isValidCodePoint_9a6ad_1 : decode cJ11_isValidCodePoint_9a6ad 1 = .ok (.bipush 16, 2) := by decide +kernel
theorem dJ11_isValidCodePoint_9a6ad_3 : decode cJ11_isValidCodePoint_9a6ad 3 = .ok (.iushr, 1) := by decide +kernel
theorem dJ11_isValidCodePoint_9a6ad_4 : decode cJ11_isValidCodePoint_9a6ad 4 = .ok (.istore_n 1, 1) := by decide +kernel
theorem dJ11_isValidCodePoint_9a6ad_5 : decode cJ11_isValidCodePoint_9a6ad 5 = .ok (.iload_n 1, 1) := by decide +kernel
theorem dJ11_isValidCodePoint_9a6ad_6 : decode cJ11_isValidCodePoint_9a6ad 6 = .ok (.bipush 17, 2) := by decide +kernel
theorem dJ11_isValidCodePoint_9a6ad_8 : decode cJ11_isValidCodePoint_9a6ad 8 = .ok (.if_icmp .ge 7, 3) := by decide +kernel
theorem dJ11_isValidCodePoint_9a6ad_11 : decode cJ11_isValidCodePoint_9a6ad 11 = .ok (.iconst 1, 1) := by decide +kernel
theorem dJ11_isValidCodePoint_9a6ad_12 : decode cJ11_isValidCodePoint_9a6ad 12 = .ok (.goto 4, 3) := by decide +kernel
theorem dJ11_isValidCodePoint_9a6ad_15 : decode cJ11_isValidCodePoint_9a6ad 15 = .ok (.iconst 0, 1) := by decide +kernel
theorem dJ11_isValidCodePoint_9a6ad_16 : decode cJ11_isValidCodePoint_9a6ad 16 = .ok (.ireturn, 1) := by decide +kernel
theorem dJ11_highSurrogate_5068e_0 : decode cJ11_highSurrogate_5068e 0 = .ok (.iload_n 0, 1) := by decide +kernel
theorem dJ11_highSurrogate_5068e_1 : decode cJ11_highSurrogate_5068e 1 = .ok (.bipush 10, 2) := by decide +kernel
theorem dJ11_highSurrogate_5068e_3 : decode cJ11_highSurrogate_5068e 3 = .ok (.iushr, 1) := by decide +kernel
theorem dJ11_highSurrogate_5068e_4 : decode cJ11_highSurrogate_5068e 4 = .ok (.ldc 110, 2) := by decide +kernel
theorem dJ11_highSurrogate_5068e_6 : decode cJ11_highSurrogate_5068e 6 = .ok (.iadd, 1) := by decide +kernel
theorem dJ11_highSurrogate_5068e_7 : decode cJ11_highSurrogate_5068e 7 = .ok (.i2c, 1) := by decide +kernel
theorem dJ11_highSurrogate_5068e_8 : decode cJ11_highSurrogate_5068e 8 = .ok (.ireturn, 1) := by decide +kernel
theorem dJ11_lowSurrogate_5068e_0 : decode cJ11_lowSurrogate_5068e 0 = .ok (.iload_n 0, 1) := by decide +kernel
theorem dJ11_lowSurrogate_5068e_1 : decode cJ11_lowSurrogate_5068e 1 = .ok (.sipush 1023, 3) := by decide +kernel
theorem dJ11_lowSurrogate_5068e_4 : decode cJ11_lowSurrogate_5068e 4 = .ok (.iand, 1) := by decide +kernel
theorem dJ11_lowSurrogate_5068e_5 : decode cJ11_lowSurrogate_5068e 5 = .ok (.ldc 76, 2) := by decide +kernel
theorem dJ11_lowSurrogate_5068e_7 : decode cJ11_lowSurrogate_5068e 7 = .ok (.iadd, 1) := by decide +kernel
theorem dJ11_lowSurrogate_5068e_8 : decode cJ11_lowSurrogate_5068e 8 = .ok (.i2c, 1) := by decide +kernel
theorem dJ11_lowSurrogate_5068e_9 : decode cJ11_lowSurrogate_5068e 9 = .ok (.ireturn, 1) := by decide +kernel
theorem dJ9_max_7cf53_0 : decode cJ9_max_7cf53 0 = .ok (.iload_n 0, 1) := by decide +kernel
theorem dJ9_max_7cf53_1 : decode cJ9_max_7cf53 1 = .ok (.iload_n 1, 1) := by decide +kernel
theorem dJ9_max_7cf53_2 : decode cJ9_max_7cf53 2 = .ok (.if_icmp .lt 7, 3) := by decide +kernel
theorem dJ9_max_7cf53_5 : decode cJ9_max_7cf53 5 = .ok (.iload_n 0, 1) := by decide +kernel
theorem dJ9_max_7cf53_6 : decode cJ9_max_7cf53 6 = .ok (.goto 4, 3) := by decide +kernel
theorem dJ9_max_7cf53_9 : decode cJ9_max_7cf53 9 = .ok (.iload_n 1, 1) := by decide +kernel
theorem dJ9_max_7cf53_10 : decode cJ9_max_7cf53 10 = .ok (.ireturn, 1) := by decide +kernel
theorem dJ9_min_7cf53_0 : decode cJ9_min_7cf53 0 = .ok (.iload_n 0, 1) := by decide +kernel
theorem dJ9_min_7cf53_1 : decode cJ9_min_7cf53 1 = .ok (.iload_n 1, 1) := by decide +kernel
theorem dJ9_min_7cf53_2 : decode cJ9_min_7cf53 2 = .ok (.if_icmp .gt 7, 3) := by decide +kernel
theorem dJ9_min_7cf53_5 : decode cJ9_min_7cf53 5 = .ok (.iload_n 0, 1) := by decide +kernel
theorem dJ9_min_7cf53_6 : decode cJ9_min_7cf53 6 = .ok (.goto 4, 3) := by decide +kernel
theorem dJ9_min_7cf53_9 : decode cJ9_min_7cf53 9 = .ok (.iload_n 1, 1) := by decide +kernel
theorem dJ9_min_7cf53_10 : decode cJ9_min_7cf53 10 = .ok (.ireturn, 1) := by decide +kernel
theorem dJ0_length_8abf5_0 : decode cJ0_length_8abf5 0 = .ok (.aload_n 0, 1) := by decide +kernel
theorem dJ0_length_8abf5_1 : decode cJ0_length_8abf5 1 = .ok (.getfield 9, 3) := by decide +kernel
theorem dJ0_length_8abf5_4 : decode cJ0_length_8abf5 4 = .ok (.arraylength, 1) := by decide +kernel
theorem dJ0_length_8abf5_5 : decode cJ0_length_8abf5 5 = .ok (.aload_n 0, 1) := by decide +kernel
theorem dJ0_length_8abf5_6 : decode cJ0_length_8abf5 6 = .ok (.invokevirtual 335, 3) := by decide +kernel
theorem dJ0_length_8abf5_9 : decode cJ0_length_8abf5 9 = .ok (.ishr, 1) := by decide +kernel
theorem dJ0_length_8abf5_10 : decode cJ0_length_8abf5 10 = .ok (.ireturn, 1) := by decide +kernel
theorem dJ0_isEmpty_aae02_0 : decode cJ0_isEmpty_aae02 0 = .ok (.aload_n 0, 1) := by decide +kernel
theorem dJ0_isEmpty_aae02_1 : decode cJ0_isEmpty_aae02 1 = .ok (.getfield 9, 3) := by decide +kernel
theorem dJ0_isEmpty_aae02_4 : decode cJ0_isEmpty_aae02 4 = .ok (.arraylength, 1) := by decide +kernel
theorem dJ0_isEmpty_aae02_5 : decode cJ0_isEmpty_aae02 5 = .ok (.ifCond .ne 7, 3) := by decide +kernel
theorem dJ0_isEmpty_aae02_8 : decode cJ0_isEmpty_aae02 8 = .ok (.iconst 1, 1) := by decide +kernel
theorem dJ0_isEmpty_aae02_9 : decode cJ0_isEmpty_aae02 9 = .ok (.goto 4, 3) := by decide +kernel
theorem dJ0_isEmpty_aae02_12 : decode cJ0_isEmpty_aae02 12 = .ok (.iconst 0, 1) := by decide +kernel
theorem dJ0_isEmpty_aae02_13 : decode cJ0_isEmpty_aae02 13 = .ok (.ireturn, 1) := by decide +kernel
theorem dJ0_charAt_5068e_0 : decode cJ0_charAt_5068e 0 = .ok (.aload_n 0, 1) := by decide +kernel
theorem dJ0_charAt_5068e_1 : decode cJ0_charAt_5068e 1 = .ok (.invokevirtual 492, 3) := by decide +kernel
theorem dJ0_charAt_5068e_4 : decode cJ0_charAt_5068e 4 = .ok (.ifCond .eq 12, 3) := by decide +kernel
theorem dJ0_charAt_5068e_7 : decode cJ0_charAt_5068e 7 = .ok (.aload_n 0, 1) := by decide +kernel
theorem dJ0_charAt_5068e_8 : decode cJ0_charAt_5068e 8 = .ok (.getfield 9, 3) := by decide +kernel
theorem dJ0_charAt_5068e_11 : decode cJ0_charAt_5068e 11 = .ok (.iload_n 1, 1) := by decide +kernel
theorem dJ0_charAt_5068e_12 : decode cJ0_charAt_5068e 12 = .ok (.invokestatic 495, 3) := by decide +kernel
theorem dJ0_charAt_5068e_15 : decode cJ0_charAt_5068e 15 = .ok (.ireturn, 1) := by decide +kernel
theorem dJ0_charAt_5068e_16 : decode cJ0_charAt_5068e 16 = .ok (.aload_n 0, 1) := by decide +kernel
theorem dJ0_charAt_5068e_17 : decode cJ0_charAt_5068e 17 = .ok (.getfield 9, 3) := by decide +kernel
theorem dJ0_charAt_5068e_20 : decode cJ0_charAt_5068e 20 = .ok (.iload_n 1, 1) := by decide +kernel
theorem dJ0_charAt_5068e_21 : decode cJ0_charAt_5068e 21 = .ok (.invokestatic 498, 3) := by decide +kernel
theorem dJ0_charAt_5068e_24 : decode cJ0_charAt_5068e 24 = .ok (.ireturn, 1) := by decide +kernel
theorem dJ0_indexOf_0f7a4_0 : decode cJ0_indexOf_0f7a4 0 = .ok (.aload_n 0, 1) := by decide +kernel
theorem dJ0_indexOf_0f7a4_1 : decode cJ0_indexOf_0f7a4 1 = .ok (.iload_n 1, 1) := by decide +kernel
theorem dJ0_indexOf_0f7a4_2 : decode cJ0_indexOf_0f7a4 2 = .ok (.iconst 0, 1) := by decide +kernel
theorem dJ0_indexOf_0f7a4_3 : decode cJ0_indexOf_0f7a4 3 = .ok (.invokevirtual 633, 3) := by decide +kernel
theorem dJ0_indexOf_0f7a4_6 : decode cJ0_indexOf_0f7a4 6 = .ok (.ireturn, 1) := by decide +kernel
theorem dJ0_indexOf_7cf53_0 : decode cJ0_indexOf_7cf53 0 = .ok (.aload_n 0, 1) := by decide +kernel
theorem dJ0_indexOf_7cf53_1 : decode cJ0_indexOf_7cf53 1 = .ok (.invokevirtual 492, 3) := by decide +kernel
theorem dJ0_indexOf_7cf53_4 : decode cJ0_indexOf_7cf53 4 = .ok (.ifCond .eq 19, 3) := by decide +kernel
theorem dJ0_indexOf_7cf53_7 : decode cJ0_indexOf_7cf53 7 = .ok (.aload_n 0, 1) := by decide +kernel
theorem dJ0_indexOf_7cf53_8 : decode cJ0_indexOf_7cf53 8 = .ok (.getfield 9, 3) := by decide +kernel
theorem dJ0_indexOf_7cf53_11 : decode cJ0_indexOf_7cf53 11 = .ok (.iload_n 1, 1) := by decide +kernel
theorem dJ0_indexOf_7cf53_12 : decode cJ0_indexOf_7cf53 12 = .ok (.iload_n 2, 1) := by decide +kernel
theorem dJ0_indexOf_7cf53_13 : decode cJ0_indexOf_7cf53 13 = .ok (.aload_n 0, 1) := by decide +kernel
theorem dJ0_indexOf_7cf53_14 : decode cJ0_indexOf_7cf53 14 = .ok (.invokevirtual 505, 3) := by decide +kernel
theorem dJ0_indexOf_7cf53_17 : decode cJ0_indexOf_7cf53 17 = .ok (.invokestatic 637, 3) := by decide +kernel
theorem dJ0_indexOf_7cf53_20 : decode cJ0_indexOf_7cf53 20 = .ok (.goto 16, 3) := by decide +kernel
theorem dJ0_indexOf_7cf53_23 : decode cJ0_indexOf_7cf53 23 = .ok (.aload_n 0, 1) := by decide +kernel
theorem dJ0_indexOf_7cf53_24 : decode cJ0_indexOf_7cf53 24 = .ok (.getfield 9, 3) := by decide +kernel
theorem dJ0_indexOf_7cf53_27 : decode cJ0_indexOf_7cf53 27 = .ok (.iload_n 1, 1) := by decide +kernel
theorem dJ0_indexOf_7cf53_28 : decode cJ0_indexOf_7cf53 28 = .ok (.iload_n 2, 1) := by decide +kernel
theorem dJ0_indexOf_7cf53_29 : decode cJ0_indexOf_7cf53 29 = .ok (.aload_n 0, 1) := by decide +kernel
theorem dJ0_indexOf_7cf53_30 : decode cJ0_indexOf_7cf53 30 = .ok (.invokevirtual 505, 3) := by decide +kernel
theorem dJ0_indexOf_7cf53_33 : decode cJ0_indexOf_7cf53 33 = .ok (.invokestatic 640, 3) := by decide +kernel
theorem dJ0_indexOf_7cf53_36 : decode cJ0_indexOf_7cf53 36 = .ok (.ireturn, 1) := by decide +kernel
theorem dJ0_coder_7d493_0 : decode cJ0_coder_7d493 0 = .ok (.getstatic 38, 3) := by decide +kernel
theorem dJ0_coder_7d493_3 : decode cJ0_coder_7d493 3 = .ok (.ifCond .eq 10, 3) := by decide +kernel
theorem dJ0_coder_7d493_6 : decode cJ0_coder_7d493 6 = .ok (.aload_n 0, 1) := by decide +kernel
theorem dJ0_coder_7d493_7 : decode cJ0_coder_7d493 7 = .ok (.getfield 15, 3) := by decide +kernel
theorem dJ0_coder_7d493_10 : decode cJ0_coder_7d493 10 = .ok (.goto 4, 3) := by decide +kernel
theorem dJ0_coder_7d493_13 : decode cJ0_coder_7d493 13 = .ok (.iconst 1, 1) := by decide +kernel
theorem dJ0_coder_7d493_14 : decode cJ0_coder_7d493 14 = .ok (.ireturn, 1) := by decide +kernel
theorem dJ0_isLatin1_aae02_0 : decode cJ0_isLatin1_aae02 0 = .ok (.getstatic 38, 3) := by decide +kernel
theorem dJ0_isLatin1_aae02_3 : decode cJ0_isLatin1_aae02 3 = .ok (.ifCond .eq 14, 3) := by decide +kernel
theorem dJ0_isLatin1_aae02_6 : decode cJ0_isLatin1_aae02 6 = .ok (.aload_n 0, 1) := by decide +kernel
theorem dJ0_isLatin1_aae02_7 : decode cJ0_isLatin1_aae02 7 = .ok (.getfield 15, 3) := by decide +kernel
theorem dJ0_isLatin1_aae02_10 : decode cJ0_isLatin1_aae02 10 = .ok (.ifCond .ne 7, 3) := by decide +kernel
theorem dJ0_isLatin1_aae02_13 : decode cJ0_isLatin1_aae02 13 = .ok (.iconst 1, 1) := by decide +kernel
theorem dJ0_isLatin1_aae02_14 : decode cJ0_isLatin1_aae02 14 = .ok (.goto 4, 3) := by decide +kernel
theorem dJ0_isLatin1_aae02_17 : decode cJ0_isLatin1_aae02 17 = .ok (.iconst 0, 1) := by decide +kernel
theorem dJ0_isLatin1_aae02_18 : decode cJ0_isLatin1_aae02 18 = .ok (.ireturn, 1) := by decide +kernel
theorem dJ0_checkIndex_df160_0 : decode cJ0_checkIndex_df160 0 = .ok (.iload_n 0, 1) := by decide +kernel
theorem dJ0_checkIndex_df160_1 : decode cJ0_checkIndex_df160 1 = .ok (.iload_n 1, 1) := by decide +kernel
theorem dJ0_checkIndex_df160_2 : decode cJ0_checkIndex_df160 2 = .ok (.getstatic 1053, 3) := by decide +kernel
theorem dJ0_checkIndex_df160_5 : decode cJ0_checkIndex_df160 5 = .ok (.invokestatic 1059, 3) := by decide +kernel
theorem dJ0_checkIndex_df160_8 : decode cJ0_checkIndex_df160 8 = .ok (.pop, 1) := by decide +kernel
theorem dJ0_checkIndex_df160_9 : decode cJ0_checkIndex_df160 9 = .ok (.return_, 1) := by decide +kernel
theorem dJ0_checkBoundsBeginEnd_23922_0 : decode cJ0_checkBoundsBeginEnd_23922 0 = .ok (.iload_n 0, 1) := by decide +kernel
theorem dJ0_checkBoundsBeginEnd_23922_1 : decode cJ0_checkBoundsBeginEnd_23922 1 = .ok (.iload_n 1, 1) := by decide +kernel
theorem dJ0_checkBoundsBeginEnd_23922_2 : decode cJ0_checkBoundsBeginEnd_23922 2 = .ok (.iload_n 2, 1) := by decide +kernel
theorem dJ0_checkBoundsBeginEnd_23922_3 : decode cJ0_checkBoundsBeginEnd_23922 3 = .ok (.getstatic 1053, 3) := by decide +kernel
theorem dJ0_checkBoundsBeginEnd_23922_6 : decode cJ0_checkBoundsBeginEnd_23922 6 = .ok (.invokestatic 1062, 3) := by decide +kernel
theorem dJ0_checkBoundsBeginEnd_23922_9 : decode cJ0_checkBoundsBeginEnd_23922 9 = .ok (.pop, 1) := by decide +kernel
theorem dJ0_checkBoundsBeginEnd_23922_10 : decode cJ0_checkBoundsBeginEnd_23922 10 = .ok (.return_, 1) := by decide +kernel
theorem dJ1_charAt_3b067_0 : decode cJ1_charAt_3b067 0 = .ok (.iload_n 1, 1) := by decide +kernel
theorem dJ1_charAt_3b067_1 : decode cJ1_charAt_3b067 1 = .ok (.aload_n 0, 1) := by decide +kernel
theorem dJ1_charAt_3b067_2 : decode cJ1_charAt_3b067 2 = .ok (.arraylength, 1) := by decide +kernel
theorem dJ1_charAt_3b067_3 : decode cJ1_charAt_3b067 3 = .ok (.invokestatic 9, 3) := by decide +kernel
theorem dJ1_charAt_3b067_6 : decode cJ1_charAt_3b067 6 = .ok (.aload_n 0, 1) := by decide +kernel
theorem dJ1_charAt_3b067_7 : decode cJ1_charAt_3b067 7 = .ok (.iload_n 1, 1) := by decide +kernel
theorem dJ1_charAt_3b067_8 : decode cJ1_charAt_3b067 8 = .ok (.baload, 1) := by decide +kernel
theorem dJ1_charAt_3b067_9 : decode cJ1_charAt_3b067 9 = .ok (.sipush 255, 3) := by decide +kernel
theorem dJ1_charAt_3b067_12 : decode cJ1_charAt_3b067 12 = .ok (.iand, 1) := by decide +kernel
theorem dJ1_charAt_3b067_13 : decode cJ1_charAt_3b067 13 = .ok (.i2c, 1) := by decide +kernel
theorem dJ1_charAt_3b067_14 : decode cJ1_charAt_3b067 14 = .ok (.ireturn, 1) := by decide +kernel
theorem dJ1_canEncode_9a6ad_0 : decode cJ1_canEncode_9a6ad 0 = .ok (.iload_n 0, 1) := by decide +kernel
theorem dJ1_canEncode_9a6ad_1 : decode cJ1_canEncode_9a6ad 1 = .ok (.ifCond .lt 14, 3) := by decide +kernel
theorem dJ1_canEncode_9a6ad_4 : decode cJ1_canEncode_9a6ad 4 = .ok (.iload_n 0, 1) := by decide +kernel
theorem dJ1_canEncode_9a6ad_5 : decode cJ1_canEncode_9a6ad 5 = .ok (.sipush 255, 3) := by decide +kernel
theorem dJ1_canEncode_9a6ad_8 : decode cJ1_canEncode_9a6ad 8 = .ok (.if_icmp .gt 7, 3) := by decide +kernel
theorem dJ1_canEncode_9a6ad_11 : decode cJ1_canEncode_9a6ad 11 = .ok (.iconst 1, 1) := by decide +kernel
theorem dJ1_canEncode_9a6ad_12 : decode cJ1_canEncode_9a6ad 12 = .ok (.goto 4, 3) := by decide +kernel
theorem dJ1_canEncode_9a6ad_15 : decode cJ1_canEncode_9a6ad 15 = .ok (.iconst 0, 1) := by decide +kernel
theorem dJ1_canEncode_9a6ad_16 : decode cJ1_canEncode_9a6ad 16 = .ok (.ireturn, 1) := by decide +kernel
theorem dJ1_indexOf_4cfef_0 : decode cJ1_indexOf_4cfef 0 = .ok (.iload_n 1, 1) := by decide +kernel
theorem dJ1_indexOf_4cfef_1 : decode cJ1_indexOf_4cfef 1 = .ok (.invokestatic 88, 3) := by decide +kernel
theorem dJ1_indexOf_4cfef_4 : decode cJ1_indexOf_4cfef 4 = .ok (.ifCond .ne 5, 3) := by decide +kernel
theorem dJ1_indexOf_4cfef_7 : decode cJ1_indexOf_4cfef 7 = .ok (.iconst (-1), 1) := by decide +kernel
theorem dJ1_indexOf_4cfef_8 : decode cJ1_indexOf_4cfef 8 = .ok (.ireturn, 1) := by decide +kernel
theorem dJ1_indexOf_4cfef_9 : decode cJ1_indexOf_4cfef 9 = .ok (.iload_n 2, 1) := by decide +kernel
theorem dJ1_indexOf_4cfef_10 : decode cJ1_indexOf_4cfef 10 = .ok (.iconst 0, 1) := by decide +kernel
theorem dJ1_indexOf_4cfef_11 : decode cJ1_indexOf_4cfef 11 = .ok (.invokestatic 92, 3) := by decide +kernel
theorem dJ1_indexOf_4cfef_14 : decode cJ1_indexOf_4cfef 14 = .ok (.istore_n 2, 1) := by decide +kernel
theorem dJ1_indexOf_4cfef_15 : decode cJ1_indexOf_4cfef 15 = .ok (.iload_n 3, 1) := by decide +kernel
theorem dJ1_indexOf_4cfef_16 : decode cJ1_indexOf_4cfef 16 = .ok (.aload_n 0, 1) := by decide +kernel
theorem dJ1_indexOf_4cfef_17 : decode cJ1_indexOf_4cfef 17 = .ok (.arraylength, 1) := by decide +kernel
theorem dJ1_indexOf_4cfef_18 : decode cJ1_indexOf_4cfef 18 = .ok (.invokestatic 38, 3) := by decide +kernel
theorem dJ1_indexOf_4cfef_21 : decode cJ1_indexOf_4cfef 21 = .ok (.istore_n 3, 1) := by decide +kernel
theorem dJ1_indexOf_4cfef_22 : decode cJ1_indexOf_4cfef 22 = .ok (.iload_n 2, 1) := by decide +kernel
theorem dJ1_indexOf_4cfef_23 : decode cJ1_indexOf_4cfef 23 = .ok (.iload_n 3, 1) := by decide +kernel
theorem dJ1_indexOf_4cfef_24 : decode cJ1_indexOf_4cfef 24 = .ok (.if_icmp .lt 5, 3) := by decide +kernel
theorem dJ1_indexOf_4cfef_27 : decode cJ1_indexOf_4cfef 27 = .ok (.iconst (-1), 1) := by decide +kernel
theorem dJ1_indexOf_4cfef_28 : decode cJ1_indexOf_4cfef 28 = .ok (.ireturn, 1) := by decide +kernel
theorem dJ1_indexOf_4cfef_29 : decode cJ1_indexOf_4cfef 29 = .ok (.aload_n 0, 1) := by decide +kernel
theorem dJ1_indexOf_4cfef_30 : decode cJ1_indexOf_4cfef 30 = .ok (.iload_n 1, 1) := by decide +kernel
theorem dJ1_indexOf_4cfef_31 : decode cJ1_indexOf_4cfef 31 = .ok (.iload_n 2, 1) := by decide +kernel
theorem dJ1_indexOf_4cfef_32 : decode cJ1_indexOf_4cfef 32 = .ok (.iload_n 3, 1) := by decide +kernel
theorem dJ1_indexOf_4cfef_33 : decode cJ1_indexOf_4cfef 33 = .ok (.invokestatic 95, 3) := by decide +kernel
theorem dJ1_indexOf_4cfef_36 : decode cJ1_indexOf_4cfef 36 = .ok (.ireturn, 1) := by decide +kernel
theorem dJ1_indexOfChar_4cfef_0 : decode cJ1_indexOfChar_4cfef 0 = .ok (.iload_n 1, 1) := by decide +kernel
theorem dJ1_indexOfChar_4cfef_1 : decode cJ1_indexOfChar_4cfef 1 = .ok (.i2b, 1) := by decide +kernel
theorem dJ1_indexOfChar_4cfef_2 : decode cJ1_indexOfChar_4cfef 2 = .ok (.istore 4, 2) := by decide +kernel
theorem dJ1_indexOfChar_4cfef_4 : decode cJ1_indexOfChar_4cfef 4 = .ok (.iload_n 2, 1) := by decide +kernel
theorem dJ1_indexOfChar_4cfef_5 : decode cJ1_indexOfChar_4cfef 5 = .ok (.istore 5, 2) := by decide +kernel
theorem dJ1_indexOfChar_4cfef_7 : decode cJ1_indexOfChar_4cfef 7 = .ok (.iload 5, 2) := by decide +kernel
theorem dJ1_indexOfChar_4cfef_9 : decode cJ1_indexOfChar_4cfef 9 = .ok (.iload_n 3, 1) := by decide +kernel
theorem dJ1_indexOfChar_4cfef_10 : decode cJ1_indexOfChar_4cfef 10 = .ok (.if_icmp .ge 21, 3) := by decide +kernel
theorem dJ1_indexOfChar_4cfef_13 : decode cJ1_indexOfChar_4cfef 13 = .ok (.aload_n 0, 1) := by decide +kernel
theorem dJ1_indexOfChar_4cfef_14 : decode cJ1_indexOfChar_4cfef 14 = .ok (.iload 5, 2) := by decide +kernel
theorem dJ1_indexOfChar_4cfef_16 : decode cJ1_indexOfChar_4cfef 16 = .ok (.baload, 1) := by decide +kernel
theorem dJ1_indexOfChar_4cfef_17 : decode cJ1_indexOfChar_4cfef 17 = .ok (.iload 4, 2) := by decide +kernel
theorem dJ1_indexOfChar_4cfef_19 : decode cJ1_indexOfChar_4cfef 19 = .ok (.if_icmp .ne 6, 3) := by decide +kernel
theorem dJ1_indexOfChar_4cfef_22 : decode cJ1_indexOfChar_4cfef 22 = .ok (.iload 5, 2) := by decide +kernel
theorem dJ1_indexOfChar_4cfef_24 : decode cJ1_indexOfChar_4cfef 24 = .ok (.ireturn, 1) := by decide +kernel
theorem dJ1_indexOfChar_4cfef_25 : decode cJ1_indexOfChar_4cfef 25 = .ok (.iinc 5 1, 3) := by decide +kernel
theorem dJ1_indexOfChar_4cfef_28 : decode cJ1_indexOfChar_4cfef 28 = .ok (.goto (-21), 3) := by decide +kernel
theorem dJ1_indexOfChar_4cfef_31 : decode cJ1_indexOfChar_4cfef 31 = .ok (.iconst (-1), 1) := by decide +kernel
theorem dJ1_indexOfChar_4cfef_32 : decode cJ1_indexOfChar_4cfef 32 = .ok (.ireturn, 1) := by decide +kernel
theorem dJ2_getChar_3b067_0 : decode cJ2_getChar_3b067 0 = .ok (.getstatic 44, 3) := by decide +kernel
theorem dJ2_getChar_3b067_3 : decode cJ2_getChar_3b067 3 = .ok (.ifCond .ne 25, 3) := by decide +kernel
theorem dJ2_getChar_3b067_6 : decode cJ2_getChar_3b067 6 = .ok (.iload_n 1, 1) := by decide +kernel
theorem dJ2_getChar_3b067_7 : decode cJ2_getChar_3b067 7 = .ok (.ifCond .lt 11, 3) := by decide +kernel
theorem dJ2_getChar_3b067_10 : decode cJ2_getChar_3b067 10 = .ok (.iload_n 1, 1) := by decide +kernel
theorem dJ2_getChar_3b067_11 : decode cJ2_getChar_3b067 11 = .ok (.aload_n 0, 1) := by decide +kernel
theorem dJ2_getChar_3b067_12 : decode cJ2_getChar_3b067 12 = .ok (.invokestatic 48, 3) := by decide +kernel
theorem dJ2_getChar_3b067_15 : decode cJ2_getChar_3b067 15 = .ok (.if_icmp .lt 13, 3) := by decide +kernel
theorem dJ2_getChar_3b067_18 : decode cJ2_getChar_3b067 18 = .ok (.new 52, 3) := by decide +kernel
theorem dJ2_getChar_3b067_21 : decode cJ2_getChar_3b067 21 = .ok (.dup, 1) := by decide +kernel
theorem dJ2_getChar_3b067_22 : decode cJ2_getChar_3b067 22 = .ok (.ldc 54, 2) := by decide +kernel
theorem dJ2_getChar_3b067_24 : decode cJ2_getChar_3b067 24 = .ok (.invokespecial 56, 3) := by decide +kernel
theorem dJ2_getChar_3b067_27 : decode cJ2_getChar_3b067 27 = .ok (.athrow, 1) := by decide +kernel
theorem dJ2_getChar_3b067_28 : decode cJ2_getChar_3b067 28 = .ok (.iload_n 1, 1) := by decide +kernel
theorem dJ2_getChar_3b067_29 : decode cJ2_getChar_3b067 29 = .ok (.iconst 1, 1) := by decide +kernel
theorem dJ2_getChar_3b067_30 : decode cJ2_getChar_3b067 30 = .ok (.ishl, 1) := by decide +kernel
theorem dJ2_getChar_3b067_31 : decode cJ2_getChar_3b067 31 = .ok (.istore_n 1, 1) := by decide +kernel
theorem dJ2_getChar_3b067_32 : decode cJ2_getChar_3b067 32 = .ok (.aload_n 0, 1) := by decide +kernel
theorem dJ2_getChar_3b067_33 : decode cJ2_getChar_3b067 33 = .ok (.iload_n 1, 1) := by decide +kernel
theorem dJ2_getChar_3b067_34 : decode cJ2_getChar_3b067 34 = .ok (.iinc 1 1, 3) := by decide +kernel
theorem dJ2_getChar_3b067_37 : decode cJ2_getChar_3b067 37 = .ok (.baload, 1) := by decide +kernel
theorem dJ2_getChar_3b067_38 : decode cJ2_getChar_3b067 38 = .ok (.sipush 255, 3) := by decide +kernel
theorem dJ2_getChar_3b067_41 : decode cJ2_getChar_3b067 41 = .ok (.iand, 1) := by decide +kernel
theorem dJ2_getChar_3b067_42 : decode cJ2_getChar_3b067 42 = .ok (.getstatic 59, 3) := by decide +kernel
theorem dJ2_getChar_3b067_45 : decode cJ2_getChar_3b067 45 = .ok (.ishl, 1) := by decide +kernel
theorem dJ2_getChar_3b067_46 : decode cJ2_getChar_3b067 46 = .ok (.aload_n 0, 1) := by decide +kernel
theorem dJ2_getChar_3b067_47 : decode cJ2_getChar_3b067 47 = .ok (.iload_n 1, 1) := by decide +kernel
theorem dJ2_getChar_3b067_48 : decode cJ2_getChar_3b067 48 = .ok (.baload, 1) := by decide +kernel
theorem dJ2_getChar_3b067_49 : decode cJ2_getChar_3b067 49 = .ok (.sipush 255, 3) := by decide +kernel
theorem dJ2_getChar_3b067_52 : decode cJ2_getChar_3b067 52 = .ok (.iand, 1) := by decide +kernel
theorem dJ2_getChar_3b067_53 : decode cJ2_getChar_3b067 53 = .ok (.getstatic 63, 3) := by decide +kernel
theorem dJ2_getChar_3b067_56 : decode cJ2_getChar_3b067 56 = .ok (.ishl, 1) := by decide +kernel
theorem dJ2_getChar_3b067_57 : decode cJ2_getChar_3b067 57 = .ok (.ior, 1) := by decide +kernel
theorem dJ2_getChar_3b067_58 : decode cJ2_getChar_3b067 58 = .ok (.i2c, 1) := by decide +kernel
theorem dJ2_getChar_3b067_59 : decode cJ2_getChar_3b067 59 = .ok (.ireturn, 1) := by decide +kernel
theorem dJ2_length_9d52b_0 : decode cJ2_length_9d52b 0 = .ok (.aload_n 0, 1) := by decide +kernel
theorem dJ2_length_9d52b_1 : decode cJ2_length_9d52b 1 = .ok (.arraylength, 1) := by decide +kernel
theorem dJ2_length_9d52b_2 : decode cJ2_length_9d52b 2 = .ok (.iconst 1, 1) := by decide +kernel
theorem dJ2_length_9d52b_3 : decode cJ2_length_9d52b 3 = .ok (.ishr, 1) := by decide +kernel
theorem dJ2_length_9d52b_4 : decode cJ2_length_9d52b 4 = .ok (.ireturn, 1) := by decide +kernel
theorem dJ2_indexOf_4cfef_0 : decode cJ2_indexOf_4cfef 0 = .ok (.iload_n 2, 1) := by decide +kernel
theorem dJ2_indexOf_4cfef_1 : decode cJ2_indexOf_4cfef 1 = .ok (.iconst 0, 1) := by decide +kernel
theorem dJ2_indexOf_4cfef_2 : decode cJ2_indexOf_4cfef 2 = .ok (.invokestatic 224, 3) := by decide +kernel
theorem dJ2_indexOf_4cfef_5 : decode cJ2_indexOf_4cfef 5 = .ok (.istore_n 2, 1) := by decide +kernel
theorem dJ2_indexOf_4cfef_6 : decode cJ2_indexOf_4cfef 6 = .ok (.iload_n 3, 1) := by decide +kernel
theorem dJ2_indexOf_4cfef_7 : decode cJ2_indexOf_4cfef 7 = .ok (.aload_n 0, 1) := by decide +kernel
theorem dJ2_indexOf_4cfef_8 : decode cJ2_indexOf_4cfef 8 = .ok (.arraylength, 1) := by decide +kernel
theorem dJ2_indexOf_4cfef_9 : decode cJ2_indexOf_4cfef 9 = .ok (.iconst 1, 1) := by decide +kernel
theorem dJ2_indexOf_4cfef_10 : decode cJ2_indexOf_4cfef 10 = .ok (.ishr, 1) := by decide +kernel
theorem dJ2_indexOf_4cfef_11 : decode cJ2_indexOf_4cfef 11 = .ok (.invokestatic 183, 3) := by decide +kernel
theorem dJ2_indexOf_4cfef_14 : decode cJ2_indexOf_4cfef 14 = .ok (.istore_n 3, 1) := by decide +kernel
theorem dJ2_indexOf_4cfef_15 : decode cJ2_indexOf_4cfef 15 = .ok (.iload_n 2, 1) := by decide +kernel
theorem dJ2_indexOf_4cfef_16 : decode cJ2_indexOf_4cfef 16 = .ok (.iload_n 3, 1) := by decide +kernel
theorem dJ2_indexOf_4cfef_17 : decode cJ2_indexOf_4cfef 17 = .ok (.if_icmp .lt 5, 3) := by decide +kernel
theorem dJ2_indexOf_4cfef_20 : decode cJ2_indexOf_4cfef 20 = .ok (.iconst (-1), 1) := by decide +kernel
theorem dJ2_indexOf_4cfef_21 : decode cJ2_indexOf_4cfef 21 = .ok (.ireturn, 1) := by decide +kernel
theorem dJ2_indexOf_4cfef_22 : decode cJ2_indexOf_4cfef 22 = .ok (.iload_n 1, 1) := by decide +kernel
theorem dJ2_indexOf_4cfef_23 : decode cJ2_indexOf_4cfef 23 = .ok (.ldc 227, 2) := by decide +kernel
theorem dJ2_indexOf_4cfef_25 : decode cJ2_indexOf_4cfef 25 = .ok (.if_icmp .ge 11, 3) := by decide +kernel
theorem dJ2_indexOf_4cfef_28 : decode cJ2_indexOf_4cfef 28 = .ok (.aload_n 0, 1) := by decide +kernel
theorem dJ2_indexOf_4cfef_29 : decode cJ2_indexOf_4cfef 29 = .ok (.iload_n 1, 1) := by decide +kernel
theorem dJ2_indexOf_4cfef_30 : decode cJ2_indexOf_4cfef 30 = .ok (.iload_n 2, 1) := by decide +kernel
theorem dJ2_indexOf_4cfef_31 : decode cJ2_indexOf_4cfef 31 = .ok (.iload_n 3, 1) := by decide +kernel
theorem dJ2_indexOf_4cfef_32 : decode cJ2_indexOf_4cfef 32 = .ok (.invokestatic 228, 3) := by decide +kernel
theorem dJ2_indexOf_4cfef_35 : decode cJ2_indexOf_4cfef 35 = .ok (.ireturn, 1) := by decide +kernel
theorem dJ2_indexOf_4cfef_36 : decode cJ2_indexOf_4cfef 36 = .ok (.aload_n 0, 1) := by decide +kernel
theorem dJ2_indexOf_4cfef_37 : decode cJ2_indexOf_4cfef 37 = .ok (.iload_n 1, 1) := by decide +kernel
theorem dJ2_indexOf_4cfef_38 : decode cJ2_indexOf_4cfef 38 = .ok (.iload_n 2, 1) := by decide +kernel
theorem dJ2_indexOf_4cfef_39 : decode cJ2_indexOf_4cfef 39 = .ok (.iload_n 3, 1) := by decide +kernel
theorem dJ2_indexOf_4cfef_40 : decode cJ2_indexOf_4cfef 40 = .ok (.invokestatic 232, 3) := by decide +kernel
theorem dJ2_indexOf_4cfef_43 : decode cJ2_indexOf_4cfef 43 = .ok (.ireturn, 1) := by decide +kernel
theorem dJ2_indexOfChar_4cfef_0 : decode cJ2_indexOfChar_4cfef 0 = .ok (.iload_n 2, 1) := by decide +kernel
theorem dJ2_indexOfChar_4cfef_1 : decode cJ2_indexOfChar_4cfef 1 = .ok (.iload_n 3, 1) := by decide +kernel
theorem dJ2_indexOfChar_4cfef_2 : decode cJ2_indexOfChar_4cfef 2 = .ok (.aload_n 0, 1) := by decide +kernel
theorem dJ2_indexOfChar_4cfef_3 : decode cJ2_indexOfChar_4cfef 3 = .ok (.invokestatic 96, 3) := by decide +kernel
theorem dJ2_indexOfChar_4cfef_6 : decode cJ2_indexOfChar_4cfef 6 = .ok (.aload_n 0, 1) := by decide +kernel
theorem dJ2_indexOfChar_4cfef_7 : decode cJ2_indexOfChar_4cfef 7 = .ok (.iload_n 1, 1) := by decide +kernel
theorem dJ2_indexOfChar_4cfef_8 : decode cJ2_indexOfChar_4cfef 8 = .ok (.iload_n 2, 1) := by decide +kernel
theorem dJ2_indexOfChar_4cfef_9 : decode cJ2_indexOfChar_4cfef 9 = .ok (.iload_n 3, 1) := by decide +kernel
theorem dJ2_indexOfChar_4cfef_10 : decode cJ2_indexOfChar_4cfef 10 = .ok (.invokestatic 244, 3) := by decide +kernel
theorem dJ2_indexOfChar_4cfef_13 : decode cJ2_indexOfChar_4cfef 13 = .ok (.ireturn, 1) := by decide +kernel
theorem dJ2_indexOfCharUnsafe_4cfef_0 : decode cJ2_indexOfCharUnsafe_4cfef 0 = .ok (.iload_n 2, 1) := by decide +kernel
theorem dJ2_indexOfCharUnsafe_4cfef_1 : decode cJ2_indexOfCharUnsafe_4cfef 1 = .ok (.istore 4, 2) := by decide +kernel
theorem dJ2_indexOfCharUnsafe_4cfef_3 : decode cJ2_indexOfCharUnsafe_4cfef 3 = .ok (.iload 4, 2) := by decide +kernel
theorem dJ2_indexOfCharUnsafe_4cfef_5 : decode cJ2_indexOfCharUnsafe_4cfef 5 = .ok (.iload_n 3, 1) := by decide +kernel
theorem dJ2_indexOfCharUnsafe_4cfef_6 : decode cJ2_indexOfCharUnsafe_4cfef 6 = .ok (.if_icmp .ge 22, 3) := by decide +kernel
theorem dJ2_indexOfCharUnsafe_4cfef_9 : decode cJ2_indexOfCharUnsafe_4cfef 9 = .ok (.aload_n 0, 1) := by decide +kernel
theorem dJ2_indexOfCharUnsafe_4cfef_10 : decode cJ2_indexOfCharUnsafe_4cfef 10 = .ok (.iload 4, 2) := by decide +kernel
theorem dJ2_indexOfCharUnsafe_4cfef_12 : decode cJ2_indexOfCharUnsafe_4cfef 12 = .ok (.invokestatic 71, 3) := by decide +kernel
theorem dJ2_indexOfCharUnsafe_4cfef_15 : decode cJ2_indexOfCharUnsafe_4cfef 15 = .ok (.iload_n 1, 1) := by decide +kernel
theorem dJ2_indexOfCharUnsafe_4cfef_16 : decode cJ2_indexOfCharUnsafe_4cfef 16 = .ok (.if_icmp .ne 6, 3) := by decide +kernel
theorem dJ2_indexOfCharUnsafe_4cfef_19 : decode cJ2_indexOfCharUnsafe_4cfef 19 = .ok (.iload 4, 2) := by decide +kernel
theorem dJ2_indexOfCharUnsafe_4cfef_21 : decode cJ2_indexOfCharUnsafe_4cfef 21 = .ok (.ireturn, 1) := by decide +kernel
theorem dJ2_indexOfCharUnsafe_4cfef_22 : decode cJ2_indexOfCharUnsafe_4cfef 22 = .ok (.iinc 4 1, 3) := by decide +kernel
theorem dJ2_indexOfCharUnsafe_4cfef_25 : decode cJ2_indexOfCharUnsafe_4cfef 25 = .ok (.goto (-22), 3) := by decide +kernel
theorem dJ2_indexOfCharUnsafe_4cfef_28 : decode cJ2_indexOfCharUnsafe_4cfef 28 = .ok (.iconst (-1), 1) := by decide +kernel
theorem dJ2_indexOfCharUnsafe_4cfef_29 : decode cJ2_indexOfCharUnsafe_4cfef 29 = .ok (.ireturn, 1) := by decide +kernel
theorem dJ2_indexOfSupplementary_4cfef_0 : decode cJ2_indexOfSupplementary_4cfef 0 = .ok (.iload_n 1, 1) := by decide +kernel
theorem dJ2_indexOfSupplementary_4cfef_1 : decode cJ2_indexOfSupplementary_4cfef 1 = .ok (.invokestatic 164, 3) := by decide +kernel
theorem dJ2_indexOfSupplementary_4cfef_4 : decode cJ2_indexOfSupplementary_4cfef 4 = .ok (.ifCond .eq 65, 3) := by decide +kernel
theorem dJ2_indexOfSupplementary_4cfef_7 : decode cJ2_indexOfSupplementary_4cfef 7 = .ok (.iload_n 1, 1) := by decide +kernel
theorem dJ2_indexOfSupplementary_4cfef_8 : decode cJ2_indexOfSupplementary_4cfef 8 = .ok (.invokestatic 157, 3) := by decide +kernel
theorem dJ2_indexOfSupplementary_4cfef_11 : decode cJ2_indexOfSupplementary_4cfef 11 = .ok (.istore 4, 2) := by decide +kernel
theorem dJ2_indexOfSupplementary_4cfef_13 : decode cJ2_indexOfSupplementary_4cfef 13 = .ok (.iload_n 1, 1) := by decide +kernel
theorem dJ2_indexOfSupplementary_4cfef_14 : decode cJ2_indexOfSupplementary_4cfef 14 = .ok (.invokestatic 161, 3) := by decide +kernel
theorem dJ2_indexOfSupplementary_4cfef_17 : decode cJ2_indexOfSupplementary_4cfef 17 = .ok (.istore 5, 2) := by decide +kernel
theorem dJ2_indexOfSupplementary_4cfef_19 : decode cJ2_indexOfSupplementary_4cfef 19 = .ok (.iload_n 2, 1) := by decide +kernel
theorem dJ2_indexOfSupplementary_4cfef_20 : decode cJ2_indexOfSupplementary_4cfef 20 = .ok (.iload_n 3, 1) := by decide +kernel
theorem dJ2_indexOfSupplementary_4cfef_21 : decode cJ2_indexOfSupplementary_4cfef 21 = .ok (.aload_n 0, 1) := by decide +kernel
theorem dJ2_indexOfSupplementary_4cfef_22 : decode cJ2_indexOfSupplementary_4cfef 22 = .ok (.invokestatic 96, 3) := by decide +kernel
theorem dJ2_indexOfSupplementary_4cfef_25 : decode cJ2_indexOfSupplementary_4cfef 25 = .ok (.iload_n 2, 1) := by decide +kernel
theorem dJ2_indexOfSupplementary_4cfef_26 : decode cJ2_indexOfSupplementary_4cfef 26 = .ok (.istore 6, 2) := by decide +kernel
theorem dJ2_indexOfSupplementary_4cfef_28 : decode cJ2_indexOfSupplementary_4cfef 28 = .ok (.iload 6, 2) := by decide +kernel
theorem dJ2_indexOfSupplementary_4cfef_30 : decode cJ2_indexOfSupplementary_4cfef 30 = .ok (.iload_n 3, 1) := by decide +kernel
theorem dJ2_indexOfSupplementary_4cfef_31 : decode cJ2_indexOfSupplementary_4cfef 31 = .ok (.iconst 1, 1) := by decide +kernel
theorem dJ2_indexOfSupplementary_4cfef_32 : decode cJ2_indexOfSupplementary_4cfef 32 = .ok (.isub, 1) := by decide +kernel
theorem dJ2_indexOfSupplementary_4cfef_33 : decode cJ2_indexOfSupplementary_4cfef 33 = .ok (.if_icmp .ge 36, 3) := by decide +kernel
theorem dJ2_indexOfSupplementary_4cfef_36 : decode cJ2_indexOfSupplementary_4cfef 36 = .ok (.aload_n 0, 1) := by decide +kernel
theorem dJ2_indexOfSupplementary_4cfef_37 : decode cJ2_indexOfSupplementary_4cfef 37 = .ok (.iload 6, 2) := by decide +kernel
theorem dJ2_indexOfSupplementary_4cfef_39 : decode cJ2_indexOfSupplementary_4cfef 39 = .ok (.invokestatic 71, 3) := by decide +kernel
theorem dJ2_indexOfSupplementary_4cfef_42 : decode cJ2_indexOfSupplementary_4cfef 42 = .ok (.iload 4, 2) := by decide +kernel
theorem dJ2_indexOfSupplementary_4cfef_44 : decode cJ2_indexOfSupplementary_4cfef 44 = .ok (.if_icmp .ne 19, 3) := by decide +kernel
theorem dJ2_indexOfSupplementary_4cfef_47 : decode cJ2_indexOfSupplementary_4cfef 47 = .ok (.aload_n 0, 1) := by decide +kernel
theorem dJ2_indexOfSupplementary_4cfef_48 : decode cJ2_indexOfSupplementary_4cfef 48 = .ok (.iload 6, 2) := by decide +kernel
theorem dJ2_indexOfSupplementary_4cfef_50 : decode cJ2_indexOfSupplementary_4cfef 50 = .ok (.iconst 1, 1) := by decide +kernel
theorem dJ2_indexOfSupplementary_4cfef_51 : decode cJ2_indexOfSupplementary_4cfef 51 = .ok (.iadd, 1) := by decide +kernel
theorem dJ2_indexOfSupplementary_4cfef_52 : decode cJ2_indexOfSupplementary_4cfef 52 = .ok (.invokestatic 71, 3) := by decide +kernel
theorem dJ2_indexOfSupplementary_4cfef_55 : decode cJ2_indexOfSupplementary_4cfef 55 = .ok (.iload 5, 2) := by decide +kernel
theorem dJ2_indexOfSupplementary_4cfef_57 : decode cJ2_indexOfSupplementary_4cfef 57 = .ok (.if_icmp .ne 6, 3) := by decide +kernel
theorem dJ2_indexOfSupplementary_4cfef_60 : decode cJ2_indexOfSupplementary_4cfef 60 = .ok (.iload 6, 2) := by decide +kernel
theorem dJ2_indexOfSupplementary_4cfef_62 : decode cJ2_indexOfSupplementary_4cfef 62 = .ok (.ireturn, 1) := by decide +kernel
theorem dJ2_indexOfSupplementary_4cfef_63 : decode cJ2_indexOfSupplementary_4cfef 63 = .ok (.iinc 6 1, 3) := by decide +kernel
theorem dJ2_indexOfSupplementary_4cfef_66 : decode cJ2_indexOfSupplementary_4cfef 66 = .ok (.goto (-38), 3) := by decide +kernel
theorem dJ2_indexOfSupplementary_4cfef_69 : decode cJ2_indexOfSupplementary_4cfef 69 = .ok (.iconst (-1), 1) := by decide +kernel
theorem dJ2_indexOfSupplementary_4cfef_70 : decode cJ2_indexOfSupplementary_4cfef 70 = .ok (.ireturn, 1) := by decide +kernel
theorem dJ2_charAt_3b067_0 : decode cJ2_charAt_3b067 0 = .ok (.iload_n 1, 1) := by decide +kernel
theorem dJ2_charAt_3b067_1 : decode cJ2_charAt_3b067 1 = .ok (.aload_n 0, 1) := by decide +kernel
theorem dJ2_charAt_3b067_2 : decode cJ2_charAt_3b067 2 = .ok (.invokestatic 67, 3) := by decide +kernel
theorem dJ2_charAt_3b067_5 : decode cJ2_charAt_3b067 5 = .ok (.aload_n 0, 1) := by decide +kernel
theorem dJ2_charAt_3b067_6 : decode cJ2_charAt_3b067 6 = .ok (.iload_n 1, 1) := by decide +kernel
theorem dJ2_charAt_3b067_7 : decode cJ2_charAt_3b067 7 = .ok (.invokestatic 71, 3) := by decide +kernel
theorem dJ2_charAt_3b067_10 : decode cJ2_charAt_3b067 10 = .ok (.ireturn, 1) := by decide +kernel
theorem dJ2_checkIndex_2214a_0 : decode cJ2_checkIndex_2214a 0 = .ok (.iload_n 0, 1) := by decide +kernel
theorem dJ2_checkIndex_2214a_1 : decode cJ2_checkIndex_2214a 1 = .ok (.aload_n 1, 1) := by decide +kernel
theorem dJ2_checkIndex_2214a_2 : decode cJ2_checkIndex_2214a 2 = .ok (.invokestatic 48, 3) := by decide +kernel
theorem dJ2_checkIndex_2214a_5 : decode cJ2_checkIndex_2214a 5 = .ok (.invokestatic 414, 3) := by decide +kernel
theorem dJ2_checkIndex_2214a_8 : decode cJ2_checkIndex_2214a 8 = .ok (.return_, 1) := by decide +kernel
theorem dJ2_checkBoundsBeginEnd_d044e_0 : decode cJ2_checkBoundsBeginEnd_d044e 0 = .ok (.iload_n 0, 1) := by decide +kernel
theorem dJ2_checkBoundsBeginEnd_d044e_1 : decode cJ2_checkBoundsBeginEnd_d044e 1 = .ok (.iload_n 1, 1) := by decide +kernel
theorem dJ2_checkBoundsBeginEnd_d044e_2 : decode cJ2_checkBoundsBeginEnd_d044e 2 = .ok (.aload_n 2, 1) := by decide +kernel
theorem dJ2_checkBoundsBeginEnd_d044e_3 : decode cJ2_checkBoundsBeginEnd_d044e 3 = .ok (.invokestatic 48, 3) := by decide +kernel
theorem dJ2_checkBoundsBeginEnd_d044e_6 : decode cJ2_checkBoundsBeginEnd_d044e 6 = .ok (.invokestatic 241, 3) := by decide +kernel
theorem dJ2_checkBoundsBeginEnd_d044e_9 : decode cJ2_checkBoundsBeginEnd_d044e 9 = .ok (.return_, 1) := by decide +kernel
theorem dJ7_fill_53178_0 : decode cJ7_fill_53178 0 = .ok (.iconst 0, 1) := by decide +kernel
theorem dJ7_fill_53178_1 : decode cJ7_fill_53178 1 = .ok (.istore_n 2, 1) := by decide +kernel
theorem dJ7_fill_53178_2 : decode cJ7_fill_53178 2 = .ok (.aload_n 0, 1) := by decide +kernel
theorem dJ7_fill_53178_3 : decode cJ7_fill_53178 3 = .ok (.arraylength, 1) := by decide +kernel
theorem dJ7_fill_53178_4 : decode cJ7_fill_53178 4 = .ok (.istore_n 3, 1) := by decide +kernel
theorem dJ7_fill_53178_5 : decode cJ7_fill_53178 5 = .ok (.iload_n 2, 1) := by decide +kernel
theorem dJ7_fill_53178_6 : decode cJ7_fill_53178 6 = .ok (.iload_n 3, 1) := by decide +kernel
theorem dJ7_fill_53178_7 : decode cJ7_fill_53178 7 = .ok (.if_icmp .ge 13, 3) := by decide +kernel
theorem dJ7_fill_53178_10 : decode cJ7_fill_53178 10 = .ok (.aload_n 0, 1) := by decide +kernel
theorem dJ7_fill_53178_11 : decode cJ7_fill_53178 11 = .ok (.iload_n 2, 1) := by decide +kernel
theorem dJ7_fill_53178_12 : decode cJ7_fill_53178 12 = .ok (.iload_n 1, 1) := by decide +kernel
theorem dJ7_fill_53178_13 : decode cJ7_fill_53178 13 = .ok (.iastore, 1) := by decide +kernel
theorem dJ7_fill_53178_14 : decode cJ7_fill_53178 14 = .ok (.iinc 2 1, 3) := by decide +kernel
theorem dJ7_fill_53178_17 : decode cJ7_fill_53178 17 = .ok (.goto (-12), 3) := by decide +kernel
theorem dJ7_fill_53178_20 : decode cJ7_fill_53178 20 = .ok (.return_, 1) := by decide +kernel
theorem dJ3_checkIndex_8e157_0 : decode cJ3_checkIndex_8e157 0 = .ok (.iload_n 0, 1) := by decide +kernel
theorem dJ3_checkIndex_8e157_1 : decode cJ3_checkIndex_8e157 1 = .ok (.ifCond .lt 8, 3) := by decide +kernel
theorem dJ3_checkIndex_8e157_4 : decode cJ3_checkIndex_8e157 4 = .ok (.iload_n 0, 1) := by decide +kernel
theorem dJ3_checkIndex_8e157_5 : decode cJ3_checkIndex_8e157 5 = .ok (.iload_n 1, 1) := by decide +kernel
theorem dJ3_checkIndex_8e157_6 : decode cJ3_checkIndex_8e157 6 = .ok (.if_icmp .lt 10, 3) := by decide +kernel
theorem dJ3_checkIndex_8e157_9 : decode cJ3_checkIndex_8e157 9 = .ok (.aload_n 2, 1) := by decide +kernel
theorem dJ3_checkIndex_8e157_10 : decode cJ3_checkIndex_8e157 10 = .ok (.iload_n 0, 1) := by decide +kernel
theorem dJ3_checkIndex_8e157_11 : decode cJ3_checkIndex_8e157 11 = .ok (.iload_n 1, 1) := by decide +kernel
theorem dJ3_checkIndex_8e157_12 : decode cJ3_checkIndex_8e157 12 = .ok (.invokestatic 95, 3) := by decide +kernel
theorem dJ3_checkIndex_8e157_15 : decode cJ3_checkIndex_8e157 15 = .ok (.athrow, 1) := by decide +kernel
theorem dJ3_checkIndex_8e157_16 : decode cJ3_checkIndex_8e157 16 = .ok (.iload_n 0, 1) := by decide +kernel
theorem dJ3_checkIndex_8e157_17 : decode cJ3_checkIndex_8e157 17 = .ok (.ireturn, 1) := by decide +kernel
theorem dJ3_checkFromToIndex_8c36e_0 : decode cJ3_checkFromToIndex_8c36e 0 = .ok (.iload_n 0, 1) := by decide +kernel
theorem dJ3_checkFromToIndex_8c36e_1 : decode cJ3_checkFromToIndex_8c36e 1 = .ok (.ifCond .lt 13, 3) := by decide +kernel
theorem dJ3_checkFromToIndex_8c36e_4 : decode cJ3_checkFromToIndex_8c36e 4 = .ok (.iload_n 0, 1) := by decide +kernel
theorem dJ3_checkFromToIndex_8c36e_5 : decode cJ3_checkFromToIndex_8c36e 5 = .ok (.iload_n 1, 1) := by decide +kernel
theorem dJ3_checkFromToIndex_8c36e_6 : decode cJ3_checkFromToIndex_8c36e 6 = .ok (.if_icmp .gt 8, 3) := by decide +kernel
theorem dJ3_checkFromToIndex_8c36e_9 : decode cJ3_checkFromToIndex_8c36e 9 = .ok (.iload_n 1, 1) := by decide +kernel
theorem dJ3_checkFromToIndex_8c36e_10 : decode cJ3_checkFromToIndex_8c36e 10 = .ok (.iload_n 2, 1) := by decide +kernel
theorem dJ3_checkFromToIndex_8c36e_11 : decode cJ3_checkFromToIndex_8c36e 11 = .ok (.if_icmp .le 11, 3) := by decide +kernel
theorem dJ3_checkFromToIndex_8c36e_14 : decode cJ3_checkFromToIndex_8c36e 14 = .ok (.aload_n 3, 1) := by decide +kernel
theorem dJ3_checkFromToIndex_8c36e_15 : decode cJ3_checkFromToIndex_8c36e 15 = .ok (.iload_n 0, 1) := by decide +kernel
theorem dJ3_checkFromToIndex_8c36e_16 : decode cJ3_checkFromToIndex_8c36e 16 = .ok (.iload_n 1, 1) := by decide +kernel
theorem dJ3_checkFromToIndex_8c36e_17 : decode cJ3_checkFromToIndex_8c36e 17 = .ok (.iload_n 2, 1) := by decide +kernel
theorem dJ3_checkFromToIndex_8c36e_18 : decode cJ3_checkFromToIndex_8c36e 18 = .ok (.invokestatic 99, 3) := by decide +kernel
theorem dJ3_checkFromToIndex_8c36e_21 : decode cJ3_checkFromToIndex_8c36e 21 = .ok (.athrow, 1) := by decide +kernel
theorem dJ3_checkFromToIndex_8c36e_22 : decode cJ3_checkFromToIndex_8c36e 22 = .ok (.iload_n 0, 1) := by decide +kernel
theorem dJ3_checkFromToIndex_8c36e_23 : decode cJ3_checkFromToIndex_8c36e 23 = .ok (.ireturn, 1) := by decide +kernel
end
section
theorem dL_law_0 : decode cL_law 0 = .ok (.new 7, 3) := by decide +kernel
theorem dL_law_3 : decode cL_law 3 = .ok (.dup, 1) := by decide +kernel
theorem dL_law_4 : decode cL_law 4 = .ok (.invokespecial 9, 3) := by decide +kernel
theorem dL_law_7 : decode cL_law 7 = .ok (.astore_n 1, 1) := by decide +kernel
theorem dL_law_8 : decode cL_law 8 = .ok (.new 10, 3) := by decide +kernel
theorem dL_law_11 : decode cL_law 11 = .ok (.dup, 1) := by decide +kernel
theorem dL_law_12 : decode cL_law 12 = .ok (.invokespecial 12, 3) := by decide +kernel
theorem dL_law_15 : decode cL_law 15 = .ok (.astore_n 2, 1) := by decide +kernel
theorem dL_law_16 : decode cL_law 16 = .ok (.iconst 0, 1) := by decide +kernel
theorem dL_law_17 : decode cL_law 17 = .ok (.istore_n 3, 1) := by decide +kernel
theorem dL_law_18 : decode cL_law 18 = .ok (.iload_n 3, 1) := by decide +kernel
theorem dL_law_19 : decode cL_law 19 = .ok (.aload_n 0, 1) := by decide +kernel
theorem dL_law_20 : decode cL_law 20 = .ok (.arraylength, 1) := by decide +kernel
theorem dL_law_21 : decode cL_law 21 = .ok (.iconst 4, 1) := by decide +kernel
theorem dL_law_22 : decode cL_law 22 = .ok (.isub, 1) := by decide +kernel
theorem dL_law_23 : decode cL_law 23 = .ok (.if_icmp .gt 908, 3) := by decide +kernel
theorem dL_law_26 : decode cL_law 26 = .ok (.aload_n 0, 1) := by decide +kernel
theorem dL_law_27 : decode cL_law 27 = .ok (.iload_n 3, 1) := by decide +kernel
theorem dL_law_28 : decode cL_law 28 = .ok (.iaload, 1) := by decide +kernel
theorem dL_law_29 : decode cL_law 29 = .ok (.bipush 31, 2) := by decide +kernel
theorem dL_law_31 : decode cL_law 31 = .ok (.iand, 1) := by decide +kernel
theorem dL_law_32 : decode cL_law 32 = .ok (.tableswitch 893 0 30 #[140, 163, 176, 209, 232, 255, 278, 301, 314, 347, 370, 403, 426, 459, 482, 515, 548, 571, 594, 627, 640, 673, 686, 699, 722, 745, 768, 801, 844, 857, 870], 140) := by decide +kernel
theorem dL_law_172 : decode cL_law 172 = .ok (.aload_n 1, 1) := by decide +kernel
theorem dL_law_173 : decode cL_law 173 = .ok (.aload_n 0, 1) := by decide +kernel
theorem dL_law_174 : decode cL_law 174 = .ok (.iload_n 3, 1) := by decide +kernel
theorem dL_law_175 : decode cL_law 175 = .ok (.iconst 1, 1) := by decide +kernel
theorem dL_law_176 : decode cL_law 176 = .ok (.iadd, 1) := by decide +kernel
theorem dL_law_177 : decode cL_law 177 = .ok (.iaload, 1) := by decide +kernel
theorem dL_law_178 : decode cL_law 178 = .ok (.invokevirtual 13, 3) := by decide +kernel
theorem dL_law_181 : decode cL_law 181 = .ok (.aload_n 2, 1) := by decide +kernel
theorem dL_law_182 : decode cL_law 182 = .ok (.aload_n 0, 1) := by decide +kernel
theorem dL_law_183 : decode cL_law 183 = .ok (.iload_n 3, 1) := by decide +kernel
theorem dL_law_184 : decode cL_law 184 = .ok (.iconst 1, 1) := by decide +kernel
theorem dL_law_185 : decode cL_law 185 = .ok (.iadd, 1) := by decide +kernel
theorem dL_law_186 : decode cL_law 186 = .ok (.iaload, 1) := by decide +kernel
theorem dL_law_187 : decode cL_law 187 = .ok (.invokevirtual 17, 3) := by decide +kernel
theorem dL_law_190 : decode cL_law 190 = .ok (.if_icmp .eq 735, 3) := by decide +kernel
theorem dL_law_193 : decode cL_law 193 = .ok (.iconst 0, 1) := by decide +kernel
theorem dL_law_194 : decode cL_law 194 = .ok (.ireturn, 1) := by decide +kernel
theorem dL_law_195 : decode cL_law 195 = .ok (.aload_n 1, 1) := by decide +kernel
theorem dL_law_196 : decode cL_law 196 = .ok (.invokevirtual 18, 3) := by decide +kernel
theorem dL_law_199 : decode cL_law 199 = .ok (.aload_n 2, 1) := by decide +kernel
theorem dL_law_200 : decode cL_law 200 = .ok (.invokevirtual 22, 3) := by decide +kernel
theorem dL_law_203 : decode cL_law 203 = .ok (.if_icmp .eq 722, 3) := by decide +kernel
theorem dL_law_206 : decode cL_law 206 = .ok (.iconst 0, 1) := by decide +kernel
theorem dL_law_207 : decode cL_law 207 = .ok (.ireturn, 1) := by decide +kernel
theorem dL_law_208 : decode cL_law 208 = .ok (.aload_n 1, 1) := by decide +kernel
theorem dL_law_209 : decode cL_law 209 = .ok (.aload_n 0, 1) := by decide +kernel
theorem dL_law_210 : decode cL_law 210 = .ok (.iload_n 3, 1) := by decide +kernel
theorem dL_law_211 : decode cL_law 211 = .ok (.iconst 1, 1) := by decide +kernel
theorem dL_law_212 : decode cL_law 212 = .ok (.iadd, 1) := by decide +kernel
theorem dL_law_213 : decode cL_law 213 = .ok (.iaload, 1) := by decide +kernel
theorem dL_law_214 : decode cL_law 214 = .ok (.aload_n 0, 1) := by decide +kernel
theorem dL_law_215 : decode cL_law 215 = .ok (.iload_n 3, 1) := by decide +kernel
theorem dL_law_216 : decode cL_law 216 = .ok (.iconst 2, 1) := by decide +kernel
theorem dL_law_217 : decode cL_law 217 = .ok (.iadd, 1) := by decide +kernel
theorem dL_law_218 : decode cL_law 218 = .ok (.iaload, 1) := by decide +kernel
theorem dL_law_219 : decode cL_law 219 = .ok (.invokevirtual 23, 3) := by decide +kernel
theorem dL_law_222 : decode cL_law 222 = .ok (.aload_n 2, 1) := by decide +kernel
theorem dL_law_223 : decode cL_law 223 = .ok (.aload_n 0, 1) := by decide +kernel
theorem dL_law_224 : decode cL_law 224 = .ok (.iload_n 3, 1) := by decide +kernel
theorem dL_law_225 : decode cL_law 225 = .ok (.iconst 1, 1) := by decide +kernel
theorem dL_law_226 : decode cL_law 226 = .ok (.iadd, 1) := by decide +kernel
theorem dL_law_227 : decode cL_law 227 = .ok (.iaload, 1) := by decide +kernel
theorem dL_law_228 : decode cL_law 228 = .ok (.aload_n 0, 1) := by decide +kernel
theorem dL_law_229 : decode cL_law 229 = .ok (.iload_n 3, 1) := by decide +kernel
theorem dL_law_230 : decode cL_law 230 = .ok (.iconst 2, 1) := by decide +kernel
theorem dL_law_231 : decode cL_law 231 = .ok (.iadd, 1) := by decide +kernel
theorem dL_law_232 : decode cL_law 232 = .ok (.iaload, 1) := by decide +kernel
theorem dL_law_233 : decode cL_law 233 = .ok (.invokevirtual 27, 3) := by decide +kernel
theorem dL_law_236 : decode cL_law 236 = .ok (.if_icmp .eq 689, 3) := by decide +kernel
theorem dL_law_239 : decode cL_law 239 = .ok (.iconst 0, 1) := by decide +kernel
theorem dL_law_240 : decode cL_law 240 = .ok (.ireturn, 1) := by decide +kernel
theorem dL_law_241 : decode cL_law 241 = .ok (.aload_n 1, 1) := by decide +kernel
theorem dL_law_242 : decode cL_law 242 = .ok (.aload_n 0, 1) := by decide +kernel
theorem dL_law_243 : decode cL_law 243 = .ok (.iload_n 3, 1) := by decide +kernel
theorem dL_law_244 : decode cL_law 244 = .ok (.iconst 1, 1) := by decide +kernel
theorem dL_law_245 : decode cL_law 245 = .ok (.iadd, 1) := by decide +kernel
theorem dL_law_246 : decode cL_law 246 = .ok (.iaload, 1) := by decide +kernel
theorem dL_law_247 : decode cL_law 247 = .ok (.invokevirtual 28, 3) := by decide +kernel
theorem dL_law_250 : decode cL_law 250 = .ok (.aload_n 2, 1) := by decide +kernel
theorem dL_law_251 : decode cL_law 251 = .ok (.aload_n 0, 1) := by decide +kernel
theorem dL_law_252 : decode cL_law 252 = .ok (.iload_n 3, 1) := by decide +kernel
theorem dL_law_253 : decode cL_law 253 = .ok (.iconst 1, 1) := by decide +kernel
theorem dL_law_254 : decode cL_law 254 = .ok (.iadd, 1) := by decide +kernel
theorem dL_law_255 : decode cL_law 255 = .ok (.iaload, 1) := by decide +kernel
theorem dL_law_256 : decode cL_law 256 = .ok (.invokevirtual 31, 3) := by decide +kernel
theorem dL_law_259 : decode cL_law 259 = .ok (.if_icmp .eq 666, 3) := by decide +kernel
theorem dL_law_262 : decode cL_law 262 = .ok (.iconst 0, 1) := by decide +kernel
theorem dL_law_263 : decode cL_law 263 = .ok (.ireturn, 1) := by decide +kernel
theorem dL_law_264 : decode cL_law 264 = .ok (.aload_n 1, 1) := by decide +kernel
theorem dL_law_265 : decode cL_law 265 = .ok (.aload_n 0, 1) := by decide +kernel
theorem dL_law_266 : decode cL_law 266 = .ok (.iload_n 3, 1) := by decide +kernel
theorem dL_law_267 : decode cL_law 267 = .ok (.iconst 1, 1) := by decide +kernel
theorem dL_law_268 : decode cL_law 268 = .ok (.iadd, 1) := by decide +kernel
theorem dL_law_269 : decode cL_law 269 = .ok (.iaload, 1) := by decide +kernel
theorem dL_law_270 : decode cL_law 270 = .ok (.invokevirtual 32, 3) := by decide +kernel
theorem dL_law_273 : decode cL_law 273 = .ok (.aload_n 2, 1) := by decide +kernel
theorem dL_law_274 : decode cL_law 274 = .ok (.aload_n 0, 1) := by decide +kernel
theorem dL_law_275 : decode cL_law 275 = .ok (.iload_n 3, 1) := by decide +kernel
theorem dL_law_276 : decode cL_law 276 = .ok (.iconst 1, 1) := by decide +kernel
theorem dL_law_277 : decode cL_law 277 = .ok (.iadd, 1) := by decide +kernel
theorem dL_law_278 : decode cL_law 278 = .ok (.iaload, 1) := by decide +kernel
theorem dL_law_279 : decode cL_law 279 = .ok (.invokevirtual 35, 3) := by decide +kernel
theorem dL_law_282 : decode cL_law 282 = .ok (.if_icmp .eq 643, 3) := by decide +kernel
theorem dL_law_285 : decode cL_law 285 = .ok (.iconst 0, 1) := by decide +kernel
theorem dL_law_286 : decode cL_law 286 = .ok (.ireturn, 1) := by decide +kernel
theorem dL_law_287 : decode cL_law 287 = .ok (.aload_n 1, 1) := by decide +kernel
theorem dL_law_288 : decode cL_law 288 = .ok (.aload_n 0, 1) := by decide +kernel
theorem dL_law_289 : decode cL_law 289 = .ok (.iload_n 3, 1) := by decide +kernel
theorem dL_law_290 : decode cL_law 290 = .ok (.iconst 1, 1) := by decide +kernel
theorem dL_law_291 : decode cL_law 291 = .ok (.iadd, 1) := by decide +kernel
theorem dL_law_292 : decode cL_law 292 = .ok (.iaload, 1) := by decide +kernel
theorem dL_law_293 : decode cL_law 293 = .ok (.invokevirtual 36, 3) := by decide +kernel
theorem dL_law_296 : decode cL_law 296 = .ok (.aload_n 2, 1) := by decide +kernel
theorem dL_law_297 : decode cL_law 297 = .ok (.aload_n 0, 1) := by decide +kernel
theorem dL_law_298 : decode cL_law 298 = .ok (.iload_n 3, 1) := by decide +kernel
theorem dL_law_299 : decode cL_law 299 = .ok (.iconst 1, 1) := by decide +kernel
theorem dL_law_300 : decode cL_law 300 = .ok (.iadd, 1) := by decide +kernel
theorem dL_law_301 : decode cL_law 301 = .ok (.iaload, 1) := by decide +kernel
theorem dL_law_302 : decode cL_law 302 = .ok (.invokevirtual 39, 3) := by decide +kernel
theorem dL_law_305 : decode cL_law 305 = .ok (.if_icmp .eq 620, 3) := by decide +kernel
theorem dL_law_308 : decode cL_law 308 = .ok (.iconst 0, 1) := by decide +kernel
theorem dL_law_309 : decode cL_law 309 = .ok (.ireturn, 1) := by decide +kernel
theorem dL_law_310 : decode cL_law 310 = .ok (.aload_n 1, 1) := by decide +kernel
theorem dL_law_311 : decode cL_law 311 = .ok (.aload_n 0, 1) := by decide +kernel
theorem dL_law_312 : decode cL_law 312 = .ok (.iload_n 3, 1) := by decide +kernel
theorem dL_law_313 : decode cL_law 313 = .ok (.iconst 1, 1) := by decide +kernel
theorem dL_law_314 : decode cL_law 314 = .ok (.iadd, 1) := by decide +kernel
theorem dL_law_315 : decode cL_law 315 = .ok (.iaload, 1) := by decide +kernel
theorem dL_law_316 : decode cL_law 316 = .ok (.invokevirtual 40, 3) := by decide +kernel
theorem dL_law_319 : decode cL_law 319 = .ok (.aload_n 2, 1) := by decide +kernel
theorem dL_law_320 : decode cL_law 320 = .ok (.aload_n 0, 1) := by decide +kernel
theorem dL_law_321 : decode cL_law 321 = .ok (.iload_n 3, 1) := by decide +kernel
theorem dL_law_322 : decode cL_law 322 = .ok (.iconst 1, 1) := by decide +kernel
theorem dL_law_323 : decode cL_law 323 = .ok (.iadd, 1) := by decide +kernel
theorem dL_law_324 : decode cL_law 324 = .ok (.iaload, 1) := by decide +kernel
theorem dL_law_325 : decode cL_law 325 = .ok (.invokevirtual 43, 3) := by decide +kernel
theorem dL_law_328 : decode cL_law 328 = .ok (.if_icmp .eq 597, 3) := by decide +kernel
theorem dL_law_331 : decode cL_law 331 = .ok (.iconst 0, 1) := by decide +kernel
theorem dL_law_332 : decode cL_law 332 = .ok (.ireturn, 1) := by decide +kernel
theorem dL_law_333 : decode cL_law 333 = .ok (.aload_n 1, 1) := by decide +kernel
theorem dL_law_334 : decode cL_law 334 = .ok (.invokevirtual 44, 3) := by decide +kernel
theorem dL_law_337 : decode cL_law 337 = .ok (.aload_n 2, 1) := by decide +kernel
theorem dL_law_338 : decode cL_law 338 = .ok (.invokevirtual 47, 3) := by decide +kernel
theorem dL_law_341 : decode cL_law 341 = .ok (.if_icmp .eq 584, 3) := by decide +kernel
theorem dL_law_344 : decode cL_law 344 = .ok (.iconst 0, 1) := by decide +kernel
theorem dL_law_345 : decode cL_law 345 = .ok (.ireturn, 1) := by decide +kernel
theorem dL_law_346 : decode cL_law 346 = .ok (.aload_n 1, 1) := by decide +kernel
theorem dL_law_347 : decode cL_law 347 = .ok (.aload_n 0, 1) := by decide +kernel
theorem dL_law_348 : decode cL_law 348 = .ok (.iload_n 3, 1) := by decide +kernel
theorem dL_law_349 : decode cL_law 349 = .ok (.iconst 1, 1) := by decide +kernel
theorem dL_law_350 : decode cL_law 350 = .ok (.iadd, 1) := by decide +kernel
theorem dL_law_351 : decode cL_law 351 = .ok (.iaload, 1) := by decide +kernel
theorem dL_law_352 : decode cL_law 352 = .ok (.aload_n 0, 1) := by decide +kernel
theorem dL_law_353 : decode cL_law 353 = .ok (.iload_n 3, 1) := by decide +kernel
theorem dL_law_354 : decode cL_law 354 = .ok (.iconst 2, 1) := by decide +kernel
theorem dL_law_355 : decode cL_law 355 = .ok (.iadd, 1) := by decide +kernel
theorem dL_law_356 : decode cL_law 356 = .ok (.iaload, 1) := by decide +kernel
theorem dL_law_357 : decode cL_law 357 = .ok (.invokevirtual 48, 3) := by decide +kernel
theorem dL_law_360 : decode cL_law 360 = .ok (.aload_n 2, 1) := by decide +kernel
theorem dL_law_361 : decode cL_law 361 = .ok (.aload_n 0, 1) := by decide +kernel
theorem dL_law_362 : decode cL_law 362 = .ok (.iload_n 3, 1) := by decide +kernel
theorem dL_law_363 : decode cL_law 363 = .ok (.iconst 1, 1) := by decide +kernel
theorem dL_law_364 : decode cL_law 364 = .ok (.iadd, 1) := by decide +kernel
theorem dL_law_365 : decode cL_law 365 = .ok (.iaload, 1) := by decide +kernel
theorem dL_law_366 : decode cL_law 366 = .ok (.aload_n 0, 1) := by decide +kernel
theorem dL_law_367 : decode cL_law 367 = .ok (.iload_n 3, 1) := by decide +kernel
theorem dL_law_368 : decode cL_law 368 = .ok (.iconst 2, 1) := by decide +kernel
theorem dL_law_369 : decode cL_law 369 = .ok (.iadd, 1) := by decide +kernel
theorem dL_law_370 : decode cL_law 370 = .ok (.iaload, 1) := by decide +kernel
theorem dL_law_371 : decode cL_law 371 = .ok (.invokevirtual 51, 3) := by decide +kernel
theorem dL_law_374 : decode cL_law 374 = .ok (.if_icmp .eq 551, 3) := by decide +kernel
theorem dL_law_377 : decode cL_law 377 = .ok (.iconst 0, 1) := by decide +kernel
theorem dL_law_378 : decode cL_law 378 = .ok (.ireturn, 1) := by decide +kernel
theorem dL_law_379 : decode cL_law 379 = .ok (.aload_n 1, 1) := by decide +kernel
theorem dL_law_380 : decode cL_law 380 = .ok (.aload_n 0, 1) := by decide +kernel
theorem dL_law_381 : decode cL_law 381 = .ok (.iload_n 3, 1) := by decide +kernel
theorem dL_law_382 : decode cL_law 382 = .ok (.iconst 1, 1) := by decide +kernel
theorem dL_law_383 : decode cL_law 383 = .ok (.iadd, 1) := by decide +kernel
theorem dL_law_384 : decode cL_law 384 = .ok (.iaload, 1) := by decide +kernel
theorem dL_law_385 : decode cL_law 385 = .ok (.invokevirtual 52, 3) := by decide +kernel
theorem dL_law_388 : decode cL_law 388 = .ok (.aload_n 2, 1) := by decide +kernel
theorem dL_law_389 : decode cL_law 389 = .ok (.aload_n 0, 1) := by decide +kernel
theorem dL_law_390 : decode cL_law 390 = .ok (.iload_n 3, 1) := by decide +kernel
theorem dL_law_391 : decode cL_law 391 = .ok (.iconst 1, 1) := by decide +kernel
theorem dL_law_392 : decode cL_law 392 = .ok (.iadd, 1) := by decide +kernel
theorem dL_law_393 : decode cL_law 393 = .ok (.iaload, 1) := by decide +kernel
theorem dL_law_394 : decode cL_law 394 = .ok (.invokevirtual 55, 3) := by decide +kernel
theorem dL_law_397 : decode cL_law 397 = .ok (.if_icmp .eq 528, 3) := by decide +kernel
theorem dL_law_400 : decode cL_law 400 = .ok (.iconst 0, 1) := by decide +kernel
theorem dL_law_401 : decode cL_law 401 = .ok (.ireturn, 1) := by decide +kernel
theorem dL_law_402 : decode cL_law 402 = .ok (.aload_n 1, 1) := by decide +kernel
theorem dL_law_403 : decode cL_law 403 = .ok (.aload_n 0, 1) := by decide +kernel
theorem dL_law_404 : decode cL_law 404 = .ok (.iload_n 3, 1) := by decide +kernel
theorem dL_law_405 : decode cL_law 405 = .ok (.iconst 1, 1) := by decide +kernel
theorem dL_law_406 : decode cL_law 406 = .ok (.iadd, 1) := by decide +kernel
theorem dL_law_407 : decode cL_law 407 = .ok (.iaload, 1) := by decide +kernel
theorem dL_law_408 : decode cL_law 408 = .ok (.aload_n 0, 1) := by decide +kernel
theorem dL_law_409 : decode cL_law 409 = .ok (.iload_n 3, 1) := by decide +kernel
theorem dL_law_410 : decode cL_law 410 = .ok (.iconst 2, 1) := by decide +kernel
theorem dL_law_411 : decode cL_law 411 = .ok (.iadd, 1) := by decide +kernel
theorem dL_law_412 : decode cL_law 412 = .ok (.iaload, 1) := by decide +kernel
theorem dL_law_413 : decode cL_law 413 = .ok (.invokevirtual 56, 3) := by decide +kernel
theorem dL_law_416 : decode cL_law 416 = .ok (.aload_n 2, 1) := by decide +kernel
theorem dL_law_417 : decode cL_law 417 = .ok (.aload_n 0, 1) := by decide +kernel
theorem dL_law_418 : decode cL_law 418 = .ok (.iload_n 3, 1) := by decide +kernel
theorem dL_law_419 : decode cL_law 419 = .ok (.iconst 1, 1) := by decide +kernel
theorem dL_law_420 : decode cL_law 420 = .ok (.iadd, 1) := by decide +kernel
theorem dL_law_421 : decode cL_law 421 = .ok (.iaload, 1) := by decide +kernel
theorem dL_law_422 : decode cL_law 422 = .ok (.aload_n 0, 1) := by decide +kernel
theorem dL_law_423 : decode cL_law 423 = .ok (.iload_n 3, 1) := by decide +kernel
theorem dL_law_424 : decode cL_law 424 = .ok (.iconst 2, 1) := by decide +kernel
theorem dL_law_425 : decode cL_law 425 = .ok (.iadd, 1) := by decide +kernel
theorem dL_law_426 : decode cL_law 426 = .ok (.iaload, 1) := by decide +kernel
theorem dL_law_427 : decode cL_law 427 = .ok (.invokevirtual 59, 3) := by decide +kernel
theorem dL_law_430 : decode cL_law 430 = .ok (.if_icmp .eq 495, 3) := by decide +kernel
theorem dL_law_433 : decode cL_law 433 = .ok (.iconst 0, 1) := by decide +kernel
theorem dL_law_434 : decode cL_law 434 = .ok (.ireturn, 1) := by decide +kernel
theorem dL_law_435 : decode cL_law 435 = .ok (.aload_n 1, 1) := by decide +kernel
theorem dL_law_436 : decode cL_law 436 = .ok (.aload_n 0, 1) := by decide +kernel
theorem dL_law_437 : decode cL_law 437 = .ok (.iload_n 3, 1) := by decide +kernel
theorem dL_law_438 : decode cL_law 438 = .ok (.iconst 1, 1) := by decide +kernel
theorem dL_law_439 : decode cL_law 439 = .ok (.iadd, 1) := by decide +kernel
theorem dL_law_440 : decode cL_law 440 = .ok (.iaload, 1) := by decide +kernel
theorem dL_law_441 : decode cL_law 441 = .ok (.invokevirtual 60, 3) := by decide +kernel
theorem dL_law_444 : decode cL_law 444 = .ok (.aload_n 2, 1) := by decide +kernel
theorem dL_law_445 : decode cL_law 445 = .ok (.aload_n 0, 1) := by decide +kernel
theorem dL_law_446 : decode cL_law 446 = .ok (.iload_n 3, 1) := by decide +kernel
theorem dL_law_447 : decode cL_law 447 = .ok (.iconst 1, 1) := by decide +kernel
theorem dL_law_448 : decode cL_law 448 = .ok (.iadd, 1) := by decide +kernel
theorem dL_law_449 : decode cL_law 449 = .ok (.iaload, 1) := by decide +kernel
theorem dL_law_450 : decode cL_law 450 = .ok (.invokevirtual 63, 3) := by decide +kernel
theorem dL_law_453 : decode cL_law 453 = .ok (.if_icmp .eq 472, 3) := by decide +kernel
theorem dL_law_456 : decode cL_law 456 = .ok (.iconst 0, 1) := by decide +kernel
theorem dL_law_457 : decode cL_law 457 = .ok (.ireturn, 1) := by decide +kernel
theorem dL_law_458 : decode cL_law 458 = .ok (.aload_n 1, 1) := by decide +kernel
theorem dL_law_459 : decode cL_law 459 = .ok (.aload_n 0, 1) := by decide +kernel
theorem dL_law_460 : decode cL_law 460 = .ok (.iload_n 3, 1) := by decide +kernel
theorem dL_law_461 : decode cL_law 461 = .ok (.iconst 1, 1) := by decide +kernel
theorem dL_law_462 : decode cL_law 462 = .ok (.iadd, 1) := by decide +kernel
theorem dL_law_463 : decode cL_law 463 = .ok (.iaload, 1) := by decide +kernel
theorem dL_law_464 : decode cL_law 464 = .ok (.aload_n 0, 1) := by decide +kernel
theorem dL_law_465 : decode cL_law 465 = .ok (.iload_n 3, 1) := by decide +kernel
theorem dL_law_466 : decode cL_law 466 = .ok (.iconst 2, 1) := by decide +kernel
theorem dL_law_467 : decode cL_law 467 = .ok (.iadd, 1) := by decide +kernel
theorem dL_law_468 : decode cL_law 468 = .ok (.iaload, 1) := by decide +kernel
theorem dL_law_469 : decode cL_law 469 = .ok (.invokevirtual 64, 3) := by decide +kernel
theorem dL_law_472 : decode cL_law 472 = .ok (.aload_n 2, 1) := by decide +kernel
theorem dL_law_473 : decode cL_law 473 = .ok (.aload_n 0, 1) := by decide +kernel
theorem dL_law_474 : decode cL_law 474 = .ok (.iload_n 3, 1) := by decide +kernel
theorem dL_law_475 : decode cL_law 475 = .ok (.iconst 1, 1) := by decide +kernel
theorem dL_law_476 : decode cL_law 476 = .ok (.iadd, 1) := by decide +kernel
theorem dL_law_477 : decode cL_law 477 = .ok (.iaload, 1) := by decide +kernel
theorem dL_law_478 : decode cL_law 478 = .ok (.aload_n 0, 1) := by decide +kernel
theorem dL_law_479 : decode cL_law 479 = .ok (.iload_n 3, 1) := by decide +kernel
theorem dL_law_480 : decode cL_law 480 = .ok (.iconst 2, 1) := by decide +kernel
theorem dL_law_481 : decode cL_law 481 = .ok (.iadd, 1) := by decide +kernel
theorem dL_law_482 : decode cL_law 482 = .ok (.iaload, 1) := by decide +kernel
theorem dL_law_483 : decode cL_law 483 = .ok (.invokevirtual 67, 3) := by decide +kernel
theorem dL_law_486 : decode cL_law 486 = .ok (.if_icmp .eq 439, 3) := by decide +kernel
theorem dL_law_489 : decode cL_law 489 = .ok (.iconst 0, 1) := by decide +kernel
theorem dL_law_490 : decode cL_law 490 = .ok (.ireturn, 1) := by decide +kernel
theorem dL_law_491 : decode cL_law 491 = .ok (.aload_n 1, 1) := by decide +kernel
theorem dL_law_492 : decode cL_law 492 = .ok (.aload_n 0, 1) := by decide +kernel
theorem dL_law_493 : decode cL_law 493 = .ok (.iload_n 3, 1) := by decide +kernel
theorem dL_law_494 : decode cL_law 494 = .ok (.iconst 1, 1) := by decide +kernel
theorem dL_law_495 : decode cL_law 495 = .ok (.iadd, 1) := by decide +kernel
theorem dL_law_496 : decode cL_law 496 = .ok (.iaload, 1) := by decide +kernel
theorem dL_law_497 : decode cL_law 497 = .ok (.invokevirtual 68, 3) := by decide +kernel
theorem dL_law_500 : decode cL_law 500 = .ok (.aload_n 2, 1) := by decide +kernel
theorem dL_law_501 : decode cL_law 501 = .ok (.aload_n 0, 1) := by decide +kernel
theorem dL_law_502 : decode cL_law 502 = .ok (.iload_n 3, 1) := by decide +kernel
theorem dL_law_503 : decode cL_law 503 = .ok (.iconst 1, 1) := by decide +kernel
theorem dL_law_504 : decode cL_law 504 = .ok (.iadd, 1) := by decide +kernel
theorem dL_law_505 : decode cL_law 505 = .ok (.iaload, 1) := by decide +kernel
theorem dL_law_506 : decode cL_law 506 = .ok (.invokevirtual 71, 3) := by decide +kernel
theorem dL_law_509 : decode cL_law 509 = .ok (.if_icmp .eq 416, 3) := by decide +kernel
theorem dL_law_512 : decode cL_law 512 = .ok (.iconst 0, 1) := by decide +kernel
theorem dL_law_513 : decode cL_law 513 = .ok (.ireturn, 1) := by decide +kernel
theorem dL_law_514 : decode cL_law 514 = .ok (.aload_n 1, 1) := by decide +kernel
theorem dL_law_515 : decode cL_law 515 = .ok (.aload_n 0, 1) := by decide +kernel
theorem dL_law_516 : decode cL_law 516 = .ok (.iload_n 3, 1) := by decide +kernel
theorem dL_law_517 : decode cL_law 517 = .ok (.iconst 1, 1) := by decide +kernel
theorem dL_law_518 : decode cL_law 518 = .ok (.iadd, 1) := by decide +kernel
theorem dL_law_519 : decode cL_law 519 = .ok (.iaload, 1) := by decide +kernel
theorem dL_law_520 : decode cL_law 520 = .ok (.aload_n 0, 1) := by decide +kernel
theorem dL_law_521 : decode cL_law 521 = .ok (.iload_n 3, 1) := by decide +kernel
theorem dL_law_522 : decode cL_law 522 = .ok (.iconst 2, 1) := by decide +kernel
theorem dL_law_523 : decode cL_law 523 = .ok (.iadd, 1) := by decide +kernel
theorem dL_law_524 : decode cL_law 524 = .ok (.iaload, 1) := by decide +kernel
theorem dL_law_525 : decode cL_law 525 = .ok (.invokevirtual 72, 3) := by decide +kernel
theorem dL_law_528 : decode cL_law 528 = .ok (.aload_n 2, 1) := by decide +kernel
theorem dL_law_529 : decode cL_law 529 = .ok (.aload_n 0, 1) := by decide +kernel
theorem dL_law_530 : decode cL_law 530 = .ok (.iload_n 3, 1) := by decide +kernel
theorem dL_law_531 : decode cL_law 531 = .ok (.iconst 1, 1) := by decide +kernel
theorem dL_law_532 : decode cL_law 532 = .ok (.iadd, 1) := by decide +kernel
theorem dL_law_533 : decode cL_law 533 = .ok (.iaload, 1) := by decide +kernel
theorem dL_law_534 : decode cL_law 534 = .ok (.aload_n 0, 1) := by decide +kernel
theorem dL_law_535 : decode cL_law 535 = .ok (.iload_n 3, 1) := by decide +kernel
theorem dL_law_536 : decode cL_law 536 = .ok (.iconst 2, 1) := by decide +kernel
theorem dL_law_537 : decode cL_law 537 = .ok (.iadd, 1) := by decide +kernel
theorem dL_law_538 : decode cL_law 538 = .ok (.iaload, 1) := by decide +kernel
theorem dL_law_539 : decode cL_law 539 = .ok (.invokevirtual 75, 3) := by decide +kernel
theorem dL_law_542 : decode cL_law 542 = .ok (.if_icmp .eq 383, 3) := by decide +kernel
theorem dL_law_545 : decode cL_law 545 = .ok (.iconst 0, 1) := by decide +kernel
theorem dL_law_546 : decode cL_law 546 = .ok (.ireturn, 1) := by decide +kernel
theorem dL_law_547 : decode cL_law 547 = .ok (.aload_n 1, 1) := by decide +kernel
theorem dL_law_548 : decode cL_law 548 = .ok (.aload_n 0, 1) := by decide +kernel
theorem dL_law_549 : decode cL_law 549 = .ok (.iload_n 3, 1) := by decide +kernel
theorem dL_law_550 : decode cL_law 550 = .ok (.iconst 1, 1) := by decide +kernel
theorem dL_law_551 : decode cL_law 551 = .ok (.iadd, 1) := by decide +kernel
theorem dL_law_552 : decode cL_law 552 = .ok (.iaload, 1) := by decide +kernel
theorem dL_law_553 : decode cL_law 553 = .ok (.aload_n 0, 1) := by decide +kernel
theorem dL_law_554 : decode cL_law 554 = .ok (.iload_n 3, 1) := by decide +kernel
theorem dL_law_555 : decode cL_law 555 = .ok (.iconst 2, 1) := by decide +kernel
theorem dL_law_556 : decode cL_law 556 = .ok (.iadd, 1) := by decide +kernel
theorem dL_law_557 : decode cL_law 557 = .ok (.iaload, 1) := by decide +kernel
theorem dL_law_558 : decode cL_law 558 = .ok (.invokevirtual 76, 3) := by decide +kernel
theorem dL_law_561 : decode cL_law 561 = .ok (.aload_n 2, 1) := by decide +kernel
theorem dL_law_562 : decode cL_law 562 = .ok (.aload_n 0, 1) := by decide +kernel
theorem dL_law_563 : decode cL_law 563 = .ok (.iload_n 3, 1) := by decide +kernel
theorem dL_law_564 : decode cL_law 564 = .ok (.iconst 1, 1) := by decide +kernel
theorem dL_law_565 : decode cL_law 565 = .ok (.iadd, 1) := by decide +kernel
theorem dL_law_566 : decode cL_law 566 = .ok (.iaload, 1) := by decide +kernel
theorem dL_law_567 : decode cL_law 567 = .ok (.aload_n 0, 1) := by decide +kernel
theorem dL_law_568 : decode cL_law 568 = .ok (.iload_n 3, 1) := by decide +kernel
theorem dL_law_569 : decode cL_law 569 = .ok (.iconst 2, 1) := by decide +kernel
theorem dL_law_570 : decode cL_law 570 = .ok (.iadd, 1) := by decide +kernel
theorem dL_law_571 : decode cL_law 571 = .ok (.iaload, 1) := by decide +kernel
theorem dL_law_572 : decode cL_law 572 = .ok (.invokevirtual 79, 3) := by decide +kernel
theorem dL_law_575 : decode cL_law 575 = .ok (.if_icmp .eq 350, 3) := by decide +kernel
theorem dL_law_578 : decode cL_law 578 = .ok (.iconst 0, 1) := by decide +kernel
theorem dL_law_579 : decode cL_law 579 = .ok (.ireturn, 1) := by decide +kernel
theorem dL_law_580 : decode cL_law 580 = .ok (.aload_n 1, 1) := by decide +kernel
theorem dL_law_581 : decode cL_law 581 = .ok (.aload_n 0, 1) := by decide +kernel
theorem dL_law_582 : decode cL_law 582 = .ok (.iload_n 3, 1) := by decide +kernel
theorem dL_law_583 : decode cL_law 583 = .ok (.iconst 1, 1) := by decide +kernel
theorem dL_law_584 : decode cL_law 584 = .ok (.iadd, 1) := by decide +kernel
theorem dL_law_585 : decode cL_law 585 = .ok (.iaload, 1) := by decide +kernel
theorem dL_law_586 : decode cL_law 586 = .ok (.invokevirtual 80, 3) := by decide +kernel
theorem dL_law_589 : decode cL_law 589 = .ok (.aload_n 2, 1) := by decide +kernel
theorem dL_law_590 : decode cL_law 590 = .ok (.aload_n 0, 1) := by decide +kernel
theorem dL_law_591 : decode cL_law 591 = .ok (.iload_n 3, 1) := by decide +kernel
theorem dL_law_592 : decode cL_law 592 = .ok (.iconst 1, 1) := by decide +kernel
theorem dL_law_593 : decode cL_law 593 = .ok (.iadd, 1) := by decide +kernel
theorem dL_law_594 : decode cL_law 594 = .ok (.iaload, 1) := by decide +kernel
theorem dL_law_595 : decode cL_law 595 = .ok (.invokevirtual 83, 3) := by decide +kernel
theorem dL_law_598 : decode cL_law 598 = .ok (.if_icmp .eq 327, 3) := by decide +kernel
theorem dL_law_601 : decode cL_law 601 = .ok (.iconst 0, 1) := by decide +kernel
theorem dL_law_602 : decode cL_law 602 = .ok (.ireturn, 1) := by decide +kernel
theorem dL_law_603 : decode cL_law 603 = .ok (.aload_n 1, 1) := by decide +kernel
theorem dL_law_604 : decode cL_law 604 = .ok (.aload_n 0, 1) := by decide +kernel
theorem dL_law_605 : decode cL_law 605 = .ok (.iload_n 3, 1) := by decide +kernel
theorem dL_law_606 : decode cL_law 606 = .ok (.iconst 1, 1) := by decide +kernel
theorem dL_law_607 : decode cL_law 607 = .ok (.iadd, 1) := by decide +kernel
theorem dL_law_608 : decode cL_law 608 = .ok (.iaload, 1) := by decide +kernel
theorem dL_law_609 : decode cL_law 609 = .ok (.invokevirtual 84, 3) := by decide +kernel
theorem dL_law_612 : decode cL_law 612 = .ok (.aload_n 2, 1) := by decide +kernel
theorem dL_law_613 : decode cL_law 613 = .ok (.aload_n 0, 1) := by decide +kernel
theorem dL_law_614 : decode cL_law 614 = .ok (.iload_n 3, 1) := by decide +kernel
theorem dL_law_615 : decode cL_law 615 = .ok (.iconst 1, 1) := by decide +kernel
theorem dL_law_616 : decode cL_law 616 = .ok (.iadd, 1) := by decide +kernel
theorem dL_law_617 : decode cL_law 617 = .ok (.iaload, 1) := by decide +kernel
theorem dL_law_618 : decode cL_law 618 = .ok (.invokevirtual 87, 3) := by decide +kernel
theorem dL_law_621 : decode cL_law 621 = .ok (.if_icmp .eq 304, 3) := by decide +kernel
theorem dL_law_624 : decode cL_law 624 = .ok (.iconst 0, 1) := by decide +kernel
theorem dL_law_625 : decode cL_law 625 = .ok (.ireturn, 1) := by decide +kernel
theorem dL_law_626 : decode cL_law 626 = .ok (.aload_n 1, 1) := by decide +kernel
theorem dL_law_627 : decode cL_law 627 = .ok (.aload_n 0, 1) := by decide +kernel
theorem dL_law_628 : decode cL_law 628 = .ok (.iload_n 3, 1) := by decide +kernel
theorem dL_law_629 : decode cL_law 629 = .ok (.iconst 1, 1) := by decide +kernel
theorem dL_law_630 : decode cL_law 630 = .ok (.iadd, 1) := by decide +kernel
theorem dL_law_631 : decode cL_law 631 = .ok (.iaload, 1) := by decide +kernel
theorem dL_law_632 : decode cL_law 632 = .ok (.aload_n 0, 1) := by decide +kernel
theorem dL_law_633 : decode cL_law 633 = .ok (.iload_n 3, 1) := by decide +kernel
theorem dL_law_634 : decode cL_law 634 = .ok (.iconst 2, 1) := by decide +kernel
theorem dL_law_635 : decode cL_law 635 = .ok (.iadd, 1) := by decide +kernel
theorem dL_law_636 : decode cL_law 636 = .ok (.iaload, 1) := by decide +kernel
theorem dL_law_637 : decode cL_law 637 = .ok (.invokevirtual 88, 3) := by decide +kernel
theorem dL_law_640 : decode cL_law 640 = .ok (.aload_n 2, 1) := by decide +kernel
theorem dL_law_641 : decode cL_law 641 = .ok (.aload_n 0, 1) := by decide +kernel
theorem dL_law_642 : decode cL_law 642 = .ok (.iload_n 3, 1) := by decide +kernel
theorem dL_law_643 : decode cL_law 643 = .ok (.iconst 1, 1) := by decide +kernel
theorem dL_law_644 : decode cL_law 644 = .ok (.iadd, 1) := by decide +kernel
theorem dL_law_645 : decode cL_law 645 = .ok (.iaload, 1) := by decide +kernel
theorem dL_law_646 : decode cL_law 646 = .ok (.aload_n 0, 1) := by decide +kernel
theorem dL_law_647 : decode cL_law 647 = .ok (.iload_n 3, 1) := by decide +kernel
theorem dL_law_648 : decode cL_law 648 = .ok (.iconst 2, 1) := by decide +kernel
theorem dL_law_649 : decode cL_law 649 = .ok (.iadd, 1) := by decide +kernel
theorem dL_law_650 : decode cL_law 650 = .ok (.iaload, 1) := by decide +kernel
theorem dL_law_651 : decode cL_law 651 = .ok (.invokevirtual 91, 3) := by decide +kernel
theorem dL_law_654 : decode cL_law 654 = .ok (.if_icmp .eq 271, 3) := by decide +kernel
theorem dL_law_657 : decode cL_law 657 = .ok (.iconst 0, 1) := by decide +kernel
theorem dL_law_658 : decode cL_law 658 = .ok (.ireturn, 1) := by decide +kernel
theorem dL_law_659 : decode cL_law 659 = .ok (.aload_n 1, 1) := by decide +kernel
theorem dL_law_660 : decode cL_law 660 = .ok (.invokevirtual 92, 3) := by decide +kernel
theorem dL_law_663 : decode cL_law 663 = .ok (.aload_n 2, 1) := by decide +kernel
theorem dL_law_664 : decode cL_law 664 = .ok (.invokevirtual 95, 3) := by decide +kernel
theorem dL_law_667 : decode cL_law 667 = .ok (.if_icmp .eq 258, 3) := by decide +kernel
theorem dL_law_670 : decode cL_law 670 = .ok (.iconst 0, 1) := by decide +kernel
theorem dL_law_671 : decode cL_law 671 = .ok (.ireturn, 1) := by decide +kernel
theorem dL_law_672 : decode cL_law 672 = .ok (.aload_n 1, 1) := by decide +kernel
theorem dL_law_673 : decode cL_law 673 = .ok (.aload_n 0, 1) := by decide +kernel
theorem dL_law_674 : decode cL_law 674 = .ok (.iload_n 3, 1) := by decide +kernel
theorem dL_law_675 : decode cL_law 675 = .ok (.iconst 1, 1) := by decide +kernel
theorem dL_law_676 : decode cL_law 676 = .ok (.iadd, 1) := by decide +kernel
theorem dL_law_677 : decode cL_law 677 = .ok (.iaload, 1) := by decide +kernel
theorem dL_law_678 : decode cL_law 678 = .ok (.aload_n 0, 1) := by decide +kernel
theorem dL_law_679 : decode cL_law 679 = .ok (.iload_n 3, 1) := by decide +kernel
theorem dL_law_680 : decode cL_law 680 = .ok (.iconst 2, 1) := by decide +kernel
theorem dL_law_681 : decode cL_law 681 = .ok (.iadd, 1) := by decide +kernel
theorem dL_law_682 : decode cL_law 682 = .ok (.iaload, 1) := by decide +kernel
theorem dL_law_683 : decode cL_law 683 = .ok (.invokevirtual 96, 3) := by decide +kernel
theorem dL_law_686 : decode cL_law 686 = .ok (.aload_n 2, 1) := by decide +kernel
theorem dL_law_687 : decode cL_law 687 = .ok (.aload_n 0, 1) := by decide +kernel
theorem dL_law_688 : decode cL_law 688 = .ok (.iload_n 3, 1) := by decide +kernel
theorem dL_law_689 : decode cL_law 689 = .ok (.iconst 1, 1) := by decide +kernel
theorem dL_law_690 : decode cL_law 690 = .ok (.iadd, 1) := by decide +kernel
theorem dL_law_691 : decode cL_law 691 = .ok (.iaload, 1) := by decide +kernel
theorem dL_law_692 : decode cL_law 692 = .ok (.aload_n 0, 1) := by decide +kernel
theorem dL_law_693 : decode cL_law 693 = .ok (.iload_n 3, 1) := by decide +kernel
theorem dL_law_694 : decode cL_law 694 = .ok (.iconst 2, 1) := by decide +kernel
theorem dL_law_695 : decode cL_law 695 = .ok (.iadd, 1) := by decide +kernel
theorem dL_law_696 : decode cL_law 696 = .ok (.iaload, 1) := by decide +kernel
theorem dL_law_697 : decode cL_law 697 = .ok (.invokevirtual 99, 3) := by decide +kernel
theorem dL_law_700 : decode cL_law 700 = .ok (.if_icmp .eq 225, 3) := by decide +kernel
theorem dL_law_703 : decode cL_law 703 = .ok (.iconst 0, 1) := by decide +kernel
theorem dL_law_704 : decode cL_law 704 = .ok (.ireturn, 1) := by decide +kernel
theorem dL_law_705 : decode cL_law 705 = .ok (.aload_n 1, 1) := by decide +kernel
theorem dL_law_706 : decode cL_law 706 = .ok (.invokevirtual 100, 3) := by decide +kernel
theorem dL_law_709 : decode cL_law 709 = .ok (.aload_n 2, 1) := by decide +kernel
theorem dL_law_710 : decode cL_law 710 = .ok (.invokevirtual 103, 3) := by decide +kernel
theorem dL_law_713 : decode cL_law 713 = .ok (.if_icmp .eq 212, 3) := by decide +kernel
theorem dL_law_716 : decode cL_law 716 = .ok (.iconst 0, 1) := by decide +kernel
theorem dL_law_717 : decode cL_law 717 = .ok (.ireturn, 1) := by decide +kernel
theorem dL_law_718 : decode cL_law 718 = .ok (.aload_n 1, 1) := by decide +kernel
theorem dL_law_719 : decode cL_law 719 = .ok (.invokevirtual 104, 3) := by decide +kernel
theorem dL_law_722 : decode cL_law 722 = .ok (.aload_n 2, 1) := by decide +kernel
theorem dL_law_723 : decode cL_law 723 = .ok (.invokevirtual 107, 3) := by decide +kernel
theorem dL_law_726 : decode cL_law 726 = .ok (.if_icmp .eq 199, 3) := by decide +kernel
theorem dL_law_729 : decode cL_law 729 = .ok (.iconst 0, 1) := by decide +kernel
theorem dL_law_730 : decode cL_law 730 = .ok (.ireturn, 1) := by decide +kernel
theorem dL_law_731 : decode cL_law 731 = .ok (.aload_n 1, 1) := by decide +kernel
theorem dL_law_732 : decode cL_law 732 = .ok (.aload_n 0, 1) := by decide +kernel
theorem dL_law_733 : decode cL_law 733 = .ok (.iload_n 3, 1) := by decide +kernel
theorem dL_law_734 : decode cL_law 734 = .ok (.iconst 1, 1) := by decide +kernel
theorem dL_law_735 : decode cL_law 735 = .ok (.iadd, 1) := by decide +kernel
theorem dL_law_736 : decode cL_law 736 = .ok (.iaload, 1) := by decide +kernel
theorem dL_law_737 : decode cL_law 737 = .ok (.invokevirtual 108, 3) := by decide +kernel
theorem dL_law_740 : decode cL_law 740 = .ok (.aload_n 2, 1) := by decide +kernel
theorem dL_law_741 : decode cL_law 741 = .ok (.aload_n 0, 1) := by decide +kernel
theorem dL_law_742 : decode cL_law 742 = .ok (.iload_n 3, 1) := by decide +kernel
theorem dL_law_743 : decode cL_law 743 = .ok (.iconst 1, 1) := by decide +kernel
theorem dL_law_744 : decode cL_law 744 = .ok (.iadd, 1) := by decide +kernel
theorem dL_law_745 : decode cL_law 745 = .ok (.iaload, 1) := by decide +kernel
theorem dL_law_746 : decode cL_law 746 = .ok (.invokevirtual 111, 3) := by decide +kernel
theorem dL_law_749 : decode cL_law 749 = .ok (.if_icmp .eq 176, 3) := by decide +kernel
theorem dL_law_752 : decode cL_law 752 = .ok (.iconst 0, 1) := by decide +kernel
theorem dL_law_753 : decode cL_law 753 = .ok (.ireturn, 1) := by decide +kernel
theorem dL_law_754 : decode cL_law 754 = .ok (.aload_n 1, 1) := by decide +kernel
theorem dL_law_755 : decode cL_law 755 = .ok (.aload_n 0, 1) := by decide +kernel
theorem dL_law_756 : decode cL_law 756 = .ok (.iload_n 3, 1) := by decide +kernel
theorem dL_law_757 : decode cL_law 757 = .ok (.iconst 1, 1) := by decide +kernel
theorem dL_law_758 : decode cL_law 758 = .ok (.iadd, 1) := by decide +kernel
theorem dL_law_759 : decode cL_law 759 = .ok (.iaload, 1) := by decide +kernel
theorem dL_law_760 : decode cL_law 760 = .ok (.invokevirtual 112, 3) := by decide +kernel
theorem dL_law_763 : decode cL_law 763 = .ok (.aload_n 2, 1) := by decide +kernel
theorem dL_law_764 : decode cL_law 764 = .ok (.aload_n 0, 1) := by decide +kernel
theorem dL_law_765 : decode cL_law 765 = .ok (.iload_n 3, 1) := by decide +kernel
theorem dL_law_766 : decode cL_law 766 = .ok (.iconst 1, 1) := by decide +kernel
theorem dL_law_767 : decode cL_law 767 = .ok (.iadd, 1) := by decide +kernel
theorem dL_law_768 : decode cL_law 768 = .ok (.iaload, 1) := by decide +kernel
theorem dL_law_769 : decode cL_law 769 = .ok (.invokevirtual 115, 3) := by decide +kernel
theorem dL_law_772 : decode cL_law 772 = .ok (.if_icmp .eq 153, 3) := by decide +kernel
theorem dL_law_775 : decode cL_law 775 = .ok (.iconst 0, 1) := by decide +kernel
theorem dL_law_776 : decode cL_law 776 = .ok (.ireturn, 1) := by decide +kernel
theorem dL_law_777 : decode cL_law 777 = .ok (.aload_n 1, 1) := by decide +kernel
theorem dL_law_778 : decode cL_law 778 = .ok (.aload_n 0, 1) := by decide +kernel
theorem dL_law_779 : decode cL_law 779 = .ok (.iload_n 3, 1) := by decide +kernel
theorem dL_law_780 : decode cL_law 780 = .ok (.iconst 1, 1) := by decide +kernel
theorem dL_law_781 : decode cL_law 781 = .ok (.iadd, 1) := by decide +kernel
theorem dL_law_782 : decode cL_law 782 = .ok (.iaload, 1) := by decide +kernel
theorem dL_law_783 : decode cL_law 783 = .ok (.invokevirtual 116, 3) := by decide +kernel
theorem dL_law_786 : decode cL_law 786 = .ok (.aload_n 2, 1) := by decide +kernel
theorem dL_law_787 : decode cL_law 787 = .ok (.aload_n 0, 1) := by decide +kernel
theorem dL_law_788 : decode cL_law 788 = .ok (.iload_n 3, 1) := by decide +kernel
theorem dL_law_789 : decode cL_law 789 = .ok (.iconst 1, 1) := by decide +kernel
theorem dL_law_790 : decode cL_law 790 = .ok (.iadd, 1) := by decide +kernel
theorem dL_law_791 : decode cL_law 791 = .ok (.iaload, 1) := by decide +kernel
theorem dL_law_792 : decode cL_law 792 = .ok (.invokevirtual 119, 3) := by decide +kernel
theorem dL_law_795 : decode cL_law 795 = .ok (.if_icmp .eq 130, 3) := by decide +kernel
theorem dL_law_798 : decode cL_law 798 = .ok (.iconst 0, 1) := by decide +kernel
theorem dL_law_799 : decode cL_law 799 = .ok (.ireturn, 1) := by decide +kernel
theorem dL_law_800 : decode cL_law 800 = .ok (.aload_n 1, 1) := by decide +kernel
theorem dL_law_801 : decode cL_law 801 = .ok (.aload_n 0, 1) := by decide +kernel
theorem dL_law_802 : decode cL_law 802 = .ok (.iload_n 3, 1) := by decide +kernel
theorem dL_law_803 : decode cL_law 803 = .ok (.iconst 1, 1) := by decide +kernel
theorem dL_law_804 : decode cL_law 804 = .ok (.iadd, 1) := by decide +kernel
theorem dL_law_805 : decode cL_law 805 = .ok (.iaload, 1) := by decide +kernel
theorem dL_law_806 : decode cL_law 806 = .ok (.aload_n 0, 1) := by decide +kernel
theorem dL_law_807 : decode cL_law 807 = .ok (.iload_n 3, 1) := by decide +kernel
theorem dL_law_808 : decode cL_law 808 = .ok (.iconst 2, 1) := by decide +kernel
theorem dL_law_809 : decode cL_law 809 = .ok (.iadd, 1) := by decide +kernel
theorem dL_law_810 : decode cL_law 810 = .ok (.iaload, 1) := by decide +kernel
theorem dL_law_811 : decode cL_law 811 = .ok (.invokevirtual 120, 3) := by decide +kernel
theorem dL_law_814 : decode cL_law 814 = .ok (.aload_n 2, 1) := by decide +kernel
theorem dL_law_815 : decode cL_law 815 = .ok (.aload_n 0, 1) := by decide +kernel
theorem dL_law_816 : decode cL_law 816 = .ok (.iload_n 3, 1) := by decide +kernel
theorem dL_law_817 : decode cL_law 817 = .ok (.iconst 1, 1) := by decide +kernel
theorem dL_law_818 : decode cL_law 818 = .ok (.iadd, 1) := by decide +kernel
theorem dL_law_819 : decode cL_law 819 = .ok (.iaload, 1) := by decide +kernel
theorem dL_law_820 : decode cL_law 820 = .ok (.aload_n 0, 1) := by decide +kernel
theorem dL_law_821 : decode cL_law 821 = .ok (.iload_n 3, 1) := by decide +kernel
theorem dL_law_822 : decode cL_law 822 = .ok (.iconst 2, 1) := by decide +kernel
theorem dL_law_823 : decode cL_law 823 = .ok (.iadd, 1) := by decide +kernel
theorem dL_law_824 : decode cL_law 824 = .ok (.iaload, 1) := by decide +kernel
theorem dL_law_825 : decode cL_law 825 = .ok (.invokevirtual 123, 3) := by decide +kernel
theorem dL_law_828 : decode cL_law 828 = .ok (.if_icmp .eq 97, 3) := by decide +kernel
theorem dL_law_831 : decode cL_law 831 = .ok (.iconst 0, 1) := by decide +kernel
theorem dL_law_832 : decode cL_law 832 = .ok (.ireturn, 1) := by decide +kernel
theorem dL_law_833 : decode cL_law 833 = .ok (.aload_n 1, 1) := by decide +kernel
theorem dL_law_834 : decode cL_law 834 = .ok (.aload_n 0, 1) := by decide +kernel
theorem dL_law_835 : decode cL_law 835 = .ok (.iload_n 3, 1) := by decide +kernel
theorem dL_law_836 : decode cL_law 836 = .ok (.iconst 1, 1) := by decide +kernel
theorem dL_law_837 : decode cL_law 837 = .ok (.iadd, 1) := by decide +kernel
theorem dL_law_838 : decode cL_law 838 = .ok (.iaload, 1) := by decide +kernel
theorem dL_law_839 : decode cL_law 839 = .ok (.aload_n 0, 1) := by decide +kernel
theorem dL_law_840 : decode cL_law 840 = .ok (.iload_n 3, 1) := by decide +kernel
theorem dL_law_841 : decode cL_law 841 = .ok (.iconst 2, 1) := by decide +kernel
theorem dL_law_842 : decode cL_law 842 = .ok (.iadd, 1) := by decide +kernel
theorem dL_law_843 : decode cL_law 843 = .ok (.iaload, 1) := by decide +kernel
theorem dL_law_844 : decode cL_law 844 = .ok (.aload_n 0, 1) := by decide +kernel
theorem dL_law_845 : decode cL_law 845 = .ok (.iload_n 3, 1) := by decide +kernel
theorem dL_law_846 : decode cL_law 846 = .ok (.iconst 3, 1) := by decide +kernel
theorem dL_law_847 : decode cL_law 847 = .ok (.iadd, 1) := by decide +kernel
theorem dL_law_848 : decode cL_law 848 = .ok (.iaload, 1) := by decide +kernel
theorem dL_law_849 : decode cL_law 849 = .ok (.invokevirtual 124, 3) := by decide +kernel
theorem dL_law_852 : decode cL_law 852 = .ok (.aload_n 2, 1) := by decide +kernel
theorem dL_law_853 : decode cL_law 853 = .ok (.aload_n 0, 1) := by decide +kernel
theorem dL_law_854 : decode cL_law 854 = .ok (.iload_n 3, 1) := by decide +kernel
theorem dL_law_855 : decode cL_law 855 = .ok (.iconst 1, 1) := by decide +kernel
theorem dL_law_856 : decode cL_law 856 = .ok (.iadd, 1) := by decide +kernel
theorem dL_law_857 : decode cL_law 857 = .ok (.iaload, 1) := by decide +kernel
theorem dL_law_858 : decode cL_law 858 = .ok (.aload_n 0, 1) := by decide +kernel
theorem dL_law_859 : decode cL_law 859 = .ok (.iload_n 3, 1) := by decide +kernel
theorem dL_law_860 : decode cL_law 860 = .ok (.iconst 2, 1) := by decide +kernel
theorem dL_law_861 : decode cL_law 861 = .ok (.iadd, 1) := by decide +kernel
theorem dL_law_862 : decode cL_law 862 = .ok (.iaload, 1) := by decide +kernel
theorem dL_law_863 : decode cL_law 863 = .ok (.aload_n 0, 1) := by decide +kernel
theorem dL_law_864 : decode cL_law 864 = .ok (.iload_n 3, 1) := by decide +kernel
theorem dL_law_865 : decode cL_law 865 = .ok (.iconst 3, 1) := by decide +kernel
theorem dL_law_866 : decode cL_law 866 = .ok (.iadd, 1) := by decide +kernel
theorem dL_law_867 : decode cL_law 867 = .ok (.iaload, 1) := by decide +kernel
theorem dL_law_868 : decode cL_law 868 = .ok (.invokevirtual 128, 3) := by decide +kernel
theorem dL_law_871 : decode cL_law 871 = .ok (.if_icmp .eq 54, 3) := by decide +kernel
theorem dL_law_874 : decode cL_law 874 = .ok (.iconst 0, 1) := by decide +kernel
theorem dL_law_875 : decode cL_law 875 = .ok (.ireturn, 1) := by decide +kernel
theorem dL_law_876 : decode cL_law 876 = .ok (.aload_n 1, 1) := by decide +kernel
theorem dL_law_877 : decode cL_law 877 = .ok (.invokevirtual 129, 3) := by decide +kernel
theorem dL_law_880 : decode cL_law 880 = .ok (.aload_n 2, 1) := by decide +kernel
theorem dL_law_881 : decode cL_law 881 = .ok (.invokevirtual 132, 3) := by decide +kernel
theorem dL_law_884 : decode cL_law 884 = .ok (.if_icmp .eq 41, 3) := by decide +kernel
theorem dL_law_887 : decode cL_law 887 = .ok (.iconst 0, 1) := by decide +kernel
theorem dL_law_888 : decode cL_law 888 = .ok (.ireturn, 1) := by decide +kernel
theorem dL_law_889 : decode cL_law 889 = .ok (.aload_n 1, 1) := by decide +kernel
theorem dL_law_890 : decode cL_law 890 = .ok (.invokevirtual 133, 3) := by decide +kernel
theorem dL_law_893 : decode cL_law 893 = .ok (.aload_n 2, 1) := by decide +kernel
theorem dL_law_894 : decode cL_law 894 = .ok (.invokevirtual 136, 3) := by decide +kernel
theorem dL_law_897 : decode cL_law 897 = .ok (.if_icmp .eq 28, 3) := by decide +kernel
theorem dL_law_900 : decode cL_law 900 = .ok (.iconst 0, 1) := by decide +kernel
theorem dL_law_901 : decode cL_law 901 = .ok (.ireturn, 1) := by decide +kernel
theorem dL_law_902 : decode cL_law 902 = .ok (.aload_n 1, 1) := by decide +kernel
theorem dL_law_903 : decode cL_law 903 = .ok (.aload_n 0, 1) := by decide +kernel
theorem dL_law_904 : decode cL_law 904 = .ok (.iload_n 3, 1) := by decide +kernel
theorem dL_law_905 : decode cL_law 905 = .ok (.iconst 1, 1) := by decide +kernel
theorem dL_law_906 : decode cL_law 906 = .ok (.iadd, 1) := by decide +kernel
theorem dL_law_907 : decode cL_law 907 = .ok (.iaload, 1) := by decide +kernel
theorem dL_law_908 : decode cL_law 908 = .ok (.invokevirtual 137, 3) := by decide +kernel
theorem dL_law_911 : decode cL_law 911 = .ok (.aload_n 2, 1) := by decide +kernel
theorem dL_law_912 : decode cL_law 912 = .ok (.aload_n 0, 1) := by decide +kernel
theorem dL_law_913 : decode cL_law 913 = .ok (.iload_n 3, 1) := by decide +kernel
theorem dL_law_914 : decode cL_law 914 = .ok (.iconst 1, 1) := by decide +kernel
theorem dL_law_915 : decode cL_law 915 = .ok (.iadd, 1) := by decide +kernel
theorem dL_law_916 : decode cL_law 916 = .ok (.iaload, 1) := by decide +kernel
theorem dL_law_917 : decode cL_law 917 = .ok (.invokevirtual 140, 3) := by decide +kernel
theorem dL_law_920 : decode cL_law 920 = .ok (.if_icmp .eq 5, 3) := by decide +kernel
theorem dL_law_923 : decode cL_law 923 = .ok (.iconst 0, 1) := by decide +kernel
theorem dL_law_924 : decode cL_law 924 = .ok (.ireturn, 1) := by decide +kernel
theorem dL_law_925 : decode cL_law 925 = .ok (.iinc 3 4, 3) := by decide +kernel
theorem dL_law_928 : decode cL_law 928 = .ok (.goto (-910), 3) := by decide +kernel
theorem dL_law_931 : decode cL_law 931 = .ok (.iconst 1, 1) := by decide +kernel
theorem dL_law_932 : decode cL_law 932 = .ok (.ireturn, 1) := by decide +kernel
end
section
/-! BASE: the cells of the system by their places; scalars t (64 * place + slot), rows a (by place), references r (place, slot) -/
abbrev sT : Type := Nat → Int32
abbrev sA : Type := Nat → Nat → Int32
abbrev sR : Type := Nat → Nat → Option Nat
def layM (j : Nat) : Nat × Nat :=
  if j < 14 then [(0, 7), (1, 64), (1, 6), (1, 6), (1, 8), (1, 8), (1, 8), (1, 8), (1, 4), (1, 12), (1, 12), (1, 12), (1, 585), (2, 585)].getD j (0, 0)
  else if j < 599 then (1, 3) else [(1, 585), (1, 585), (1, 4), (1, 3)].getD (j - 599) (0, 0)
def layC : List (Nat × Nat) := [(0, 6), (0, 1), (1, 64), (0, 5), (1, 8), (1, 8), (1, 8), (1, 4), (0, 5), (1, 8), (1, 8), (1, 8), (1, 4), (0, 2), (1, 6), (0, 2), (1, 6), (0, 4), (1, 12), (0, 3), (1, 585), (1, 585), (1, 585), (1, 585), (1, 585), (1, 2560), (1, 585), (1, 256), (1, 25), (1, 25), (0, 3), (1, 585), (1, 585), (1, 585), (1, 585), (1, 585), (1, 2560), (1, 585), (1, 256), (1, 25), (1, 25), (0, 0), (0, 5), (1, 8), (1, 8), (1, 8), (1, 4), (0, 4), (1, 12), (1, 7)]
/-- a place's kind: (0, class), (1, how many ints), (2, how many rows) -/
def lay (k : Nat) : Nat × Nat := if k < 50 then layC.getD k (0, 0) else layM ((k - 50) % 603)
def nf (ci : Nat) : Nat := [4, 2, 2, 18, 2, 8, 11, 36].getD ci 0
def refs (ci : Nat) : List Nat := [[0, 1], [0], [0], [0, 2, 3, 4, 5, 6, 7, 8, 9, 10, 11], [0], [0, 1, 2, 3], [0, 1, 2, 3, 4, 5, 6, 7, 8, 9], [0, 2, 4, 6, 8, 9, 10, 12, 16, 17, 18, 20, 22, 23, 24, 25, 26, 32, 35]].getD ci []
def isR (ci j : Nat) : Bool := (refs ci).elem j
theorem nf_le (ci : Nat) : nf ci ≤ 36 := by
  unfold nf
  rcases ci with _ | _ | _ | _ | _ | _ | _ | _ | ci <;> simp
/-- what the system's cells stand on: classes, the two array classes, the first address, the texts' addresses -/
abbrev Cx : Type := va_G × ClassId × ClassId × Nat × (Nat → Nat) × (Nat → Nat)
abbrev cD (x : Cx) : va_G := x.1
abbrev cI (x : Cx) : ClassId := x.2.1
abbrev cO (x : Cx) : ClassId := x.2.2.1
abbrev cz (x : Cx) : Nat := x.2.2.2.1
abbrev cAd (x : Cx) : Nat → Nat := x.2.2.2.2.1
abbrev cAv (x : Cx) : Nat → Nat := x.2.2.2.2.2
abbrev cA (x : Cx) : Nat → Prop := fun q => cz x ≤ q
def rfv (z : Nat) (o : Option Nat) : Value := va_rf (o.map (fun q => z + q))
def fval (z : Nat) (r : sR) (t : sT) (k ci j : Nat) : Value := if isR ci j then rfv z (r k j) else .int (t (64 * k + j))
def ceO (z : Nat) (r : sR) (t : sT) (k ci : Nat) : va_E := .inr (ci, (List.range (nf ci)).map (fval z r t k ci))
def ceI (x : Cx) (a : sA) (k n : Nat) : va_E := .inl (cI x, n, .inl (a k))
def ceR (x : Cx) (r : sR) (k n : Nat) : va_E := .inl (cO x, n, .inr (.inr (.inr (.inr (fun j => (r k j).map (fun q => cz x + q))))))
def ce (x : Cx) (r : sR) (t : sT) (a : sA) (k : Nat) : va_E :=
  if (lay k).1 = 0 then ceO (cz x) r t k (lay k).2 else if (lay k).1 = 1 then ceI x a k (lay k).2 else ceR x r k (lay k).2
def wl (x : Cx) (N : Nat) (r : sR) (t : sT) (a : sA) : va_W := (List.range N).map (fun k => (cz x + k, ce x r t a k))
theorem ce_0 {x : Cx} {r : sR} {t : sT} {a : sA} {k ci : Nat} (h : lay k = (0, ci)) : ce x r t a k = ceO (cz x) r t k ci := by simp [ce, h]
theorem ce_1 {x : Cx} {r : sR} {t : sT} {a : sA} {k n : Nat} (h : lay k = (1, n)) : ce x r t a k = ceI x a k n := by simp [ce, h]
theorem ce_2 {x : Cx} {r : sR} {t : sT} {a : sA} {k n : Nat} (h : lay k = (2, n)) : ce x r t a k = ceR x r k n := by simp [ce, h]
theorem rg_set {β : Type} (n k : Nat) (f g : Nat → β) (e : β) (hk : g k = e) (h : ∀ i, i < n → i ≠ k → g i = f i) : ((List.range n).map f).set k e = (List.range n).map g := by
  apply List.ext_getElem?
  intro i
  by_cases hi : i < n
  · by_cases hik : i = k
    · subst hik
      rw [List.getElem?_set_self (by simpa using hi)]
      simp [hi, hk]
    · rw [List.getElem?_set_ne (Ne.symm hik)]
      simp [hi, h i hi hik]
  · rw [List.getElem?_eq_none (by simp; omega), List.getElem?_eq_none (by simp; omega)]
theorem rg_get {β : Type} {n k : Nat} {f : Nat → β} (hk : k < n) : ((List.range n).map f)[k]? = some (f k) := by simp [hk]
theorem rg_app {β : Type} (n : Nat) (f : Nat → β) : (List.range n).map f ++ [f n] = (List.range (n + 1)).map f := by simp [List.range_succ]
theorem wl_get {x : Cx} {N : Nat} {r : sR} {t : sT} {a : sA} {k : Nat} (hk : k < N) : (wl x N r t a)[k]? = some (cz x + k, ce x r t a k) := rg_get hk
theorem wl_D {x : Cx} {N : Nat} {r : sR} {t : sT} {a : sA} : va_D (cA x) (wl x N r t a) := by
  have key : ∀ (i : Nat) (p : Nat × va_E), (wl x N r t a)[i]? = some p → p.1 = cz x + i := by
    intro i p h
    by_cases hi : i < N
    · rw [wl_get hi] at h
      cases h
      rfl
    · rw [List.getElem?_eq_none (by simp [wl]; omega)] at h
      cases h
  refine ⟨fun i j p q hp hq h => ?_, fun i p hp => ?_⟩
  · have h1 := key i p hp
    have h2 := key j q hq
    omega
  · rw [key i p hp]
    exact Nat.le_add_right _ _
/-- the heap holds the system's cells, N of them, from x's first address to its end -/
def Wo (x : Cx) (N : Nat) (r : sR) (t : sT) (a : sA) (H : Heap) : Prop := H.size = cz x + N ∧ va_P (cD x) vwCl (wl x N r t a) H
/-- .. and nothing else was written since H0 -/
def Wd (x : Cx) (N : Nat) (r : sR) (t : sT) (a : sA) (H0 H : Heap) (locs : List Loc) : Prop := Wo x N r t a H ∧ va_S (cA x) H0 H locs
theorem ceO_up {z : Nat} {r : sR} {t : sT} {k ci i j : Nat} {v : Int32} (hj : j < 64) (h : i ≠ k) : ceO z r (va_up t (64 * k + j) v) i ci = ceO z r t i ci := by
  unfold ceO
  congr 2
  apply List.map_congr_left
  intro q hq
  have hq : q < nf ci := by simpa using hq
  have := nf_le ci
  unfold fval va_up
  rw [if_neg (show ¬ 64 * i + q = 64 * k + j by omega)]
theorem wl_putI {x : Cx} {N : Nat} {r : sR} {t : sT} {a : sA} {k ci j : Nat} {v : Int32} (hk : k < N) (hl : lay k = (0, ci)) (hj : j < nf ci) (hr : isR ci j = false) :
    (wl x N r t a).set k (cz x + k, .inr (ci, ((List.range (nf ci)).map (fval (cz x) r t k ci)).set j (.int v))) = wl x N r (va_up t (64 * k + j) v) a := by
  have := nf_le ci
  unfold wl
  apply rg_set
  · rw [ce_0 hl]
    unfold ceO
    rw [rg_set (nf ci) j (fval (cz x) r t k ci) (fval (cz x) r (va_up t (64 * k + j) v) k ci)]
    · simp [fval, hr, va_up]
    · intro i hi hne
      unfold fval va_up
      rw [if_neg (show ¬ 64 * k + i = 64 * k + j by omega)]
  · intro i hi hne
    have : ce x r (va_up t (64 * k + j) v) a i = ce x r t a i := by
      unfold ce
      rw [ceO_up (by omega) hne]
    rw [this]
theorem wl_putR {x : Cx} {N : Nat} {r : sR} {t : sT} {a : sA} {k ci j : Nat} {v : Option Nat} (hk : k < N) (hl : lay k = (0, ci)) (hj : j < nf ci) (hr : isR ci j = true) :
    (wl x N r t a).set k (cz x + k, .inr (ci, ((List.range (nf ci)).map (fval (cz x) r t k ci)).set j (rfv (cz x) v))) = wl x N (va_up r k (va_up (r k) j v)) t a := by
  unfold wl
  apply rg_set
  · rw [ce_0 hl]
    unfold ceO
    rw [rg_set (nf ci) j (fval (cz x) r t k ci) (fval (cz x) (va_up r k (va_up (r k) j v)) t k ci)]
    · simp [fval, hr, va_up]
    · intro i hi hne
      simp [fval, va_up, hne]
  · intro i hi hne
    have : ce x (va_up r k (va_up (r k) j v)) t a i = ce x r t a i := by
      unfold ce ceO ceR fval va_up
      simp only [if_neg hne]
    rw [this]
theorem wl_putA {x : Cx} {N : Nat} {r : sR} {t : sT} {a : sA} {k n : Nat} {f : Nat → Int32} (hk : k < N) (hl : lay k = (1, n)) :
    (wl x N r t a).set k (cz x + k, .inl (cI x, n, .inl f)) = wl x N r t (va_up a k f) := by
  unfold wl
  apply rg_set
  · rw [ce_1 hl]
    simp [ceI, va_up]
  · intro i hi hne
    have : ce x r t (va_up a k f) i = ce x r t a i := by
      unfold ce ceI va_up
      simp only [if_neg hne]
    rw [this]
/-! words of the tables -/
def gw : Cond → Bool
  | .methodLinkNest _ _ _ _ => true
  | w => goodWord w
def lw_t : List Cond := lw_tbl.filter gw
theorem lw_in {w : Cond} (h : w ∈ lw_tbl) (hg : gw w = true) : w ∈ lw_t := List.mem_filter.mpr ⟨h, hg⟩
theorem gw_move {w : Cond} (hg : gw w = true) {args a' : Array Value} {s U : State} (hW : s.WarmedH U.vm) (h : w.before args s = true) : w.before a' U = true := by
  cases w with
  | methodLinkNest a i y o => exact va_Nw.use rfl (va_Nw.warmM hW (va_Nw.of rfl h))
  | _ => exact word_at hW (good_of_word hg) h
theorem lw_move {args a' : Array Value} {s U : State} (hW : s.WarmedH U.vm) (h : ∀ w ∈ lw_t, w.before args s = true) : ∀ w ∈ lw_t, w.before a' U = true :=
  fun w hw => gw_move (List.mem_filter.mp hw).2 hW (h w hw)
def strL : List Nat := [5, 4, 2, 1, 2, 0]
/-- what the tables say, at a state -/
def Kb (x : Cx) (U : State) : Prop := (∀ w ∈ lw_t, w.before #[] U = true) ∧ va_K (cD x) vwCl [(cI x, .int), (cO x, .array .int)] U
theorem Kb.move {x : Cx} {s U : State} (hW : s.WarmedH U.vm) (h : Kb x s) : Kb x U := ⟨lw_move hW h.1, va_K.moved hW.alike h.2⟩
theorem Kb.w {x : Cx} {s : State} (h : Kb x s) (args : Array Value) : ∀ w ∈ lw_t, w.before args s = true := lw_move (State.WarmedH.refl s) h.1
theorem Kb.calling {x : Cx} {U : State} {g : JFrame} {mk : MethodId} {a : Array Value} (h : Kb x U) : Kb x (U.calling g mk a) := Kb.move (U := U.calling g mk a) (State.WarmedH.refl U) h
/-- a class of ours, as the tables have it -/
def clO (ci : Nat) (C : String) (T : u_T) (n : Nat) (ty : Nat → FieldType) : Prop := vwCl[ci]? = some (C, T, n) ∧ nf ci = n ∧ (∀ w ∈ u_ws C T n, w ∈ lw_t) ∧ (∀ k, k < n → parseFieldDescriptor (T k).2.2.1 = some (ty k)) ∧ (∀ a, a < n → ∀ b, b < n → a ≠ b → (T a).2.1 ≠ (T b).2.1) ∧ ∀ k, k < n → (T k).1 = C
end
section
/-! ROWS: the judgement J, and a row an instruction -/
def strB : List (List Int32) := [[59], [48, 44, 48, 59], [48, 59], [107, 59], [], [104, 111, 98, 103, 102]]
def strN : List Nat := [1, 4, 2, 2, 0, 5]
/-- the texts: ";" "0,0;" "0;" "k;" "" "hobgf" -/
def Ks (x : Cx) (U : State) (H : Heap) : Prop := vk_S 6 strN strB (cAd x) (cAv x) (cA x) U H ∧ va_Z "java/lang/String" "COMPACT_STRINGS" "Z" (.int 1) (cA x) U H ∧ va_Zq "jdk/internal/util/Preconditions" "SIOOBE_FORMATTER" "Ljava/util/function/BiFunction;" (cA x) U H ∧ vk_R "AnswerShorter$Letters" 63 ";" (cAd x 0) U ∧ vk_R "AnswerShorter$Letters" 65 "0,0;" (cAd x 1) U ∧ vk_R "AnswerShorter$Letters" 67 "0;" (cAd x 2) U ∧ vk_R "AnswerShorter$Letters" 69 "k;" (cAd x 3) U ∧ vk_R "AnswerShorter$Letters" 71 "" (cAd x 4) U ∧ vk_R "AnswerShorter$Letters" 100 "hobgf" (cAd x 5) U
theorem Ks.move {x : Cx} {s U : State} {H H1 : Heap} (hW : s.WarmedH U.vm) (hq : ∀ q : Nat, q < H.size → ¬ cA x q → H1[q]? = H[q]?) (h : Ks x s H) : Ks x U H1 := by
  obtain ⟨h1, h2, h9, h3, h4, h5, h6, h7, h8⟩ := h
  exact ⟨(h1.moved hW.alike).kept hq, (h2.moved hW.alike).kept hq, (h9.moved hW.alike).kept hq, h3.warm hW, h4.warm hW, h5.warm hW, h6.warm hW, h7.warm hW, h8.warm hW⟩
/-- what a method's proof has at hand -/
def Fx (p : Program) (s : State) (m : MethodId) (meth : Method) (c : Code) (cc : ByteArray) (nL : Nat) (own : String) (ret : Option FieldType) (x : Cx) : Prop := p.tables.exec = Jvm.exec ∧ c.code = cc ∧ c.maxLocals = nL ∧ s.vm.findClass own = some m.cls ∧ meth.sig.returnType = ret ∧ meth.locks = false ∧ Kb x s ∧ Ks x s s.heap
def J (p : Program) (l : Launch) (e : Env) (R : Room) (s : State) (m : MethodId) (args : Array Value) (below : List Frame) (meth : Method) (c : Code) (x : Cx) (N : Nat) (r : sR) (nL cells slots : Nat) (Q : State → Prop) (pc : Nat) (lv : List (Nat × Value)) (st : List Value) (t : sT) (a : sA) : Prop :=
  ∀ (H : Heap) (locs : List Loc) (ls : Array Slot), Wd x N r t a s.heap H locs → lv_has ls nL lv → W p l e R s m args below meth c H locs cells slots Q (F0 m pc ls st)
def Pre (x : Cx) (N : Nat) (r : sR) (t : sT) (a : sA) (av : List Value) : Array Value → State → Prop := va_Pc av (fun U => Kb x U ∧ Ks x U U.heap ∧ Wo x N r t a U.heap)
def PostI (x : Cx) (N : Nat) (r : sR) (t : sT) (a : sA) (v : Int32) : Array Value → State → Outcome → State → Prop := va_Qi (fun q (_ : Unit) => q = v) (fun _ T => Wo x N r t a T.heap) (cA x)
def PostV (x : Cx) (N : Nat) (r : sR) (t : sT) (a : sA) : Array Value → State → Outcome → State → Prop := va_Qv (fun (_ : Unit) => True) (fun _ T => Wo x N r t a T.heap) (cA x)
theorem Pre.blind {x : Cx} {N : Nat} {r : sR} {t : sT} {a : sA} {av : List Value} : FrameBlind (Pre x N r t a av) := fun _ U g mk h => ⟨h.1, Kb.calling h.2.1, Ks.move (U := U.calling g mk _) (State.WarmedH.refl U) (fun _ _ _ => rfl) h.2.2.1, h.2.2.2⟩
theorem Pre.at {x : Cx} {N : Nat} {r : sR} {t : sT} {a : sA} {av : List Value} {s : State} {H : Heap} {locs : List Loc} (hK : Kb x s) (hS : Ks x s s.heap) (hW : Wd x N r t a s.heap H locs) (U : State) (hU : U.heap = H) (hw : s.WarmedH U.vm) : Pre x N r t a av av.toArray U :=
  ⟨rfl, hK.move hw, by rw [hU]; exact hS.move hw hW.2.2.1, by rw [hU]; exact hW.1⟩
/-- an index in its row; a divisor; a truth value; a call -/
def bnd {ρ : Type} (i : Int32) (n : Nat) (A : Option ρ) : Option ρ := if i < 0 ∨ n ≤ i.toNatClampNeg then none else A
def dvz {ρ : Type} (y : Int32) (A : Option ρ) : Option ρ := if y = 0 then none else A
def zok {ρ : Type} (v : Int32) (A : Option ρ) : Option ρ := if v = 0 ∨ v = 1 then A else none
abbrev Rs : Type := Option (Int32 × sT × sA)
def cal {ρ : Type} (o : Rs) (K : Int32 → sT → sA → Option ρ) : Option ρ := match o with
  | none => none
  | some q => K q.1 q.2.1 q.2.2
theorem bnd_some {ρ : Type} {i : Int32} {n : Nat} {A : Option ρ} {v9 : ρ} (h : bnd i n A = some v9) : vp_in i n ∧ A = some v9 := by
  unfold bnd at h
  split at h
  · cases h
  · exact ⟨by assumption, h⟩
theorem dvz_some {ρ : Type} {y : Int32} {A : Option ρ} {v9 : ρ} (h : dvz y A = some v9) : ¬ y = 0 ∧ A = some v9 := by
  unfold dvz at h
  split at h
  · cases h
  · exact ⟨by assumption, h⟩
theorem zok_some {ρ : Type} {v : Int32} {A : Option ρ} {v9 : ρ} (h : zok v A = some v9) : (v = 0 ∨ v = 1) ∧ A = some v9 := by
  unfold zok at h
  split at h
  · exact ⟨by assumption, h⟩
  · cases h
theorem cal_some {ρ : Type} {o : Rs} {K : Int32 → sT → sA → Option ρ} {v9 : ρ} (h : cal o K = some v9) : ∃ v t a, o = some (v, t, a) ∧ K v t a = some v9 := by
  unfold cal at h
  split at h
  · cases h
  · rename_i q
    exact ⟨q.1, q.2.1, q.2.2, rfl, h⟩
theorem lt653 {k N : Nat} (h : Nat.blt k 653 = true) (hN : 653 ≤ N) : k < N := by
  have : k < 653 := by simpa [Nat.blt_eq] using h
  omega
def mwV (y : MethodName) (bytes : ByteArray) (maxL : Nat) (ret : Option FieldType) : Prop := .code y bytes maxL ret ∈ lw_t ∧ .instanceMethod y ∈ lw_t ∧ .selects y.cls y y ∈ lw_t ∧ .initialized y.cls ∈ lw_t ∧ y.cls ≠ "java/lang/invoke/MethodHandle" ∧ y.cls ≠ "java/lang/invoke/VarHandle"
def mwS (y : MethodName) (bytes : ByteArray) (maxL : Nat) (ret : Option FieldType) : Prop := .code y bytes maxL ret ∈ lw_t ∧ .static y ∈ lw_t ∧ .initialized y.cls ∈ lw_t ∧ y.cls ≠ "java/lang/invoke/MethodHandle" ∧ y.cls ≠ "java/lang/invoke/VarHandle"
def mwI (y : MethodName) (bytes : ByteArray) (maxL : Nat) : Prop := .code y bytes maxL none ∈ lw_t ∧ .instanceMethod y ∈ lw_t ∧ .initialized y.cls ∈ lw_t ∧ y.cls ≠ "java/lang/invoke/MethodHandle" ∧ y.cls ≠ "java/lang/invoke/VarHandle" ∧ y.name = "<init>"
theorem ar_of {d : String} {n : Nat} (h : (parseMethodDescriptor d).map (fun d => d.parameters.length) = some n) : ∀ sig, parseMethodDescriptor d = some sig → n = sig.parameters.length := by
  intro sig hs
  rw [hs] at h
  exact (Option.some.inj h).symm
theorem va_A_self {x : Cx} {H0 H : Heap} {locs : List Loc} (hS : va_S (cA x) H0 H locs) : ∀ q, q < H.size → cA x q → cA x q := fun _ _ h => h
section JR
variable {p : Program} {l : Launch} {e : Env} {R : Room} {s : State} {m : MethodId} {args : Array Value} {below : List Frame} {meth : Method} {c : Code} {x : Cx} {N : Nat} {r : sR} {nL cells slots : Nat} {Q : State → Prop} {own : String} {cc : ByteArray} {ret : Option FieldType} {pc : Nat} {lv : List (Nat × Value)} {st : List Value} {t : sT} {a : sA} {ρ : Type} {A B : Option ρ} {v9 : ρ}
theorem J.eq {pc' : Nat} {lv' : List (Nat × Value)} {st' : List Value} {t' : sT} {a' : sA} (h1 : pc' = pc) (h2 : lv' = lv) (h3 : st' = st) (h4 : t' = t) (h5 : a' = a) (k : J p l e R s m args below meth c x N r nL cells slots Q pc' lv' st' t' a') : J p l e R s m args below meth c x N r nL cells slots Q pc lv st t a := by
  subst h1; subst h2; subst h3; subst h4; subst h5; exact k

theorem j_iconst (F : Fx p s m meth c cc nL own ret x) {n : Int} {v : Int32} (hd : decode cc pc = .ok (.iconst n, 1)) (hv : Int32.ofInt n = v) (kk : J p l e R s m args below meth c x N r nL cells slots Q (pc + 1) lv (.int v :: st) t a) : J p l e R s m args below meth c x N r nL cells slots Q pc lv (st) t a := fun H locs ls hW hl => lv_iconst F.1 F.2.1 hd hv (kk H locs ls hW hl)
theorem j_bipush (F : Fx p s m meth c cc nL own ret x) {n : Int} {v : Int32} (hd : decode cc pc = .ok (.bipush n, 2)) (hv : (Int8.ofInt n).toInt32 = v) (kk : J p l e R s m args below meth c x N r nL cells slots Q (pc + 2) lv (.int v :: st) t a) : J p l e R s m args below meth c x N r nL cells slots Q pc lv (st) t a := fun H locs ls hW hl => lv_bipush F.1 F.2.1 hd hv (kk H locs ls hW hl)
theorem j_sipush (F : Fx p s m meth c cc nL own ret x) {n : Int} {v : Int32} (hd : decode cc pc = .ok (.sipush n, 3)) (hv : (Int16.ofInt n).toInt32 = v) (kk : J p l e R s m args below meth c x N r nL cells slots Q (pc + 3) lv (.int v :: st) t a) : J p l e R s m args below meth c x N r nL cells slots Q pc lv (st) t a := fun H locs ls hW hl => lv_sipush F.1 F.2.1 hd hv (kk H locs ls hW hl)
theorem j_ldc (F : Fx p s m meth c cc nL own ret x) {i : Nat} {v : Int32} (hd : decode cc pc = .ok (.ldc i, 2)) (q : .constant own i v ∈ lw_t) (kk : J p l e R s m args below meth c x N r nL cells slots Q (pc + 2) lv (.int v :: st) t a) : J p l e R s m args below meth c x N r nL cells slots Q pc lv (st) t a := fun H locs ls hW hl => lv_ldc F.1 F.2.1 F.2.2.2.1 (F.2.2.2.2.2.2.1.w args _ q) hd (kk H locs ls hW hl)
theorem j_ldcw (F : Fx p s m meth c cc nL own ret x) {i : Nat} {v : Int32} (hd : decode cc pc = .ok (.ldc_w i, 3)) (q : .constant own i v ∈ lw_t) (kk : J p l e R s m args below meth c x N r nL cells slots Q (pc + 3) lv (.int v :: st) t a) : J p l e R s m args below meth c x N r nL cells slots Q pc lv (st) t a := fun H locs ls hW hl => lv_ldcw F.1 F.2.1 F.2.2.2.1 (F.2.2.2.2.2.2.1.w args _ q) hd (kk H locs ls hW hl)
theorem j_iload_n (F : Fx p s m meth c cc nL own ret x) {k : Fin 4} {i : Nat} {v : Int32} (q : Nat) (hd : decode cc pc = .ok (.iload_n k, 1)) (hi : (k : Nat) = i) (hq : lv[q]? = some (i, .int v)) (kk : J p l e R s m args below meth c x N r nL cells slots Q (pc + 1) lv (.int v :: st) t a) : J p l e R s m args below meth c x N r nL cells slots Q pc lv (st) t a := fun H locs ls hW hl => lv_iload_n F.1 F.2.1 hd hi (lv_at hl q hq) (kk H locs ls hW hl)
theorem j_iload (F : Fx p s m meth c cc nL own ret x) {i : Nat} {v : Int32} (q : Nat) (hd : decode cc pc = .ok (.iload i, 2)) (hq : lv[q]? = some (i, .int v)) (kk : J p l e R s m args below meth c x N r nL cells slots Q (pc + 2) lv (.int v :: st) t a) : J p l e R s m args below meth c x N r nL cells slots Q pc lv (st) t a := fun H locs ls hW hl => lv_iload F.1 F.2.1 hd (lv_at hl q hq) (kk H locs ls hW hl)
theorem j_aload_n (F : Fx p s m meth c cc nL own ret x) {k : Fin 4} {i : Nat} {v : Nat} (q : Nat) (hd : decode cc pc = .ok (.aload_n k, 1)) (hi : (k : Nat) = i) (hq : lv[q]? = some (i, .ref v)) (kk : J p l e R s m args below meth c x N r nL cells slots Q (pc + 1) lv (.ref v :: st) t a) : J p l e R s m args below meth c x N r nL cells slots Q pc lv (st) t a := fun H locs ls hW hl => lv_aload_n F.1 F.2.1 hd hi (lv_at hl q hq) (kk H locs ls hW hl)
theorem j_aload (F : Fx p s m meth c cc nL own ret x) {i : Nat} {v : Nat} (q : Nat) (hd : decode cc pc = .ok (.aload i, 2)) (hq : lv[q]? = some (i, .ref v)) (kk : J p l e R s m args below meth c x N r nL cells slots Q (pc + 2) lv (.ref v :: st) t a) : J p l e R s m args below meth c x N r nL cells slots Q pc lv (st) t a := fun H locs ls hW hl => lv_aload F.1 F.2.1 hd (lv_at hl q hq) (kk H locs ls hW hl)
theorem j_istore_n (F : Fx p s m meth c cc nL own ret x) {k : Fin 4} {i : Nat} {v : Int32} {lv' : List (Nat × Value)} (hd : decode cc pc = .ok (.istore_n k, 1)) (hi : (k : Nat) = i) (hn : i < nL) (hl' : (i, Value.int v) :: lv.filter (fun q => !(q.1 == i) && !(q.1 + 1 == i && q.2.category == 2)) = lv') (kk : J p l e R s m args below meth c x N r nL cells slots Q (pc + 1) lv' st t a) : J p l e R s m args below meth c x N r nL cells slots Q pc lv (.int v :: st) t a := fun H locs ls hW hl => lv_istore_n F.1 F.2.1 hd hi hl hn hl' (fun ls' hl2 => kk H locs ls' hW hl2)
theorem j_istore (F : Fx p s m meth c cc nL own ret x) {k : Fin 4} {i : Nat} {v : Int32} {lv' : List (Nat × Value)} (hd : decode cc pc = .ok (.istore i, 2)) (hn : i < nL) (hl' : (i, Value.int v) :: lv.filter (fun q => !(q.1 == i) && !(q.1 + 1 == i && q.2.category == 2)) = lv') (kk : J p l e R s m args below meth c x N r nL cells slots Q (pc + 2) lv' st t a) : J p l e R s m args below meth c x N r nL cells slots Q pc lv (.int v :: st) t a := fun H locs ls hW hl => lv_istore F.1 F.2.1 hd hl hn hl' (fun ls' hl2 => kk H locs ls' hW hl2)
theorem j_astore_n (F : Fx p s m meth c cc nL own ret x) {k : Fin 4} {i : Nat} {v : Nat} {lv' : List (Nat × Value)} (hd : decode cc pc = .ok (.astore_n k, 1)) (hi : (k : Nat) = i) (hn : i < nL) (hl' : (i, Value.ref v) :: lv.filter (fun q => !(q.1 == i) && !(q.1 + 1 == i && q.2.category == 2)) = lv') (kk : J p l e R s m args below meth c x N r nL cells slots Q (pc + 1) lv' st t a) : J p l e R s m args below meth c x N r nL cells slots Q pc lv (.ref v :: st) t a := fun H locs ls hW hl => lv_astore_n F.1 F.2.1 hd hi hl hn hl' (fun ls' hl2 => kk H locs ls' hW hl2)
theorem j_astore (F : Fx p s m meth c cc nL own ret x) {k : Fin 4} {i : Nat} {v : Nat} {lv' : List (Nat × Value)} (hd : decode cc pc = .ok (.astore i, 2)) (hn : i < nL) (hl' : (i, Value.ref v) :: lv.filter (fun q => !(q.1 == i) && !(q.1 + 1 == i && q.2.category == 2)) = lv') (kk : J p l e R s m args below meth c x N r nL cells slots Q (pc + 2) lv' st t a) : J p l e R s m args below meth c x N r nL cells slots Q pc lv (.ref v :: st) t a := fun H locs ls hW hl => lv_astore F.1 F.2.1 hd hl hn hl' (fun ls' hl2 => kk H locs ls' hW hl2)
theorem j_iinc (F : Fx p s m meth c cc nL own ret x) {i : Nat} {n : Int} {v y : Int32} {lv' : List (Nat × Value)} (hd : decode cc pc = .ok (.iinc i n, 3)) (q : Nat) (hq : lv[q]? = some (i, .int y)) (hv : y + Int32.ofInt n = v) (hn : i < nL) (hl' : (i, Value.int v) :: lv.filter (fun q => !(q.1 == i) && !(q.1 + 1 == i && q.2.category == 2)) = lv') (kk : J p l e R s m args below meth c x N r nL cells slots Q (pc + 3) lv' st t a) : J p l e R s m args below meth c x N r nL cells slots Q pc lv st t a := fun H locs ls hW hl => lv_iinc F.1 F.2.1 hd hl hq hv hn hl' (fun ls' hl2 => kk H locs ls' hW hl2)
theorem j_iadd (F : Fx p s m meth c cc nL own ret x) {u v : Int32} (hd : decode cc pc = .ok (.iadd, 1)) (kk : J p l e R s m args below meth c x N r nL cells slots Q (pc + 1) lv (.int (u + v) :: st) t a) : J p l e R s m args below meth c x N r nL cells slots Q pc lv (.int v :: .int u :: st) t a := fun H locs ls hW hl => lv_iadd F.1 F.2.1 hd (kk H locs ls hW hl)
theorem j_isub (F : Fx p s m meth c cc nL own ret x) {u v : Int32} (hd : decode cc pc = .ok (.isub, 1)) (kk : J p l e R s m args below meth c x N r nL cells slots Q (pc + 1) lv (.int (u - v) :: st) t a) : J p l e R s m args below meth c x N r nL cells slots Q pc lv (.int v :: .int u :: st) t a := fun H locs ls hW hl => lv_isub F.1 F.2.1 hd (kk H locs ls hW hl)
theorem j_imul (F : Fx p s m meth c cc nL own ret x) {u v : Int32} (hd : decode cc pc = .ok (.imul, 1)) (kk : J p l e R s m args below meth c x N r nL cells slots Q (pc + 1) lv (.int (u * v) :: st) t a) : J p l e R s m args below meth c x N r nL cells slots Q pc lv (.int v :: .int u :: st) t a := fun H locs ls hW hl => lv_imul F.1 F.2.1 hd (kk H locs ls hW hl)
theorem j_iand (F : Fx p s m meth c cc nL own ret x) {u v : Int32} (hd : decode cc pc = .ok (.iand, 1)) (kk : J p l e R s m args below meth c x N r nL cells slots Q (pc + 1) lv (.int (u &&& v) :: st) t a) : J p l e R s m args below meth c x N r nL cells slots Q pc lv (.int v :: .int u :: st) t a := fun H locs ls hW hl => lv_iand F.1 F.2.1 hd (kk H locs ls hW hl)
theorem j_ior (F : Fx p s m meth c cc nL own ret x) {u v : Int32} (hd : decode cc pc = .ok (.ior, 1)) (kk : J p l e R s m args below meth c x N r nL cells slots Q (pc + 1) lv (.int (u ||| v) :: st) t a) : J p l e R s m args below meth c x N r nL cells slots Q pc lv (.int v :: .int u :: st) t a := fun H locs ls hW hl => lv_ior F.1 F.2.1 hd (kk H locs ls hW hl)
theorem j_ixor (F : Fx p s m meth c cc nL own ret x) {u v : Int32} (hd : decode cc pc = .ok (.ixor, 1)) (kk : J p l e R s m args below meth c x N r nL cells slots Q (pc + 1) lv (.int (u ^^^ v) :: st) t a) : J p l e R s m args below meth c x N r nL cells slots Q pc lv (.int v :: .int u :: st) t a := fun H locs ls hW hl => lv_ixor F.1 F.2.1 hd (kk H locs ls hW hl)
theorem j_ishl (F : Fx p s m meth c cc nL own ret x) {u v : Int32} (hd : decode cc pc = .ok (.ishl, 1)) (kk : J p l e R s m args below meth c x N r nL cells slots Q (pc + 1) lv (.int (u <<< (v &&& 31)) :: st) t a) : J p l e R s m args below meth c x N r nL cells slots Q pc lv (.int v :: .int u :: st) t a := fun H locs ls hW hl => lv_ishl F.1 F.2.1 hd (kk H locs ls hW hl)
theorem j_ishr (F : Fx p s m meth c cc nL own ret x) {u v : Int32} (hd : decode cc pc = .ok (.ishr, 1)) (kk : J p l e R s m args below meth c x N r nL cells slots Q (pc + 1) lv (.int (u >>> (v &&& 31)) :: st) t a) : J p l e R s m args below meth c x N r nL cells slots Q pc lv (.int v :: .int u :: st) t a := fun H locs ls hW hl => lv_ishr F.1 F.2.1 hd (kk H locs ls hW hl)
theorem j_ineg (F : Fx p s m meth c cc nL own ret x) {v : Int32} (hd : decode cc pc = .ok (.ineg, 1)) (kk : J p l e R s m args below meth c x N r nL cells slots Q (pc + 1) lv (.int (-v) :: st) t a) : J p l e R s m args below meth c x N r nL cells slots Q pc lv (.int v :: st) t a := fun H locs ls hW hl => lv_ineg F.1 F.2.1 hd (kk H locs ls hW hl)
theorem j_i2c (F : Fx p s m meth c cc nL own ret x) {u v : Int32} (hd : decode cc pc = .ok (.i2c, 1)) (hv : (u.toUInt32 % 65536).toInt32 = v) (kk : J p l e R s m args below meth c x N r nL cells slots Q (pc + 1) lv (.int v :: st) t a) : J p l e R s m args below meth c x N r nL cells slots Q pc lv (.int u :: st) t a := fun H locs ls hW hl => lv_i2c F.1 F.2.1 hd hv (kk H locs ls hW hl)
theorem j_idiv (F : Fx p s m meth c cc nL own ret x) {u v : Int32} (hd : decode cc pc = .ok (.idiv, 1)) (h : dvz v A = some v9) (kk : A = some v9 → J p l e R s m args below meth c x N r nL cells slots Q (pc + 1) lv (.int (u / v) :: st) t a) : J p l e R s m args below meth c x N r nL cells slots Q pc lv (.int v :: .int u :: st) t a := fun H locs ls hW hl => lv_idiv F.1 F.2.1 hd (dvz_some h).1 (kk (dvz_some h).2 H locs ls hW hl)
theorem j_irem (F : Fx p s m meth c cc nL own ret x) {u v : Int32} (hd : decode cc pc = .ok (.irem, 1)) (h : dvz v A = some v9) (kk : A = some v9 → J p l e R s m args below meth c x N r nL cells slots Q (pc + 1) lv (.int (u - u / v * v) :: st) t a) : J p l e R s m args below meth c x N r nL cells slots Q pc lv (.int v :: .int u :: st) t a := fun H locs ls hW hl => lv_irem F.1 F.2.1 hd (dvz_some h).1 (kk (dvz_some h).2 H locs ls hW hl)
theorem j_dup (F : Fx p s m meth c cc nL own ret x) {va : Value} (hd : decode cc pc = .ok (.dup, 1)) (h1 : va.category = 1) (kk : J p l e R s m args below meth c x N r nL cells slots Q (pc + 1) lv (va :: va :: st) t a) : J p l e R s m args below meth c x N r nL cells slots Q pc lv (va :: st) t a := fun H locs ls hW hl => lv_dup F.1 F.2.1 hd h1 (kk H locs ls hW hl)
theorem j_pop (F : Fx p s m meth c cc nL own ret x) {va : Value} (hd : decode cc pc = .ok (.pop, 1)) (h1 : va.category = 1) (kk : J p l e R s m args below meth c x N r nL cells slots Q (pc + 1) lv (st) t a) : J p l e R s m args below meth c x N r nL cells slots Q pc lv (va :: st) t a := fun H locs ls hW hl => lv_pop F.1 F.2.1 hd h1 (kk H locs ls hW hl)
theorem j_dup_x1 (F : Fx p s m meth c cc nL own ret x) {va vb : Value} (hd : decode cc pc = .ok (.dup_x1, 1)) (h1 : va.category = 1) (h2 : vb.category = 1) (kk : J p l e R s m args below meth c x N r nL cells slots Q (pc + 1) lv (va :: vb :: va :: st) t a) : J p l e R s m args below meth c x N r nL cells slots Q pc lv (va :: vb :: st) t a := fun H locs ls hW hl => lv_dup_x1 F.1 F.2.1 hd h1 h2 (kk H locs ls hW hl)
theorem j_dup2 (F : Fx p s m meth c cc nL own ret x) {va vb : Value} (hd : decode cc pc = .ok (.dup2, 1)) (h1 : va.category = 1) (h2 : vb.category = 1) (kk : J p l e R s m args below meth c x N r nL cells slots Q (pc + 1) lv (va :: vb :: va :: vb :: st) t a) : J p l e R s m args below meth c x N r nL cells slots Q pc lv (va :: vb :: st) t a := fun H locs ls hW hl => lv_dup2_11 F.1 F.2.1 hd h1 h2 (kk H locs ls hW hl)
theorem j_goto (F : Fx p s m meth c cc nL own ret x) {off : Int} (tgt : Nat) (hd : decode cc pc = .ok (.goto off, 3)) (ht : (pc : Int) + off = (tgt : Int)) (kk : J p l e R s m args below meth c x N r nL cells slots Q tgt lv st t a) : J p l e R s m args below meth c x N r nL cells slots Q pc lv st t a := fun H locs ls hW hl => lv_goto F.1 F.2.1 hd ht (kk H locs ls hW hl)
theorem j_if_eq (F : Fx p s m meth c cc nL own ret x) {u : Int32} {off : Int} (tgt : Nat) (hd : decode cc pc = .ok (.ifCond .eq off, 3)) (ht : (pc : Int) + off = (tgt : Int)) (h : (if u = 0 then A else B) = some v9) (kt : A = some v9 → J p l e R s m args below meth c x N r nL cells slots Q tgt lv st t a) (kf : B = some v9 → J p l e R s m args below meth c x N r nL cells slots Q (pc + 3) lv st t a) : J p l e R s m args below meth c x N r nL cells slots Q pc lv (.int u :: st) t a := fun H locs ls hW hl => lv_if_eq F.1 F.2.1 hd ht (fun q => kt ((if_pos q).symm.trans h) H locs ls hW hl) (fun q => kf ((if_neg q).symm.trans h) H locs ls hW hl)
theorem j_if_ne (F : Fx p s m meth c cc nL own ret x) {u : Int32} {off : Int} (tgt : Nat) (hd : decode cc pc = .ok (.ifCond .ne off, 3)) (ht : (pc : Int) + off = (tgt : Int)) (h : (if u = 0 then A else B) = some v9) (kf : A = some v9 → J p l e R s m args below meth c x N r nL cells slots Q (pc + 3) lv st t a) (kt : B = some v9 → J p l e R s m args below meth c x N r nL cells slots Q tgt lv st t a) : J p l e R s m args below meth c x N r nL cells slots Q pc lv (.int u :: st) t a := fun H locs ls hW hl => lv_if_ne F.1 F.2.1 hd ht (fun q => kt ((if_neg q).symm.trans h) H locs ls hW hl) (fun q => kf ((if_pos q).symm.trans h) H locs ls hW hl)
theorem j_if_lt (F : Fx p s m meth c cc nL own ret x) {u : Int32} {off : Int} (tgt : Nat) (hd : decode cc pc = .ok (.ifCond .lt off, 3)) (ht : (pc : Int) + off = (tgt : Int)) (h : (if u < 0 then A else B) = some v9) (kt : A = some v9 → J p l e R s m args below meth c x N r nL cells slots Q tgt lv st t a) (kf : B = some v9 → J p l e R s m args below meth c x N r nL cells slots Q (pc + 3) lv st t a) : J p l e R s m args below meth c x N r nL cells slots Q pc lv (.int u :: st) t a := fun H locs ls hW hl => lv_if_lt F.1 F.2.1 hd ht (fun q => kt ((if_pos q).symm.trans h) H locs ls hW hl) (fun q => kf ((if_neg q).symm.trans h) H locs ls hW hl)
theorem j_if_ge (F : Fx p s m meth c cc nL own ret x) {u : Int32} {off : Int} (tgt : Nat) (hd : decode cc pc = .ok (.ifCond .ge off, 3)) (ht : (pc : Int) + off = (tgt : Int)) (h : (if 0 ≤ u then A else B) = some v9) (kt : A = some v9 → J p l e R s m args below meth c x N r nL cells slots Q tgt lv st t a) (kf : B = some v9 → J p l e R s m args below meth c x N r nL cells slots Q (pc + 3) lv st t a) : J p l e R s m args below meth c x N r nL cells slots Q pc lv (.int u :: st) t a := fun H locs ls hW hl => lv_if_ge F.1 F.2.1 hd ht (fun q => kt ((if_pos q).symm.trans h) H locs ls hW hl) (fun q => kf ((if_neg q).symm.trans h) H locs ls hW hl)
theorem j_if_gt (F : Fx p s m meth c cc nL own ret x) {u : Int32} {off : Int} (tgt : Nat) (hd : decode cc pc = .ok (.ifCond .gt off, 3)) (ht : (pc : Int) + off = (tgt : Int)) (h : (if 0 < u then A else B) = some v9) (kt : A = some v9 → J p l e R s m args below meth c x N r nL cells slots Q tgt lv st t a) (kf : B = some v9 → J p l e R s m args below meth c x N r nL cells slots Q (pc + 3) lv st t a) : J p l e R s m args below meth c x N r nL cells slots Q pc lv (.int u :: st) t a := fun H locs ls hW hl => lv_if_gt F.1 F.2.1 hd ht (fun q => kt ((if_pos q).symm.trans h) H locs ls hW hl) (fun q => kf ((if_neg q).symm.trans h) H locs ls hW hl)
theorem j_if_le (F : Fx p s m meth c cc nL own ret x) {u : Int32} {off : Int} (tgt : Nat) (hd : decode cc pc = .ok (.ifCond .le off, 3)) (ht : (pc : Int) + off = (tgt : Int)) (h : (if u ≤ 0 then A else B) = some v9) (kt : A = some v9 → J p l e R s m args below meth c x N r nL cells slots Q tgt lv st t a) (kf : B = some v9 → J p l e R s m args below meth c x N r nL cells slots Q (pc + 3) lv st t a) : J p l e R s m args below meth c x N r nL cells slots Q pc lv (.int u :: st) t a := fun H locs ls hW hl => lv_if_le F.1 F.2.1 hd ht (fun q => kt ((if_pos q).symm.trans h) H locs ls hW hl) (fun q => kf ((if_neg q).symm.trans h) H locs ls hW hl)
theorem j_icmp_eq (F : Fx p s m meth c cc nL own ret x) {u v : Int32} {off : Int} (tgt : Nat) (hd : decode cc pc = .ok (.if_icmp .eq off, 3)) (ht : (pc : Int) + off = (tgt : Int)) (h : (if u = v then A else B) = some v9) (kt : A = some v9 → J p l e R s m args below meth c x N r nL cells slots Q tgt lv st t a) (kf : B = some v9 → J p l e R s m args below meth c x N r nL cells slots Q (pc + 3) lv st t a) : J p l e R s m args below meth c x N r nL cells slots Q pc lv (.int v :: .int u :: st) t a := fun H locs ls hW hl => lv_icmp_eq F.1 F.2.1 hd ht (fun q => kt ((if_pos q).symm.trans h) H locs ls hW hl) (fun q => kf ((if_neg q).symm.trans h) H locs ls hW hl)
theorem j_icmp_ne (F : Fx p s m meth c cc nL own ret x) {u v : Int32} {off : Int} (tgt : Nat) (hd : decode cc pc = .ok (.if_icmp .ne off, 3)) (ht : (pc : Int) + off = (tgt : Int)) (h : (if u = v then A else B) = some v9) (kf : A = some v9 → J p l e R s m args below meth c x N r nL cells slots Q (pc + 3) lv st t a) (kt : B = some v9 → J p l e R s m args below meth c x N r nL cells slots Q tgt lv st t a) : J p l e R s m args below meth c x N r nL cells slots Q pc lv (.int v :: .int u :: st) t a := fun H locs ls hW hl => lv_icmp_ne F.1 F.2.1 hd ht (fun q => kt ((if_neg q).symm.trans h) H locs ls hW hl) (fun q => kf ((if_pos q).symm.trans h) H locs ls hW hl)
theorem j_icmp_lt (F : Fx p s m meth c cc nL own ret x) {u v : Int32} {off : Int} (tgt : Nat) (hd : decode cc pc = .ok (.if_icmp .lt off, 3)) (ht : (pc : Int) + off = (tgt : Int)) (h : (if u < v then A else B) = some v9) (kt : A = some v9 → J p l e R s m args below meth c x N r nL cells slots Q tgt lv st t a) (kf : B = some v9 → J p l e R s m args below meth c x N r nL cells slots Q (pc + 3) lv st t a) : J p l e R s m args below meth c x N r nL cells slots Q pc lv (.int v :: .int u :: st) t a := fun H locs ls hW hl => lv_icmp_lt F.1 F.2.1 hd ht (fun q => kt ((if_pos q).symm.trans h) H locs ls hW hl) (fun q => kf ((if_neg q).symm.trans h) H locs ls hW hl)
theorem j_icmp_ge (F : Fx p s m meth c cc nL own ret x) {u v : Int32} {off : Int} (tgt : Nat) (hd : decode cc pc = .ok (.if_icmp .ge off, 3)) (ht : (pc : Int) + off = (tgt : Int)) (h : (if v ≤ u then A else B) = some v9) (kt : A = some v9 → J p l e R s m args below meth c x N r nL cells slots Q tgt lv st t a) (kf : B = some v9 → J p l e R s m args below meth c x N r nL cells slots Q (pc + 3) lv st t a) : J p l e R s m args below meth c x N r nL cells slots Q pc lv (.int v :: .int u :: st) t a := fun H locs ls hW hl => lv_icmp_ge F.1 F.2.1 hd ht (fun q => kt ((if_pos q).symm.trans h) H locs ls hW hl) (fun q => kf ((if_neg q).symm.trans h) H locs ls hW hl)
theorem j_icmp_gt (F : Fx p s m meth c cc nL own ret x) {u v : Int32} {off : Int} (tgt : Nat) (hd : decode cc pc = .ok (.if_icmp .gt off, 3)) (ht : (pc : Int) + off = (tgt : Int)) (h : (if v < u then A else B) = some v9) (kt : A = some v9 → J p l e R s m args below meth c x N r nL cells slots Q tgt lv st t a) (kf : B = some v9 → J p l e R s m args below meth c x N r nL cells slots Q (pc + 3) lv st t a) : J p l e R s m args below meth c x N r nL cells slots Q pc lv (.int v :: .int u :: st) t a := fun H locs ls hW hl => lv_icmp_gt F.1 F.2.1 hd ht (fun q => kt ((if_pos q).symm.trans h) H locs ls hW hl) (fun q => kf ((if_neg q).symm.trans h) H locs ls hW hl)
theorem j_icmp_le (F : Fx p s m meth c cc nL own ret x) {u v : Int32} {off : Int} (tgt : Nat) (hd : decode cc pc = .ok (.if_icmp .le off, 3)) (ht : (pc : Int) + off = (tgt : Int)) (h : (if u ≤ v then A else B) = some v9) (kt : A = some v9 → J p l e R s m args below meth c x N r nL cells slots Q tgt lv st t a) (kf : B = some v9 → J p l e R s m args below meth c x N r nL cells slots Q (pc + 3) lv st t a) : J p l e R s m args below meth c x N r nL cells slots Q pc lv (.int v :: .int u :: st) t a := fun H locs ls hW hl => lv_icmp_le F.1 F.2.1 hd ht (fun q => kt ((if_pos q).symm.trans h) H locs ls hW hl) (fun q => kf ((if_neg q).symm.trans h) H locs ls hW hl)
theorem j_getI (F : Fx p s m meth c cc nL own ret x) {k j ci n idx tt : Nat} {C : String} {T : u_T} {ty : Nat → FieldType} (C0 : clO ci C T n ty) (hk : k < N) (hl0 : lay k = (0, ci)) (hj : j < n) (hr : isR ci j = false) (q : .fieldLink own idx C (T j).2.1 (T j).2.2.1 ∈ lw_t) (ht : 64 * k + j = tt) (hd : decode cc pc = .ok (.getfield idx, 3)) (kk : J p l e R s m args below meth c x N r nL cells slots Q (pc + 3) lv (.int (t tt) :: st) t a) : J p l e R s m args below meth c x N r nL cells slots Q pc lv (.ref (cz x + k) :: st) t a := by
  intro H locs ls hW hl
  obtain ⟨c1, c2, c3, c4, c5, c6⟩ := C0
  have hts := F.2.2.2.2.2.2.1.w args
  refine va_get (D := cD x) (ci := ci) (v := .int (t tt)) (C := C) (T := T) (N := n) (a := cz x + k) F.1 F.2.1 hts c3 F.2.2.2.1 F.2.2.2.2.2.2.1.2 hW.1.2 k (fs := (List.range (nf ci)).map (fval (cz x) r t k ci)) (by rw [wl_get hk, ce_0 hl0]; rfl) c1 j hj (hts _ q) (fun y hy => by rw [c6 j hj] at hy; exact hy) (by rw [rg_get (by rw [c2]; exact hj)]; simp [fval, hr, ht]) hd (kk H locs ls hW hl)
theorem j_getR (F : Fx p s m meth c cc nL own ret x) {k j ci n idx g : Nat} {C : String} {T : u_T} {ty : Nat → FieldType} (C0 : clO ci C T n ty) (hk : k < N) (hl0 : lay k = (0, ci)) (hj : j < n) (hr : isR ci j = true) (q : .fieldLink own idx C (T j).2.1 (T j).2.2.1 ∈ lw_t) (hg : r k j = some g) (hd : decode cc pc = .ok (.getfield idx, 3)) (kk : J p l e R s m args below meth c x N r nL cells slots Q (pc + 3) lv (.ref (cz x + g) :: st) t a) : J p l e R s m args below meth c x N r nL cells slots Q pc lv (.ref (cz x + k) :: st) t a := by
  intro H locs ls hW hl
  obtain ⟨c1, c2, c3, c4, c5, c6⟩ := C0
  have hts := F.2.2.2.2.2.2.1.w args
  refine va_get (D := cD x) (ci := ci) (v := .ref (cz x + g)) (C := C) (T := T) (N := n) (a := cz x + k) F.1 F.2.1 hts c3 F.2.2.2.1 F.2.2.2.2.2.2.1.2 hW.1.2 k (fs := (List.range (nf ci)).map (fval (cz x) r t k ci)) (by rw [wl_get hk, ce_0 hl0]; rfl) c1 j hj (hts _ q) (fun y hy => by rw [c6 j hj] at hy; exact hy) (by rw [rg_get (by rw [c2]; exact hj)]; simp [fval, hr, hg, rfv, va_rf]) hd (kk H locs ls hW hl)
theorem j_getN (F : Fx p s m meth c cc nL own ret x) {k j ci n idx : Nat} {C : String} {T : u_T} {ty : Nat → FieldType} (C0 : clO ci C T n ty) (hk : k < N) (hl0 : lay k = (0, ci)) (hj : j < n) (hr : isR ci j = true) (q : .fieldLink own idx C (T j).2.1 (T j).2.2.1 ∈ lw_t) (hg : r k j = none) (hd : decode cc pc = .ok (.getfield idx, 3)) (kk : J p l e R s m args below meth c x N r nL cells slots Q (pc + 3) lv (.null :: st) t a) : J p l e R s m args below meth c x N r nL cells slots Q pc lv (.ref (cz x + k) :: st) t a := by
  intro H locs ls hW hl
  obtain ⟨c1, c2, c3, c4, c5, c6⟩ := C0
  have hts := F.2.2.2.2.2.2.1.w args
  refine va_get (D := cD x) (ci := ci) (v := .null) (C := C) (T := T) (N := n) (a := cz x + k) F.1 F.2.1 hts c3 F.2.2.2.1 F.2.2.2.2.2.2.1.2 hW.1.2 k (fs := (List.range (nf ci)).map (fval (cz x) r t k ci)) (by rw [wl_get hk, ce_0 hl0]; rfl) c1 j hj (hts _ q) (fun y hy => by rw [c6 j hj] at hy; exact hy) (by rw [rg_get (by rw [c2]; exact hj)]; simp [fval, hr, hg, rfv, va_rf]) hd (kk H locs ls hW hl)
theorem w_set {k j ci n : Nat} {v : Value} {C : String} {T : u_T} {ty : Nat → FieldType} {H H1 : Heap} {locs : List Loc} {cell : Cell} {H0 : Heap} (C0 : clO ci C T n ty) (hK : Kb x s) (hW : Wd x N r t a H0 H locs) (hk : k < N) (hl0 : lay k = (0, ci)) (hj : j < n) {sl : Nat} (hsl : sl = (cD x).2 ci j) (q2 : cell.cls = (cD x).1 ci) (q3 : cell.vm = .none) (q4 : ∀ i, i < n → cell.slots[(cD x).2 ci i]? = some (vp_V ((List.range (nf ci)).map (fval (cz x) r t k ci)) i)) (e1 : H1[cz x + k]? = some (cell.setSlot sl v)) (e2 : H1.size = H.size) (e3 : ∀ q, q ≠ cz x + k → H1[q]? = H[q]?) :
    H1.size = cz x + N ∧ va_P (cD x) vwCl ((wl x N r t a).set k (cz x + k, .inr (ci, ((List.range (nf ci)).map (fval (cz x) r t k ci)).set j v))) H1 ∧ va_S (cA x) H0 H1 (locs ++ [⟨cz x + k, sl⟩]) := by
  obtain ⟨c1, c2, c3, c4, c5, c6⟩ := C0
  have hap := va_apart (own := C) (hK.w #[]) c3 ty c4 c5 hK.2 c1
  subst hsl
  have hat : (wl x N r t a)[k]? = some (cz x + k, .inr (ci, (List.range (nf ci)).map (fval (cz x) r t k ci))) := by rw [wl_get hk, ce_0 hl0]; rfl
  refine ⟨e2.trans hW.1.1, hW.1.2.set wl_D hat ⟨_, c1, t_OB.to (V := updV (vp_V ((List.range (nf ci)).map (fval (cz x) r t k ci))) j v) ⟨_, e1, q2, q3, t_set q4 hap hj v⟩ (fun i _ => vp_updV_set (by simp [c2, hj]) v i)⟩ e3, hW.2.put e2 e3 (Nat.le_add_right _ _)⟩
theorem w_put (F : Fx p s m meth c cc nL own ret x) {k j ci n idx : Nat} {v : Value} {C : String} {T : u_T} {ty : Nat → FieldType} {H : Heap} {locs : List Loc} {ls : Array Slot} (C0 : clO ci C T n ty) (hk : k < N) (hl0 : lay k = (0, ci)) (hj : j < n) (q : .fieldLink own idx C (T j).2.1 (T j).2.2.1 ∈ lw_t) (hfin : (T j).2.2.2 = false ∨ ((T j).2.2.2 = true ∧ meth.name = "<init>" ∧ own = C)) (hty : narrow (ty j) v = v ∧ fits (ty j) v = true) (hd : decode cc pc = .ok (.putfield idx, 3)) (hW : Wd x N r t a s.heap H locs)
    (kk : ∀ (H1 : Heap) (locs1 : List Loc), H1.size = cz x + N → va_P (cD x) vwCl ((wl x N r t a).set k (cz x + k, .inr (ci, ((List.range (nf ci)).map (fval (cz x) r t k ci)).set j v))) H1 → va_S (cA x) s.heap H1 locs1 → W p l e R s m args below meth c H1 locs1 cells slots Q (F0 m (pc + 3) ls st)) : W p l e R s m args below meth c H locs cells slots Q (F0 m pc ls (v :: .ref (cz x + k) :: st)) := by
  have C1 := C0
  obtain ⟨c1, c2, c3, c4, c5, c6⟩ := C0
  obtain ⟨hx, hb, hml, hown, hret, hlk, hK, hKs⟩ := F
  have hts := hK.w args
  have hat : (wl x N r t a)[k]? = some (cz x + k, .inr (ci, (List.range (nf ci)).map (fval (cz x) r t k ci))) := by rw [wl_get hk, ce_0 hl0]; rfl
  obtain ⟨rr, h1, cell, q1, q2, q3, q4⟩ := hW.1.2 k _ hat
  have hrr : rr = (C, T, n) := Option.some.inj (h1.symm.trans c1)
  subst hrr
  obtain ⟨hS, hfc, kC, hkC, hkind⟩ := hK.2.1 ci _ c1
  obtain ⟨cf, kf, fi, f, hi, hsl⟩ := hS j hj
  have hlay := hts _ (c3 _ (u_in_lay hj))
  unfold u_lay at hlay
  have hst := (u_facts hfc hkC (u_lays hts c3 hj) hi).1
  have hi2 : s.fieldFound? C (T j).2.1 (T j).2.2.1 = some (cf, kf, fi, f) := by have h9 := hi; rw [c6 j hj] at h9; exact h9
  rcases hfin with hfin | ⟨hfin, hinit, how⟩
  · rw [if_neg (by rw [hfin]; decide)] at hlay
    have h6 := u_store hfc hkC hkind hlay hi (c4 j hj) hty.1 hty.2
    refine W.putK hx hb (f := f) ⟨hown, hts _ q, ⟨_, _, _, hi2⟩, hst⟩ (by rw [q2]; exact h6) q1 q3 (by rw [hsl]; exact k2_hasslot (q4 j hj)) rfl rfl hd fun H1 e1 e2 e3 => ?_
    obtain ⟨g1, g2, g3⟩ := w_set C1 hK hW hk hl0 hj hsl q2 q3 q4 e1 e2 e3
    exact kk H1 _ g1 g2 g3
  · rw [if_pos hfin] at hlay
    have hcf : m.cls = cf := by
      obtain ⟨_, _, c', _, _, _, -, -, hf', -, -, -, hown2, -⟩ := Cond.laysFinal_spec hlay
      have e1 : c' = cf := by have := hi.symm.trans hf'; simp at this; exact this.1.symm
      rw [c6 j hj, ← how] at hown2
      rw [← e1]; exact Option.some.inj (hown.symm.trans hown2)
    have h6 := u_fits hfc hkC hkind (Or.inr hlay) hi (c4 j hj) hty.1 hty.2
    refine W.putFinK hx hb hown (hts _ q) hi2 hst hcf hinit (by rw [q2]; exact h6) q1 q3 (by rw [hsl]; exact k2_hasslot (q4 j hj)) rfl rfl hd fun H1 e1 e2 e3 => ?_
    obtain ⟨g1, g2, g3⟩ := w_set C1 hK hW hk hl0 hj hsl q2 q3 q4 e1 e2 e3
    exact kk H1 _ g1 g2 g3
theorem j_putI (F : Fx p s m meth c cc nL own ret x) {k j ci n idx tt : Nat} {v : Int32} {C : String} {T : u_T} {ty : Nat → FieldType} (C0 : clO ci C T n ty) (hk : k < N) (hl0 : lay k = (0, ci)) (hj : j < n) (hr : isR ci j = false) (q : .fieldLink own idx C (T j).2.1 (T j).2.2.1 ∈ lw_t) (hfin : (T j).2.2.2 = false) (hty : ty j = .int) (ht : 64 * k + j = tt) (hd : decode cc pc = .ok (.putfield idx, 3)) (kk : J p l e R s m args below meth c x N r nL cells slots Q (pc + 3) lv st (va_up t tt v) a) : J p l e R s m args below meth c x N r nL cells slots Q pc lv (.int v :: .ref (cz x + k) :: st) t a := by
  intro H locs ls hW hl
  refine w_put F C0 hk hl0 hj q (Or.inl hfin) (by rw [hty]; exact ⟨rfl, rfl⟩) hd hW (fun H1 locs1 g1 g2 g3 => ?_)
  rw [wl_putI hk hl0 (by rw [C0.2.1]; exact hj) hr, ht] at g2
  exact kk H1 locs1 ls ⟨⟨g1, g2⟩, g3⟩ hl
theorem j_putIF (F : Fx p s m meth c cc nL own ret x) {k j ci n idx tt : Nat} {v : Int32} {C : String} {T : u_T} {ty : Nat → FieldType} (C0 : clO ci C T n ty) (hk : k < N) (hl0 : lay k = (0, ci)) (hj : j < n) (hr : isR ci j = false) (q : .fieldLink own idx C (T j).2.1 (T j).2.2.1 ∈ lw_t) (hfin : (T j).2.2.2 = true) (hin : meth.name = "<init>") (how : own = C) (hty : ty j = .int) (ht : 64 * k + j = tt) (hd : decode cc pc = .ok (.putfield idx, 3)) (kk : J p l e R s m args below meth c x N r nL cells slots Q (pc + 3) lv st (va_up t tt v) a) : J p l e R s m args below meth c x N r nL cells slots Q pc lv (.int v :: .ref (cz x + k) :: st) t a := by
  intro H locs ls hW hl
  refine w_put F C0 hk hl0 hj q (Or.inr ⟨hfin, hin, how⟩) (by rw [hty]; exact ⟨rfl, rfl⟩) hd hW (fun H1 locs1 g1 g2 g3 => ?_)
  rw [wl_putI hk hl0 (by rw [C0.2.1]; exact hj) hr, ht] at g2
  exact kk H1 locs1 ls ⟨⟨g1, g2⟩, g3⟩ hl
theorem zok_nar {v : Int32} (h : v = 0 ∨ v = 1) : narrow .boolean (.int v) = .int v ∧ fits .boolean (.int v) = true := by
  rcases h with rfl | rfl <;> exact ⟨rfl, rfl⟩
theorem j_putZ (F : Fx p s m meth c cc nL own ret x) {k j ci n idx tt : Nat} {v : Int32} {C : String} {T : u_T} {ty : Nat → FieldType} (C0 : clO ci C T n ty) (hk : k < N) (hl0 : lay k = (0, ci)) (hj : j < n) (hr : isR ci j = false) (q : .fieldLink own idx C (T j).2.1 (T j).2.2.1 ∈ lw_t) (hfin : (T j).2.2.2 = false) (hty : ty j = .boolean) (ht : 64 * k + j = tt) (hd : decode cc pc = .ok (.putfield idx, 3)) (h : zok v A = some v9) (kk : A = some v9 → J p l e R s m args below meth c x N r nL cells slots Q (pc + 3) lv st (va_up t tt v) a) : J p l e R s m args below meth c x N r nL cells slots Q pc lv (.int v :: .ref (cz x + k) :: st) t a := by
  intro H locs ls hW hl
  refine w_put F C0 hk hl0 hj q (Or.inl hfin) (by rw [hty]; exact zok_nar (zok_some h).1) hd hW (fun H1 locs1 g1 g2 g3 => ?_)
  rw [wl_putI hk hl0 (by rw [C0.2.1]; exact hj) hr, ht] at g2
  exact kk (zok_some h).2 H1 locs1 ls ⟨⟨g1, g2⟩, g3⟩ hl
theorem j_iald (F : Fx p s m meth c cc nL own ret x) {k n : Nat} {i : Int32} (hk : k < N) (hl0 : lay k = (1, n)) (hd : decode cc pc = .ok (.iaload, 1)) (h : bnd i n A = some v9) (kk : A = some v9 → J p l e R s m args below meth c x N r nL cells slots Q (pc + 1) lv (.int (a k i.toNatClampNeg) :: st) t a) : J p l e R s m args below meth c x N r nL cells slots Q pc lv (.int i :: .ref (cz x + k) :: st) t a := fun H locs ls hW hl =>
  va_iald F.1 F.2.1 F.2.2.2.2.2.2.1.2 hW.1.2 k 0 (by rw [wl_get hk, ce_1 hl0]; rfl) rfl (bnd_some h).1 hd (kk (bnd_some h).2 H locs ls hW hl)
theorem j_iast (F : Fx p s m meth c cc nL own ret x) {k n : Nat} {i v : Int32} (hk : k < N) (hl0 : lay k = (1, n)) (hd : decode cc pc = .ok (.iastore, 1)) (h : bnd i n A = some v9) (kk : A = some v9 → J p l e R s m args below meth c x N r nL cells slots Q (pc + 1) lv st t (va_up a k (upd (a k) i.toNatClampNeg v))) : J p l e R s m args below meth c x N r nL cells slots Q pc lv (.int v :: .int i :: .ref (cz x + k) :: st) t a := by
  intro H locs ls hW hl
  have hat : (wl x N r t a)[k]? = some (cz x + k, .inl (cI x, n, .inl (a k))) := by rw [wl_get hk, ce_1 hl0]; rfl
  have hin := (bnd_some h).1
  refine W.iast F.1 F.2.1 (hW.1.2 k _ hat) ((F.2.2.2.2.2.2.1.2.2 0 _ rfl).1 n (fun j => .int (a k j))) (fun q => by cases q) (by show ¬ (i < 0 ∨ (arrV _ _ _).slots.size ≤ _); rw [arrV_size]; exact hin) rfl rfl hd fun H1 e1 e2 e3 => ?_
  refine kk (bnd_some h).2 H1 _ ls ⟨⟨e2.trans hW.1.1, ?_⟩, hW.2.put e2 e3 (Nat.le_add_right _ _)⟩ hl
  rw [← wl_putA hk hl0]
  refine hW.1.2.set wl_D hat ?_ e3
  show H1[cz x + k]? = some (vp_cell _ _)
  rw [e1, vp_cell_i, vp_cell_i, arrV_store]
  congr 2
  funext q
  by_cases hq : q = i.toNatClampNeg
  · subst hq
    simp [updV, upd]
  · simp [updV, upd, hq]
theorem j_alen (F : Fx p s m meth c cc nL own ret x) {k n : Nat} {v : Int32} (hk : k < N) (hl0 : lay k = (1, n)) (hv : Int32.ofNat n = v) (hd : decode cc pc = .ok (.arraylength, 1)) (kk : J p l e R s m args below meth c x N r nL cells slots Q (pc + 1) lv (.int v :: st) t a) : J p l e R s m args below meth c x N r nL cells slots Q pc lv (.ref (cz x + k) :: st) t a := fun H locs ls hW hl =>
  va_alen F.1 F.2.1 F.2.2.2.2.2.2.1.2 hW.1.2 k 0 (by rw [wl_get hk, ce_1 hl0]; rfl) rfl hv hd (kk H locs ls hW hl)
theorem j_aald (F : Fx p s m meth c cc nL own ret x) {k n : Nat} {g : Nat → Nat} {i : Int32} (hk : k < N) (hl0 : lay k = (2, n)) (hg : ∀ j, j < n → r k j = some (g j)) (hd : decode cc pc = .ok (.aaload, 1)) (h : bnd i n A = some v9) (kk : i.toNatClampNeg < n → A = some v9 → J p l e R s m args below meth c x N r nL cells slots Q (pc + 1) lv (.ref (cz x + g i.toNatClampNeg) :: st) t a) : J p l e R s m args below meth c x N r nL cells slots Q pc lv (.int i :: .ref (cz x + k) :: st) t a := by
  intro H locs ls hW hl
  have hin := (bnd_some h).1
  have hlt : i.toNatClampNeg < n := Nat.not_le.mp fun q => hin (Or.inr q)
  have hat : (wl x N r t a)[k]? = some (cz x + k, .inl (cO x, n, .inr (.inr (.inr (.inr (fun j => (r k j).map (fun q => cz x + q))))))) := by rw [wl_get hk, ce_2 hl0]; rfl
  exact W.aald (ty := .array .int) (v := .ref (cz x + g i.toNatClampNeg)) F.1 F.2.1 (hW.1.2 k _ hat) ((F.2.2.2.2.2.2.1.2.2 1 _ rfl).1 n (fun j => va_rf ((r k j).map (fun q => cz x + q)))) rfl (fun q => by cases q) (by show ¬ (i < 0 ∨ (arrV _ _ _).slots.size ≤ _); rw [arrV_size]; exact hin) (by show (arrV _ _ _).slots[_]? = _; rw [arrV_read _ _ hlt]; simp [hg _ hlt, va_rf]) rfl rfl hd (kk hlt (bnd_some h).2 H locs ls hW hl)
theorem j_ireturn (F : Fx p s m meth c cc nL own ret x) {v rv : Int32} {rt : sT} {ra : sA} (hret : ret = some .int) (hd : decode cc pc = .ok (.ireturn, 1)) (h : some (v, t, a) = some (rv, rt, ra)) : J p l e R s m args below meth c x N r nL cells slots (MQ below (PostI x N r rt ra rv) args s cells slots (cA x)) pc lv [.int v] t a := by
  intro H locs ls hW hl
  cases h
  obtain ⟨hx, hb, hml, hown, hre, hlk, hK, hKs⟩ := F
  exact W.iret hx hb (hre.trans hret) (fun T hT hWm => ⟨⟨v, (), rfl, rfl, by show Wo _ _ _ _ _ T.heap; rw [hT]; exact hW.1⟩, hW.2.F hT⟩) hW.2.2.2 hd hlk
theorem j_zreturn (F : Fx p s m meth c cc nL own ret x) {v rv : Int32} {rt : sT} {ra : sA} (hret : ret = some .boolean) (hd : decode cc pc = .ok (.ireturn, 1)) (h : zok v (some (v, t, a)) = some (rv, rt, ra)) : J p l e R s m args below meth c x N r nL cells slots (MQ below (PostI x N r rt ra rv) args s cells slots (cA x)) pc lv [.int v] t a := by
  intro H locs ls hW hl
  obtain ⟨hz, h⟩ := zok_some h
  cases h
  obtain ⟨hx, hb, hml, hown, hre, hlk, hK, hKs⟩ := F
  exact W.zret hx hb (hre.trans hret) (zok_nar hz).1 (fun T hT hWm => ⟨⟨v, (), rfl, rfl, by show Wo _ _ _ _ _ T.heap; rw [hT]; exact hW.1⟩, hW.2.F hT⟩) hW.2.2.2 hd hlk
theorem j_vreturn (F : Fx p s m meth c cc nL own ret x) {rv : Int32} {rt : sT} {ra : sA} (hret : ret = none) (hd : decode cc pc = .ok (.return_, 1)) (h : some ((0 : Int32), t, a) = some (rv, rt, ra)) : J p l e R s m args below meth c x N r nL cells slots (MQ below (PostV x N r rt ra) args s cells slots (cA x)) pc lv [] t a := by
  intro H locs ls hW hl
  cases h
  obtain ⟨hx, hb, hml, hown, hre, hlk, hK, hKs⟩ := F
  exact W.vret hx hb (hre.trans hret) (fun T hT hWm => ⟨⟨(), rfl, trivial, by show Wo _ _ _ _ _ T.heap; rw [hT]; exact hW.1⟩, hW.2.F hT⟩) hW.2.2.2 hd hlk

theorem j_callVi (F : Fx p s m meth c cc nL own ret x) {y : MethodName} {bytes : ByteArray} {maxL idx k ci n : Nat} {re : Option FieldType} {rm : Room} {T : u_T} {ty : Nat → FieldType} {f9 : Rs} {K9 : Int32 → sT → sA → Option ρ} (M : mwV y bytes maxL re) (q : .methodLink own idx y ∈ lw_t) (C0 : clO ci y.cls T n ty) (hk : k < N) (hl0 : lay k = (0, ci)) (As : List Value) (hn : (parseMethodDescriptor y.desc).map (fun d => d.parameters.length) = some As.length) (hrm : rm.cells = 0 ∧ rm.slots = 0 ∧ rm.frames + 1 ≤ R.frames ∧ 8 + (maxL + 11) + rm.locals ≤ R.locals) (hf : cells ≤ R.cells ∧ slots ≤ R.slots) {st0 : List Value} (hst : st0 = As.reverse ++ .ref (cz x + k) :: st) (hro : (st.map fun v => v.category).sum ≤ 8) (hd : decode cc pc = .ok (.invokevirtual idx, 3))
    (hM : ∀ v t' a', f9 = some (v, t', a') → Met l y [.code y bytes maxL re] rm (Pre x N r t a (.ref (cz x + k) :: As)) (PostI x N r t' a' v) 0 0 (cA x)) (h : cal f9 K9 = some v9) (kk : ∀ v t' a', f9 = some (v, t', a') → K9 v t' a' = some v9 → J p l e R s m args below meth c x N r nL cells slots Q (pc + 3) lv (.int v :: st) t' a') : J p l e R s m args below meth c x N r nL cells slots Q pc lv st0 t a := by
  intro H locs ls hW hl
  obtain ⟨v, t', a', hf9, hK9⟩ := cal_some h
  obtain ⟨hx, hb, hml, hown, hre, hlk, hK, hKs⟩ := F
  have hts := hK.w args
  obtain ⟨m1, m2, m3, m4, m5, m6⟩ := M
  refine va_calli (va_runV (C := y.cls) (As := As) (rest := st) (Ts := lw_t) ⟨hx, hb, hml, hown, hts⟩ (hM _ _ _ hf9) ⟨⟨hrm.1, hrm.2.1, hrm.2.2.1, hrm.2.2.2, fun w hw a1 U hU => by rw [List.mem_singleton] at hw; subst hw; exact gw_move (List.mem_filter.mp m1).2 hU (hts _ m1), List.mem_singleton.mpr rfl, hts _ m1, hts _ m4, ⟨m5, m6⟩, ar_of hn, hts _ q⟩, hts _ m2, hts _ m3⟩ ⟨Pre.blind, va_recv hK.2 hW.1.2 C0.1 (q0 := k) (fs := (List.range (nf ci)).map (fval (cz x) r t k ci)) (by rw [wl_get hk, ce_0 hl0]; rfl), Pre.at hK hKs hW⟩ rfl rfl hl.1 hst (lv_room hro) hd ⟨hf.1, hf.2⟩) hW.2 (fun _ _ h => h) (fun _ h => h) (fun r1 u1 T1 H1 locs1 hT hvm hp hB hz hk1 hS1 => by subst hp; exact kk _ _ _ hf9 hK9 H1 locs1 ls ⟨by rw [hT] at hB; exact hB, hS1⟩ hl)
theorem j_callSi (F : Fx p s m meth c cc nL own ret x) {y : MethodName} {bytes : ByteArray} {maxL idx : Nat} {re : Option FieldType} {rm : Room} {f9 : Rs} {K9 : Int32 → sT → sA → Option ρ} (M : mwS y bytes maxL re) (q : .methodLink own idx y ∈ lw_t) (As : List Value) (hn : (parseMethodDescriptor y.desc).map (fun d => d.parameters.length) = some As.length) (hrm : rm.cells = 0 ∧ rm.slots = 0 ∧ rm.frames + 1 ≤ R.frames ∧ 8 + (maxL + 11) + rm.locals ≤ R.locals) (hf : cells ≤ R.cells ∧ slots ≤ R.slots) {st0 : List Value} (hst : st0 = As.reverse ++ st) (hro : (st.map fun v => v.category).sum ≤ 8) (hd : decode cc pc = .ok (.invokestatic idx, 3))
    (hM : ∀ v t' a', f9 = some (v, t', a') → Met l y [.code y bytes maxL re] rm (Pre x N r t a As) (PostI x N r t' a' v) 0 0 (cA x)) (h : cal f9 K9 = some v9) (kk : ∀ v t' a', f9 = some (v, t', a') → K9 v t' a' = some v9 → J p l e R s m args below meth c x N r nL cells slots Q (pc + 3) lv (.int v :: st) t' a') : J p l e R s m args below meth c x N r nL cells slots Q pc lv st0 t a := by
  intro H locs ls hW hl
  obtain ⟨v, t', a', hf9, hK9⟩ := cal_some h
  obtain ⟨hx, hb, hml, hown, hre, hlk, hK, hKs⟩ := F
  have hts := hK.w args
  obtain ⟨m1, m2, m4, m5, m6⟩ := M
  refine va_calli (va_runS (As := As) (rest := st) (Ts := lw_t) ⟨hx, hb, hml, hown, hts⟩ (hM _ _ _ hf9) ⟨⟨hrm.1, hrm.2.1, hrm.2.2.1, hrm.2.2.2, fun w hw a1 U hU => by rw [List.mem_singleton] at hw; subst hw; exact gw_move (List.mem_filter.mp m1).2 hU (hts _ m1), List.mem_singleton.mpr rfl, hts _ m1, hts _ m4, ⟨m5, m6⟩, ar_of hn, hts _ q⟩, hts _ m2⟩ ⟨Pre.blind, Pre.at hK hKs hW⟩ rfl rfl hl.1 hst (lv_room hro) hd ⟨hf.1, hf.2⟩) hW.2 (fun _ _ h => h) (fun _ h => h) (fun r1 u1 T1 H1 locs1 hT hvm hp hB hz hk1 hS1 => by subst hp; exact kk _ _ _ hf9 hK9 H1 locs1 ls ⟨by rw [hT] at hB; exact hB, hS1⟩ hl)
theorem j_callNi (F : Fx p s m meth c cc nL own ret x) {y : MethodName} {bytes : ByteArray} {maxL idx : Nat} {host : String} {re : Option FieldType} {rm : Room} {f9 : Rs} {K9 : Int32 → sT → sA → Option ρ} (M : mwS y bytes maxL re) (q : .methodLinkNest own idx y host ∈ lw_t) (As : List Value) (hn : (parseMethodDescriptor y.desc).map (fun d => d.parameters.length) = some As.length) (hrm : rm.cells = 0 ∧ rm.slots = 0 ∧ rm.frames + 1 ≤ R.frames ∧ 8 + (maxL + 11) + rm.locals ≤ R.locals) (hf : cells ≤ R.cells ∧ slots ≤ R.slots) {st0 : List Value} (hst : st0 = As.reverse ++ st) (hro : (st.map fun v => v.category).sum ≤ 8) (hd : decode cc pc = .ok (.invokestatic idx, 3))
    (hM : ∀ v t' a', f9 = some (v, t', a') → Met l y [.code y bytes maxL re] rm (Pre x N r t a As) (PostI x N r t' a' v) 0 0 (cA x)) (h : cal f9 K9 = some v9) (kk : ∀ v t' a', f9 = some (v, t', a') → K9 v t' a' = some v9 → J p l e R s m args below meth c x N r nL cells slots Q (pc + 3) lv (.int v :: st) t' a') : J p l e R s m args below meth c x N r nL cells slots Q pc lv st0 t a := by
  intro H locs ls hW hl
  obtain ⟨v, t', a', hf9, hK9⟩ := cal_some h
  obtain ⟨hx, hb, hml, hown, hre, hlk, hK, hKs⟩ := F
  have hts := hK.w args
  obtain ⟨m1, m2, m4, m5, m6⟩ := M
  refine va_calli (va_runSN (As := As) (rest := st) (Ts := lw_t) (host := host) ⟨hx, hb, hml, hown, hts⟩ (hM _ _ _ hf9) ⟨⟨⟨hrm.1, hrm.2.1, hrm.2.2.1, hrm.2.2.2, fun w hw a1 U hU => by rw [List.mem_singleton] at hw; subst hw; exact gw_move (List.mem_filter.mp m1).2 hU (hts _ m1), List.mem_singleton.mpr rfl⟩, hts _ m1, hts _ m4, ⟨m5, m6⟩, ar_of hn, hts _ q⟩, hts _ m2, trivial⟩ ⟨Pre.blind, Pre.at hK hKs hW⟩ rfl rfl hl.1 hst (lv_room hro) hd ⟨hf.1, hf.2⟩) hW.2 (fun _ _ h => h) (fun _ h => h) (fun r1 u1 T1 H1 locs1 hT hvm hp hB hz hk1 hS1 => by subst hp; exact kk _ _ _ hf9 hK9 H1 locs1 ls ⟨by rw [hT] at hB; exact hB, hS1⟩ hl)
theorem j_callVv (F : Fx p s m meth c cc nL own ret x) {y : MethodName} {bytes : ByteArray} {maxL idx k ci n : Nat} {re : Option FieldType} {rm : Room} {T : u_T} {ty : Nat → FieldType} {f9 : Rs} {K9 : Int32 → sT → sA → Option ρ} (M : mwV y bytes maxL re) (q : .methodLink own idx y ∈ lw_t) (C0 : clO ci y.cls T n ty) (hk : k < N) (hl0 : lay k = (0, ci)) (As : List Value) (hn : (parseMethodDescriptor y.desc).map (fun d => d.parameters.length) = some As.length) (hrm : rm.cells = 0 ∧ rm.slots = 0 ∧ rm.frames + 1 ≤ R.frames ∧ 8 + (maxL + 11) + rm.locals ≤ R.locals) (hf : cells ≤ R.cells ∧ slots ≤ R.slots) {st0 : List Value} (hst : st0 = As.reverse ++ .ref (cz x + k) :: st) (hro : (st.map fun v => v.category).sum ≤ 8) (hd : decode cc pc = .ok (.invokevirtual idx, 3))
    (hM : ∀ v t' a', f9 = some (v, t', a') → Met l y [.code y bytes maxL re] rm (Pre x N r t a (.ref (cz x + k) :: As)) (PostV x N r t' a') 0 0 (cA x)) (h : cal f9 K9 = some v9) (kk : ∀ v t' a', f9 = some (v, t', a') → K9 v t' a' = some v9 → J p l e R s m args below meth c x N r nL cells slots Q (pc + 3) lv (st) t' a') : J p l e R s m args below meth c x N r nL cells slots Q pc lv st0 t a := by
  intro H locs ls hW hl
  obtain ⟨v, t', a', hf9, hK9⟩ := cal_some h
  obtain ⟨hx, hb, hml, hown, hre, hlk, hK, hKs⟩ := F
  have hts := hK.w args
  obtain ⟨m1, m2, m3, m4, m5, m6⟩ := M
  refine va_callv (va_runV (C := y.cls) (As := As) (rest := st) (Ts := lw_t) ⟨hx, hb, hml, hown, hts⟩ (hM _ _ _ hf9) ⟨⟨hrm.1, hrm.2.1, hrm.2.2.1, hrm.2.2.2, fun w hw a1 U hU => by rw [List.mem_singleton] at hw; subst hw; exact gw_move (List.mem_filter.mp m1).2 hU (hts _ m1), List.mem_singleton.mpr rfl, hts _ m1, hts _ m4, ⟨m5, m6⟩, ar_of hn, hts _ q⟩, hts _ m2, hts _ m3⟩ ⟨Pre.blind, va_recv hK.2 hW.1.2 C0.1 (q0 := k) (fs := (List.range (nf ci)).map (fval (cz x) r t k ci)) (by rw [wl_get hk, ce_0 hl0]; rfl), Pre.at hK hKs hW⟩ rfl rfl hl.1 hst (lv_room hro) hd ⟨hf.1, hf.2⟩) hW.2 (fun _ _ h => h) (fun _ h => h) (fun u1 T1 H1 locs1 hT hvm hp hB hz hk1 hS1 => kk _ _ _ hf9 hK9 H1 locs1 ls ⟨by rw [hT] at hB; exact hB, hS1⟩ hl)
theorem j_callSv (F : Fx p s m meth c cc nL own ret x) {y : MethodName} {bytes : ByteArray} {maxL idx : Nat} {re : Option FieldType} {rm : Room} {f9 : Rs} {K9 : Int32 → sT → sA → Option ρ} (M : mwS y bytes maxL re) (q : .methodLink own idx y ∈ lw_t) (As : List Value) (hn : (parseMethodDescriptor y.desc).map (fun d => d.parameters.length) = some As.length) (hrm : rm.cells = 0 ∧ rm.slots = 0 ∧ rm.frames + 1 ≤ R.frames ∧ 8 + (maxL + 11) + rm.locals ≤ R.locals) (hf : cells ≤ R.cells ∧ slots ≤ R.slots) {st0 : List Value} (hst : st0 = As.reverse ++ st) (hro : (st.map fun v => v.category).sum ≤ 8) (hd : decode cc pc = .ok (.invokestatic idx, 3))
    (hM : ∀ v t' a', f9 = some (v, t', a') → Met l y [.code y bytes maxL re] rm (Pre x N r t a As) (PostV x N r t' a') 0 0 (cA x)) (h : cal f9 K9 = some v9) (kk : ∀ v t' a', f9 = some (v, t', a') → K9 v t' a' = some v9 → J p l e R s m args below meth c x N r nL cells slots Q (pc + 3) lv (st) t' a') : J p l e R s m args below meth c x N r nL cells slots Q pc lv st0 t a := by
  intro H locs ls hW hl
  obtain ⟨v, t', a', hf9, hK9⟩ := cal_some h
  obtain ⟨hx, hb, hml, hown, hre, hlk, hK, hKs⟩ := F
  have hts := hK.w args
  obtain ⟨m1, m2, m4, m5, m6⟩ := M
  refine va_callv (va_runS (As := As) (rest := st) (Ts := lw_t) ⟨hx, hb, hml, hown, hts⟩ (hM _ _ _ hf9) ⟨⟨hrm.1, hrm.2.1, hrm.2.2.1, hrm.2.2.2, fun w hw a1 U hU => by rw [List.mem_singleton] at hw; subst hw; exact gw_move (List.mem_filter.mp m1).2 hU (hts _ m1), List.mem_singleton.mpr rfl, hts _ m1, hts _ m4, ⟨m5, m6⟩, ar_of hn, hts _ q⟩, hts _ m2⟩ ⟨Pre.blind, Pre.at hK hKs hW⟩ rfl rfl hl.1 hst (lv_room hro) hd ⟨hf.1, hf.2⟩) hW.2 (fun _ _ h => h) (fun _ h => h) (fun u1 T1 H1 locs1 hT hvm hp hB hz hk1 hS1 => kk _ _ _ hf9 hK9 H1 locs1 ls ⟨by rw [hT] at hB; exact hB, hS1⟩ hl)
theorem j_callNv (F : Fx p s m meth c cc nL own ret x) {y : MethodName} {bytes : ByteArray} {maxL idx : Nat} {host : String} {re : Option FieldType} {rm : Room} {f9 : Rs} {K9 : Int32 → sT → sA → Option ρ} (M : mwS y bytes maxL re) (q : .methodLinkNest own idx y host ∈ lw_t) (As : List Value) (hn : (parseMethodDescriptor y.desc).map (fun d => d.parameters.length) = some As.length) (hrm : rm.cells = 0 ∧ rm.slots = 0 ∧ rm.frames + 1 ≤ R.frames ∧ 8 + (maxL + 11) + rm.locals ≤ R.locals) (hf : cells ≤ R.cells ∧ slots ≤ R.slots) {st0 : List Value} (hst : st0 = As.reverse ++ st) (hro : (st.map fun v => v.category).sum ≤ 8) (hd : decode cc pc = .ok (.invokestatic idx, 3))
    (hM : ∀ v t' a', f9 = some (v, t', a') → Met l y [.code y bytes maxL re] rm (Pre x N r t a As) (PostV x N r t' a') 0 0 (cA x)) (h : cal f9 K9 = some v9) (kk : ∀ v t' a', f9 = some (v, t', a') → K9 v t' a' = some v9 → J p l e R s m args below meth c x N r nL cells slots Q (pc + 3) lv (st) t' a') : J p l e R s m args below meth c x N r nL cells slots Q pc lv st0 t a := by
  intro H locs ls hW hl
  obtain ⟨v, t', a', hf9, hK9⟩ := cal_some h
  obtain ⟨hx, hb, hml, hown, hre, hlk, hK, hKs⟩ := F
  have hts := hK.w args
  obtain ⟨m1, m2, m4, m5, m6⟩ := M
  refine va_callv (va_runSN (As := As) (rest := st) (Ts := lw_t) (host := host) ⟨hx, hb, hml, hown, hts⟩ (hM _ _ _ hf9) ⟨⟨⟨hrm.1, hrm.2.1, hrm.2.2.1, hrm.2.2.2, fun w hw a1 U hU => by rw [List.mem_singleton] at hw; subst hw; exact gw_move (List.mem_filter.mp m1).2 hU (hts _ m1), List.mem_singleton.mpr rfl⟩, hts _ m1, hts _ m4, ⟨m5, m6⟩, ar_of hn, hts _ q⟩, hts _ m2, trivial⟩ ⟨Pre.blind, Pre.at hK hKs hW⟩ rfl rfl hl.1 hst (lv_room hro) hd ⟨hf.1, hf.2⟩) hW.2 (fun _ _ h => h) (fun _ h => h) (fun u1 T1 H1 locs1 hT hvm hp hB hz hk1 hS1 => kk _ _ _ hf9 hK9 H1 locs1 ls ⟨by rw [hT] at hB; exact hB, hS1⟩ hl)
theorem j_entry {y : MethodName} {maxL : Nat} {rm : Room} {av : List Value} {Qc : Array Value → State → Outcome → State → Prop} {mc ms : Nat} (hy : plainName y.cls = true) (hlv : lv_args 0 av = lv) (hlen : (lg_sl av).length ≤ maxL)
    (body : ∀ p e s m below meth c, Fx p s m meth c cc maxL y.cls ret x → (s.heap.size = cz x + N) → (meth.name = y.name) → J p l e rm s m av.toArray below meth c x N r maxL 0 0 (MQ below Qc av.toArray s mc ms (cA x)) 0 lv [] t a) : Met l y [.code y cc maxL ret] rm (Pre x N r t a av) Qc mc ms (cA x) := by
  refine Met.ofW (cc := cc) (maxL := maxL) (ret := ret) hy rfl ?_
  intro p e s m args below meth c s₁ B hml hv
  obtain ⟨rfl, hK, hKs, hW⟩ := hv
  have hl := lv_entry av (n := maxL) hlen
  rw [lg_entry_eq]
  generalize (lg_sl av ++ List.replicate (maxL - (lg_sl av).length) Slot.unset).toArray = ls at hl ⊢
  rw [hlv] at hl
  exact body p e s m below meth c ⟨B.exec, B.bytes, hml, findClass_of_methodNamed B.named, B.returns, B.notSynchronized, hK, hKs⟩ hW.1 (name_of_methodNamed B.named B.method).1 s.heap [] ls ⟨hW, va_S.rf⟩ hl
end JR
end
section
/-! WORDS: references, layout facts, classes, the tables' words by name -/
def tblM : List Nat := [1, 0, 2, 0, 3, 0, 4, 0, 5, 6, 7, 0, 8, 0, 0, 0, 9, 10, 11, 0, 0, 0, 0, 12, 13, 599, 600, 0, 0, 0, 0, 0, 601, 0, 0, 602]
/-- the references of the system as made: u, v: the first model's kept and before -/
def rho (u v : Option Nat) : sR := fun k j =>
  if (lay k).1 = 0 then
    if (lay k).2 = 6 then ([some 1, some 3, some 8, some 13, some 15, some 17, some 19, some 30, some 41, some 49] : List (Option Nat)).getD j none
    else if (lay k).2 = 5 then (if j < 4 then some (k + 1 + j) else none)
    else if (lay k).2 = 3 then (if j = 0 then some 3 else if j < 12 then some (k + j - 1) else none)
    else if (lay k).2 = 0 then (if j = 0 then some (k + 1) else if j = 1 then some (k + 6) else none)
    else if (lay k).2 = 7 then (if j = 20 then (if k = 50 then u else none) else if j = 22 then (if k = 50 then v else none) else if tblM.getD j 0 = 0 then none else some (k + tblM.getD j 0))
    else (if j = 0 then some (k + 1) else none)
  else if (lay k).1 = 2 then some (k + 1 + j) else none
theorem ly0 : lay 0 = (0, 6) := rfl
theorem ly1 : lay 1 = (0, 1) := rfl
theorem ly2 : lay 2 = (1, 64) := rfl
theorem ly3 : lay 3 = (0, 5) := rfl
theorem ly4 : lay 4 = (1, 8) := rfl
theorem ly5 : lay 5 = (1, 8) := rfl
theorem ly6 : lay 6 = (1, 8) := rfl
theorem ly7 : lay 7 = (1, 4) := rfl
theorem ly8 : lay 8 = (0, 5) := rfl
theorem ly9 : lay 9 = (1, 8) := rfl
theorem ly10 : lay 10 = (1, 8) := rfl
theorem ly11 : lay 11 = (1, 8) := rfl
theorem ly12 : lay 12 = (1, 4) := rfl
theorem ly13 : lay 13 = (0, 2) := rfl
theorem ly14 : lay 14 = (1, 6) := rfl
theorem ly15 : lay 15 = (0, 2) := rfl
theorem ly16 : lay 16 = (1, 6) := rfl
theorem ly17 : lay 17 = (0, 4) := rfl
theorem ly18 : lay 18 = (1, 12) := rfl
theorem ly19 : lay 19 = (0, 3) := rfl
theorem ly20 : lay 20 = (1, 585) := rfl
theorem ly21 : lay 21 = (1, 585) := rfl
theorem ly22 : lay 22 = (1, 585) := rfl
theorem ly23 : lay 23 = (1, 585) := rfl
theorem ly24 : lay 24 = (1, 585) := rfl
theorem ly25 : lay 25 = (1, 2560) := rfl
theorem ly26 : lay 26 = (1, 585) := rfl
theorem ly27 : lay 27 = (1, 256) := rfl
theorem ly28 : lay 28 = (1, 25) := rfl
theorem ly29 : lay 29 = (1, 25) := rfl
theorem ly30 : lay 30 = (0, 3) := rfl
theorem ly31 : lay 31 = (1, 585) := rfl
theorem ly32 : lay 32 = (1, 585) := rfl
theorem ly33 : lay 33 = (1, 585) := rfl
theorem ly34 : lay 34 = (1, 585) := rfl
theorem ly35 : lay 35 = (1, 585) := rfl
theorem ly36 : lay 36 = (1, 2560) := rfl
theorem ly37 : lay 37 = (1, 585) := rfl
theorem ly38 : lay 38 = (1, 256) := rfl
theorem ly39 : lay 39 = (1, 25) := rfl
theorem ly40 : lay 40 = (1, 25) := rfl
theorem ly41 : lay 41 = (0, 0) := rfl
theorem ly42 : lay 42 = (0, 5) := rfl
theorem ly43 : lay 43 = (1, 8) := rfl
theorem ly44 : lay 44 = (1, 8) := rfl
theorem ly45 : lay 45 = (1, 8) := rfl
theorem ly46 : lay 46 = (1, 4) := rfl
theorem ly47 : lay 47 = (0, 4) := rfl
theorem ly48 : lay 48 = (1, 12) := rfl
theorem ly49 : lay 49 = (1, 7) := rfl
theorem ly50 : lay 50 = (0, 7) := rfl
theorem ly51 : lay 51 = (1, 64) := rfl
theorem ly52 : lay 52 = (1, 6) := rfl
theorem ly53 : lay 53 = (1, 6) := rfl
theorem ly54 : lay 54 = (1, 8) := rfl
theorem ly55 : lay 55 = (1, 8) := rfl
theorem ly56 : lay 56 = (1, 8) := rfl
theorem ly57 : lay 57 = (1, 8) := rfl
theorem ly58 : lay 58 = (1, 4) := rfl
theorem ly59 : lay 59 = (1, 12) := rfl
theorem ly60 : lay 60 = (1, 12) := rfl
theorem ly61 : lay 61 = (1, 12) := rfl
theorem ly62 : lay 62 = (1, 585) := rfl
theorem ly63 : lay 63 = (2, 585) := rfl
theorem ly649 : lay 649 = (1, 585) := rfl
theorem ly650 : lay 650 = (1, 585) := rfl
theorem ly651 : lay 651 = (1, 4) := rfl
theorem ly652 : lay 652 = (1, 3) := rfl
theorem lyRow {i : Nat} (h : i < 585) : lay (64 + i) = (1, 3) := by
  have e : (64 + i - 50) % 603 = 14 + i := by omega
  unfold lay layM
  rw [if_neg (by omega), e, if_neg (by omega), if_pos (by omega)]
theorem rh0_0 {u v : Option Nat} : rho u v 0 0 = some 1 := rfl
theorem rh0_1 {u v : Option Nat} : rho u v 0 1 = some 3 := rfl
theorem rh0_2 {u v : Option Nat} : rho u v 0 2 = some 8 := rfl
theorem rh0_3 {u v : Option Nat} : rho u v 0 3 = some 13 := rfl
theorem rh0_4 {u v : Option Nat} : rho u v 0 4 = some 15 := rfl
theorem rh0_5 {u v : Option Nat} : rho u v 0 5 = some 17 := rfl
theorem rh0_6 {u v : Option Nat} : rho u v 0 6 = some 19 := rfl
theorem rh0_7 {u v : Option Nat} : rho u v 0 7 = some 30 := rfl
theorem rh0_8 {u v : Option Nat} : rho u v 0 8 = some 41 := rfl
theorem rh0_9 {u v : Option Nat} : rho u v 0 9 = some 49 := rfl
theorem rh1_0 {u v : Option Nat} : rho u v 1 0 = some 2 := rfl
theorem rh41_0 {u v : Option Nat} : rho u v 41 0 = some 42 := rfl
theorem rh41_1 {u v : Option Nat} : rho u v 41 1 = some 47 := rfl
theorem rh50_0 {u v : Option Nat} : rho u v 50 0 = some 51 := rfl
theorem rh50_2 {u v : Option Nat} : rho u v 50 2 = some 52 := rfl
theorem rh50_4 {u v : Option Nat} : rho u v 50 4 = some 53 := rfl
theorem rh50_6 {u v : Option Nat} : rho u v 50 6 = some 54 := rfl
theorem rh50_8 {u v : Option Nat} : rho u v 50 8 = some 55 := rfl
theorem rh50_9 {u v : Option Nat} : rho u v 50 9 = some 56 := rfl
theorem rh50_10 {u v : Option Nat} : rho u v 50 10 = some 57 := rfl
theorem rh50_12 {u v : Option Nat} : rho u v 50 12 = some 58 := rfl
theorem rh50_16 {u v : Option Nat} : rho u v 50 16 = some 59 := rfl
theorem rh50_17 {u v : Option Nat} : rho u v 50 17 = some 60 := rfl
theorem rh50_18 {u v : Option Nat} : rho u v 50 18 = some 61 := rfl
theorem rh50_23 {u v : Option Nat} : rho u v 50 23 = some 62 := rfl
theorem rh50_24 {u v : Option Nat} : rho u v 50 24 = some 63 := rfl
theorem rh50_25 {u v : Option Nat} : rho u v 50 25 = some 649 := rfl
theorem rh50_26 {u v : Option Nat} : rho u v 50 26 = some 650 := rfl
theorem rh50_32 {u v : Option Nat} : rho u v 50 32 = some 651 := rfl
theorem rh50_35 {u v : Option Nat} : rho u v 50 35 = some 652 := rfl
theorem rh50_20 {u v : Option Nat} : rho u v 50 20 = u := rfl
theorem rh50_22 {u v : Option Nat} : rho u v 50 22 = v := rfl
theorem rh63 {u v : Option Nat} : ∀ j, j < 585 → rho u v 63 j = some (64 + j) := fun j _ => rfl
def isTg (k : Nat) : Prop := k = 3 ∨ k = 8 ∨ k = 42
theorem Tg_l {k : Nat} (h : isTg k) : lay k = (0, 5) := by rcases h with rfl | rfl | rfl <;> rfl
theorem Tg_l1 {k : Nat} (h : isTg k) : lay (k + 1) = (1, 8) := by rcases h with rfl | rfl | rfl <;> rfl
theorem Tg_l2 {k : Nat} (h : isTg k) : lay (k + 2) = (1, 8) := by rcases h with rfl | rfl | rfl <;> rfl
theorem Tg_l3 {k : Nat} (h : isTg k) : lay (k + 3) = (1, 8) := by rcases h with rfl | rfl | rfl <;> rfl
theorem Tg_l4 {k : Nat} (h : isTg k) : lay (k + 4) = (1, 4) := by rcases h with rfl | rfl | rfl <;> rfl
theorem Tg_r0 {k : Nat} {u v : Option Nat} (h : isTg k) : rho u v k 0 = some (k + 1) := by rcases h with rfl | rfl | rfl <;> rfl
theorem Tg_r1 {k : Nat} {u v : Option Nat} (h : isTg k) : rho u v k 1 = some (k + 2) := by rcases h with rfl | rfl | rfl <;> rfl
theorem Tg_r2 {k : Nat} {u v : Option Nat} (h : isTg k) : rho u v k 2 = some (k + 3) := by rcases h with rfl | rfl | rfl <;> rfl
theorem Tg_r3 {k : Nat} {u v : Option Nat} (h : isTg k) : rho u v k 3 = some (k + 4) := by rcases h with rfl | rfl | rfl <;> rfl
theorem Tg_lt {k N : Nat} (h : isTg k) (hN : 653 ≤ N) : k < N := by unfold isTg at h; omega
theorem Tg_lt1 {k N : Nat} (h : isTg k) (hN : 653 ≤ N) : k + 1 < N := by unfold isTg at h; omega
theorem Tg_lt2 {k N : Nat} (h : isTg k) (hN : 653 ≤ N) : k + 2 < N := by unfold isTg at h; omega
theorem Tg_lt3 {k N : Nat} (h : isTg k) (hN : 653 ≤ N) : k + 3 < N := by unfold isTg at h; omega
theorem Tg_lt4 {k N : Nat} (h : isTg k) (hN : 653 ≤ N) : k + 4 < N := by unfold isTg at h; omega
def isRw (k : Nat) : Prop := k = 13 ∨ k = 15
theorem Rw_l {k : Nat} (h : isRw k) : lay k = (0, 2) := by rcases h with rfl | rfl <;> rfl
theorem Rw_l1 {k : Nat} (h : isRw k) : lay (k + 1) = (1, 6) := by rcases h with rfl | rfl <;> rfl
theorem Rw_r0 {k : Nat} {u v : Option Nat} (h : isRw k) : rho u v k 0 = some (k + 1) := by rcases h with rfl | rfl <;> rfl
theorem Rw_lt {k N : Nat} (h : isRw k) (hN : 653 ≤ N) : k < N := by unfold isRw at h; omega
theorem Rw_lt1 {k N : Nat} (h : isRw k) (hN : 653 ≤ N) : k + 1 < N := by unfold isRw at h; omega
def isTk (k : Nat) : Prop := k = 17 ∨ k = 47
theorem Tk_l {k : Nat} (h : isTk k) : lay k = (0, 4) := by rcases h with rfl | rfl <;> rfl
theorem Tk_l1 {k : Nat} (h : isTk k) : lay (k + 1) = (1, 12) := by rcases h with rfl | rfl <;> rfl
theorem Tk_r0 {k : Nat} {u v : Option Nat} (h : isTk k) : rho u v k 0 = some (k + 1) := by rcases h with rfl | rfl <;> rfl
theorem Tk_lt {k N : Nat} (h : isTk k) (hN : 653 ≤ N) : k < N := by unfold isTk at h; omega
theorem Tk_lt1 {k N : Nat} (h : isTk k) (hN : 653 ≤ N) : k + 1 < N := by unfold isTk at h; omega
def isSy (k : Nat) : Prop := k = 19 ∨ k = 30
theorem Sy_l {k : Nat} (h : isSy k) : lay k = (0, 3) := by rcases h with rfl | rfl <;> rfl
theorem Sy_l1 {k : Nat} (h : isSy k) : lay (k + 1) = (1, 585) := by rcases h with rfl | rfl <;> rfl
theorem Sy_l2 {k : Nat} (h : isSy k) : lay (k + 2) = (1, 585) := by rcases h with rfl | rfl <;> rfl
theorem Sy_l3 {k : Nat} (h : isSy k) : lay (k + 3) = (1, 585) := by rcases h with rfl | rfl <;> rfl
theorem Sy_l4 {k : Nat} (h : isSy k) : lay (k + 4) = (1, 585) := by rcases h with rfl | rfl <;> rfl
theorem Sy_l5 {k : Nat} (h : isSy k) : lay (k + 5) = (1, 585) := by rcases h with rfl | rfl <;> rfl
theorem Sy_l6 {k : Nat} (h : isSy k) : lay (k + 6) = (1, 2560) := by rcases h with rfl | rfl <;> rfl
theorem Sy_l7 {k : Nat} (h : isSy k) : lay (k + 7) = (1, 585) := by rcases h with rfl | rfl <;> rfl
theorem Sy_l8 {k : Nat} (h : isSy k) : lay (k + 8) = (1, 256) := by rcases h with rfl | rfl <;> rfl
theorem Sy_l9 {k : Nat} (h : isSy k) : lay (k + 9) = (1, 25) := by rcases h with rfl | rfl <;> rfl
theorem Sy_l10 {k : Nat} (h : isSy k) : lay (k + 10) = (1, 25) := by rcases h with rfl | rfl <;> rfl
theorem Sy_r2 {k : Nat} {u v : Option Nat} (h : isSy k) : rho u v k 2 = some (k + 1) := by rcases h with rfl | rfl <;> rfl
theorem Sy_r3 {k : Nat} {u v : Option Nat} (h : isSy k) : rho u v k 3 = some (k + 2) := by rcases h with rfl | rfl <;> rfl
theorem Sy_r4 {k : Nat} {u v : Option Nat} (h : isSy k) : rho u v k 4 = some (k + 3) := by rcases h with rfl | rfl <;> rfl
theorem Sy_r5 {k : Nat} {u v : Option Nat} (h : isSy k) : rho u v k 5 = some (k + 4) := by rcases h with rfl | rfl <;> rfl
theorem Sy_r6 {k : Nat} {u v : Option Nat} (h : isSy k) : rho u v k 6 = some (k + 5) := by rcases h with rfl | rfl <;> rfl
theorem Sy_r7 {k : Nat} {u v : Option Nat} (h : isSy k) : rho u v k 7 = some (k + 6) := by rcases h with rfl | rfl <;> rfl
theorem Sy_r8 {k : Nat} {u v : Option Nat} (h : isSy k) : rho u v k 8 = some (k + 7) := by rcases h with rfl | rfl <;> rfl
theorem Sy_r9 {k : Nat} {u v : Option Nat} (h : isSy k) : rho u v k 9 = some (k + 8) := by rcases h with rfl | rfl <;> rfl
theorem Sy_r10 {k : Nat} {u v : Option Nat} (h : isSy k) : rho u v k 10 = some (k + 9) := by rcases h with rfl | rfl <;> rfl
theorem Sy_r11 {k : Nat} {u v : Option Nat} (h : isSy k) : rho u v k 11 = some (k + 10) := by rcases h with rfl | rfl <;> rfl
theorem Sy_r0 {k : Nat} {u v : Option Nat} (h : isSy k) : rho u v k 0 = some 3 := by rcases h with rfl | rfl <;> rfl
theorem Sy_lt {k N : Nat} (h : isSy k) (hN : 653 ≤ N) : k < N := by unfold isSy at h; omega
theorem Sy_lt1 {k N : Nat} (h : isSy k) (hN : 653 ≤ N) : k + 1 < N := by unfold isSy at h; omega
theorem Sy_lt2 {k N : Nat} (h : isSy k) (hN : 653 ≤ N) : k + 2 < N := by unfold isSy at h; omega
theorem Sy_lt3 {k N : Nat} (h : isSy k) (hN : 653 ≤ N) : k + 3 < N := by unfold isSy at h; omega
theorem Sy_lt4 {k N : Nat} (h : isSy k) (hN : 653 ≤ N) : k + 4 < N := by unfold isSy at h; omega
theorem Sy_lt5 {k N : Nat} (h : isSy k) (hN : 653 ≤ N) : k + 5 < N := by unfold isSy at h; omega
theorem Sy_lt6 {k N : Nat} (h : isSy k) (hN : 653 ≤ N) : k + 6 < N := by unfold isSy at h; omega
theorem Sy_lt7 {k N : Nat} (h : isSy k) (hN : 653 ≤ N) : k + 7 < N := by unfold isSy at h; omega
theorem Sy_lt8 {k N : Nat} (h : isSy k) (hN : 653 ≤ N) : k + 8 < N := by unfold isSy at h; omega
theorem Sy_lt9 {k N : Nat} (h : isSy k) (hN : 653 ≤ N) : k + 9 < N := by unfold isSy at h; omega
theorem Sy_lt10 {k N : Nat} (h : isSy k) (hN : 653 ≤ N) : k + 10 < N := by unfold isSy at h; omega
set_option maxRecDepth 100000 in
theorem clX0 : clO 0 RX0 TX0 4 tyX0 := ⟨rfl, rfl, by decide +kernel, tyX0_ok, nmX0, by decide +kernel⟩
set_option maxRecDepth 100000 in
theorem clX1 : clO 1 RX1 TX1 2 tyX1 := ⟨rfl, rfl, by decide +kernel, tyX1_ok, nmX1, by decide +kernel⟩
set_option maxRecDepth 100000 in
theorem clX2 : clO 2 RX2 TX2 2 tyX2 := ⟨rfl, rfl, by decide +kernel, tyX2_ok, nmX2, by decide +kernel⟩
set_option maxRecDepth 100000 in
theorem clX3 : clO 3 RX3 TX3 18 tyX3 := ⟨rfl, rfl, by decide +kernel, tyX3_ok, nmX3, by decide +kernel⟩
set_option maxRecDepth 100000 in
theorem clX5 : clO 4 RX5 TX5 2 tyX5 := ⟨rfl, rfl, by decide +kernel, tyX5_ok, nmX5, by decide +kernel⟩
set_option maxRecDepth 100000 in
theorem clX6 : clO 5 RX6 TX6 8 tyX6 := ⟨rfl, rfl, by decide +kernel, tyX6_ok, nmX6, by decide +kernel⟩
set_option maxRecDepth 100000 in
theorem clX7 : clO 6 RX7 TX7 11 tyX7 := ⟨rfl, rfl, by decide +kernel, tyX7_ok, nmX7, by decide +kernel⟩
set_option maxRecDepth 100000 in
theorem clX8 : clO 7 RX8 TX8 36 tyX8 := ⟨rfl, rfl, by decide +kernel, tyX8_ok, nmX8, by decide +kernel⟩
theorem tb1 {w : Cond} (h : w ∈ tables_1_1) (g : gw w = true) : w ∈ lw_t := lw_in (List.mem_append_right _ (List.mem_append_left _ h)) g
theorem tb2 {w : Cond} (h : w ∈ tables_1_2) (g : gw w = true) : w ∈ lw_t := lw_in (List.mem_append_right _ (List.mem_append_right _ (List.mem_append_left _ h))) g
theorem tb3 {w : Cond} (h : w ∈ tables_1_3) (g : gw w = true) : w ∈ lw_t := lw_in (List.mem_append_right _ (List.mem_append_right _ (List.mem_append_right _ (List.mem_append_left _ h)))) g
theorem tb4 {w : Cond} (h : w ∈ tables_1_4) (g : gw w = true) : w ∈ lw_t := lw_in (List.mem_append_right _ (List.mem_append_right _ (List.mem_append_right _ (List.mem_append_right _ (List.mem_append_left _ h))))) g
theorem tb5 {w : Cond} (h : w ∈ tables_1_5) (g : gw w = true) : w ∈ lw_t := lw_in (List.mem_append_right _ (List.mem_append_right _ (List.mem_append_right _ (List.mem_append_right _ (List.mem_append_right _ h))))) g
theorem tbs {q : MethodName × Nat} (h : q ∈ lw_privs) : Cond.selects q.1.cls q.1 q.1 ∈ lw_t := lw_in (List.mem_append_left _ (List.mem_map.mpr ⟨q, h, rfl⟩)) rfl
theorem qi_X7 : .initialized RX7 ∈ lw_t := tb1 (List.mem_of_getElem? (i := 1) rfl) rfl
theorem qi_X0 : .initialized RX0 ∈ lw_t := tb1 (List.mem_of_getElem? (i := 7) rfl) rfl
theorem qi_X1 : .initialized RX1 ∈ lw_t := tb1 (List.mem_of_getElem? (i := 2) rfl) rfl
theorem qi_X2 : .initialized RX2 ∈ lw_t := tb1 (List.mem_of_getElem? (i := 4) rfl) rfl
theorem qi_X3 : .initialized RX3 ∈ lw_t := tb1 (List.mem_of_getElem? (i := 6) rfl) rfl
theorem qi_X4 : .initialized RX4 ∈ lw_t := tb1 (List.mem_of_getElem? (i := 16) rfl) rfl
theorem qi_X5 : .initialized RX5 ∈ lw_t := tb1 (List.mem_of_getElem? (i := 5) rfl) rfl
theorem qi_X6 : .initialized RX6 ∈ lw_t := tb1 (List.mem_of_getElem? (i := 3) rfl) rfl
theorem qi_L : .initialized RL ∈ lw_t := tb1 (List.mem_of_getElem? (i := 0) rfl) rfl
theorem qi_X8 : .initialized RX8 ∈ lw_t := tb1 (List.mem_of_getElem? (i := 8) rfl) rfl
theorem qi_J11 : .initialized RJ11 ∈ lw_t := tb1 (List.mem_of_getElem? (i := 14) rfl) rfl
theorem qi_J9 : .initialized RJ9 ∈ lw_t := tb1 (List.mem_of_getElem? (i := 13) rfl) rfl
theorem qi_J0 : .initialized RJ0 ∈ lw_t := tb1 (List.mem_of_getElem? (i := 9) rfl) rfl
theorem qi_J1 : .initialized RJ1 ∈ lw_t := tb1 (List.mem_of_getElem? (i := 10) rfl) rfl
theorem qi_J2 : .initialized RJ2 ∈ lw_t := tb1 (List.mem_of_getElem? (i := 12) rfl) rfl
theorem qi_J10 : .initialized RJ10 ∈ lw_t := tb1 (List.mem_of_getElem? (i := 15) rfl) rfl
theorem qi_J7 : .initialized RJ7 ∈ lw_t := tb1 (List.mem_of_getElem? (i := 17) rfl) rfl
theorem qi_J3 : .initialized RJ3 ∈ lw_t := tb1 (List.mem_of_getElem? (i := 11) rfl) rfl
theorem mwJ7_fill_53178 : mwS yJ7_fill_53178 cJ7_fill_53178 4 none := ⟨tb3 (List.mem_of_getElem? (i := 102) rfl) rfl, tb3 (List.mem_of_getElem? (i := 101) rfl) rfl, qi_J7, by decide +kernel, by decide +kernel⟩
theorem mwX0_init : mwI yX0_init cX0_init 1 := ⟨tb1 (List.mem_of_getElem? (i := 180) rfl) rfl, tb1 (List.mem_of_getElem? (i := 179) rfl) rfl, qi_X0, by decide +kernel, by decide +kernel, rfl⟩
theorem mwX1_add : mwV yX1_add cX1_add 2 none := ⟨tb2 (List.mem_of_getElem? (i := 6) rfl) rfl, tb2 (List.mem_of_getElem? (i := 4) rfl) rfl, tb2 (List.mem_of_getElem? (i := 5) rfl) rfl, qi_X1, by decide +kernel, by decide +kernel⟩
theorem mwX1_behind : mwV yX1_behind cX1_behind 3 (Option.some FieldType.int) := ⟨tb2 (List.mem_of_getElem? (i := 18) rfl) rfl, tb2 (List.mem_of_getElem? (i := 17) rfl) rfl, tbs (q := (yX1_behind, 2)) (List.mem_of_getElem? (i := 1) rfl), qi_X1, by decide +kernel, by decide +kernel⟩
theorem mwX1_behindForm : mwV yX1_behindForm cX1_behindForm 5 (Option.some FieldType.int) := ⟨tb2 (List.mem_of_getElem? (i := 41) rfl) rfl, tb2 (List.mem_of_getElem? (i := 40) rfl) rfl, tbs (q := (yX1_behindForm, 2)) (List.mem_of_getElem? (i := 4) rfl), qi_X1, by decide +kernel, by decide +kernel⟩
theorem mwX1_behindTelling : mwV yX1_behindTelling cX1_behindTelling 4 (Option.some FieldType.int) := ⟨tb2 (List.mem_of_getElem? (i := 26) rfl) rfl, tb2 (List.mem_of_getElem? (i := 25) rfl) rfl, tbs (q := (yX1_behindTelling, 2)) (List.mem_of_getElem? (i := 3) rfl), qi_X1, by decide +kernel, by decide +kernel⟩
theorem mwX1_digit : mwV yX1_digit cX1_digit 2 (Option.some FieldType.int) := ⟨tb2 (List.mem_of_getElem? (i := 182) rfl) rfl, tb2 (List.mem_of_getElem? (i := 181) rfl) rfl, tbs (q := (yX1_digit, 2)) (List.mem_of_getElem? (i := 7) rfl), qi_X1, by decide +kernel, by decide +kernel⟩
theorem mwX1_fits : mwS yX1_fits cX1_fits 2 (Option.some FieldType.boolean) := ⟨tb2 (List.mem_of_getElem? (i := 96) rfl) rfl, tb2 (List.mem_of_getElem? (i := 95) rfl) rfl, qi_X1, by decide +kernel, by decide +kernel⟩
theorem mwX1_formOf : mwS yX1_formOf cX1_formOf 1 (Option.some (FieldType.object "java/lang/String")) := ⟨tb2 (List.mem_of_getElem? (i := 32) rfl) rfl, tb2 (List.mem_of_getElem? (i := 31) rfl) rfl, qi_X1, by decide +kernel, by decide +kernel⟩
theorem mwX1_init : mwI yX1_init cX1_init 1 := ⟨tb1 (List.mem_of_getElem? (i := 30) rfl) rfl, tb1 (List.mem_of_getElem? (i := 29) rfl) rfl, qi_X1, by decide +kernel, by decide +kernel, rfl⟩
theorem mwX1_isDigit : mwS yX1_isDigit cX1_isDigit 1 (Option.some FieldType.boolean) := ⟨tb2 (List.mem_of_getElem? (i := 29) rfl) rfl, tb2 (List.mem_of_getElem? (i := 28) rfl) rfl, qi_X1, by decide +kernel, by decide +kernel⟩
theorem mwX1_sign : mwV yX1_sign cX1_sign 2 (Option.some FieldType.int) := ⟨tb2 (List.mem_of_getElem? (i := 22) rfl) rfl, tb2 (List.mem_of_getElem? (i := 21) rfl) rfl, tbs (q := (yX1_sign, 2)) (List.mem_of_getElem? (i := 2) rfl), qi_X1, by decide +kernel, by decide +kernel⟩
theorem mwX1_statements : mwV yX1_statements cX1_statements 4 (Option.some FieldType.int) := ⟨tb2 (List.mem_of_getElem? (i := 14) rfl) rfl, tb2 (List.mem_of_getElem? (i := 12) rfl) rfl, tb2 (List.mem_of_getElem? (i := 13) rfl) rfl, qi_X1, by decide +kernel, by decide +kernel⟩
theorem mwX1_talkerOf : mwS yX1_talkerOf cX1_talkerOf 1 (Option.some FieldType.int) := ⟨tb2 (List.mem_of_getElem? (i := 99) rfl) rfl, tb2 (List.mem_of_getElem? (i := 98) rfl) rfl, qi_X1, by decide +kernel, by decide +kernel⟩
theorem mwX1_tellOne : mwV yX1_tellOne cX1_tellOne 4 (Option.some FieldType.boolean) := ⟨tb2 (List.mem_of_getElem? (i := 174) rfl) rfl, tb2 (List.mem_of_getElem? (i := 173) rfl) rfl, tbs (q := (yX1_tellOne, 2)) (List.mem_of_getElem? (i := 5) rfl), qi_X1, by decide +kernel, by decide +kernel⟩
theorem mwX1_tellTo : mwV yX1_tellTo cX1_tellTo 6 (Option.some FieldType.int) := ⟨tb2 (List.mem_of_getElem? (i := 170) rfl) rfl, tb2 (List.mem_of_getElem? (i := 168) rfl) rfl, tb2 (List.mem_of_getElem? (i := 169) rfl) rfl, qi_X1, by decide +kernel, by decide +kernel⟩
theorem mwX1_tellWord : mwV yX1_tellWord cX1_tellWord 8 (Option.some FieldType.boolean) := ⟨tb2 (List.mem_of_getElem? (i := 178) rfl) rfl, tb2 (List.mem_of_getElem? (i := 177) rfl) rfl, tbs (q := (yX1_tellWord, 2)) (List.mem_of_getElem? (i := 6) rfl), qi_X1, by decide +kernel, by decide +kernel⟩
theorem mwX2_add : mwV yX2_add cX2_add 2 none := ⟨tb3 (List.mem_of_getElem? (i := 4) rfl) rfl, tb3 (List.mem_of_getElem? (i := 2) rfl) rfl, tb3 (List.mem_of_getElem? (i := 3) rfl) rfl, qi_X2, by decide +kernel, by decide +kernel⟩
theorem mwX2_init : mwI yX2_init cX2_init 1 := ⟨tb1 (List.mem_of_getElem? (i := 87) rfl) rfl, tb1 (List.mem_of_getElem? (i := 86) rfl) rfl, qi_X2, by decide +kernel, by decide +kernel, rfl⟩
theorem mwX2_sense : mwV yX2_sense cX2_sense 4 (Option.some FieldType.int) := ⟨tb3 (List.mem_of_getElem? (i := 16) rfl) rfl, tb3 (List.mem_of_getElem? (i := 14) rfl) rfl, tb3 (List.mem_of_getElem? (i := 15) rfl) rfl, qi_X2, by decide +kernel, by decide +kernel⟩
theorem mwX3_answerTo : mwV yX3_answerTo cX3_answerTo 5 (Option.some FieldType.int) := ⟨tb3 (List.mem_of_getElem? (i := 75) rfl) rfl, tb3 (List.mem_of_getElem? (i := 73) rfl) rfl, tb3 (List.mem_of_getElem? (i := 74) rfl) rfl, qi_X3, by decide +kernel, by decide +kernel⟩
theorem mwX3_bestQuestion : mwV yX3_bestQuestion cX3_bestQuestion 4 (Option.some FieldType.int) := ⟨tb3 (List.mem_of_getElem? (i := 188) rfl) rfl, tb3 (List.mem_of_getElem? (i := 186) rfl) rfl, tb3 (List.mem_of_getElem? (i := 187) rfl) rfl, qi_X3, by decide +kernel, by decide +kernel⟩
theorem mwX3_casesAnsweredBy : mwV yX3_casesAnsweredBy cX3_casesAnsweredBy 7 (Option.some FieldType.int) := ⟨tb3 (List.mem_of_getElem? (i := 221) rfl) rfl, tb3 (List.mem_of_getElem? (i := 219) rfl) rfl, tb3 (List.mem_of_getElem? (i := 220) rfl) rfl, qi_X3, by decide +kernel, by decide +kernel⟩
theorem mwX3_casesLeftBy : mwV yX3_casesLeftBy cX3_casesLeftBy 5 (Option.some FieldType.int) := ⟨tb4 (List.mem_of_getElem? (i := 64) rfl) rfl, tb4 (List.mem_of_getElem? (i := 62) rfl) rfl, tb4 (List.mem_of_getElem? (i := 63) rfl) rfl, qi_X3, by decide +kernel, by decide +kernel⟩
theorem mwX3_casesWithWeight : mwV yX3_casesWithWeight cX3_casesWithWeight 3 (Option.some FieldType.int) := ⟨tb3 (List.mem_of_getElem? (i := 204) rfl) rfl, tb3 (List.mem_of_getElem? (i := 203) rfl) rfl, tbs (q := (yX3_casesWithWeight, 18)) (List.mem_of_getElem? (i := 24) rfl), qi_X3, by decide +kernel, by decide +kernel⟩
theorem mwX3_chosen : mwV yX3_chosen cX3_chosen 6 (Option.some FieldType.int) := ⟨tb3 (List.mem_of_getElem? (i := 112) rfl) rfl, tb3 (List.mem_of_getElem? (i := 111) rfl) rfl, tbs (q := (yX3_chosen, 18)) (List.mem_of_getElem? (i := 15) rfl), qi_X3, by decide +kernel, by decide +kernel⟩
theorem mwX3_clearGroups : mwV yX3_clearGroups cX3_clearGroups 2 none := ⟨tb3 (List.mem_of_getElem? (i := 83) rfl) rfl, tb3 (List.mem_of_getElem? (i := 82) rfl) rfl, tbs (q := (yX3_clearGroups, 18)) (List.mem_of_getElem? (i := 12) rfl), qi_X3, by decide +kernel, by decide +kernel⟩
theorem mwX3_findBest : mwV yX3_findBest cX3_findBest 6 (Option.some FieldType.int) := ⟨tb3 (List.mem_of_getElem? (i := 183) rfl) rfl, tb3 (List.mem_of_getElem? (i := 182) rfl) rfl, tbs (q := (yX3_findBest, 18)) (List.mem_of_getElem? (i := 22) rfl), qi_X3, by decide +kernel, by decide +kernel⟩
theorem mwX3_findFirsts : mwV yX3_findFirsts cX3_findFirsts 3 none := ⟨tb3 (List.mem_of_getElem? (i := 153) rfl) rfl, tb3 (List.mem_of_getElem? (i := 152) rfl) rfl, tbs (q := (yX3_findFirsts, 18)) (List.mem_of_getElem? (i := 19) rfl), qi_X3, by decide +kernel, by decide +kernel⟩
theorem mwX3_firstThatForces : mwV yX3_firstThatForces cX3_firstThatForces 3 (Option.some FieldType.int) := ⟨tb3 (List.mem_of_getElem? (i := 196) rfl) rfl, tb3 (List.mem_of_getElem? (i := 194) rfl) rfl, tb3 (List.mem_of_getElem? (i := 195) rfl) rfl, qi_X3, by decide +kernel, by decide +kernel⟩
theorem mwX3_firstThatMeans : mwV yX3_firstThatMeans cX3_firstThatMeans 2 (Option.some FieldType.int) := ⟨tb3 (List.mem_of_getElem? (i := 149) rfl) rfl, tb3 (List.mem_of_getElem? (i := 147) rfl) rfl, tb3 (List.mem_of_getElem? (i := 148) rfl) rfl, qi_X3, by decide +kernel, by decide +kernel⟩
theorem mwX3_forcesAnswer : mwV yX3_forcesAnswer cX3_forcesAnswer 6 (Option.some FieldType.boolean) := ⟨tb3 (List.mem_of_getElem? (i := 200) rfl) rfl, tb3 (List.mem_of_getElem? (i := 199) rfl) rfl, tbs (q := (yX3_forcesAnswer, 18)) (List.mem_of_getElem? (i := 23) rfl), qi_X3, by decide +kernel, by decide +kernel⟩
theorem mwX3_gather : mwV yX3_gather cX3_gather 6 none := ⟨tb3 (List.mem_of_getElem? (i := 106) rfl) rfl, tb3 (List.mem_of_getElem? (i := 105) rfl) rfl, tbs (q := (yX3_gather, 18)) (List.mem_of_getElem? (i := 14) rfl), qi_X3, by decide +kernel, by decide +kernel⟩
theorem mwX3_holdsCase : mwV yX3_holdsCase cX3_holdsCase 3 (Option.some FieldType.boolean) := ⟨tb3 (List.mem_of_getElem? (i := 116) rfl) rfl, tb3 (List.mem_of_getElem? (i := 115) rfl) rfl, tbs (q := (yX3_holdsCase, 18)) (List.mem_of_getElem? (i := 16) rfl), qi_X3, by decide +kernel, by decide +kernel⟩
theorem mwX3_howManyAnswer : mwV yX3_howManyAnswer cX3_howManyAnswer 5 (Option.some FieldType.int) := ⟨tb3 (List.mem_of_getElem? (i := 141) rfl) rfl, tb3 (List.mem_of_getElem? (i := 139) rfl) rfl, tb3 (List.mem_of_getElem? (i := 140) rfl) rfl, qi_X3, by decide +kernel, by decide +kernel⟩
theorem mwX3_init : mwI yX3_init cX3_init 3 := ⟨tb1 (List.mem_of_getElem? (i := 118) rfl) rfl, tb1 (List.mem_of_getElem? (i := 117) rfl) rfl, qi_X3, by decide +kernel, by decide +kernel, rfl⟩
theorem mwX3_isLiked : mwV yX3_isLiked cX3_isLiked 6 (Option.some FieldType.boolean) := ⟨tb3 (List.mem_of_getElem? (i := 120) rfl) rfl, tb3 (List.mem_of_getElem? (i := 119) rfl) rfl, tbs (q := (yX3_isLiked, 18)) (List.mem_of_getElem? (i := 17) rfl), qi_X3, by decide +kernel, by decide +kernel⟩
theorem mwX3_keyOf : mwS yX3_keyOf cX3_keyOf 3 (Option.some FieldType.int) := ⟨tb3 (List.mem_of_getElem? (i := 86) rfl) rfl, tb3 (List.mem_of_getElem? (i := 85) rfl) rfl, qi_X3, by decide +kernel, by decide +kernel⟩
theorem mwX3_leftBy : mwV yX3_leftBy cX3_leftBy 3 (Option.some FieldType.int) := ⟨tb3 (List.mem_of_getElem? (i := 167) rfl) rfl, tb3 (List.mem_of_getElem? (i := 165) rfl) rfl, tb3 (List.mem_of_getElem? (i := 166) rfl) rfl, qi_X3, by decide +kernel, by decide +kernel⟩
theorem mwX3_leftOfBest : mwV yX3_leftOfBest cX3_leftOfBest 4 (Option.some FieldType.int) := ⟨tb3 (List.mem_of_getElem? (i := 179) rfl) rfl, tb3 (List.mem_of_getElem? (i := 177) rfl) rfl, tb3 (List.mem_of_getElem? (i := 178) rfl) rfl, qi_X3, by decide +kernel, by decide +kernel⟩
theorem mwX3_leftUnder : mwV yX3_leftUnder cX3_leftUnder 8 (Option.some FieldType.int) := ⟨tb3 (List.mem_of_getElem? (i := 171) rfl) rfl, tb3 (List.mem_of_getElem? (i := 170) rfl) rfl, tbs (q := (yX3_leftUnder, 18)) (List.mem_of_getElem? (i := 21) rfl), qi_X3, by decide +kernel, by decide +kernel⟩
theorem mwX3_lengthOf : mwV yX3_lengthOf cX3_lengthOf 5 (Option.some FieldType.int) := ⟨tb3 (List.mem_of_getElem? (i := 128) rfl) rfl, tb3 (List.mem_of_getElem? (i := 126) rfl) rfl, tb3 (List.mem_of_getElem? (i := 127) rfl) rfl, qi_X3, by decide +kernel, by decide +kernel⟩
theorem mwX3_noteFirst : mwV yX3_noteFirst cX3_noteFirst 4 none := ⟨tb3 (List.mem_of_getElem? (i := 157) rfl) rfl, tb3 (List.mem_of_getElem? (i := 156) rfl) rfl, tbs (q := (yX3_noteFirst, 18)) (List.mem_of_getElem? (i := 20) rfl), qi_X3, by decide +kernel, by decide +kernel⟩
theorem mwX3_numberOf : mwV yX3_numberOf cX3_numberOf 4 (Option.some FieldType.int) := ⟨tb3 (List.mem_of_getElem? (i := 217) rfl) rfl, tb3 (List.mem_of_getElem? (i := 215) rfl) rfl, tb3 (List.mem_of_getElem? (i := 216) rfl) rfl, qi_X3, by decide +kernel, by decide +kernel⟩
theorem mwX3_putInGroup : mwV yX3_putInGroup cX3_putInGroup 5 none := ⟨tb3 (List.mem_of_getElem? (i := 95) rfl) rfl, tb3 (List.mem_of_getElem? (i := 94) rfl) rfl, tbs (q := (yX3_putInGroup, 18)) (List.mem_of_getElem? (i := 13) rfl), qi_X3, by decide +kernel, by decide +kernel⟩
theorem mwX3_refresh : mwV yX3_refresh cX3_refresh 4 none := ⟨tb3 (List.mem_of_getElem? (i := 79) rfl) rfl, tb3 (List.mem_of_getElem? (i := 78) rfl) rfl, tbs (q := (yX3_refresh, 18)) (List.mem_of_getElem? (i := 11) rfl), qi_X3, by decide +kernel, by decide +kernel⟩
theorem mwX3_wordOf : mwV yX3_wordOf cX3_wordOf 6 (Option.some FieldType.int) := ⟨tb3 (List.mem_of_getElem? (i := 132) rfl) rfl, tb3 (List.mem_of_getElem? (i := 130) rfl) rfl, tb3 (List.mem_of_getElem? (i := 131) rfl) rfl, qi_X3, by decide +kernel, by decide +kernel⟩
theorem mwX4_grown : mwS yX4_grown cX4_grown 4 (Option.some FieldType.int) := ⟨tb3 (List.mem_of_getElem? (i := 24) rfl) rfl, tb3 (List.mem_of_getElem? (i := 23) rfl) rfl, qi_X4, by decide +kernel, by decide +kernel⟩
theorem mwX4_idles : mwS yX4_idles cX4_idles 1 (Option.some FieldType.int) := ⟨tb3 (List.mem_of_getElem? (i := 47) rfl) rfl, tb3 (List.mem_of_getElem? (i := 46) rfl) rfl, qi_X4, by decide +kernel, by decide +kernel⟩
theorem mwX4_length : mwS yX4_length cX4_length 1 (Option.some FieldType.int) := ⟨tb3 (List.mem_of_getElem? (i := 44) rfl) rfl, tb3 (List.mem_of_getElem? (i := 43) rfl) rfl, qi_X4, by decide +kernel, by decide +kernel⟩
theorem mwX4_meaning : mwS yX4_meaning cX4_meaning 1 (Option.some FieldType.int) := ⟨tb3 (List.mem_of_getElem? (i := 31) rfl) rfl, tb3 (List.mem_of_getElem? (i := 30) rfl) rfl, qi_X4, by decide +kernel, by decide +kernel⟩
theorem mwX4_ofLength : mwS yX4_ofLength cX4_ofLength 2 (Option.some FieldType.int) := ⟨tb3 (List.mem_of_getElem? (i := 38) rfl) rfl, tb3 (List.mem_of_getElem? (i := 37) rfl) rfl, qi_X4, by decide +kernel, by decide +kernel⟩
theorem mwX4_withTelling : mwS yX4_withTelling cX4_withTelling 5 (Option.some FieldType.int) := ⟨tb3 (List.mem_of_getElem? (i := 27) rfl) rfl, tb3 (List.mem_of_getElem? (i := 26) rfl) rfl, qi_X4, by decide +kernel, by decide +kernel⟩
theorem mwX5_add : mwV yX5_add cX5_add 2 none := ⟨tb4 (List.mem_of_getElem? (i := 1) rfl) rfl, tb3 (List.mem_of_getElem? (i := 239) rfl) rfl, tb4 (List.mem_of_getElem? (i := 0) rfl) rfl, qi_X5, by decide +kernel, by decide +kernel⟩
theorem mwX5_copyFrom : mwV yX5_copyFrom cX5_copyFrom 2 none := ⟨tb4 (List.mem_of_getElem? (i := 72) rfl) rfl, tb4 (List.mem_of_getElem? (i := 70) rfl) rfl, tb4 (List.mem_of_getElem? (i := 71) rfl) rfl, qi_X5, by decide +kernel, by decide +kernel⟩
theorem mwX5_init : mwI yX5_init cX5_init 1 := ⟨tb1 (List.mem_of_getElem? (i := 103) rfl) rfl, tb1 (List.mem_of_getElem? (i := 102) rfl) rfl, qi_X5, by decide +kernel, by decide +kernel, rfl⟩
theorem mwX5_latest : mwV yX5_latest cX5_latest 1 (Option.some FieldType.int) := ⟨tb3 (List.mem_of_getElem? (i := 237) rfl) rfl, tb3 (List.mem_of_getElem? (i := 235) rfl) rfl, tb3 (List.mem_of_getElem? (i := 236) rfl) rfl, qi_X5, by decide +kernel, by decide +kernel⟩
theorem mwX5_meaningOfAnswers : mwV yX5_meaningOfAnswers cX5_meaningOfAnswers 3 (Option.some FieldType.int) := ⟨tb4 (List.mem_of_getElem? (i := 13) rfl) rfl, tb4 (List.mem_of_getElem? (i := 11) rfl) rfl, tb4 (List.mem_of_getElem? (i := 12) rfl) rfl, qi_X5, by decide +kernel, by decide +kernel⟩
theorem mwX6_addPerson : mwV yX6_addPerson cX6_addPerson 2 (Option.some FieldType.boolean) := ⟨tb2 (List.mem_of_getElem? (i := 205) rfl) rfl, tb2 (List.mem_of_getElem? (i := 203) rfl) rfl, tb2 (List.mem_of_getElem? (i := 204) rfl) rfl, qi_X6, by decide +kernel, by decide +kernel⟩
theorem mwX6_addWord : mwV yX6_addWord cX6_addWord 3 (Option.some FieldType.boolean) := ⟨tb2 (List.mem_of_getElem? (i := 189) rfl) rfl, tb2 (List.mem_of_getElem? (i := 187) rfl) rfl, tb2 (List.mem_of_getElem? (i := 188) rfl) rfl, qi_X6, by decide +kernel, by decide +kernel⟩
theorem mwX6_copyFrom : mwV yX6_copyFrom cX6_copyFrom 2 none := ⟨tb2 (List.mem_of_getElem? (i := 163) rfl) rfl, tb2 (List.mem_of_getElem? (i := 161) rfl) rfl, tb2 (List.mem_of_getElem? (i := 162) rfl) rfl, qi_X6, by decide +kernel, by decide +kernel⟩
theorem mwX6_grown : mwV yX6_grown cX6_grown 3 (Option.some FieldType.int) := ⟨tb3 (List.mem_of_getElem? (i := 20) rfl) rfl, tb3 (List.mem_of_getElem? (i := 18) rfl) rfl, tb3 (List.mem_of_getElem? (i := 19) rfl) rfl, qi_X6, by decide +kernel, by decide +kernel⟩
theorem mwX6_hasPerson : mwV yX6_hasPerson cX6_hasPerson 2 (Option.some FieldType.boolean) := ⟨tb3 (List.mem_of_getElem? (i := 71) rfl) rfl, tb3 (List.mem_of_getElem? (i := 69) rfl) rfl, tb3 (List.mem_of_getElem? (i := 70) rfl) rfl, qi_X6, by decide +kernel, by decide +kernel⟩
theorem mwX6_hasWord : mwV yX6_hasWord cX6_hasWord 2 (Option.some FieldType.boolean) := ⟨tb2 (List.mem_of_getElem? (i := 218) rfl) rfl, tb2 (List.mem_of_getElem? (i := 216) rfl) rfl, tb2 (List.mem_of_getElem? (i := 217) rfl) rfl, qi_X6, by decide +kernel, by decide +kernel⟩
theorem mwX6_init : mwI yX6_init cX6_init 1 := ⟨tb1 (List.mem_of_getElem? (i := 45) rfl) rfl, tb1 (List.mem_of_getElem? (i := 44) rfl) rfl, qi_X6, by decide +kernel, by decide +kernel, rfl⟩
theorem mwX6_setLaw : mwV yX6_setLaw cX6_setLaw 2 (Option.some FieldType.boolean) := ⟨tb2 (List.mem_of_getElem? (i := 198) rfl) rfl, tb2 (List.mem_of_getElem? (i := 196) rfl) rfl, tb2 (List.mem_of_getElem? (i := 197) rfl) rfl, qi_X6, by decide +kernel, by decide +kernel⟩
theorem mwX6_setWeight : mwV yX6_setWeight cX6_setWeight 3 (Option.some FieldType.boolean) := ⟨tb2 (List.mem_of_getElem? (i := 193) rfl) rfl, tb2 (List.mem_of_getElem? (i := 191) rfl) rfl, tb2 (List.mem_of_getElem? (i := 192) rfl) rfl, qi_X6, by decide +kernel, by decide +kernel⟩
theorem mwX6_weightOf : mwV yX6_weightOf cX6_weightOf 4 (Option.some FieldType.int) := ⟨tb3 (List.mem_of_getElem? (i := 99) rfl) rfl, tb3 (List.mem_of_getElem? (i := 97) rfl) rfl, tb3 (List.mem_of_getElem? (i := 98) rfl) rfl, qi_X6, by decide +kernel, by decide +kernel⟩
theorem mwX7_addTo : mwV yX7_addTo cX7_addTo 3 (Option.some FieldType.int) := ⟨tb3 (List.mem_of_getElem? (i := 0) rfl) rfl, tb2 (List.mem_of_getElem? (i := 239) rfl) rfl, tbs (q := (yX7_addTo, 11)) (List.mem_of_getElem? (i := 9) rfl), qi_X7, by decide +kernel, by decide +kernel⟩
theorem mwX7_answer : mwV yX7_answer cX7_answer 4 (Option.some FieldType.int) := ⟨tb3 (List.mem_of_getElem? (i := 67) rfl) rfl, tb3 (List.mem_of_getElem? (i := 65) rfl) rfl, tb3 (List.mem_of_getElem? (i := 66) rfl) rfl, qi_X7, by decide +kernel, by decide +kernel⟩
theorem mwX7_answers : mwV yX7_answers cX7_answers 2 (Option.some FieldType.int) := ⟨tb3 (List.mem_of_getElem? (i := 137) rfl) rfl, tb3 (List.mem_of_getElem? (i := 135) rfl) rfl, tb3 (List.mem_of_getElem? (i := 136) rfl) rfl, qi_X7, by decide +kernel, by decide +kernel⟩
theorem mwX7_asBit : mwS yX7_asBit cX7_asBit 1 (Option.some FieldType.int) := ⟨tb3 (List.mem_of_getElem? (i := 50) rfl) rfl, tb3 (List.mem_of_getElem? (i := 49) rfl) rfl, qi_X7, by decide +kernel, by decide +kernel⟩
theorem mwX7_best : mwV yX7_best cX7_best 4 (Option.some FieldType.int) := ⟨tb3 (List.mem_of_getElem? (i := 175) rfl) rfl, tb3 (List.mem_of_getElem? (i := 173) rfl) rfl, tb3 (List.mem_of_getElem? (i := 174) rfl) rfl, qi_X7, by decide +kernel, by decide +kernel⟩
theorem mwX7_chance : mwV yX7_chance cX7_chance 6 (Option.some FieldType.int) := ⟨tb3 (List.mem_of_getElem? (i := 225) rfl) rfl, tb3 (List.mem_of_getElem? (i := 223) rfl) rfl, tb3 (List.mem_of_getElem? (i := 224) rfl) rfl, qi_X7, by decide +kernel, by decide +kernel⟩
theorem mwX7_commonDivisor : mwS yX7_commonDivisor cX7_commonDivisor 6 (Option.some FieldType.int) := ⟨tb3 (List.mem_of_getElem? (i := 229) rfl) rfl, tb3 (List.mem_of_getElem? (i := 228) rfl) rfl, qi_X7, by decide +kernel, by decide +kernel⟩
theorem mwX7_count : mwV yX7_count cX7_count 2 (Option.some FieldType.int) := ⟨tb4 (List.mem_of_getElem? (i := 81) rfl) rfl, tb4 (List.mem_of_getElem? (i := 79) rfl) rfl, tb4 (List.mem_of_getElem? (i := 80) rfl) rfl, qi_X7, by decide +kernel, by decide +kernel⟩
theorem mwX7_drawn : mwS yX7_drawn cX7_drawn 2 (Option.some FieldType.int) := ⟨tb4 (List.mem_of_getElem? (i := 58) rfl) rfl, tb4 (List.mem_of_getElem? (i := 57) rfl) rfl, qi_X7, by decide +kernel, by decide +kernel⟩
theorem mwX7_follows : mwV yX7_follows cX7_follows 3 (Option.some FieldType.int) := ⟨tb3 (List.mem_of_getElem? (i := 35) rfl) rfl, tb3 (List.mem_of_getElem? (i := 33) rfl) rfl, tb3 (List.mem_of_getElem? (i := 34) rfl) rfl, qi_X7, by decide +kernel, by decide +kernel⟩
theorem mwX7_force : mwV yX7_force cX7_force 4 (Option.some FieldType.int) := ⟨tb3 (List.mem_of_getElem? (i := 192) rfl) rfl, tb3 (List.mem_of_getElem? (i := 190) rfl) rfl, tb3 (List.mem_of_getElem? (i := 191) rfl) rfl, qi_X7, by decide +kernel, by decide +kernel⟩
theorem mwX7_forgetSayings : mwV yX7_forgetSayings cX7_forgetSayings 1 none := ⟨tb2 (List.mem_of_getElem? (i := 209) rfl) rfl, tb2 (List.mem_of_getElem? (i := 208) rfl) rfl, tbs (q := (yX7_forgetSayings, 11)) (List.mem_of_getElem? (i := 8) rfl), qi_X7, by decide +kernel, by decide +kernel⟩
theorem mwX7_idle : mwV yX7_idle cX7_idle 3 (Option.some FieldType.int) := ⟨tb4 (List.mem_of_getElem? (i := 37) rfl) rfl, tb4 (List.mem_of_getElem? (i := 35) rfl) rfl, tb4 (List.mem_of_getElem? (i := 36) rfl) rfl, qi_X7, by decide +kernel, by decide +kernel⟩
theorem mwX7_image : mwV yX7_image cX7_image 1 (Option.some FieldType.int) := ⟨tb4 (List.mem_of_getElem? (i := 68) rfl) rfl, tb4 (List.mem_of_getElem? (i := 66) rfl) rfl, tb4 (List.mem_of_getElem? (i := 67) rfl) rfl, qi_X7, by decide +kernel, by decide +kernel⟩
theorem mwX7_init : mwI yX7_init cX7_init 1 := ⟨tb1 (List.mem_of_getElem? (i := 22) rfl) rfl, tb1 (List.mem_of_getElem? (i := 21) rfl) rfl, qi_X7, by decide +kernel, by decide +kernel, rfl⟩
theorem mwX7_isCase : mwS yX7_isCase cX7_isCase 1 (Option.some FieldType.boolean) := ⟨tb2 (List.mem_of_getElem? (i := 185) rfl) rfl, tb2 (List.mem_of_getElem? (i := 184) rfl) rfl, qi_X7, by decide +kernel, by decide +kernel⟩
theorem mwX7_isLaw : mwS yX7_isLaw cX7_isLaw 1 (Option.some FieldType.boolean) := ⟨tb2 (List.mem_of_getElem? (i := 201) rfl) rfl, tb2 (List.mem_of_getElem? (i := 200) rfl) rfl, qi_X7, by decide +kernel, by decide +kernel⟩
theorem mwX7_isOnOneSide : mwS yX7_isOnOneSide cX7_isOnOneSide 2 (Option.some FieldType.boolean) := ⟨tb3 (List.mem_of_getElem? (i := 63) rfl) rfl, tb3 (List.mem_of_getElem? (i := 62) rfl) rfl, qi_X7, by decide +kernel, by decide +kernel⟩
theorem mwX7_isSet : mwS yX7_isSet cX7_isSet 1 (Option.some FieldType.boolean) := ⟨tb3 (List.mem_of_getElem? (i := 57) rfl) rfl, tb3 (List.mem_of_getElem? (i := 56) rfl) rfl, qi_X7, by decide +kernel, by decide +kernel⟩
theorem mwX7_isSettled : mwS yX7_isSettled cX7_isSettled 2 (Option.some FieldType.boolean) := ⟨tb3 (List.mem_of_getElem? (i := 60) rfl) rfl, tb3 (List.mem_of_getElem? (i := 59) rfl) rfl, qi_X7, by decide +kernel, by decide +kernel⟩
theorem mwX7_known : mwV yX7_known cX7_known 1 (Option.some FieldType.int) := ⟨tb4 (List.mem_of_getElem? (i := 9) rfl) rfl, tb4 (List.mem_of_getElem? (i := 7) rfl) rfl, tb4 (List.mem_of_getElem? (i := 8) rfl) rfl, qi_X7, by decide +kernel, by decide +kernel⟩
theorem mwX7_last : mwV yX7_last cX7_last 2 (Option.some FieldType.int) := ⟨tb4 (List.mem_of_getElem? (i := 30) rfl) rfl, tb4 (List.mem_of_getElem? (i := 28) rfl) rfl, tb4 (List.mem_of_getElem? (i := 29) rfl) rfl, qi_X7, by decide +kernel, by decide +kernel⟩
theorem mwX7_law : mwV yX7_law cX7_law 3 (Option.some FieldType.int) := ⟨tb2 (List.mem_of_getElem? (i := 231) rfl) rfl, tb2 (List.mem_of_getElem? (i := 229) rfl) rfl, tb2 (List.mem_of_getElem? (i := 230) rfl) rfl, qi_X7, by decide +kernel, by decide +kernel⟩
theorem mwX7_least : mwV yX7_least cX7_least 4 (Option.some FieldType.int) := ⟨tb3 (List.mem_of_getElem? (i := 145) rfl) rfl, tb3 (List.mem_of_getElem? (i := 143) rfl) rfl, tb3 (List.mem_of_getElem? (i := 144) rfl) rfl, qi_X7, by decide +kernel, by decide +kernel⟩
theorem mwX7_left : mwV yX7_left cX7_left 2 (Option.some FieldType.int) := ⟨tb3 (List.mem_of_getElem? (i := 163) rfl) rfl, tb3 (List.mem_of_getElem? (i := 161) rfl) rfl, tb3 (List.mem_of_getElem? (i := 162) rfl) rfl, qi_X7, by decide +kernel, by decide +kernel⟩
theorem mwX7_leftByLots : mwV yX7_leftByLots cX7_leftByLots 10 (Option.some FieldType.int) := ⟨tb4 (List.mem_of_getElem? (i := 50) rfl) rfl, tb4 (List.mem_of_getElem? (i := 49) rfl) rfl, tbs (q := (yX7_leftByLots, 11)) (List.mem_of_getElem? (i := 25) rfl), qi_X7, by decide +kernel, by decide +kernel⟩
theorem mwX7_lengthOrWord : mwV yX7_lengthOrWord cX7_lengthOrWord 3 (Option.some FieldType.int) := ⟨tb3 (List.mem_of_getElem? (i := 124) rfl) rfl, tb3 (List.mem_of_getElem? (i := 123) rfl) rfl, tbs (q := (yX7_lengthOrWord, 11)) (List.mem_of_getElem? (i := 18) rfl), qi_X7, by decide +kernel, by decide +kernel⟩
theorem mwX7_letter : mwV yX7_letter cX7_letter 2 (Option.some FieldType.int) := ⟨tb1 (List.mem_of_getElem? (i := 238) rfl) rfl, tb1 (List.mem_of_getElem? (i := 236) rfl) rfl, tb1 (List.mem_of_getElem? (i := 237) rfl) rfl, qi_X7, by decide +kernel, by decide +kernel⟩
theorem mwX7_longest : mwV yX7_longest cX7_longest 2 (Option.some FieldType.int) := ⟨tb4 (List.mem_of_getElem? (i := 22) rfl) rfl, tb4 (List.mem_of_getElem? (i := 20) rfl) rfl, tb4 (List.mem_of_getElem? (i := 21) rfl) rfl, qi_X7, by decide +kernel, by decide +kernel⟩
theorem mwX7_longestFrom : mwS yX7_longestFrom cX7_longestFrom 6 (Option.some FieldType.int) := ⟨tb4 (List.mem_of_getElem? (i := 25) rfl) rfl, tb4 (List.mem_of_getElem? (i := 24) rfl) rfl, qi_X7, by decide +kernel, by decide +kernel⟩
theorem mwX7_lots : mwV yX7_lots cX7_lots 4 (Option.some FieldType.int) := ⟨tb4 (List.mem_of_getElem? (i := 46) rfl) rfl, tb4 (List.mem_of_getElem? (i := 44) rfl) rfl, tb4 (List.mem_of_getElem? (i := 45) rfl) rfl, qi_X7, by decide +kernel, by decide +kernel⟩
theorem mwX7_mayFollow : mwS yX7_mayFollow cX7_mayFollow 5 (Option.some FieldType.boolean) := ⟨tb3 (List.mem_of_getElem? (i := 41) rfl) rfl, tb3 (List.mem_of_getElem? (i := 40) rfl) rfl, qi_X7, by decide +kernel, by decide +kernel⟩
theorem mwX7_means : mwV yX7_means cX7_means 1 (Option.some FieldType.int) := ⟨tb3 (List.mem_of_getElem? (i := 8) rfl) rfl, tb3 (List.mem_of_getElem? (i := 6) rfl) rfl, tb3 (List.mem_of_getElem? (i := 7) rfl) rfl, qi_X7, by decide +kernel, by decide +kernel⟩
theorem mwX7_meant : mwV yX7_meant cX7_meant 3 (Option.some FieldType.int) := ⟨tb3 (List.mem_of_getElem? (i := 213) rfl) rfl, tb3 (List.mem_of_getElem? (i := 211) rfl) rfl, tb3 (List.mem_of_getElem? (i := 212) rfl) rfl, qi_X7, by decide +kernel, by decide +kernel⟩
theorem mwX7_on : mwV yX7_on cX7_on 1 (Option.some FieldType.int) := ⟨tb4 (List.mem_of_getElem? (i := 77) rfl) rfl, tb4 (List.mem_of_getElem? (i := 75) rfl) rfl, tb4 (List.mem_of_getElem? (i := 76) rfl) rfl, qi_X7, by decide +kernel, by decide +kernel⟩
theorem mwX7_refuse : mwV yX7_refuse cX7_refuse 2 (Option.some FieldType.int) := ⟨tb2 (List.mem_of_getElem? (i := 2) rfl) rfl, tb2 (List.mem_of_getElem? (i := 1) rfl) rfl, tbs (q := (yX7_refuse, 11)) (List.mem_of_getElem? (i := 0) rfl), qi_X7, by decide +kernel, by decide +kernel⟩
theorem mwX7_row : mwV yX7_row cX7_row 2 (Option.some FieldType.int) := ⟨tb2 (List.mem_of_getElem? (i := 236) rfl) rfl, tb2 (List.mem_of_getElem? (i := 234) rfl) rfl, tb2 (List.mem_of_getElem? (i := 235) rfl) rfl, qi_X7, by decide +kernel, by decide +kernel⟩
theorem mwX7_say : mwV yX7_say cX7_say 2 (Option.some FieldType.int) := ⟨tb3 (List.mem_of_getElem? (i := 233) rfl) rfl, tb3 (List.mem_of_getElem? (i := 231) rfl) rfl, tb3 (List.mem_of_getElem? (i := 232) rfl) rfl, qi_X7, by decide +kernel, by decide +kernel⟩
theorem mwX7_saying : mwV yX7_saying cX7_saying 4 (Option.some FieldType.int) := ⟨tb4 (List.mem_of_getElem? (i := 5) rfl) rfl, tb4 (List.mem_of_getElem? (i := 3) rfl) rfl, tb4 (List.mem_of_getElem? (i := 4) rfl) rfl, qi_X7, by decide +kernel, by decide +kernel⟩
theorem mwX7_settles : mwV yX7_settles cX7_settles 2 (Option.some FieldType.int) := ⟨tb3 (List.mem_of_getElem? (i := 54) rfl) rfl, tb3 (List.mem_of_getElem? (i := 52) rfl) rfl, tb3 (List.mem_of_getElem? (i := 53) rfl) rfl, qi_X7, by decide +kernel, by decide +kernel⟩
theorem mwX7_silence : mwV yX7_silence cX7_silence 2 (Option.some FieldType.int) := ⟨tb4 (List.mem_of_getElem? (i := 18) rfl) rfl, tb4 (List.mem_of_getElem? (i := 16) rfl) rfl, tb4 (List.mem_of_getElem? (i := 17) rfl) rfl, qi_X7, by decide +kernel, by decide +kernel⟩
theorem mwX7_speaksLast : mwS yX7_speaksLast cX7_speaksLast 4 (Option.some FieldType.boolean) := ⟨tb4 (List.mem_of_getElem? (i := 33) rfl) rfl, tb4 (List.mem_of_getElem? (i := 32) rfl) rfl, qi_X7, by decide +kernel, by decide +kernel⟩
theorem mwX7_stirred : mwS yX7_stirred cX7_stirred 1 (Option.some FieldType.int) := ⟨tb4 (List.mem_of_getElem? (i := 53) rfl) rfl, tb4 (List.mem_of_getElem? (i := 52) rfl) rfl, qi_X7, by decide +kernel, by decide +kernel⟩
theorem mwX7_takeRow : mwV yX7_takeRow cX7_takeRow 2 (Option.some FieldType.int) := ⟨tb3 (List.mem_of_getElem? (i := 12) rfl) rfl, tb3 (List.mem_of_getElem? (i := 11) rfl) rfl, tbs (q := (yX7_takeRow, 11)) (List.mem_of_getElem? (i := 10) rfl), qi_X7, by decide +kernel, by decide +kernel⟩
theorem mwX7_told : mwV yX7_told cX7_told 2 (Option.some FieldType.int) := ⟨tb3 (List.mem_of_getElem? (i := 209) rfl) rfl, tb3 (List.mem_of_getElem? (i := 207) rfl) rfl, tb3 (List.mem_of_getElem? (i := 208) rfl) rfl, qi_X7, by decide +kernel, by decide +kernel⟩
theorem mwX7_tongue : mwV yX7_tongue cX7_tongue 2 (Option.some FieldType.int) := ⟨tb2 (List.mem_of_getElem? (i := 10) rfl) rfl, tb2 (List.mem_of_getElem? (i := 8) rfl) rfl, tb2 (List.mem_of_getElem? (i := 9) rfl) rfl, qi_X7, by decide +kernel, by decide +kernel⟩
theorem mwX7_truth : mwV yX7_truth cX7_truth 3 (Option.some FieldType.int) := ⟨tb2 (List.mem_of_getElem? (i := 227) rfl) rfl, tb2 (List.mem_of_getElem? (i := 225) rfl) rfl, tb2 (List.mem_of_getElem? (i := 226) rfl) rfl, qi_X7, by decide +kernel, by decide +kernel⟩
theorem mwX7_under : mwV yX7_under cX7_under 3 (Option.some FieldType.int) := ⟨tb4 (List.mem_of_getElem? (i := 42) rfl) rfl, tb4 (List.mem_of_getElem? (i := 40) rfl) rfl, tb4 (List.mem_of_getElem? (i := 41) rfl) rfl, qi_X7, by decide +kernel, by decide +kernel⟩
theorem mwX7_weight : mwV yX7_weight cX7_weight 2 (Option.some FieldType.int) := ⟨tb2 (List.mem_of_getElem? (i := 222) rfl) rfl, tb2 (List.mem_of_getElem? (i := 220) rfl) rfl, tb2 (List.mem_of_getElem? (i := 221) rfl) rfl, qi_X7, by decide +kernel, by decide +kernel⟩
theorem mwX7_word : mwV yX7_word cX7_word 3 (Option.some FieldType.int) := ⟨tb2 (List.mem_of_getElem? (i := 214) rfl) rfl, tb2 (List.mem_of_getElem? (i := 212) rfl) rfl, tb2 (List.mem_of_getElem? (i := 213) rfl) rfl, qi_X7, by decide +kernel, by decide +kernel⟩
theorem mwX8_add : mwV yX8_add cX8_add 6 none := ⟨tb5 (List.mem_of_getElem? (i := 94) rfl) rfl, tb5 (List.mem_of_getElem? (i := 93) rfl) rfl, tbs (q := (yX8_add, 36)) (List.mem_of_getElem? (i := 43) rfl), qi_X8, by decide +kernel, by decide +kernel⟩
theorem mwX8_addWord : mwV yX8_addWord cX8_addWord 3 (Option.some FieldType.boolean) := ⟨tb5 (List.mem_of_getElem? (i := 19) rfl) rfl, tb5 (List.mem_of_getElem? (i := 18) rfl) rfl, tbs (q := (yX8_addWord, 36)) (List.mem_of_getElem? (i := 37) rfl), qi_X8, by decide +kernel, by decide +kernel⟩
theorem mwX8_answer : mwV yX8_answer cX8_answer 4 (Option.some FieldType.int) := ⟨tb5 (List.mem_of_getElem? (i := 82) rfl) rfl, tb5 (List.mem_of_getElem? (i := 80) rfl) rfl, tb5 (List.mem_of_getElem? (i := 81) rfl) rfl, qi_X8, by decide +kernel, by decide +kernel⟩
theorem mwX8_answerOf : mwV yX8_answerOf cX8_answerOf 5 (Option.some FieldType.int) := ⟨tb5 (List.mem_of_getElem? (i := 106) rfl) rfl, tb5 (List.mem_of_getElem? (i := 105) rfl) rfl, tbs (q := (yX8_answerOf, 36)) (List.mem_of_getElem? (i := 46) rfl), qi_X8, by decide +kernel, by decide +kernel⟩
theorem mwX8_answers : mwV yX8_answers cX8_answers 4 (Option.some FieldType.int) := ⟨tb5 (List.mem_of_getElem? (i := 122) rfl) rfl, tb5 (List.mem_of_getElem? (i := 120) rfl) rfl, tb5 (List.mem_of_getElem? (i := 121) rfl) rfl, qi_X8, by decide +kernel, by decide +kernel⟩
theorem mwX8_asks : mwV yX8_asks cX8_asks 5 none := ⟨tb5 (List.mem_of_getElem? (i := 102) rfl) rfl, tb5 (List.mem_of_getElem? (i := 101) rfl) rfl, tbs (q := (yX8_asks, 36)) (List.mem_of_getElem? (i := 45) rfl), qi_X8, by decide +kernel, by decide +kernel⟩
theorem mwX8_asksRow : mwV yX8_asksRow cX8_asksRow 1 none := ⟨tb5 (List.mem_of_getElem? (i := 98) rfl) rfl, tb5 (List.mem_of_getElem? (i := 97) rfl) rfl, tbs (q := (yX8_asksRow, 36)) (List.mem_of_getElem? (i := 44) rfl), qi_X8, by decide +kernel, by decide +kernel⟩
theorem mwX8_best : mwV yX8_best cX8_best 4 (Option.some FieldType.int) := ⟨tb5 (List.mem_of_getElem? (i := 142) rfl) rfl, tb5 (List.mem_of_getElem? (i := 140) rfl) rfl, tb5 (List.mem_of_getElem? (i := 141) rfl) rfl, qi_X8, by decide +kernel, by decide +kernel⟩
theorem mwX8_bestOf : mwV yX8_bestOf cX8_bestOf 6 (Option.some FieldType.int) := ⟨tb5 (List.mem_of_getElem? (i := 146) rfl) rfl, tb5 (List.mem_of_getElem? (i := 145) rfl) rfl, tbs (q := (yX8_bestOf, 36)) (List.mem_of_getElem? (i := 52) rfl), qi_X8, by decide +kernel, by decide +kernel⟩
theorem mwX8_chance : mwV yX8_chance cX8_chance 6 (Option.some FieldType.int) := ⟨tb5 (List.mem_of_getElem? (i := 170) rfl) rfl, tb5 (List.mem_of_getElem? (i := 168) rfl) rfl, tb5 (List.mem_of_getElem? (i := 169) rfl) rfl, qi_X8, by decide +kernel, by decide +kernel⟩
theorem mwX8_comes : mwV yX8_comes cX8_comes 3 (Option.some FieldType.boolean) := ⟨tb5 (List.mem_of_getElem? (i := 11) rfl) rfl, tb5 (List.mem_of_getElem? (i := 10) rfl) rfl, tbs (q := (yX8_comes, 36)) (List.mem_of_getElem? (i := 35) rfl), qi_X8, by decide +kernel, by decide +kernel⟩
theorem mwX8_common : mwS yX8_common cX8_common 5 (Option.some FieldType.int) := ⟨tb5 (List.mem_of_getElem? (i := 173) rfl) rfl, tb5 (List.mem_of_getElem? (i := 172) rfl) rfl, qi_X8, by decide +kernel, by decide +kernel⟩
theorem mwX8_count : mwV yX8_count cX8_count 2 (Option.some FieldType.int) := ⟨tb5 (List.mem_of_getElem? (i := 229) rfl) rfl, tb5 (List.mem_of_getElem? (i := 227) rfl) rfl, tb5 (List.mem_of_getElem? (i := 228) rfl) rfl, qi_X8, by decide +kernel, by decide +kernel⟩
theorem mwX8_digit : mwV yX8_digit cX8_digit 2 (Option.some FieldType.boolean) := ⟨tb4 (List.mem_of_getElem? (i := 230) rfl) rfl, tb4 (List.mem_of_getElem? (i := 229) rfl) rfl, tbs (q := (yX8_digit, 36)) (List.mem_of_getElem? (i := 31) rfl), qi_X8, by decide +kernel, by decide +kernel⟩
theorem mwX8_doesSettle : mwS yX8_doesSettle cX8_doesSettle 2 (Option.some FieldType.boolean) := ⟨tb5 (List.mem_of_getElem? (i := 78) rfl) rfl, tb5 (List.mem_of_getElem? (i := 77) rfl) rfl, qi_X8, by decide +kernel, by decide +kernel⟩
theorem mwX8_draw : mwV yX8_draw cX8_draw 2 (Option.some FieldType.int) := ⟨tb5 (List.mem_of_getElem? (i := 214) rfl) rfl, tb5 (List.mem_of_getElem? (i := 213) rfl) rfl, tbs (q := (yX8_draw, 36)) (List.mem_of_getElem? (i := 55) rfl), qi_X8, by decide +kernel, by decide +kernel⟩
theorem mwX8_faultOfForm : mwV yX8_faultOfForm cX8_faultOfForm 1 (Option.some FieldType.int) := ⟨tb4 (List.mem_of_getElem? (i := 214) rfl) rfl, tb4 (List.mem_of_getElem? (i := 213) rfl) rfl, tbs (q := (yX8_faultOfForm, 36)) (List.mem_of_getElem? (i := 27) rfl), qi_X8, by decide +kernel, by decide +kernel⟩
theorem mwX8_follows : mwV yX8_follows cX8_follows 4 (Option.some FieldType.int) := ⟨tb5 (List.mem_of_getElem? (i := 61) rfl) rfl, tb5 (List.mem_of_getElem? (i := 59) rfl) rfl, tb5 (List.mem_of_getElem? (i := 60) rfl) rfl, qi_X8, by decide +kernel, by decide +kernel⟩
theorem mwX8_force : mwV yX8_force cX8_force 4 (Option.some FieldType.int) := ⟨tb5 (List.mem_of_getElem? (i := 150) rfl) rfl, tb5 (List.mem_of_getElem? (i := 148) rfl) rfl, tb5 (List.mem_of_getElem? (i := 149) rfl) rfl, qi_X8, by decide +kernel, by decide +kernel⟩
theorem mwX8_forces : mwV yX8_forces cX8_forces 7 (Option.some FieldType.boolean) := ⟨tb5 (List.mem_of_getElem? (i := 154) rfl) rfl, tb5 (List.mem_of_getElem? (i := 153) rfl) rfl, tbs (q := (yX8_forces, 36)) (List.mem_of_getElem? (i := 53) rfl), qi_X8, by decide +kernel, by decide +kernel⟩
theorem mwX8_goesBy : mwV yX8_goesBy cX8_goesBy 2 (Option.some FieldType.boolean) := ⟨tb4 (List.mem_of_getElem? (i := 218) rfl) rfl, tb4 (List.mem_of_getElem? (i := 217) rfl) rfl, tbs (q := (yX8_goesBy, 36)) (List.mem_of_getElem? (i := 28) rfl), qi_X8, by decide +kernel, by decide +kernel⟩
theorem mwX8_goesOn : mwV yX8_goesOn cX8_goesOn 2 (Option.some FieldType.boolean) := ⟨tb5 (List.mem_of_getElem? (i := 130) rfl) rfl, tb5 (List.mem_of_getElem? (i := 129) rfl) rfl, tbs (q := (yX8_goesOn, 36)) (List.mem_of_getElem? (i := 50) rfl), qi_X8, by decide +kernel, by decide +kernel⟩
theorem mwX8_idle : mwV yX8_idle cX8_idle 3 (Option.some FieldType.int) := ⟨tb5 (List.mem_of_getElem? (i := 201) rfl) rfl, tb5 (List.mem_of_getElem? (i := 199) rfl) rfl, tb5 (List.mem_of_getElem? (i := 200) rfl) rfl, qi_X8, by decide +kernel, by decide +kernel⟩
theorem mwX8_idleOf : mwV yX8_idleOf cX8_idleOf 5 (Option.some FieldType.int) := ⟨tb5 (List.mem_of_getElem? (i := 65) rfl) rfl, tb5 (List.mem_of_getElem? (i := 64) rfl) rfl, tbs (q := (yX8_idleOf, 36)) (List.mem_of_getElem? (i := 40) rfl), qi_X8, by decide +kernel, by decide +kernel⟩
theorem mwX8_image : mwV yX8_image cX8_image 1 (Option.some FieldType.int) := ⟨tb5 (List.mem_of_getElem? (i := 221) rfl) rfl, tb5 (List.mem_of_getElem? (i := 219) rfl) rfl, tb5 (List.mem_of_getElem? (i := 220) rfl) rfl, qi_X8, by decide +kernel, by decide +kernel⟩
theorem mwX8_in : mwS yX8_in cX8_in 3 (Option.some FieldType.boolean) := ⟨tb5 (List.mem_of_getElem? (i := 30) rfl) rfl, tb5 (List.mem_of_getElem? (i := 29) rfl) rfl, qi_X8, by decide +kernel, by decide +kernel⟩
theorem mwX8_init : mwI yX8_init cX8_init 2 := ⟨tb4 (List.mem_of_getElem? (i := 86) rfl) rfl, tb4 (List.mem_of_getElem? (i := 85) rfl) rfl, qi_X8, by decide +kernel, by decide +kernel, rfl⟩
theorem mwX8_isAnswer : mwV yX8_isAnswer cX8_isAnswer 2 (Option.some FieldType.boolean) := ⟨tb5 (List.mem_of_getElem? (i := 110) rfl) rfl, tb5 (List.mem_of_getElem? (i := 109) rfl) rfl, tbs (q := (yX8_isAnswer, 36)) (List.mem_of_getElem? (i := 47) rfl), qi_X8, by decide +kernel, by decide +kernel⟩
theorem mwX8_isBetter : mwV yX8_isBetter cX8_isBetter 5 (Option.some FieldType.boolean) := ⟨tb5 (List.mem_of_getElem? (i := 114) rfl) rfl, tb5 (List.mem_of_getElem? (i := 113) rfl) rfl, tbs (q := (yX8_isBetter, 36)) (List.mem_of_getElem? (i := 48) rfl), qi_X8, by decide +kernel, by decide +kernel⟩
theorem mwX8_isCase : mwS yX8_isCase cX8_isCase 1 (Option.some FieldType.boolean) := ⟨tb5 (List.mem_of_getElem? (i := 37) rfl) rfl, tb5 (List.mem_of_getElem? (i := 36) rfl) rfl, qi_X8, by decide +kernel, by decide +kernel⟩
theorem mwX8_isPerson : mwV yX8_isPerson cX8_isPerson 2 (Option.some FieldType.boolean) := ⟨tb5 (List.mem_of_getElem? (i := 86) rfl) rfl, tb5 (List.mem_of_getElem? (i := 85) rfl) rfl, tbs (q := (yX8_isPerson, 36)) (List.mem_of_getElem? (i := 41) rfl), qi_X8, by decide +kernel, by decide +kernel⟩
theorem mwX8_isSet : mwS yX8_isSet cX8_isSet 1 (Option.some FieldType.boolean) := ⟨tb5 (List.mem_of_getElem? (i := 75) rfl) rfl, tb5 (List.mem_of_getElem? (i := 74) rfl) rfl, qi_X8, by decide +kernel, by decide +kernel⟩
theorem mwX8_isTold : mwV yX8_isTold cX8_isTold 3 (Option.some FieldType.boolean) := ⟨tb5 (List.mem_of_getElem? (i := 166) rfl) rfl, tb5 (List.mem_of_getElem? (i := 165) rfl) rfl, tbs (q := (yX8_isTold, 36)) (List.mem_of_getElem? (i := 54) rfl), qi_X8, by decide +kernel, by decide +kernel⟩
theorem mwX8_isWord : mwV yX8_isWord cX8_isWord 2 (Option.some FieldType.boolean) := ⟨tb5 (List.mem_of_getElem? (i := 27) rfl) rfl, tb5 (List.mem_of_getElem? (i := 26) rfl) rfl, tbs (q := (yX8_isWord, 36)) (List.mem_of_getElem? (i := 38) rfl), qi_X8, by decide +kernel, by decide +kernel⟩
theorem mwX8_known : mwV yX8_known cX8_known 3 (Option.some FieldType.int) := ⟨tb5 (List.mem_of_getElem? (i := 185) rfl) rfl, tb5 (List.mem_of_getElem? (i := 183) rfl) rfl, tb5 (List.mem_of_getElem? (i := 184) rfl) rfl, qi_X8, by decide +kernel, by decide +kernel⟩
theorem mwX8_last : mwV yX8_last cX8_last 2 (Option.some FieldType.int) := ⟨tb5 (List.mem_of_getElem? (i := 197) rfl) rfl, tb5 (List.mem_of_getElem? (i := 195) rfl) rfl, tb5 (List.mem_of_getElem? (i := 196) rfl) rfl, qi_X8, by decide +kernel, by decide +kernel⟩
theorem mwX8_law : mwV yX8_law cX8_law 3 (Option.some FieldType.int) := ⟨tb5 (List.mem_of_getElem? (i := 45) rfl) rfl, tb5 (List.mem_of_getElem? (i := 43) rfl) rfl, tb5 (List.mem_of_getElem? (i := 44) rfl) rfl, qi_X8, by decide +kernel, by decide +kernel⟩
theorem mwX8_least : mwV yX8_least cX8_least 4 (Option.some FieldType.int) := ⟨tb5 (List.mem_of_getElem? (i := 126) rfl) rfl, tb5 (List.mem_of_getElem? (i := 124) rfl) rfl, tb5 (List.mem_of_getElem? (i := 125) rfl) rfl, qi_X8, by decide +kernel, by decide +kernel⟩
theorem mwX8_left : mwV yX8_left cX8_left 2 (Option.some FieldType.int) := ⟨tb5 (List.mem_of_getElem? (i := 134) rfl) rfl, tb5 (List.mem_of_getElem? (i := 132) rfl) rfl, tb5 (List.mem_of_getElem? (i := 133) rfl) rfl, qi_X8, by decide +kernel, by decide +kernel⟩
theorem mwX8_leftOf : mwV yX8_leftOf cX8_leftOf 5 (Option.some FieldType.int) := ⟨tb5 (List.mem_of_getElem? (i := 138) rfl) rfl, tb5 (List.mem_of_getElem? (i := 137) rfl) rfl, tbs (q := (yX8_leftOf, 36)) (List.mem_of_getElem? (i := 51) rfl), qi_X8, by decide +kernel, by decide +kernel⟩
theorem mwX8_letter : mwV yX8_letter cX8_letter 2 (Option.some FieldType.int) := ⟨tb4 (List.mem_of_getElem? (i := 202) rfl) rfl, tb4 (List.mem_of_getElem? (i := 200) rfl) rfl, tb4 (List.mem_of_getElem? (i := 201) rfl) rfl, qi_X8, by decide +kernel, by decide +kernel⟩
theorem mwX8_list : mwV yX8_list cX8_list 4 none := ⟨tb5 (List.mem_of_getElem? (i := 90) rfl) rfl, tb5 (List.mem_of_getElem? (i := 89) rfl) rfl, tbs (q := (yX8_list, 36)) (List.mem_of_getElem? (i := 42) rfl), qi_X8, by decide +kernel, by decide +kernel⟩
theorem mwX8_longest : mwV yX8_longest cX8_longest 2 (Option.some FieldType.int) := ⟨tb5 (List.mem_of_getElem? (i := 193) rfl) rfl, tb5 (List.mem_of_getElem? (i := 191) rfl) rfl, tb5 (List.mem_of_getElem? (i := 192) rfl) rfl, qi_X8, by decide +kernel, by decide +kernel⟩
theorem mwX8_lots : mwV yX8_lots cX8_lots 8 (Option.some FieldType.int) := ⟨tb5 (List.mem_of_getElem? (i := 210) rfl) rfl, tb5 (List.mem_of_getElem? (i := 208) rfl) rfl, tb5 (List.mem_of_getElem? (i := 209) rfl) rfl, qi_X8, by decide +kernel, by decide +kernel⟩
theorem mwX8_mayFollow : mwS yX8_mayFollow cX8_mayFollow 5 (Option.some FieldType.boolean) := ⟨tb5 (List.mem_of_getElem? (i := 68) rfl) rfl, tb5 (List.mem_of_getElem? (i := 67) rfl) rfl, qi_X8, by decide +kernel, by decide +kernel⟩
theorem mwX8_meaning : mwV yX8_meaning cX8_meaning 10 (Option.some FieldType.int) := ⟨tb5 (List.mem_of_getElem? (i := 57) rfl) rfl, tb5 (List.mem_of_getElem? (i := 56) rfl) rfl, tbs (q := (yX8_meaning, 36)) (List.mem_of_getElem? (i := 39) rfl), qi_X8, by decide +kernel, by decide +kernel⟩
theorem mwX8_means : mwV yX8_means cX8_means 2 (Option.some FieldType.int) := ⟨tb5 (List.mem_of_getElem? (i := 53) rfl) rfl, tb5 (List.mem_of_getElem? (i := 51) rfl) rfl, tb5 (List.mem_of_getElem? (i := 52) rfl) rfl, qi_X8, by decide +kernel, by decide +kernel⟩
theorem mwX8_meant : mwV yX8_meant cX8_meant 4 (Option.some FieldType.int) := ⟨tb5 (List.mem_of_getElem? (i := 162) rfl) rfl, tb5 (List.mem_of_getElem? (i := 160) rfl) rfl, tb5 (List.mem_of_getElem? (i := 161) rfl) rfl, qi_X8, by decide +kernel, by decide +kernel⟩
theorem mwX8_must : mwV yX8_must cX8_must 3 (Option.some FieldType.boolean) := ⟨tb4 (List.mem_of_getElem? (i := 222) rfl) rfl, tb4 (List.mem_of_getElem? (i := 221) rfl) rfl, tbs (q := (yX8_must, 36)) (List.mem_of_getElem? (i := 29) rfl), qi_X8, by decide +kernel, by decide +kernel⟩
theorem mwX8_on : mwV yX8_on cX8_on 1 (Option.some FieldType.int) := ⟨tb5 (List.mem_of_getElem? (i := 225) rfl) rfl, tb5 (List.mem_of_getElem? (i := 223) rfl) rfl, tb5 (List.mem_of_getElem? (i := 224) rfl) rfl, qi_X8, by decide +kernel, by decide +kernel⟩
theorem mwX8_over : mwS yX8_over cX8_over 3 none := ⟨tb5 (List.mem_of_getElem? (i := 7) rfl) rfl, tb5 (List.mem_of_getElem? (i := 6) rfl) rfl, qi_X8, by decide +kernel, by decide +kernel⟩
theorem mwX8_refuse : mwV yX8_refuse cX8_refuse 2 (Option.some FieldType.int) := ⟨tb4 (List.mem_of_getElem? (i := 206) rfl) rfl, tb4 (List.mem_of_getElem? (i := 205) rfl) rfl, tbs (q := (yX8_refuse, 36)) (List.mem_of_getElem? (i := 26) rfl), qi_X8, by decide +kernel, by decide +kernel⟩
theorem mwX8_row : mwV yX8_row cX8_row 2 (Option.some FieldType.int) := ⟨tb5 (List.mem_of_getElem? (i := 49) rfl) rfl, tb5 (List.mem_of_getElem? (i := 47) rfl) rfl, tb5 (List.mem_of_getElem? (i := 48) rfl) rfl, qi_X8, by decide +kernel, by decide +kernel⟩
theorem mwX8_say : mwV yX8_say cX8_say 3 (Option.some FieldType.int) := ⟨tb5 (List.mem_of_getElem? (i := 177) rfl) rfl, tb5 (List.mem_of_getElem? (i := 175) rfl) rfl, tb5 (List.mem_of_getElem? (i := 176) rfl) rfl, qi_X8, by decide +kernel, by decide +kernel⟩
theorem mwX8_saying : mwV yX8_saying cX8_saying 3 (Option.some FieldType.int) := ⟨tb5 (List.mem_of_getElem? (i := 181) rfl) rfl, tb5 (List.mem_of_getElem? (i := 179) rfl) rfl, tb5 (List.mem_of_getElem? (i := 180) rfl) rfl, qi_X8, by decide +kernel, by decide +kernel⟩
theorem mwX8_sees : mwV yX8_sees cX8_sees 2 (Option.some FieldType.boolean) := ⟨tb4 (List.mem_of_getElem? (i := 226) rfl) rfl, tb4 (List.mem_of_getElem? (i := 225) rfl) rfl, tbs (q := (yX8_sees, 36)) (List.mem_of_getElem? (i := 30) rfl), qi_X8, by decide +kernel, by decide +kernel⟩
theorem mwX8_seesDigit : mwV yX8_seesDigit cX8_seesDigit 1 (Option.some FieldType.boolean) := ⟨tb4 (List.mem_of_getElem? (i := 234) rfl) rfl, tb4 (List.mem_of_getElem? (i := 233) rfl) rfl, tbs (q := (yX8_seesDigit, 36)) (List.mem_of_getElem? (i := 32) rfl), qi_X8, by decide +kernel, by decide +kernel⟩
theorem mwX8_seesTalker : mwV yX8_seesTalker cX8_seesTalker 1 (Option.some FieldType.boolean) := ⟨tb4 (List.mem_of_getElem? (i := 238) rfl) rfl, tb4 (List.mem_of_getElem? (i := 237) rfl) rfl, tbs (q := (yX8_seesTalker, 36)) (List.mem_of_getElem? (i := 33) rfl), qi_X8, by decide +kernel, by decide +kernel⟩
theorem mwX8_settles : mwV yX8_settles cX8_settles 3 (Option.some FieldType.int) := ⟨tb5 (List.mem_of_getElem? (i := 72) rfl) rfl, tb5 (List.mem_of_getElem? (i := 70) rfl) rfl, tb5 (List.mem_of_getElem? (i := 71) rfl) rfl, qi_X8, by decide +kernel, by decide +kernel⟩
theorem mwX8_silence : mwV yX8_silence cX8_silence 2 (Option.some FieldType.int) := ⟨tb5 (List.mem_of_getElem? (i := 189) rfl) rfl, tb5 (List.mem_of_getElem? (i := 187) rfl) rfl, tb5 (List.mem_of_getElem? (i := 188) rfl) rfl, qi_X8, by decide +kernel, by decide +kernel⟩
theorem mwX8_takeFrom : mwV yX8_takeFrom cX8_takeFrom 2 none := ⟨tb5 (List.mem_of_getElem? (i := 4) rfl) rfl, tb5 (List.mem_of_getElem? (i := 3) rfl) rfl, tbs (q := (yX8_takeFrom, 36)) (List.mem_of_getElem? (i := 34) rfl), qi_X8, by decide +kernel, by decide +kernel⟩
theorem mwX8_tellingComes : mwV yX8_tellingComes cX8_tellingComes 4 (Option.some FieldType.boolean) := ⟨tb5 (List.mem_of_getElem? (i := 15) rfl) rfl, tb5 (List.mem_of_getElem? (i := 14) rfl) rfl, tbs (q := (yX8_tellingComes, 36)) (List.mem_of_getElem? (i := 36) rfl), qi_X8, by decide +kernel, by decide +kernel⟩
theorem mwX8_told : mwV yX8_told cX8_told 2 (Option.some FieldType.int) := ⟨tb5 (List.mem_of_getElem? (i := 158) rfl) rfl, tb5 (List.mem_of_getElem? (i := 156) rfl) rfl, tb5 (List.mem_of_getElem? (i := 157) rfl) rfl, qi_X8, by decide +kernel, by decide +kernel⟩
theorem mwX8_tongue : mwV yX8_tongue cX8_tongue 4 (Option.some FieldType.int) := ⟨tb4 (List.mem_of_getElem? (i := 210) rfl) rfl, tb4 (List.mem_of_getElem? (i := 208) rfl) rfl, tb4 (List.mem_of_getElem? (i := 209) rfl) rfl, qi_X8, by decide +kernel, by decide +kernel⟩
theorem mwX8_truth : mwV yX8_truth cX8_truth 3 (Option.some FieldType.int) := ⟨tb5 (List.mem_of_getElem? (i := 41) rfl) rfl, tb5 (List.mem_of_getElem? (i := 39) rfl) rfl, tb5 (List.mem_of_getElem? (i := 40) rfl) rfl, qi_X8, by decide +kernel, by decide +kernel⟩
theorem mwX8_under : mwV yX8_under cX8_under 3 (Option.some FieldType.int) := ⟨tb5 (List.mem_of_getElem? (i := 206) rfl) rfl, tb5 (List.mem_of_getElem? (i := 204) rfl) rfl, tb5 (List.mem_of_getElem? (i := 205) rfl) rfl, qi_X8, by decide +kernel, by decide +kernel⟩
theorem mwX8_weight : mwV yX8_weight cX8_weight 2 (Option.some FieldType.int) := ⟨tb5 (List.mem_of_getElem? (i := 34) rfl) rfl, tb5 (List.mem_of_getElem? (i := 32) rfl) rfl, tb5 (List.mem_of_getElem? (i := 33) rfl) rfl, qi_X8, by decide +kernel, by decide +kernel⟩
theorem mwX8_weightOf : mwV yX8_weightOf cX8_weightOf 4 (Option.some FieldType.int) := ⟨tb5 (List.mem_of_getElem? (i := 118) rfl) rfl, tb5 (List.mem_of_getElem? (i := 117) rfl) rfl, tbs (q := (yX8_weightOf, 36)) (List.mem_of_getElem? (i := 49) rfl), qi_X8, by decide +kernel, by decide +kernel⟩
theorem mwX8_word : mwV yX8_word cX8_word 3 (Option.some FieldType.int) := ⟨tb5 (List.mem_of_getElem? (i := 23) rfl) rfl, tb5 (List.mem_of_getElem? (i := 21) rfl) rfl, tb5 (List.mem_of_getElem? (i := 22) rfl) rfl, qi_X8, by decide +kernel, by decide +kernel⟩
theorem ql_X7_1 : .methodLink RX7 1 ⟨"java/lang/Object", "<init>", "()V"⟩ ∈ lw_t := tb1 (List.mem_of_getElem? (i := 23) rfl) rfl
theorem ql_X7_45 : .methodLink RX7 45 yX3_init ∈ lw_t := tb1 (List.mem_of_getElem? (i := 116) rfl) rfl
theorem ql_X7_66 : .methodLink RX7 66 yX7_refuse ∈ lw_t := tb1 (List.mem_of_getElem? (i := 239) rfl) rfl
theorem ql_X7_74 : .methodLink RX7 74 yX1_add ∈ lw_t := tb2 (List.mem_of_getElem? (i := 3) rfl) rfl
theorem ql_X7_78 : .methodLink RX7 78 yX1_statements ∈ lw_t := tb2 (List.mem_of_getElem? (i := 11) rfl) rfl
theorem ql_X7_82 : .methodLink RX7 82 yX6_copyFrom ∈ lw_t := tb2 (List.mem_of_getElem? (i := 160) rfl) rfl
theorem ql_X7_86 : .methodLink RX7 86 yX1_tellTo ∈ lw_t := tb2 (List.mem_of_getElem? (i := 167) rfl) rfl
theorem ql_X7_90 : .methodLink RX7 90 yX7_forgetSayings ∈ lw_t := tb2 (List.mem_of_getElem? (i := 206) rfl) rfl
theorem ql_X7_93 : .methodLink RX7 93 yX6_hasWord ∈ lw_t := tb2 (List.mem_of_getElem? (i := 215) rfl) rfl
theorem ql_X7_103 : .methodLink RX7 103 yX7_isCase ∈ lw_t := tb2 (List.mem_of_getElem? (i := 223) rfl) rfl
theorem ql_X7_112 : .methodLink RX7 112 yX7_isLaw ∈ lw_t := tb2 (List.mem_of_getElem? (i := 232) rfl) rfl
theorem ql_X7_118 : .methodLink RX7 118 yX7_addTo ∈ lw_t := tb2 (List.mem_of_getElem? (i := 237) rfl) rfl
theorem ql_X7_122 : .methodLink RX7 122 yX7_takeRow ∈ lw_t := tb3 (List.mem_of_getElem? (i := 9) rfl) rfl
theorem ql_X7_125 : .methodLink RX7 125 yX4_meaning ∈ lw_t := tb3 (List.mem_of_getElem? (i := 29) rfl) rfl
theorem ql_X7_130 : .methodLink RX7 130 yX4_ofLength ∈ lw_t := tb3 (List.mem_of_getElem? (i := 36) rfl) rfl
theorem ql_X7_134 : .methodLink RX7 134 yX7_mayFollow ∈ lw_t := tb3 (List.mem_of_getElem? (i := 39) rfl) rfl
theorem ql_X7_138 : .methodLink RX7 138 yX7_asBit ∈ lw_t := tb3 (List.mem_of_getElem? (i := 48) rfl) rfl
theorem ql_X7_142 : .methodLink RX7 142 yX7_isSet ∈ lw_t := tb3 (List.mem_of_getElem? (i := 55) rfl) rfl
theorem ql_X7_145 : .methodLink RX7 145 yX7_isSettled ∈ lw_t := tb3 (List.mem_of_getElem? (i := 58) rfl) rfl
theorem ql_X7_149 : .methodLink RX7 149 yX6_hasPerson ∈ lw_t := tb3 (List.mem_of_getElem? (i := 68) rfl) rfl
theorem ql_X7_152 : .methodLink RX7 152 yX2_sense ∈ lw_t := tb3 (List.mem_of_getElem? (i := 13) rfl) rfl
theorem ql_X7_158 : .methodLink RX7 158 yX3_answerTo ∈ lw_t := tb3 (List.mem_of_getElem? (i := 72) rfl) rfl
theorem ql_X7_162 : .methodLink RX7 162 yX7_lengthOrWord ∈ lw_t := tb3 (List.mem_of_getElem? (i := 121) rfl) rfl
theorem ql_X7_165 : .methodLink RX7 165 yX3_howManyAnswer ∈ lw_t := tb3 (List.mem_of_getElem? (i := 138) rfl) rfl
theorem ql_X7_168 : .methodLink RX7 168 yX3_firstThatMeans ∈ lw_t := tb3 (List.mem_of_getElem? (i := 146) rfl) rfl
theorem ql_X7_171 : .methodLink RX7 171 yX3_leftBy ∈ lw_t := tb3 (List.mem_of_getElem? (i := 164) rfl) rfl
theorem ql_X7_177 : .methodLink RX7 177 yX3_leftOfBest ∈ lw_t := tb3 (List.mem_of_getElem? (i := 176) rfl) rfl
theorem ql_X7_180 : .methodLink RX7 180 yX3_bestQuestion ∈ lw_t := tb3 (List.mem_of_getElem? (i := 185) rfl) rfl
theorem ql_X7_183 : .methodLink RX7 183 yX3_firstThatForces ∈ lw_t := tb3 (List.mem_of_getElem? (i := 193) rfl) rfl
theorem ql_X7_186 : .methodLink RX7 186 yX3_numberOf ∈ lw_t := tb3 (List.mem_of_getElem? (i := 214) rfl) rfl
theorem ql_X7_191 : .methodLink RX7 191 yX3_casesAnsweredBy ∈ lw_t := tb3 (List.mem_of_getElem? (i := 218) rfl) rfl
theorem ql_X7_197 : .methodLink RX7 197 yX6_weightOf ∈ lw_t := tb3 (List.mem_of_getElem? (i := 226) rfl) rfl
theorem ql_X7_200 : .methodLink RX7 200 yX7_commonDivisor ∈ lw_t := tb3 (List.mem_of_getElem? (i := 227) rfl) rfl
theorem ql_X7_204 : .methodLink RX7 204 yX5_latest ∈ lw_t := tb3 (List.mem_of_getElem? (i := 234) rfl) rfl
theorem ql_X7_207 : .methodLink RX7 207 yX5_add ∈ lw_t := tb3 (List.mem_of_getElem? (i := 238) rfl) rfl
theorem ql_X7_211 : .methodLink RX7 211 yX4_length ∈ lw_t := tb3 (List.mem_of_getElem? (i := 42) rfl) rfl
theorem ql_X7_214 : .methodLink RX7 214 yX4_idles ∈ lw_t := tb3 (List.mem_of_getElem? (i := 45) rfl) rfl
theorem ql_X7_217 : .methodLink RX7 217 yX5_meaningOfAnswers ∈ lw_t := tb4 (List.mem_of_getElem? (i := 10) rfl) rfl
theorem ql_X7_220 : .methodLink RX7 220 yX7_longestFrom ∈ lw_t := tb4 (List.mem_of_getElem? (i := 23) rfl) rfl
theorem ql_X7_223 : .methodLink RX7 223 yX7_speaksLast ∈ lw_t := tb4 (List.mem_of_getElem? (i := 31) rfl) rfl
theorem ql_X7_227 : .methodLink RX7 227 yX7_leftByLots ∈ lw_t := tb4 (List.mem_of_getElem? (i := 47) rfl) rfl
theorem ql_X7_236 : .methodLink RX7 236 yX5_copyFrom ∈ lw_t := tb4 (List.mem_of_getElem? (i := 69) rfl) rfl
theorem ql_X7_249 : .methodLink RX7 249 yX2_add ∈ lw_t := tb3 (List.mem_of_getElem? (i := 1) rfl) rfl
theorem ql_X7_250 : .methodLink RX7 250 yX3_lengthOf ∈ lw_t := tb3 (List.mem_of_getElem? (i := 125) rfl) rfl
theorem ql_X7_253 : .methodLink RX7 253 yX3_wordOf ∈ lw_t := tb3 (List.mem_of_getElem? (i := 129) rfl) rfl
theorem ql_X7_259 : .methodLink RX7 259 yX7_stirred ∈ lw_t := tb4 (List.mem_of_getElem? (i := 51) rfl) rfl
theorem ql_X7_262 : .methodLink RX7 262 yX7_drawn ∈ lw_t := tb4 (List.mem_of_getElem? (i := 56) rfl) rfl
theorem ql_X7_265 : .methodLink RX7 265 yX6_grown ∈ lw_t := tb4 (List.mem_of_getElem? (i := 60) rfl) rfl
theorem ql_X7_268 : .methodLink RX7 268 yX3_casesLeftBy ∈ lw_t := tb4 (List.mem_of_getElem? (i := 61) rfl) rfl
theorem ql_X7_274 : .methodLink RX7 274 yX7_isOnOneSide ∈ lw_t := tb3 (List.mem_of_getElem? (i := 61) rfl) rfl
theorem ql_X7_277 : .methodLink RX7 277 yJ9_max_7cf53 ∈ lw_t := tb4 (List.mem_of_getElem? (i := 26) rfl) rfl
theorem ql_X0_1 : .methodLink RX0 1 ⟨"java/lang/Object", "<init>", "()V"⟩ ∈ lw_t := tb1 (List.mem_of_getElem? (i := 181) rfl) rfl
theorem ql_X1_3 : .methodLink RX1 3 ⟨"java/lang/Object", "<init>", "()V"⟩ ∈ lw_t := tb1 (List.mem_of_getElem? (i := 31) rfl) rfl
theorem ql_X1_19 : .methodLink RX1 19 yX1_behind ∈ lw_t := tb2 (List.mem_of_getElem? (i := 15) rfl) rfl
theorem ql_X1_23 : .methodLink RX1 23 yX1_tellOne ∈ lw_t := tb2 (List.mem_of_getElem? (i := 171) rfl) rfl
theorem ql_X1_27 : .methodLink RX1 27 yX1_sign ∈ lw_t := tb2 (List.mem_of_getElem? (i := 19) rfl) rfl
theorem ql_X1_30 : .methodLink RX1 30 yX1_behindTelling ∈ lw_t := tb2 (List.mem_of_getElem? (i := 23) rfl) rfl
theorem ql_X1_33 : .methodLink RX1 33 yX1_formOf ∈ lw_t := tb2 (List.mem_of_getElem? (i := 30) rfl) rfl
theorem ql_X1_37 : .methodLink RX1 37 yX1_behindForm ∈ lw_t := tb2 (List.mem_of_getElem? (i := 38) rfl) rfl
theorem ql_X1_41 : .methodLink RX1 41 yX1_isDigit ∈ lw_t := tb2 (List.mem_of_getElem? (i := 27) rfl) rfl
theorem ql_X1_45 : .methodLink RX1 45 yJ0_isEmpty_aae02 ∈ lw_t := tb2 (List.mem_of_getElem? (i := 42) rfl) rfl
theorem ql_X1_51 : .methodLink RX1 51 yJ0_length_8abf5 ∈ lw_t := tb2 (List.mem_of_getElem? (i := 46) rfl) rfl
theorem ql_X1_55 : .methodLink RX1 55 yJ0_charAt_5068e ∈ lw_t := tb2 (List.mem_of_getElem? (i := 56) rfl) rfl
theorem ql_X1_59 : .methodLink RX1 59 yX1_fits ∈ lw_t := tb2 (List.mem_of_getElem? (i := 94) rfl) rfl
theorem ql_X1_73 : .methodLink RX1 73 yX1_talkerOf ∈ lw_t := tb2 (List.mem_of_getElem? (i := 97) rfl) rfl
theorem ql_X1_76 : .methodLink RX1 76 yX1_tellWord ∈ lw_t := tb2 (List.mem_of_getElem? (i := 175) rfl) rfl
theorem ql_X1_79 : .methodLink RX1 79 yX6_addWord ∈ lw_t := tb2 (List.mem_of_getElem? (i := 186) rfl) rfl
theorem ql_X1_85 : .methodLink RX1 85 yX1_digit ∈ lw_t := tb2 (List.mem_of_getElem? (i := 179) rfl) rfl
theorem ql_X1_88 : .methodLink RX1 88 yX6_setWeight ∈ lw_t := tb2 (List.mem_of_getElem? (i := 190) rfl) rfl
theorem ql_X1_91 : .methodLink RX1 91 yX6_setLaw ∈ lw_t := tb2 (List.mem_of_getElem? (i := 195) rfl) rfl
theorem ql_X1_94 : .methodLink RX1 94 yX6_addPerson ∈ lw_t := tb2 (List.mem_of_getElem? (i := 202) rfl) rfl
theorem ql_X1_102 : .methodLink RX1 102 yJ0_indexOf_0f7a4 ∈ lw_t := tb2 (List.mem_of_getElem? (i := 101) rfl) rfl
theorem ql_X2_3 : .methodLink RX2 3 ⟨"java/lang/Object", "<init>", "()V"⟩ ∈ lw_t := tb1 (List.mem_of_getElem? (i := 88) rfl) rfl
theorem ql_X2_21 : .methodLink RX2 21 yX6_grown ∈ lw_t := tb3 (List.mem_of_getElem? (i := 17) rfl) rfl
theorem ql_X3_3 : .methodLink RX3 3 ⟨"java/lang/Object", "<init>", "()V"⟩ ∈ lw_t := tb1 (List.mem_of_getElem? (i := 119) rfl) rfl
theorem ql_X3_50 : .methodLink RX3 50 yX3_refresh ∈ lw_t := tb3 (List.mem_of_getElem? (i := 76) rfl) rfl
theorem ql_X3_58 : .methodLink RX3 58 yX3_gather ∈ lw_t := tb3 (List.mem_of_getElem? (i := 103) rfl) rfl
theorem ql_X3_62 : .methodLink RX3 62 yX3_chosen ∈ lw_t := tb3 (List.mem_of_getElem? (i := 109) rfl) rfl
theorem ql_X3_69 : .methodLink RX3 69 yX3_holdsCase ∈ lw_t := tb3 (List.mem_of_getElem? (i := 113) rfl) rfl
theorem ql_X3_73 : .methodLink RX3 73 yX4_meaning ∈ lw_t := tb3 (List.mem_of_getElem? (i := 90) rfl) rfl
theorem ql_X3_79 : .methodLink RX3 79 yX3_leftUnder ∈ lw_t := tb3 (List.mem_of_getElem? (i := 168) rfl) rfl
theorem ql_X3_83 : .methodLink RX3 83 yX6_weightOf ∈ lw_t := tb3 (List.mem_of_getElem? (i := 96) rfl) rfl
theorem ql_X3_89 : .methodLink RX3 89 yX3_findBest ∈ lw_t := tb3 (List.mem_of_getElem? (i := 180) rfl) rfl
theorem ql_X3_95 : .methodLink RX3 95 yX3_forcesAnswer ∈ lw_t := tb3 (List.mem_of_getElem? (i := 197) rfl) rfl
theorem ql_X3_103 : .methodLink RX3 103 yX3_findFirsts ∈ lw_t := tb3 (List.mem_of_getElem? (i := 150) rfl) rfl
theorem ql_X3_119 : .methodLink RX3 119 yX3_lengthOf ∈ lw_t := tb3 (List.mem_of_getElem? (i := 133) rfl) rfl
theorem ql_X3_125 : .methodLink RX3 125 yX3_clearGroups ∈ lw_t := tb3 (List.mem_of_getElem? (i := 80) rfl) rfl
theorem ql_X3_129 : .methodLink RX3 129 yJ9_min_7cf53 ∈ lw_t := tb3 (List.mem_of_getElem? (i := 88) rfl) rfl
theorem ql_X3_134 : .methodLink RX3 134 yX6_grown ∈ lw_t := tb3 (List.mem_of_getElem? (i := 91) rfl) rfl
theorem ql_X3_138 : .methodLink RX3 138 yX3_putInGroup ∈ lw_t := tb3 (List.mem_of_getElem? (i := 92) rfl) rfl
theorem ql_X3_142 : .methodLink RX3 142 yJ7_fill_53178 ∈ lw_t := tb3 (List.mem_of_getElem? (i := 100) rfl) rfl
theorem ql_X3_148 : .methodLink RX3 148 yX3_keyOf ∈ lw_t := tb3 (List.mem_of_getElem? (i := 84) rfl) rfl
theorem ql_X3_151 : .methodLink RX3 151 yX4_length ∈ lw_t := tb3 (List.mem_of_getElem? (i := 87) rfl) rfl
theorem ql_X3_154 : .methodLink RX3 154 yX4_idles ∈ lw_t := tb3 (List.mem_of_getElem? (i := 89) rfl) rfl
theorem ql_X3_157 : .methodLink RX3 157 yX3_noteFirst ∈ lw_t := tb3 (List.mem_of_getElem? (i := 154) rfl) rfl
theorem ql_X3_160 : .methodLink RX3 160 yJ9_max_7cf53 ∈ lw_t := tb3 (List.mem_of_getElem? (i := 158) rfl) rfl
theorem ql_X3_170 : .methodLink RX3 170 yX3_isLiked ∈ lw_t := tb3 (List.mem_of_getElem? (i := 117) rfl) rfl
theorem ql_X3_176 : .methodLink RX3 176 yX3_casesWithWeight ∈ lw_t := tb3 (List.mem_of_getElem? (i := 201) rfl) rfl
theorem ql_X4_11 : .methodLink RX4 11 yX4_withTelling ∈ lw_t := tb3 (List.mem_of_getElem? (i := 25) rfl) rfl
theorem ql_X5_3 : .methodLink RX5 3 ⟨"java/lang/Object", "<init>", "()V"⟩ ∈ lw_t := tb1 (List.mem_of_getElem? (i := 104) rfl) rfl
theorem ql_X5_21 : .methodLink RX5 21 yX4_meaning ∈ lw_t := tb4 (List.mem_of_getElem? (i := 14) rfl) rfl
theorem ql_X5_25 : .methodLink RX5 25 ⟨"java/lang/System", "arraycopy", "(Ljava/lang/Object;ILjava/lang/Object;II)V"⟩ ∈ lw_t := tb4 (List.mem_of_getElem? (i := 73) rfl) rfl
theorem ql_X6_3 : .methodLink RX6 3 ⟨"java/lang/Object", "<init>", "()V"⟩ ∈ lw_t := tb1 (List.mem_of_getElem? (i := 46) rfl) rfl
theorem ql_X6_24 : .methodLink RX6 24 ⟨"java/lang/System", "arraycopy", "(Ljava/lang/Object;ILjava/lang/Object;II)V"⟩ ∈ lw_t := tb2 (List.mem_of_getElem? (i := 164) rfl) rfl
theorem ql_X6_50 : .methodLink RX6 50 yX6_hasWord ∈ lw_t := tb3 (List.mem_of_getElem? (i := 21) rfl) rfl
theorem ql_X6_53 : .methodLink RX6 53 yX4_grown ∈ lw_t := tb3 (List.mem_of_getElem? (i := 22) rfl) rfl
theorem ql_L_9 : .methodLink RL 9 yX7_init ∈ lw_t := tb1 (List.mem_of_getElem? (i := 20) rfl) rfl
theorem ql_L_12 : .methodLink RL 12 yX8_init ∈ lw_t := tb4 (List.mem_of_getElem? (i := 84) rfl) rfl
theorem ql_L_13 : .methodLink RL 13 yX7_letter ∈ lw_t := tb1 (List.mem_of_getElem? (i := 235) rfl) rfl
theorem ql_L_17 : .methodLink RL 17 yX8_letter ∈ lw_t := tb4 (List.mem_of_getElem? (i := 199) rfl) rfl
theorem ql_L_18 : .methodLink RL 18 yX7_tongue ∈ lw_t := tb2 (List.mem_of_getElem? (i := 7) rfl) rfl
theorem ql_L_22 : .methodLink RL 22 yX8_tongue ∈ lw_t := tb4 (List.mem_of_getElem? (i := 207) rfl) rfl
theorem ql_L_23 : .methodLink RL 23 yX7_word ∈ lw_t := tb2 (List.mem_of_getElem? (i := 211) rfl) rfl
theorem ql_L_27 : .methodLink RL 27 yX8_word ∈ lw_t := tb5 (List.mem_of_getElem? (i := 20) rfl) rfl
theorem ql_L_28 : .methodLink RL 28 yX7_weight ∈ lw_t := tb2 (List.mem_of_getElem? (i := 219) rfl) rfl
theorem ql_L_31 : .methodLink RL 31 yX8_weight ∈ lw_t := tb5 (List.mem_of_getElem? (i := 31) rfl) rfl
theorem ql_L_32 : .methodLink RL 32 yX7_truth ∈ lw_t := tb2 (List.mem_of_getElem? (i := 224) rfl) rfl
theorem ql_L_35 : .methodLink RL 35 yX8_truth ∈ lw_t := tb5 (List.mem_of_getElem? (i := 38) rfl) rfl
theorem ql_L_36 : .methodLink RL 36 yX7_law ∈ lw_t := tb2 (List.mem_of_getElem? (i := 228) rfl) rfl
theorem ql_L_39 : .methodLink RL 39 yX8_law ∈ lw_t := tb5 (List.mem_of_getElem? (i := 42) rfl) rfl
theorem ql_L_40 : .methodLink RL 40 yX7_row ∈ lw_t := tb2 (List.mem_of_getElem? (i := 233) rfl) rfl
theorem ql_L_43 : .methodLink RL 43 yX8_row ∈ lw_t := tb5 (List.mem_of_getElem? (i := 46) rfl) rfl
theorem ql_L_44 : .methodLink RL 44 yX7_means ∈ lw_t := tb3 (List.mem_of_getElem? (i := 5) rfl) rfl
theorem ql_L_47 : .methodLink RL 47 yX8_means ∈ lw_t := tb5 (List.mem_of_getElem? (i := 50) rfl) rfl
theorem ql_L_48 : .methodLink RL 48 yX7_follows ∈ lw_t := tb3 (List.mem_of_getElem? (i := 32) rfl) rfl
theorem ql_L_51 : .methodLink RL 51 yX8_follows ∈ lw_t := tb5 (List.mem_of_getElem? (i := 58) rfl) rfl
theorem ql_L_52 : .methodLink RL 52 yX7_settles ∈ lw_t := tb3 (List.mem_of_getElem? (i := 51) rfl) rfl
theorem ql_L_55 : .methodLink RL 55 yX8_settles ∈ lw_t := tb5 (List.mem_of_getElem? (i := 69) rfl) rfl
theorem ql_L_56 : .methodLink RL 56 yX7_answer ∈ lw_t := tb3 (List.mem_of_getElem? (i := 64) rfl) rfl
theorem ql_L_59 : .methodLink RL 59 yX8_answer ∈ lw_t := tb5 (List.mem_of_getElem? (i := 79) rfl) rfl
theorem ql_L_60 : .methodLink RL 60 yX7_answers ∈ lw_t := tb3 (List.mem_of_getElem? (i := 134) rfl) rfl
theorem ql_L_63 : .methodLink RL 63 yX8_answers ∈ lw_t := tb5 (List.mem_of_getElem? (i := 119) rfl) rfl
theorem ql_L_64 : .methodLink RL 64 yX7_least ∈ lw_t := tb3 (List.mem_of_getElem? (i := 142) rfl) rfl
theorem ql_L_67 : .methodLink RL 67 yX8_least ∈ lw_t := tb5 (List.mem_of_getElem? (i := 123) rfl) rfl
theorem ql_L_68 : .methodLink RL 68 yX7_left ∈ lw_t := tb3 (List.mem_of_getElem? (i := 160) rfl) rfl
theorem ql_L_71 : .methodLink RL 71 yX8_left ∈ lw_t := tb5 (List.mem_of_getElem? (i := 131) rfl) rfl
theorem ql_L_72 : .methodLink RL 72 yX7_best ∈ lw_t := tb3 (List.mem_of_getElem? (i := 172) rfl) rfl
theorem ql_L_75 : .methodLink RL 75 yX8_best ∈ lw_t := tb5 (List.mem_of_getElem? (i := 139) rfl) rfl
theorem ql_L_76 : .methodLink RL 76 yX7_force ∈ lw_t := tb3 (List.mem_of_getElem? (i := 189) rfl) rfl
theorem ql_L_79 : .methodLink RL 79 yX8_force ∈ lw_t := tb5 (List.mem_of_getElem? (i := 147) rfl) rfl
theorem ql_L_80 : .methodLink RL 80 yX7_told ∈ lw_t := tb3 (List.mem_of_getElem? (i := 206) rfl) rfl
theorem ql_L_83 : .methodLink RL 83 yX8_told ∈ lw_t := tb5 (List.mem_of_getElem? (i := 155) rfl) rfl
theorem ql_L_84 : .methodLink RL 84 yX7_meant ∈ lw_t := tb3 (List.mem_of_getElem? (i := 210) rfl) rfl
theorem ql_L_87 : .methodLink RL 87 yX8_meant ∈ lw_t := tb5 (List.mem_of_getElem? (i := 159) rfl) rfl
theorem ql_L_88 : .methodLink RL 88 yX7_chance ∈ lw_t := tb3 (List.mem_of_getElem? (i := 222) rfl) rfl
theorem ql_L_91 : .methodLink RL 91 yX8_chance ∈ lw_t := tb5 (List.mem_of_getElem? (i := 167) rfl) rfl
theorem ql_L_92 : .methodLink RL 92 yX7_say ∈ lw_t := tb3 (List.mem_of_getElem? (i := 230) rfl) rfl
theorem ql_L_95 : .methodLink RL 95 yX8_say ∈ lw_t := tb5 (List.mem_of_getElem? (i := 174) rfl) rfl
theorem ql_L_96 : .methodLink RL 96 yX7_saying ∈ lw_t := tb4 (List.mem_of_getElem? (i := 2) rfl) rfl
theorem ql_L_99 : .methodLink RL 99 yX8_saying ∈ lw_t := tb5 (List.mem_of_getElem? (i := 178) rfl) rfl
theorem ql_L_100 : .methodLink RL 100 yX7_known ∈ lw_t := tb4 (List.mem_of_getElem? (i := 6) rfl) rfl
theorem ql_L_103 : .methodLink RL 103 yX8_known ∈ lw_t := tb5 (List.mem_of_getElem? (i := 182) rfl) rfl
theorem ql_L_104 : .methodLink RL 104 yX7_silence ∈ lw_t := tb4 (List.mem_of_getElem? (i := 15) rfl) rfl
theorem ql_L_107 : .methodLink RL 107 yX8_silence ∈ lw_t := tb5 (List.mem_of_getElem? (i := 186) rfl) rfl
theorem ql_L_108 : .methodLink RL 108 yX7_longest ∈ lw_t := tb4 (List.mem_of_getElem? (i := 19) rfl) rfl
theorem ql_L_111 : .methodLink RL 111 yX8_longest ∈ lw_t := tb5 (List.mem_of_getElem? (i := 190) rfl) rfl
theorem ql_L_112 : .methodLink RL 112 yX7_last ∈ lw_t := tb4 (List.mem_of_getElem? (i := 27) rfl) rfl
theorem ql_L_115 : .methodLink RL 115 yX8_last ∈ lw_t := tb5 (List.mem_of_getElem? (i := 194) rfl) rfl
theorem ql_L_116 : .methodLink RL 116 yX7_idle ∈ lw_t := tb4 (List.mem_of_getElem? (i := 34) rfl) rfl
theorem ql_L_119 : .methodLink RL 119 yX8_idle ∈ lw_t := tb5 (List.mem_of_getElem? (i := 198) rfl) rfl
theorem ql_L_120 : .methodLink RL 120 yX7_under ∈ lw_t := tb4 (List.mem_of_getElem? (i := 39) rfl) rfl
theorem ql_L_123 : .methodLink RL 123 yX8_under ∈ lw_t := tb5 (List.mem_of_getElem? (i := 203) rfl) rfl
theorem ql_L_124 : .methodLink RL 124 yX7_lots ∈ lw_t := tb4 (List.mem_of_getElem? (i := 43) rfl) rfl
theorem ql_L_128 : .methodLink RL 128 yX8_lots ∈ lw_t := tb5 (List.mem_of_getElem? (i := 207) rfl) rfl
theorem ql_L_129 : .methodLink RL 129 yX7_image ∈ lw_t := tb4 (List.mem_of_getElem? (i := 65) rfl) rfl
theorem ql_L_132 : .methodLink RL 132 yX8_image ∈ lw_t := tb5 (List.mem_of_getElem? (i := 218) rfl) rfl
theorem ql_L_133 : .methodLink RL 133 yX7_on ∈ lw_t := tb4 (List.mem_of_getElem? (i := 74) rfl) rfl
theorem ql_L_136 : .methodLink RL 136 yX8_on ∈ lw_t := tb5 (List.mem_of_getElem? (i := 222) rfl) rfl
theorem ql_L_137 : .methodLink RL 137 yX7_count ∈ lw_t := tb4 (List.mem_of_getElem? (i := 78) rfl) rfl
theorem ql_L_140 : .methodLink RL 140 yX8_count ∈ lw_t := tb5 (List.mem_of_getElem? (i := 226) rfl) rfl
theorem ql_X8_1 : .methodLink RX8 1 ⟨"java/lang/Object", "<init>", "()V"⟩ ∈ lw_t := tb4 (List.mem_of_getElem? (i := 87) rfl) rfl
theorem ql_X8_63 : .methodLink RX8 63 yX8_in ∈ lw_t := tb5 (List.mem_of_getElem? (i := 28) rfl) rfl
theorem ql_X8_74 : .methodLink RX8 74 yX8_refuse ∈ lw_t := tb4 (List.mem_of_getElem? (i := 203) rfl) rfl
theorem ql_X8_84 : .methodLink RX8 84 yX8_seesDigit ∈ lw_t := tb4 (List.mem_of_getElem? (i := 231) rfl) rfl
theorem ql_X8_88 : .methodLink RX8 88 yX8_sees ∈ lw_t := tb4 (List.mem_of_getElem? (i := 223) rfl) rfl
theorem ql_X8_92 : .methodLink RX8 92 yX8_must ∈ lw_t := tb4 (List.mem_of_getElem? (i := 219) rfl) rfl
theorem ql_X8_95 : .methodLink RX8 95 yX8_digit ∈ lw_t := tb4 (List.mem_of_getElem? (i := 227) rfl) rfl
theorem ql_X8_98 : .methodLink RX8 98 yX8_seesTalker ∈ lw_t := tb4 (List.mem_of_getElem? (i := 235) rfl) rfl
theorem ql_X8_101 : .methodLink RX8 101 yX8_goesBy ∈ lw_t := tb4 (List.mem_of_getElem? (i := 215) rfl) rfl
theorem ql_X8_104 : .methodLink RX8 104 yX8_addWord ∈ lw_t := tb5 (List.mem_of_getElem? (i := 16) rfl) rfl
theorem ql_X8_108 : .methodLink RX8 108 yX8_tellingComes ∈ lw_t := tb5 (List.mem_of_getElem? (i := 12) rfl) rfl
theorem ql_X8_114 : .methodLink RX8 114 yX8_faultOfForm ∈ lw_t := tb4 (List.mem_of_getElem? (i := 211) rfl) rfl
theorem ql_X8_122 : .methodLink RX8 122 yX8_init ∈ lw_t := tb5 (List.mem_of_getElem? (i := 0) rfl) rfl
theorem ql_X8_123 : .methodLink RX8 123 yX8_takeFrom ∈ lw_t := tb5 (List.mem_of_getElem? (i := 1) rfl) rfl
theorem ql_X8_127 : .methodLink RX8 127 yX8_comes ∈ lw_t := tb5 (List.mem_of_getElem? (i := 8) rfl) rfl
theorem ql_X8_130 : .methodLink RX8 130 yX8_isWord ∈ lw_t := tb5 (List.mem_of_getElem? (i := 24) rfl) rfl
theorem ql_X8_133 : .methodLink RX8 133 yX8_isCase ∈ lw_t := tb5 (List.mem_of_getElem? (i := 35) rfl) rfl
theorem ql_X8_142 : .methodLink RX8 142 yX8_meaning ∈ lw_t := tb5 (List.mem_of_getElem? (i := 54) rfl) rfl
theorem ql_X8_146 : .methodLink RX8 146 yX8_idleOf ∈ lw_t := tb5 (List.mem_of_getElem? (i := 62) rfl) rfl
theorem ql_X8_149 : .methodLink RX8 149 yX8_mayFollow ∈ lw_t := tb5 (List.mem_of_getElem? (i := 66) rfl) rfl
theorem ql_X8_153 : .methodLink RX8 153 yX8_isSet ∈ lw_t := tb5 (List.mem_of_getElem? (i := 73) rfl) rfl
theorem ql_X8_156 : .methodLink RX8 156 yX8_doesSettle ∈ lw_t := tb5 (List.mem_of_getElem? (i := 76) rfl) rfl
theorem ql_X8_162 : .methodLink RX8 162 yX8_add ∈ lw_t := tb5 (List.mem_of_getElem? (i := 91) rfl) rfl
theorem ql_X8_178 : .methodLink RX8 178 yX8_asks ∈ lw_t := tb5 (List.mem_of_getElem? (i := 99) rfl) rfl
theorem ql_X8_181 : .methodLink RX8 181 yX8_weightOf ∈ lw_t := tb5 (List.mem_of_getElem? (i := 115) rfl) rfl
theorem ql_X8_184 : .methodLink RX8 184 yX8_isAnswer ∈ lw_t := tb5 (List.mem_of_getElem? (i := 107) rfl) rfl
theorem ql_X8_187 : .methodLink RX8 187 yX8_isBetter ∈ lw_t := tb5 (List.mem_of_getElem? (i := 111) rfl) rfl
theorem ql_X8_190 : .methodLink RX8 190 yX8_isPerson ∈ lw_t := tb5 (List.mem_of_getElem? (i := 83) rfl) rfl
theorem ql_X8_193 : .methodLink RX8 193 yX8_list ∈ lw_t := tb5 (List.mem_of_getElem? (i := 87) rfl) rfl
theorem ql_X8_196 : .methodLink RX8 196 yX8_asksRow ∈ lw_t := tb5 (List.mem_of_getElem? (i := 95) rfl) rfl
theorem ql_X8_199 : .methodLink RX8 199 yX8_answerOf ∈ lw_t := tb5 (List.mem_of_getElem? (i := 103) rfl) rfl
theorem ql_X8_203 : .methodLink RX8 203 yX8_goesOn ∈ lw_t := tb5 (List.mem_of_getElem? (i := 127) rfl) rfl
theorem ql_X8_206 : .methodLink RX8 206 yX8_leftOf ∈ lw_t := tb5 (List.mem_of_getElem? (i := 135) rfl) rfl
theorem ql_X8_212 : .methodLink RX8 212 yX8_bestOf ∈ lw_t := tb5 (List.mem_of_getElem? (i := 143) rfl) rfl
theorem ql_X8_215 : .methodLink RX8 215 yX8_forces ∈ lw_t := tb5 (List.mem_of_getElem? (i := 151) rfl) rfl
theorem ql_X8_224 : .methodLink RX8 224 yX8_isTold ∈ lw_t := tb5 (List.mem_of_getElem? (i := 163) rfl) rfl
theorem ql_X8_227 : .methodLink RX8 227 yX8_common ∈ lw_t := tb5 (List.mem_of_getElem? (i := 171) rfl) rfl
theorem ql_X8_240 : .methodLink RX8 240 yX8_draw ∈ lw_t := tb5 (List.mem_of_getElem? (i := 211) rfl) rfl
theorem ql_X8_243 : .methodLink RX8 243 yX8_over ∈ lw_t := tb5 (List.mem_of_getElem? (i := 5) rfl) rfl
theorem qn_X7_9 : .methodLinkNest RX7 9 yX1_init RX7 ∈ lw_t := tb1 (List.mem_of_getElem? (i := 28) rfl) rfl
theorem qn_X7_18 : .methodLinkNest RX7 18 yX6_init RX7 ∈ lw_t := tb1 (List.mem_of_getElem? (i := 43) rfl) rfl
theorem qn_X7_28 : .methodLinkNest RX7 28 yX2_init RX7 ∈ lw_t := tb1 (List.mem_of_getElem? (i := 85) rfl) rfl
theorem qn_X7_38 : .methodLinkNest RX7 38 yX5_init RX7 ∈ lw_t := tb1 (List.mem_of_getElem? (i := 101) rfl) rfl
theorem qn_X7_57 : .methodLinkNest RX7 57 yX0_init RX7 ∈ lw_t := tb1 (List.mem_of_getElem? (i := 178) rfl) rfl
theorem qn_X0_9 : .methodLinkNest RX0 9 yX6_init RX7 ∈ lw_t := tb1 (List.mem_of_getElem? (i := 183) rfl) rfl
theorem qn_X0_18 : .methodLinkNest RX0 18 yX5_init RX7 ∈ lw_t := tb1 (List.mem_of_getElem? (i := 185) rfl) rfl
theorem qn_X1_97 : .methodLinkNest RX1 97 yX7_isCase RX7 ∈ lw_t := tb2 (List.mem_of_getElem? (i := 183) rfl) rfl
theorem qn_X3_106 : .methodLinkNest RX3 106 yX7_isSet RX7 ∈ lw_t := tb3 (List.mem_of_getElem? (i := 159) rfl) rfl
theorem qn_X3_163 : .methodLinkNest RX3 163 yX7_isSettled RX7 ∈ lw_t := tb3 (List.mem_of_getElem? (i := 107) rfl) rfl
theorem qn_X3_166 : .methodLinkNest RX3 166 yX7_mayFollow RX7 ∈ lw_t := tb3 (List.mem_of_getElem? (i := 108) rfl) rfl
theorem qn_X3_173 : .methodLinkNest RX3 173 yX7_isLaw RX7 ∈ lw_t := tb3 (List.mem_of_getElem? (i := 184) rfl) rfl
theorem qn_X3_180 : .methodLinkNest RX3 180 yX7_isOnOneSide RX7 ∈ lw_t := tb3 (List.mem_of_getElem? (i := 205) rfl) rfl
theorem qn_X6_43 : .methodLinkNest RX6 43 yX7_isCase RX7 ∈ lw_t := tb2 (List.mem_of_getElem? (i := 194) rfl) rfl
theorem qn_X6_47 : .methodLinkNest RX6 47 yX7_isLaw RX7 ∈ lw_t := tb2 (List.mem_of_getElem? (i := 199) rfl) rfl
theorem qf_X7_10 : .fieldLink RX7 10 RX7 "letters" "LAnswerShorter$Letters;" ∈ lw_t := tb1 (List.mem_of_getElem? (i := 201) rfl) rfl
theorem qf_X7_19 : .fieldLink RX7 19 RX7 "speech" "LAnswerShorter$Tongue;" ∈ lw_t := tb1 (List.mem_of_getElem? (i := 202) rfl) rfl
theorem qf_X7_23 : .fieldLink RX7 23 RX7 "draft" "LAnswerShorter$Tongue;" ∈ lw_t := tb1 (List.mem_of_getElem? (i := 203) rfl) rfl
theorem qf_X7_29 : .fieldLink RX7 29 RX7 "asked" "LAnswerShorter$Row;" ∈ lw_t := tb1 (List.mem_of_getElem? (i := 204) rfl) rfl
theorem qf_X7_33 : .fieldLink RX7 33 RX7 "heard" "LAnswerShorter$Row;" ∈ lw_t := tb1 (List.mem_of_getElem? (i := 205) rfl) rfl
theorem qf_X7_39 : .fieldLink RX7 39 RX7 "talk" "LAnswerShorter$Talk;" ∈ lw_t := tb1 (List.mem_of_getElem? (i := 206) rfl) rfl
theorem qf_X7_48 : .fieldLink RX7 48 RX7 "sayings" "LAnswerShorter$Sayings;" ∈ lw_t := tb1 (List.mem_of_getElem? (i := 207) rfl) rfl
theorem qf_X7_52 : .fieldLink RX7 52 RX7 "idler" "LAnswerShorter$Sayings;" ∈ lw_t := tb1 (List.mem_of_getElem? (i := 208) rfl) rfl
theorem qf_X7_58 : .fieldLink RX7 58 RX7 "kept" "LAnswerShorter$Image;" ∈ lw_t := tb1 (List.mem_of_getElem? (i := 209) rfl) rfl
theorem qf_X7_62 : .fieldLink RX7 62 RX7 "refusals" "[I" ∈ lw_t := tb1 (List.mem_of_getElem? (i := 210) rfl) rfl
theorem qf_X7_70 : .fieldLink RX7 70 RX1 "size" "I" ∈ lw_t := tb1 (List.mem_of_getElem? (i := 34) rfl) rfl
theorem qf_X7_97 : .fieldLink RX7 97 RX6 "kinds" "[I" ∈ lw_t := tb1 (List.mem_of_getElem? (i := 48) rfl) rfl
theorem qf_X7_100 : .fieldLink RX7 100 RX6 "cases" "[I" ∈ lw_t := tb1 (List.mem_of_getElem? (i := 50) rfl) rfl
theorem qf_X7_106 : .fieldLink RX7 106 RX6 "weights" "[I" ∈ lw_t := tb1 (List.mem_of_getElem? (i := 52) rfl) rfl
theorem qf_X7_109 : .fieldLink RX7 109 RX6 "trueCase" "I" ∈ lw_t := tb1 (List.mem_of_getElem? (i := 65) rfl) rfl
theorem qf_X7_115 : .fieldLink RX7 115 RX6 "lawNow" "I" ∈ lw_t := tb1 (List.mem_of_getElem? (i := 63) rfl) rfl
theorem qf_X7_155 : .fieldLink RX7 155 RX6 "persons" "[I" ∈ lw_t := tb1 (List.mem_of_getElem? (i := 55) rfl) rfl
theorem qf_X7_174 : .fieldLink RX7 174 RX6 "words" "I" ∈ lw_t := tb1 (List.mem_of_getElem? (i := 58) rfl) rfl
theorem qf_X7_190 : .fieldLink RX7 190 RX2 "size" "I" ∈ lw_t := tb1 (List.mem_of_getElem? (i := 93) rfl) rfl
theorem qf_X7_194 : .fieldLink RX7 194 RX7 "meantCases" "I" ∈ lw_t := tb1 (List.mem_of_getElem? (i := 211) rfl) rfl
theorem qf_X7_203 : .fieldLink RX7 203 RX5 "size" "I" ∈ lw_t := tb1 (List.mem_of_getElem? (i := 108) rfl) rfl
theorem qf_X7_208 : .fieldLink RX7 208 RX5 "senses" "[I" ∈ lw_t := tb1 (List.mem_of_getElem? (i := 106) rfl) rfl
theorem qf_X7_230 : .fieldLink RX7 230 RX0 "tongueThen" "LAnswerShorter$Tongue;" ∈ lw_t := tb1 (List.mem_of_getElem? (i := 187) rfl) rfl
theorem qf_X7_233 : .fieldLink RX7 233 RX0 "talkThen" "LAnswerShorter$Talk;" ∈ lw_t := tb1 (List.mem_of_getElem? (i := 189) rfl) rfl
theorem qf_X7_239 : .fieldLink RX7 239 RX0 "meantThen" "I" ∈ lw_t := tb1 (List.mem_of_getElem? (i := 190) rfl) rfl
theorem qf_X7_242 : .fieldLink RX7 242 RX0 "taken" "Z" ∈ lw_t := tb1 (List.mem_of_getElem? (i := 191) rfl) rfl
theorem qf_X7_246 : .fieldLink RX7 246 RX6 "people" "I" ∈ lw_t := tb1 (List.mem_of_getElem? (i := 60) rfl) rfl
theorem qf_X7_256 : .fieldLink RX7 256 RX3 "fresh" "Z" ∈ lw_t := tb1 (List.mem_of_getElem? (i := 138) rfl) rfl
theorem qf_X0_10 : .fieldLink RX0 10 RX0 "tongueThen" "LAnswerShorter$Tongue;" ∈ lw_t := tb1 (List.mem_of_getElem? (i := 186) rfl) rfl
theorem qf_X0_19 : .fieldLink RX0 19 RX0 "talkThen" "LAnswerShorter$Talk;" ∈ lw_t := tb1 (List.mem_of_getElem? (i := 188) rfl) rfl
theorem qf_X1_9 : .fieldLink RX1 9 RX1 "signs" "[I" ∈ lw_t := tb1 (List.mem_of_getElem? (i := 32) rfl) rfl
theorem qf_X1_15 : .fieldLink RX1 15 RX1 "size" "I" ∈ lw_t := tb1 (List.mem_of_getElem? (i := 33) rfl) rfl
theorem qf_X2_9 : .fieldLink RX2 9 RX2 "words" "[I" ∈ lw_t := tb1 (List.mem_of_getElem? (i := 89) rfl) rfl
theorem qf_X2_15 : .fieldLink RX2 15 RX2 "size" "I" ∈ lw_t := tb1 (List.mem_of_getElem? (i := 91) rfl) rfl
theorem qf_X3_11 : .fieldLink RX3 11 RX3 "senses" "[I" ∈ lw_t := tb1 (List.mem_of_getElem? (i := 122) rfl) rfl
theorem qf_X3_15 : .fieldLink RX3 15 RX3 "groupSense" "[I" ∈ lw_t := tb1 (List.mem_of_getElem? (i := 123) rfl) rfl
theorem qf_X3_18 : .fieldLink RX3 18 RX3 "groupFirst" "[I" ∈ lw_t := tb1 (List.mem_of_getElem? (i := 124) rfl) rfl
theorem qf_X3_21 : .fieldLink RX3 21 RX3 "groupSize" "[I" ∈ lw_t := tb1 (List.mem_of_getElem? (i := 125) rfl) rfl
theorem qf_X3_24 : .fieldLink RX3 24 RX3 "groupWeight" "[I" ∈ lw_t := tb1 (List.mem_of_getElem? (i := 126) rfl) rfl
theorem qf_X3_27 : .fieldLink RX3 27 RX3 "groupBehind" "[I" ∈ lw_t := tb1 (List.mem_of_getElem? (i := 127) rfl) rfl
theorem qf_X3_30 : .fieldLink RX3 30 RX3 "fitting" "[I" ∈ lw_t := tb1 (List.mem_of_getElem? (i := 128) rfl) rfl
theorem qf_X3_33 : .fieldLink RX3 33 RX3 "firstFor" "[I" ∈ lw_t := tb1 (List.mem_of_getElem? (i := 129) rfl) rfl
theorem qf_X3_36 : .fieldLink RX3 36 RX3 "bestGroup" "[I" ∈ lw_t := tb1 (List.mem_of_getElem? (i := 130) rfl) rfl
theorem qf_X3_39 : .fieldLink RX3 39 RX3 "bestLeft" "[I" ∈ lw_t := tb1 (List.mem_of_getElem? (i := 131) rfl) rfl
theorem qf_X3_42 : .fieldLink RX3 42 RX3 "speech" "LAnswerShorter$Tongue;" ∈ lw_t := tb1 (List.mem_of_getElem? (i := 120) rfl) rfl
theorem qf_X3_46 : .fieldLink RX3 46 RX3 "moreIdle" "I" ∈ lw_t := tb1 (List.mem_of_getElem? (i := 121) rfl) rfl
theorem qf_X3_53 : .fieldLink RX3 53 RX6 "lawNow" "I" ∈ lw_t := tb1 (List.mem_of_getElem? (i := 61) rfl) rfl
theorem qf_X3_66 : .fieldLink RX3 66 RX3 "fits" "I" ∈ lw_t := tb1 (List.mem_of_getElem? (i := 135) rfl) rfl
theorem qf_X3_86 : .fieldLink RX3 86 RX6 "weights" "[I" ∈ lw_t := tb1 (List.mem_of_getElem? (i := 53) rfl) rfl
theorem qf_X3_92 : .fieldLink RX3 92 RX3 "groups" "I" ∈ lw_t := tb1 (List.mem_of_getElem? (i := 134) rfl) rfl
theorem qf_X3_99 : .fieldLink RX3 99 RX3 "firstsKnown" "Z" ∈ lw_t := tb1 (List.mem_of_getElem? (i := 136) rfl) rfl
theorem qf_X3_109 : .fieldLink RX3 109 RX2 "size" "I" ∈ lw_t := tb1 (List.mem_of_getElem? (i := 92) rfl) rfl
theorem qf_X3_114 : .fieldLink RX3 114 RX3 "words" "I" ∈ lw_t := tb1 (List.mem_of_getElem? (i := 132) rfl) rfl
theorem qf_X3_117 : .fieldLink RX3 117 RX2 "words" "[I" ∈ lw_t := tb1 (List.mem_of_getElem? (i := 90) rfl) rfl
theorem qf_X3_122 : .fieldLink RX3 122 RX3 "fresh" "Z" ∈ lw_t := tb1 (List.mem_of_getElem? (i := 137) rfl) rfl
theorem qf_X3_128 : .fieldLink RX3 128 RX6 "words" "I" ∈ lw_t := tb1 (List.mem_of_getElem? (i := 57) rfl) rfl
theorem qf_X3_137 : .fieldLink RX3 137 RX3 "size" "I" ∈ lw_t := tb1 (List.mem_of_getElem? (i := 133) rfl) rfl
theorem qf_X5_9 : .fieldLink RX5 9 RX5 "senses" "[I" ∈ lw_t := tb1 (List.mem_of_getElem? (i := 105) rfl) rfl
theorem qf_X5_15 : .fieldLink RX5 15 RX5 "size" "I" ∈ lw_t := tb1 (List.mem_of_getElem? (i := 107) rfl) rfl
theorem qf_X6_9 : .fieldLink RX6 9 RX6 "kinds" "[I" ∈ lw_t := tb1 (List.mem_of_getElem? (i := 47) rfl) rfl
theorem qf_X6_15 : .fieldLink RX6 15 RX6 "cases" "[I" ∈ lw_t := tb1 (List.mem_of_getElem? (i := 49) rfl) rfl
theorem qf_X6_18 : .fieldLink RX6 18 RX6 "weights" "[I" ∈ lw_t := tb1 (List.mem_of_getElem? (i := 51) rfl) rfl
theorem qf_X6_21 : .fieldLink RX6 21 RX6 "persons" "[I" ∈ lw_t := tb1 (List.mem_of_getElem? (i := 54) rfl) rfl
theorem qf_X6_30 : .fieldLink RX6 30 RX6 "words" "I" ∈ lw_t := tb1 (List.mem_of_getElem? (i := 56) rfl) rfl
theorem qf_X6_34 : .fieldLink RX6 34 RX6 "people" "I" ∈ lw_t := tb1 (List.mem_of_getElem? (i := 59) rfl) rfl
theorem qf_X6_37 : .fieldLink RX6 37 RX6 "lawNow" "I" ∈ lw_t := tb1 (List.mem_of_getElem? (i := 62) rfl) rfl
theorem qf_X6_40 : .fieldLink RX6 40 RX6 "trueCase" "I" ∈ lw_t := tb1 (List.mem_of_getElem? (i := 64) rfl) rfl
theorem qf_X8_9 : .fieldLink RX8 9 RX8 "letters" "[I" ∈ lw_t := tb4 (List.mem_of_getElem? (i := 90) rfl) rfl
theorem qf_X8_13 : .fieldLink RX8 13 RX8 "row" "[I" ∈ lw_t := tb4 (List.mem_of_getElem? (i := 92) rfl) rfl
theorem qf_X8_16 : .fieldLink RX8 16 RX8 "answered" "[I" ∈ lw_t := tb4 (List.mem_of_getElem? (i := 94) rfl) rfl
theorem qf_X8_19 : .fieldLink RX8 19 RX8 "refused" "[I" ∈ lw_t := tb4 (List.mem_of_getElem? (i := 96) rfl) rfl
theorem qf_X8_22 : .fieldLink RX8 22 RX8 "kind" "[I" ∈ lw_t := tb4 (List.mem_of_getElem? (i := 98) rfl) rfl
theorem qf_X8_25 : .fieldLink RX8 25 RX8 "tells" "[I" ∈ lw_t := tb4 (List.mem_of_getElem? (i := 99) rfl) rfl
theorem qf_X8_28 : .fieldLink RX8 28 RX8 "weight" "[I" ∈ lw_t := tb4 (List.mem_of_getElem? (i := 100) rfl) rfl
theorem qf_X8_31 : .fieldLink RX8 31 RX8 "talker" "[I" ∈ lw_t := tb4 (List.mem_of_getElem? (i := 102) rfl) rfl
theorem qf_X8_34 : .fieldLink RX8 34 RX8 "sayingWords" "[I" ∈ lw_t := tb4 (List.mem_of_getElem? (i := 106) rfl) rfl
theorem qf_X8_37 : .fieldLink RX8 37 RX8 "sayingMeans" "[I" ∈ lw_t := tb4 (List.mem_of_getElem? (i := 107) rfl) rfl
theorem qf_X8_40 : .fieldLink RX8 40 RX8 "sayingIdle" "[I" ∈ lw_t := tb4 (List.mem_of_getElem? (i := 108) rfl) rfl
theorem qf_X8_43 : .fieldLink RX8 43 RX8 "manyOf" "[I" ∈ lw_t := tb4 (List.mem_of_getElem? (i := 113) rfl) rfl
theorem qf_X8_48 : .fieldLink RX8 48 RX8 "wordsOf" "[[I" ∈ lw_t := tb4 (List.mem_of_getElem? (i := 114) rfl) rfl
theorem qf_X8_51 : .fieldLink RX8 51 RX8 "meaningOf" "[I" ∈ lw_t := tb4 (List.mem_of_getElem? (i := 115) rfl) rfl
theorem qf_X8_54 : .fieldLink RX8 54 RX8 "idleIn" "[I" ∈ lw_t := tb4 (List.mem_of_getElem? (i := 116) rfl) rfl
theorem qf_X8_57 : .fieldLink RX8 57 RX8 "fourWords" "[I" ∈ lw_t := tb4 (List.mem_of_getElem? (i := 122) rfl) rfl
theorem qf_X8_60 : .fieldLink RX8 60 RX8 "lot" "[I" ∈ lw_t := tb4 (List.mem_of_getElem? (i := 125) rfl) rfl
theorem qf_X8_67 : .fieldLink RX8 67 RX8 "words" "I" ∈ lw_t := tb4 (List.mem_of_getElem? (i := 97) rfl) rfl
theorem qf_X8_71 : .fieldLink RX8 71 RX8 "persons" "I" ∈ lw_t := tb4 (List.mem_of_getElem? (i := 101) rfl) rfl
theorem qf_X8_78 : .fieldLink RX8 78 RX8 "letterMany" "I" ∈ lw_t := tb4 (List.mem_of_getElem? (i := 91) rfl) rfl
theorem qf_X8_81 : .fieldLink RX8 81 RX8 "at" "I" ∈ lw_t := tb4 (List.mem_of_getElem? (i := 111) rfl) rfl
theorem qf_X8_111 : .fieldLink RX8 111 RX8 "law" "I" ∈ lw_t := tb4 (List.mem_of_getElem? (i := 103) rfl) rfl
theorem qf_X8_118 : .fieldLink RX8 118 RX8 "before" "LAnswerShorterModel;" ∈ lw_t := tb4 (List.mem_of_getElem? (i := 112) rfl) rfl
theorem qf_X8_136 : .fieldLink RX8 136 RX8 "isTrue" "I" ∈ lw_t := tb4 (List.mem_of_getElem? (i := 104) rfl) rfl
theorem qf_X8_139 : .fieldLink RX8 139 RX8 "rowMany" "I" ∈ lw_t := tb4 (List.mem_of_getElem? (i := 93) rfl) rfl
theorem qf_X8_159 : .fieldLink RX8 159 RX8 "listed" "I" ∈ lw_t := tb4 (List.mem_of_getElem? (i := 117) rfl) rfl
theorem qf_X8_166 : .fieldLink RX8 166 RX8 "askedMany" "I" ∈ lw_t := tb4 (List.mem_of_getElem? (i := 118) rfl) rfl
theorem qf_X8_169 : .fieldLink RX8 169 RX8 "askedIdle" "I" ∈ lw_t := tb4 (List.mem_of_getElem? (i := 119) rfl) rfl
theorem qf_X8_172 : .fieldLink RX8 172 RX8 "askedMeans" "I" ∈ lw_t := tb4 (List.mem_of_getElem? (i := 120) rfl) rfl
theorem qf_X8_175 : .fieldLink RX8 175 RX8 "askedLaw" "I" ∈ lw_t := tb4 (List.mem_of_getElem? (i := 121) rfl) rfl
theorem qf_X8_209 : .fieldLink RX8 209 RX8 "bestLeft" "I" ∈ lw_t := tb4 (List.mem_of_getElem? (i := 123) rfl) rfl
theorem qf_X8_218 : .fieldLink RX8 218 RX8 "answeredMany" "I" ∈ lw_t := tb4 (List.mem_of_getElem? (i := 95) rfl) rfl
theorem qf_X8_221 : .fieldLink RX8 221 RX8 "meantNow" "I" ∈ lw_t := tb4 (List.mem_of_getElem? (i := 109) rfl) rfl
theorem qf_X8_230 : .fieldLink RX8 230 RX8 "sayings" "I" ∈ lw_t := tb4 (List.mem_of_getElem? (i := 105) rfl) rfl
theorem qf_X8_234 : .fieldLink RX8 234 RX8 "drawn" "I" ∈ lw_t := tb4 (List.mem_of_getElem? (i := 124) rfl) rfl
theorem qf_X8_247 : .fieldLink RX8 247 RX8 "kept" "LAnswerShorterModel;" ∈ lw_t := tb4 (List.mem_of_getElem? (i := 110) rfl) rfl
theorem qc_X7_226 : .constant RX7 226 1000000000 ∈ lw_t := tb4 (List.mem_of_getElem? (i := 38) rfl) rfl
theorem qc_X7_271 : .constant RX7 271 1664525 ∈ lw_t := tb4 (List.mem_of_getElem? (i := 54) rfl) rfl
theorem qc_X7_272 : .constant RX7 272 1013904223 ∈ lw_t := tb4 (List.mem_of_getElem? (i := 55) rfl) rfl
theorem qc_X7_273 : .constant RX7 273 2147483647 ∈ lw_t := tb4 (List.mem_of_getElem? (i := 59) rfl) rfl
theorem qc_X4_15 : .constant RX4 15 129024 ∈ lw_t := tb3 (List.mem_of_getElem? (i := 28) rfl) rfl
theorem qc_X8_233 : .constant RX8 233 1000000000 ∈ lw_t := tb5 (List.mem_of_getElem? (i := 202) rfl) rfl
theorem qc_X8_237 : .constant RX8 237 1664525 ∈ lw_t := tb5 (List.mem_of_getElem? (i := 215) rfl) rfl
theorem qc_X8_238 : .constant RX8 238 1013904223 ∈ lw_t := tb5 (List.mem_of_getElem? (i := 216) rfl) rfl
theorem qc_X8_239 : .constant RX8 239 2147483647 ∈ lw_t := tb5 (List.mem_of_getElem? (i := 217) rfl) rfl
end
section
/-! further rows: locals picked, switches, Math, arraycopy -/
theorem qmax_c : Cond.code Lib.Math.max.name Lib.Math.max.code 2 (some .int) ∈ lw_t := tb2 (List.mem_of_getElem? (i := 118) rfl) rfl
theorem qmax_s : Cond.static Lib.Math.max.name ∈ lw_t := tb2 (List.mem_of_getElem? (i := 117) rfl) rfl
theorem qmin_c : Cond.code Lib.Math.min.name Lib.Math.min.code 2 (some .int) ∈ lw_t := tb2 (List.mem_of_getElem? (i := 121) rfl) rfl
theorem qmin_s : Cond.static Lib.Math.min.name ∈ lw_t := tb2 (List.mem_of_getElem? (i := 120) rfl) rfl
theorem qmath_i : Cond.initialized "java/lang/Math" ∈ lw_t := tb1 (List.mem_of_getElem? (i := 13) rfl) rfl
theorem qac_n : Cond.native arraycopyName ∈ lw_t := tb2 (List.mem_of_getElem? (i := 166) rfl) rfl
theorem qac_s : Cond.static arraycopyName ∈ lw_t := tb2 (List.mem_of_getElem? (i := 165) rfl) rfl
theorem qac_i : Cond.initialized "java/lang/System" ∈ lw_t := tb1 (List.mem_of_getElem? (i := 15) rfl) rfl
theorem ifE {c : Prop} [Decidable c] {ρ : Type} {A B : Option ρ} {v9 : ρ} {G : Prop} (h : (if c then A else B) = some v9) (kt : c → A = some v9 → G) (kf : ¬ c → B = some v9 → G) : G := by
  by_cases hc : c
  · exact kt hc ((if_pos hc).symm.trans h)
  · exact kf hc ((if_neg hc).symm.trans h)
section JR2
variable {p : Program} {l : Launch} {e : Env} {R : Room} {s : State} {m : MethodId} {args : Array Value} {below : List Frame} {meth : Method} {c : Code} {x : Cx} {N : Nat} {r : sR} {nL cells slots : Nat} {Q : State → Prop} {own : String} {cc : ByteArray} {ret : Option FieldType} {pc : Nat} {lv : List (Nat × Value)} {st : List Value} {t : sT} {a : sA} {ρ : Type} {A B : Option ρ} {v9 : ρ}
theorem j_lv (ks : List Nat) {lv' : List (Nat × Value)} (h : lv_pick lv ks = lv') (kk : J p l e R s m args below meth c x N r nL cells slots Q pc lv' st t a) : J p l e R s m args below meth c x N r nL cells slots Q pc lv st t a := fun H locs ls hW hl => kk H locs ls hW (lv_sub hl ks h)
theorem j_tsI (F : Fx p s m meth c cc nL own ret x) {u k : Int32} (tgt : Nat) {dflt lo hi off : Int} {offs : Array Int} {len : Nat} (hd : decode cc pc = .ok (.tableswitch dflt lo hi offs, len)) (hu : u = k) (h1 : ¬ k.toInt < lo) (h2 : ¬ hi < k.toInt) (ho : offs[(k.toInt - lo).toNat]? = some off) (ht : (pc : Int) + off = (tgt : Int)) (kk : J p l e R s m args below meth c x N r nL cells slots Q tgt lv st t a) : J p l e R s m args below meth c x N r nL cells slots Q pc lv (.int u :: st) t a := by
  subst hu
  exact fun H locs ls hW hl => lv_tableIn F.1 F.2.1 hd h1 h2 ho ht (kk H locs ls hW hl)
theorem j_tsD (F : Fx p s m meth c cc nL own ret x) {u : Int32} (tgt : Nat) {dflt lo hi : Int} {offs : Array Int} {len : Nat} (hd : decode cc pc = .ok (.tableswitch dflt lo hi offs, len)) (hsz : hi = lo + offs.size - 1) (ho : ∀ i : Nat, i < offs.size → offs[i]? = some dflt ∨ u.toInt ≠ lo + i) (ht : (pc : Int) + dflt = (tgt : Int)) (kk : J p l e R s m args below meth c x N r nL cells slots Q tgt lv st t a) : J p l e R s m args below meth c x N r nL cells slots Q pc lv (.int u :: st) t a := by
  intro H locs ls hW hl
  by_cases h : u.toInt < lo ∨ hi < u.toInt
  · exact lv_tableOut F.1 F.2.1 hd h ht (kk H locs ls hW hl)
  · have hi1 : (u.toInt - lo).toNat < offs.size := by omega
    rcases ho _ hi1 with h9 | h9
    · exact lv_tableIn F.1 F.2.1 hd (by omega) (by omega) h9 ht (kk H locs ls hW hl)
    · exact absurd (by omega) h9
theorem j_lsw (F : Fx p s m meth c cc nL own ret x) {u : Int32} (tgt : Nat) {dflt off : Int} {ps : Array (Int × Int)} {len : Nat} (hd : decode cc pc = .ok (.lookupswitch dflt ps, len)) (hp : (ps.toList.zip (ps.toList.drop 1)).all (fun (a, next) => a.1 < next.1) = true) (ho : Op.lookupswitch.offset ps.toList dflt u.toInt = off) (ht : (pc : Int) + off = (tgt : Int)) (kk : J p l e R s m args below meth c x N r nL cells slots Q tgt lv st t a) : J p l e R s m args below meth c x N r nL cells slots Q pc lv (.int u :: st) t a := fun H locs ls hW hl => lv_lookup F.1 F.2.1 hd hp ho ht (kk H locs ls hW hl)
theorem j_max (F : Fx p s m meth c cc nL own ret x) {u v : Int32} {idx : Nat} (q : .methodLink own idx Lib.Math.max.name ∈ lw_t) (hf : 1 ≤ R.frames) (hlo : (st.map fun v => v.category).sum + 13 ≤ R.locals) (hc : cells ≤ R.cells) (hs : slots ≤ R.slots) (hd : decode cc pc = .ok (.invokestatic idx, 3)) (kk : J p l e R s m args below meth c x N r nL cells slots Q (pc + 3) lv (.int (if u < v then v else u) :: st) t a) : J p l e R s m args below meth c x N r nL cells slots Q pc lv (.int v :: .int u :: st) t a := fun H locs ls hW hl =>
  va_mmax F.1 F.2.1 (F.2.2.1.trans hl.1.symm) F.2.2.2.1 (F.2.2.2.2.2.2.1.w args _ q) (F.2.2.2.2.2.2.1.w args _ qmax_s) (F.2.2.2.2.2.2.1.w args _ qmath_i) (F.2.2.2.2.2.2.1.w args _ qmax_c) hf hlo hc hs hd (kk H locs ls hW hl)
theorem j_min (F : Fx p s m meth c cc nL own ret x) {u v : Int32} {idx : Nat} (q : .methodLink own idx Lib.Math.min.name ∈ lw_t) (hf : 1 ≤ R.frames) (hlo : (st.map fun v => v.category).sum + 13 ≤ R.locals) (hc : cells ≤ R.cells) (hs : slots ≤ R.slots) (hd : decode cc pc = .ok (.invokestatic idx, 3)) (kk : J p l e R s m args below meth c x N r nL cells slots Q (pc + 3) lv (.int (if v < u then v else u) :: st) t a) : J p l e R s m args below meth c x N r nL cells slots Q pc lv (.int v :: .int u :: st) t a := fun H locs ls hW hl =>
  va_mmin F.1 F.2.1 (F.2.2.1.trans hl.1.symm) F.2.2.2.1 (F.2.2.2.2.2.2.1.w args _ q) (F.2.2.2.2.2.2.1.w args _ qmin_s) (F.2.2.2.2.2.2.1.w args _ qmath_i) (F.2.2.2.2.2.2.1.w args _ qmin_c) hf hlo hc hs hd (kk H locs ls hW hl)
theorem W_size {H : Heap} {locs : List Loc} {g : JFrame} (h : H.size = s.heap.size → W p l e R s m args below meth c H locs 0 slots Q g) : W p l e R s m args below meth c H locs 0 slots Q g := by
  intro T hT X
  have h1 : s.heap.size ≤ T.heap.size := X.same.2.1
  have h2 : T.heap.size ≤ s.heap.size + 0 := X.same.2.2.1
  exact h (by rw [← hT]; omega) T hT X
/-- System.arraycopy of n ints from the rows' beginnings, in a method that makes nothing -/
theorem j_copy (F : Fx p s m meth c cc nL own ret x) (hsz : s.heap.size = cz x + N) {k0 k1 n0 n1 idx : Nat} {n : Int32} (hk0 : k0 < N) (hl0 : lay k0 = (1, n0)) (hk1 : k1 < N) (hl1 : lay k1 = (1, n1)) (q : .methodLink own idx arraycopyName ∈ lw_t) (h3 : ¬ n < 0) (h4 : n.toNatClampNeg ≤ n0) (h5 : n.toNatClampNeg ≤ n1) (hf : 1 ≤ R.frames) (hlo : (st.map fun v => v.category).sum + (nativeFrameWords "java/lang/System" "arraycopy" 5 + 11) ≤ R.locals) (hd : decode cc pc = .ok (.invokestatic idx, 3))
    (kk : J p l e R s m args below meth c x N r nL 0 slots Q (pc + 3) lv st t (va_up a k1 (va_cpy (a k0) (a k1) 0 0 n.toNatClampNeg))) : J p l e R s m args below meth c x N r nL 0 slots Q pc lv (.int n :: .int 0 :: .ref (cz x + k1) :: .int 0 :: .ref (cz x + k0) :: st) t a := by
  intro H locs ls hW hl
  have hw := F.2.2.2.2.2.2.1.w args
  refine va_copyi (D := cD x) (sp := 0) (dp := 0) (n := n) (ty := .int) F.1 F.2.1 (F.2.2.1.trans hl.1.symm) F.2.2.2.1 (hw _ q) (hw _ qac_n) (hw _ qac_s) (hw _ qac_i) F.2.2.2.2.2.2.1.2 hW.1.2 wl_D hW.2 k0 k1 0 0 (by rw [wl_get hk0, ce_1 hl0]; rfl) (by rw [wl_get hk1, ce_1 hl1]; rfl) rfl rfl rfl (by decide) (by decide) h3 (by show 0 + _ ≤ _; omega) (by show 0 + _ ≤ _; omega) (fun i _ => rfl) hf hlo hd (fun H1 locs1 hP hD hS => ?_)
  rw [wl_putA hk1 hl1] at hP
  exact W_size (fun hs9 => kk H1 locs1 ls ⟨⟨hs9.trans hsz, hP⟩, hS⟩ hl)
end JR2
end
section
/-! constants, places of ours -/
theorem rowlt {i N : Nat} (h : i < 585) (hN : 653 ≤ N) : 64 + i < N := by omega
theorem tg3 : isTg 3 := (Or.inl rfl)
theorem tg8 : isTg 8 := (Or.inr (Or.inl rfl))
theorem tg42 : isTg 42 := (Or.inr (Or.inr rfl))
theorem rw13 : isRw 13 := (Or.inl rfl)
theorem rw15 : isRw 15 := (Or.inr rfl)
theorem tk17 : isTk 17 := (Or.inl rfl)
theorem tk47 : isTk 47 := (Or.inr rfl)
theorem sy19 : isSy 19 := (Or.inl rfl)
theorem sy30 : isSy 30 := (Or.inr rfl)
theorem cI_m1 : Int32.ofInt (-1) = (-1) := by decide
theorem cI_0 : Int32.ofInt 0 = 0 := by decide
theorem cI_1 : Int32.ofInt 1 = 1 := by decide
theorem cI_2 : Int32.ofInt 2 = 2 := by decide
theorem cI_3 : Int32.ofInt 3 = 3 := by decide
theorem cI_4 : Int32.ofInt 4 = 4 := by decide
theorem cI_5 : Int32.ofInt 5 = 5 := by decide
theorem cB_m9 : (Int8.ofInt (-9)).toInt32 = (-9) := by decide
theorem cB_m6 : (Int8.ofInt (-6)).toInt32 = (-6) := by decide
theorem cB_m4 : (Int8.ofInt (-4)).toInt32 = (-4) := by decide
theorem cB_m3 : (Int8.ofInt (-3)).toInt32 = (-3) := by decide
theorem cB_m2 : (Int8.ofInt (-2)).toInt32 = (-2) := by decide
theorem cB_6 : (Int8.ofInt 6).toInt32 = 6 := by decide
theorem cB_7 : (Int8.ofInt 7).toInt32 = 7 := by decide
theorem cB_8 : (Int8.ofInt 8).toInt32 = 8 := by decide
theorem cB_10 : (Int8.ofInt 10).toInt32 = 10 := by decide
theorem cB_11 : (Int8.ofInt 11).toInt32 = 11 := by decide
theorem cB_12 : (Int8.ofInt 12).toInt32 = 12 := by decide
theorem cB_14 : (Int8.ofInt 14).toInt32 = 14 := by decide
theorem cB_16 : (Int8.ofInt 16).toInt32 = 16 := by decide
theorem cB_30 : (Int8.ofInt 30).toInt32 = 30 := by decide
theorem cB_44 : (Int8.ofInt 44).toInt32 = 44 := by decide
theorem cB_48 : (Int8.ofInt 48).toInt32 = 48 := by decide
theorem cB_57 : (Int8.ofInt 57).toInt32 = 57 := by decide
theorem cB_59 : (Int8.ofInt 59).toInt32 = 59 := by decide
theorem cB_64 : (Int8.ofInt 64).toInt32 = 64 := by decide
theorem cB_98 : (Int8.ofInt 98).toInt32 = 98 := by decide
theorem cB_100 : (Int8.ofInt 100).toInt32 = 100 := by decide
theorem cB_102 : (Int8.ofInt 102).toInt32 = 102 := by decide
theorem cB_103 : (Int8.ofInt 103).toInt32 = 103 := by decide
theorem cB_104 : (Int8.ofInt 104).toInt32 = 104 := by decide
theorem cB_105 : (Int8.ofInt 105).toInt32 = 105 := by decide
theorem cB_108 : (Int8.ofInt 108).toInt32 = 108 := by decide
theorem cB_110 : (Int8.ofInt 110).toInt32 = 110 := by decide
theorem cB_111 : (Int8.ofInt 111).toInt32 = 111 := by decide
theorem cB_112 : (Int8.ofInt 112).toInt32 = 112 := by decide
theorem cB_116 : (Int8.ofInt 116).toInt32 = 116 := by decide
theorem cB_119 : (Int8.ofInt 119).toInt32 = 119 := by decide
theorem cS_m1000 : (Int16.ofInt (-1000)).toInt32 = (-1000) := by decide
theorem cS_255 : (Int16.ofInt 255).toInt32 = 255 := by decide
theorem cS_256 : (Int16.ofInt 256).toInt32 = 256 := by decide
theorem cS_512 : (Int16.ofInt 512).toInt32 = 512 := by decide
theorem cS_1024 : (Int16.ofInt 1024).toInt32 = 1024 := by decide
theorem cS_2048 : (Int16.ofInt 2048).toInt32 = 2048 := by decide
theorem cS_16384 : (Int16.ofInt 16384).toInt32 = 16384 := by decide
end
section
/-! texts: words, rows -/
theorem mwJ0_charAt_5068e : mwV yJ0_charAt_5068e cJ0_charAt_5068e 2 (Option.some FieldType.char) := ⟨tb2 (List.mem_of_getElem? (i := 59) rfl) rfl, tb2 (List.mem_of_getElem? (i := 57) rfl) rfl, tb2 (List.mem_of_getElem? (i := 58) rfl) rfl, qi_J0, by decide +kernel, by decide +kernel⟩
theorem mwJ0_checkBoundsBeginEnd_23922 : mwS yJ0_checkBoundsBeginEnd_23922 cJ0_checkBoundsBeginEnd_23922 3 none := ⟨tb2 (List.mem_of_getElem? (i := 139) rfl) rfl, tb2 (List.mem_of_getElem? (i := 138) rfl) rfl, qi_J0, by decide +kernel, by decide +kernel⟩
theorem mwJ0_checkIndex_df160 : mwS yJ0_checkIndex_df160 cJ0_checkIndex_df160 2 none := ⟨tb2 (List.mem_of_getElem? (i := 69) rfl) rfl, tb2 (List.mem_of_getElem? (i := 68) rfl) rfl, qi_J0, by decide +kernel, by decide +kernel⟩
theorem mwJ0_coder_7d493 : mwV yJ0_coder_7d493 cJ0_coder_7d493 1 (Option.some FieldType.byte) := ⟨tb2 (List.mem_of_getElem? (i := 53) rfl) rfl, tb2 (List.mem_of_getElem? (i := 51) rfl) rfl, tb2 (List.mem_of_getElem? (i := 52) rfl) rfl, qi_J0, by decide +kernel, by decide +kernel⟩
theorem mwJ0_indexOf_0f7a4 : mwV yJ0_indexOf_0f7a4 cJ0_indexOf_0f7a4 2 (Option.some FieldType.int) := ⟨tb2 (List.mem_of_getElem? (i := 104) rfl) rfl, tb2 (List.mem_of_getElem? (i := 102) rfl) rfl, tb2 (List.mem_of_getElem? (i := 103) rfl) rfl, qi_J0, by decide +kernel, by decide +kernel⟩
theorem mwJ0_indexOf_7cf53 : mwV yJ0_indexOf_7cf53 cJ0_indexOf_7cf53 3 (Option.some FieldType.int) := ⟨tb2 (List.mem_of_getElem? (i := 108) rfl) rfl, tb2 (List.mem_of_getElem? (i := 106) rfl) rfl, tb2 (List.mem_of_getElem? (i := 107) rfl) rfl, qi_J0, by decide +kernel, by decide +kernel⟩
theorem mwJ0_isEmpty_aae02 : mwV yJ0_isEmpty_aae02 cJ0_isEmpty_aae02 1 (Option.some FieldType.boolean) := ⟨tb2 (List.mem_of_getElem? (i := 45) rfl) rfl, tb2 (List.mem_of_getElem? (i := 43) rfl) rfl, tb2 (List.mem_of_getElem? (i := 44) rfl) rfl, qi_J0, by decide +kernel, by decide +kernel⟩
theorem mwJ0_isLatin1_aae02 : mwV yJ0_isLatin1_aae02 cJ0_isLatin1_aae02 1 (Option.some FieldType.boolean) := ⟨tb2 (List.mem_of_getElem? (i := 63) rfl) rfl, tb2 (List.mem_of_getElem? (i := 61) rfl) rfl, tb2 (List.mem_of_getElem? (i := 62) rfl) rfl, qi_J0, by decide +kernel, by decide +kernel⟩
theorem mwJ0_length_8abf5 : mwV yJ0_length_8abf5 cJ0_length_8abf5 1 (Option.some FieldType.int) := ⟨tb2 (List.mem_of_getElem? (i := 49) rfl) rfl, tb2 (List.mem_of_getElem? (i := 47) rfl) rfl, tb2 (List.mem_of_getElem? (i := 48) rfl) rfl, qi_J0, by decide +kernel, by decide +kernel⟩
theorem mwJ1_canEncode_9a6ad : mwS yJ1_canEncode_9a6ad cJ1_canEncode_9a6ad 1 (Option.some FieldType.boolean) := ⟨tb2 (List.mem_of_getElem? (i := 115) rfl) rfl, tb2 (List.mem_of_getElem? (i := 114) rfl) rfl, qi_J1, by decide +kernel, by decide +kernel⟩
theorem mwJ1_charAt_3b067 : mwS yJ1_charAt_3b067 cJ1_charAt_3b067 2 (Option.some FieldType.char) := ⟨tb2 (List.mem_of_getElem? (i := 66) rfl) rfl, tb2 (List.mem_of_getElem? (i := 65) rfl) rfl, qi_J1, by decide +kernel, by decide +kernel⟩
theorem mwJ1_indexOfChar_4cfef : mwS yJ1_indexOfChar_4cfef cJ1_indexOfChar_4cfef 6 (Option.some FieldType.int) := ⟨tb2 (List.mem_of_getElem? (i := 124) rfl) rfl, tb2 (List.mem_of_getElem? (i := 123) rfl) rfl, qi_J1, by decide +kernel, by decide +kernel⟩
theorem mwJ1_indexOf_4cfef : mwS yJ1_indexOf_4cfef cJ1_indexOf_4cfef 4 (Option.some FieldType.int) := ⟨tb2 (List.mem_of_getElem? (i := 112) rfl) rfl, tb2 (List.mem_of_getElem? (i := 111) rfl) rfl, qi_J1, by decide +kernel, by decide +kernel⟩
theorem mwJ3_checkFromToIndex_8c36e : mwS yJ3_checkFromToIndex_8c36e cJ3_checkFromToIndex_8c36e 4 (Option.some FieldType.int) := ⟨tb2 (List.mem_of_getElem? (i := 142) rfl) rfl, tb2 (List.mem_of_getElem? (i := 141) rfl) rfl, qi_J3, by decide +kernel, by decide +kernel⟩
theorem mwJ3_checkIndex_8e157 : mwS yJ3_checkIndex_8e157 cJ3_checkIndex_8e157 3 (Option.some FieldType.int) := ⟨tb2 (List.mem_of_getElem? (i := 74) rfl) rfl, tb2 (List.mem_of_getElem? (i := 73) rfl) rfl, qi_J3, by decide +kernel, by decide +kernel⟩
theorem ql_J0_335 : .methodLink RJ0 335 yJ0_coder_7d493 ∈ lw_t := tb2 (List.mem_of_getElem? (i := 50) rfl) rfl
theorem ql_J0_492 : .methodLink RJ0 492 yJ0_isLatin1_aae02 ∈ lw_t := tb2 (List.mem_of_getElem? (i := 60) rfl) rfl
theorem ql_J0_495 : .methodLink RJ0 495 yJ1_charAt_3b067 ∈ lw_t := tb2 (List.mem_of_getElem? (i := 64) rfl) rfl
theorem ql_J0_498 : .methodLink RJ0 498 yJ2_charAt_3b067 ∈ lw_t := tb2 (List.mem_of_getElem? (i := 75) rfl) rfl
theorem ql_J0_505 : .methodLink RJ0 505 yJ0_length_8abf5 ∈ lw_t := tb2 (List.mem_of_getElem? (i := 109) rfl) rfl
theorem ql_J0_633 : .methodLink RJ0 633 yJ0_indexOf_7cf53 ∈ lw_t := tb2 (List.mem_of_getElem? (i := 105) rfl) rfl
theorem ql_J0_637 : .methodLink RJ0 637 yJ1_indexOf_4cfef ∈ lw_t := tb2 (List.mem_of_getElem? (i := 110) rfl) rfl
theorem ql_J0_640 : .methodLink RJ0 640 yJ2_indexOf_4cfef ∈ lw_t := tb2 (List.mem_of_getElem? (i := 125) rfl) rfl
theorem ql_J0_1059 : .methodLink RJ0 1059 yJ3_checkIndex_8e157 ∈ lw_t := tb2 (List.mem_of_getElem? (i := 72) rfl) rfl
theorem ql_J0_1062 : .methodLink RJ0 1062 yJ3_checkFromToIndex_8c36e ∈ lw_t := tb2 (List.mem_of_getElem? (i := 140) rfl) rfl
theorem ql_J1_9 : .methodLink RJ1 9 yJ0_checkIndex_df160 ∈ lw_t := tb2 (List.mem_of_getElem? (i := 67) rfl) rfl
theorem ql_J1_38 : .methodLink RJ1 38 yJ9_min_7cf53 ∈ lw_t := tb2 (List.mem_of_getElem? (i := 119) rfl) rfl
theorem ql_J1_88 : .methodLink RJ1 88 yJ1_canEncode_9a6ad ∈ lw_t := tb2 (List.mem_of_getElem? (i := 113) rfl) rfl
theorem ql_J1_92 : .methodLink RJ1 92 yJ9_max_7cf53 ∈ lw_t := tb2 (List.mem_of_getElem? (i := 116) rfl) rfl
theorem ql_J1_95 : .methodLink RJ1 95 yJ1_indexOfChar_4cfef ∈ lw_t := tb2 (List.mem_of_getElem? (i := 122) rfl) rfl
theorem qf_J0_9 : .fieldLink RJ0 9 "java/lang/String" "value" "[B" ∈ lw_t := tb5 (List.mem_of_getElem? (i := 230) rfl) rfl
theorem qf_J0_15 : .fieldLink RJ0 15 "java/lang/String" "coder" "B" ∈ lw_t := tb5 (List.mem_of_getElem? (i := 231) rfl) rfl
theorem qf_J0_38 : .fieldLink RJ0 38 "java/lang/String" "COMPACT_STRINGS" "Z" ∈ lw_t := tb2 (List.mem_of_getElem? (i := 54) rfl) rfl
theorem qf_J0_1053 : .fieldLink RJ0 1053 "jdk/internal/util/Preconditions" "SIOOBE_FORMATTER" "Ljava/util/function/BiFunction;" ∈ lw_t := tb2 (List.mem_of_getElem? (i := 70) rfl) rfl
def cok {ρ : Type} (v : Int32) (A : Option ρ) : Option ρ := if (v.toUInt32 % 65536).toInt32 = v then A else none
theorem cok_some {ρ : Type} {v : Int32} {A : Option ρ} {v9 : ρ} (h : cok v A = some v9) : narrow .char (.int v) = .int v ∧ A = some v9 := by
  unfold cok at h
  split at h
  · rename_i e
    refine ⟨?_, h⟩
    have h1 := pk_nc v
    rw [e] at h1
    exact h1
  · cases h
def PostS (x : Cx) (N : Nat) (r : sR) (t : sT) (a : sA) (v : Int32) : Array Value → State → Outcome → State → Prop := va_Qr (fun (_ : Unit) => True) (fun _ q T => q = cAd x v.toNatClampNeg ∧ Wo x N r t a T.heap) (cA x)
theorem bnd6 {ρ : Type} {v : Int32} {A : Option ρ} {v9 : ρ} (h : bnd v 6 A = some v9) : v.toNatClampNeg < 6 ∧ A = some v9 := ⟨Nat.not_le.mp fun q => (bnd_some h).1 (Or.inr q), (bnd_some h).2⟩
section JS
variable {p : Program} {l : Launch} {e : Env} {R : Room} {s : State} {m : MethodId} {args : Array Value} {below : List Frame} {meth : Method} {c : Code} {x : Cx} {N : Nat} {r : sR} {nL cells slots : Nat} {Q : State → Prop} {own : String} {cc : ByteArray} {ret : Option FieldType} {pc : Nat} {lv : List (Nat × Value)} {st : List Value} {t : sT} {a : sA} {ρ : Type} {A B : Option ρ} {v9 : ρ}
theorem j_getS0 (F : Fx p s m meth c cc nL own ret x) {i idx : Nat} (hi : i < 6) (q : .fieldLink own idx "java/lang/String" "value" "[B" ∈ lw_t) (hd : decode cc pc = .ok (.getfield idx, 3)) (kk : J p l e R s m args below meth c x N r nL cells slots Q (pc + 3) lv (.ref (cAv x i) :: st) t a) : J p l e R s m args below meth c x N r nL cells slots Q pc lv (.ref (cAd x i) :: st) t a := fun H locs ls hW hl =>
  vk_getf F.1 F.2.1 (F.2.2.2.2.2.2.2.1.1 i hi).2.2.1 hW.2 F.2.2.2.1 (F.2.2.2.2.2.2.1.w args _ q) (fun _ h => h) hd (kk H locs ls hW hl)
theorem j_getS1 (F : Fx p s m meth c cc nL own ret x) {i idx : Nat} (hi : i < 6) (q : .fieldLink own idx "java/lang/String" "coder" "B" ∈ lw_t) (hd : decode cc pc = .ok (.getfield idx, 3)) (kk : J p l e R s m args below meth c x N r nL cells slots Q (pc + 3) lv (.int 0 :: st) t a) : J p l e R s m args below meth c x N r nL cells slots Q pc lv (.ref (cAd x i) :: st) t a := fun H locs ls hW hl =>
  vk_getf F.1 F.2.1 (F.2.2.2.2.2.2.2.1.1 i hi).2.1 hW.2 F.2.2.2.1 (F.2.2.2.2.2.2.1.w args _ q) (fun _ h => h) hd (kk H locs ls hW hl)
theorem j_getsC (F : Fx p s m meth c cc nL own ret x) {idx : Nat} (q : .fieldLink own idx "java/lang/String" "COMPACT_STRINGS" "Z" ∈ lw_t) (hd : decode cc pc = .ok (.getstatic idx, 3)) (kk : J p l e R s m args below meth c x N r nL cells slots Q (pc + 3) lv (.int 1 :: st) t a) : J p l e R s m args below meth c x N r nL cells slots Q pc lv st t a := fun H locs ls hW hl =>
  va_gets F.1 F.2.1 F.2.2.2.2.2.2.2.2.1 hW.2 F.2.2.2.1 (F.2.2.2.2.2.2.1.w args _ q) (fun _ h => h) hd (kk H locs ls hW hl)
theorem j_getsF (F : Fx p s m meth c cc nL own ret x) {idx : Nat} (q : .fieldLink own idx "jdk/internal/util/Preconditions" "SIOOBE_FORMATTER" "Ljava/util/function/BiFunction;" ∈ lw_t) (hd : decode cc pc = .ok (.getstatic idx, 3)) (kn : J p l e R s m args below meth c x N r nL cells slots Q (pc + 3) lv (.null :: st) t a) (kr : ∀ z : Nat, J p l e R s m args below meth c x N r nL cells slots Q (pc + 3) lv (.ref z :: st) t a) : J p l e R s m args below meth c x N r nL cells slots Q pc lv st t a := by
  intro H locs ls hW hl
  rcases F.2.2.2.2.2.2.2.2.2.1 with h | ⟨z, h⟩
  · exact va_gets F.1 F.2.1 h hW.2 F.2.2.2.1 (F.2.2.2.2.2.2.1.w args _ q) (fun _ h => h) hd (kn H locs ls hW hl)
  · exact va_gets F.1 F.2.1 h hW.2 F.2.2.2.1 (F.2.2.2.2.2.2.1.w args _ q) (fun _ h => h) hd (kr z H locs ls hW hl)
theorem j_tlen (F : Fx p s m meth c cc nL own ret x) {i : Nat} (hi : i < 6) (hd : decode cc pc = .ok (.arraylength, 1)) (kk : J p l e R s m args below meth c x N r nL cells slots Q (pc + 1) lv (.int (Int32.ofNat (strN.getD i 0)) :: st) t a) : J p l e R s m args below meth c x N r nL cells slots Q pc lv (.ref (cAv x i) :: st) t a := fun H locs ls hW hl =>
  va_tlen F.1 F.2.1 (F.2.2.2.2.2.2.2.1.1 i hi).2.2.2 hW.2 rfl hd (kk H locs ls hW hl)
theorem j_tb (F : Fx p s m meth c cc nL own ret x) {i : Nat} {j : Int32} (hi : i < 6) (hd : decode cc pc = .ok (.baload, 1)) (h : bnd j (strN.getD i 0) A = some v9) (kk : A = some v9 → J p l e R s m args below meth c x N r nL cells slots Q (pc + 1) lv (.int ((strB.getD i []).getD j.toNatClampNeg 0) :: st) t a) : J p l e R s m args below meth c x N r nL cells slots Q pc lv (.int j :: .ref (cAv x i) :: st) t a := fun H locs ls hW hl =>
  va_tb F.1 F.2.1 (F.2.2.2.2.2.2.2.1.1 i hi).2.2.2 hW.2 (bnd_some h).1 rfl hd (kk (bnd_some h).2 H locs ls hW hl)
theorem j_ldcS (F : Fx p s m meth c cc nL own ret x) {idx : Nat} {tx : String} {z : Nat} (q : vk_R own idx tx z s) (hd : decode cc pc = .ok (.ldc idx, 2)) (kk : J p l e R s m args below meth c x N r nL cells slots Q (pc + 2) lv (.ref z :: st) t a) : J p l e R s m args below meth c x N r nL cells slots Q pc lv st t a := fun H locs ls hW hl => va_ldcS F.1 F.2.1 F.2.2.2.1 q hd (kk H locs ls hW hl)
theorem j_i2b (F : Fx p s m meth c cc nL own ret x) {u v : Int32} (hd : decode cc pc = .ok (.i2b, 1)) (hv : u.toInt8.toInt32 = v) (kk : J p l e R s m args below meth c x N r nL cells slots Q (pc + 1) lv (.int v :: st) t a) : J p l e R s m args below meth c x N r nL cells slots Q pc lv (.int u :: st) t a := fun H locs ls hW hl => lv_i2b F.1 F.2.1 hd hv (kk H locs ls hW hl)
theorem j_creturn (F : Fx p s m meth c cc nL own ret x) {v rv : Int32} {rt : sT} {ra : sA} (hret : ret = some .char) (hd : decode cc pc = .ok (.ireturn, 1)) (h : cok v (some (v, t, a)) = some (rv, rt, ra)) : J p l e R s m args below meth c x N r nL cells slots (MQ below (PostI x N r rt ra rv) args s cells slots (cA x)) pc lv [.int v] t a := by
  intro H locs ls hW hl
  obtain ⟨hz, h⟩ := cok_some h
  cases h
  obtain ⟨hx, hb, hml, hown, hre, hlk, hK, hKs⟩ := F
  exact W.zret hx hb (hre.trans hret) hz (fun T hT hWm => ⟨⟨v, (), rfl, rfl, by show Wo _ _ _ _ _ T.heap; rw [hT]; exact hW.1⟩, hW.2.F hT⟩) hW.2.2.2 hd hlk
theorem j_breturn (F : Fx p s m meth c cc nL own ret x) {v rv : Int32} {rt : sT} {ra : sA} (hret : ret = some .byte) (hd : decode cc pc = .ok (.ireturn, 1)) (h : zok v (some (v, t, a)) = some (rv, rt, ra)) : J p l e R s m args below meth c x N r nL cells slots (MQ below (PostI x N r rt ra rv) args s cells slots (cA x)) pc lv [.int v] t a := by
  intro H locs ls hW hl
  obtain ⟨hz, h⟩ := zok_some h
  cases h
  obtain ⟨hx, hb, hml, hown, hre, hlk, hK, hKs⟩ := F
  exact W.zret hx hb (hre.trans hret) (by rcases hz with rfl | rfl <;> rfl) (fun T hT hWm => ⟨⟨v, (), rfl, rfl, by show Wo _ _ _ _ _ T.heap; rw [hT]; exact hW.1⟩, hW.2.F hT⟩) hW.2.2.2 hd hlk
theorem j_sreturn (F : Fx p s m meth c cc nL own ret x) {rv : Int32} {i : Nat} {rt : sT} {ra : sA} (hret : ret = some (.object "java/lang/String")) (hd : decode cc pc = .ok (.areturn, 1)) {v : Int32} (hi : v.toNatClampNeg = i) (h : some (v, t, a) = some (rv, rt, ra)) : J p l e R s m args below meth c x N r nL cells slots (MQ below (PostS x N r rt ra rv) args s cells slots (cA x)) pc lv [.ref (cAd x i)] t a := by
  intro H locs ls hW hl
  cases h
  subst hi
  obtain ⟨hx, hb, hml, hown, hre, hlk, hK, hKs⟩ := F
  exact W.aret hx hb (hre.trans hret) (Or.inl ⟨_, rfl⟩) (Or.inr ⟨_, rfl⟩) (fun T hT hWm => ⟨⟨(), _, rfl, trivial, rfl, by show Wo _ _ _ _ _ T.heap; rw [hT]; exact hW.1⟩, hW.2.F hT⟩) hW.2.2.2 hd hlk
theorem j_callTi (F : Fx p s m meth c cc nL own ret x) {y : MethodName} {bytes : ByteArray} {maxL idx i : Nat} {re : Option FieldType} {rm : Room} {f9 : Rs} {K9 : Int32 → sT → sA → Option ρ} (M : mwV y bytes maxL re) (q : .methodLink own idx y ∈ lw_t) (hyc : y.cls = "java/lang/String") (hi : i < 6) (As : List Value) (hn : (parseMethodDescriptor y.desc).map (fun d => d.parameters.length) = some As.length) (hrm : rm.cells = 0 ∧ rm.slots = 0 ∧ rm.frames + 1 ≤ R.frames ∧ 8 + (maxL + 11) + rm.locals ≤ R.locals) (hf : cells ≤ R.cells ∧ slots ≤ R.slots) {st0 : List Value} (hst : st0 = As.reverse ++ .ref (cAd x i) :: st) (hro : (st.map fun v => v.category).sum ≤ 8) (hd : decode cc pc = .ok (.invokevirtual idx, 3))
    (hM : ∀ v t' a', f9 = some (v, t', a') → Met l y [.code y bytes maxL re] rm (Pre x N r t a (.ref (cAd x i) :: As)) (PostI x N r t' a' v) 0 0 (cA x)) (h : cal f9 K9 = some v9) (kk : ∀ v t' a', f9 = some (v, t', a') → K9 v t' a' = some v9 → J p l e R s m args below meth c x N r nL cells slots Q (pc + 3) lv (.int v :: st) t' a') : J p l e R s m args below meth c x N r nL cells slots Q pc lv st0 t a := by
  intro H locs ls hW hl
  obtain ⟨v, t', a', hf9, hK9⟩ := cal_some h
  obtain ⟨hx, hb, hml, hown, hre, hlk, hK, hKs⟩ := F
  have hts := hK.w args
  obtain ⟨m1, m2, m3, m4, m5, m6⟩ := M
  refine va_calli (va_runV (C := y.cls) (As := As) (rest := st) (Ts := lw_t) ⟨hx, hb, hml, hown, hts⟩ (hM _ _ _ hf9) ⟨⟨hrm.1, hrm.2.1, hrm.2.2.1, hrm.2.2.2, fun w hw a1 U hU => by rw [List.mem_singleton] at hw; subst hw; exact gw_move (List.mem_filter.mp m1).2 hU (hts _ m1), List.mem_singleton.mpr rfl, hts _ m1, hts _ m4, ⟨m5, m6⟩, ar_of hn, hts _ q⟩, hts _ m2, hts _ m3⟩ ⟨Pre.blind, by rw [hyc]; exact vk_recv hKs.1 hi hW.2, Pre.at hK hKs hW⟩ rfl rfl hl.1 hst (lv_room hro) hd ⟨hf.1, hf.2⟩) hW.2 (fun _ _ h => h) (fun _ h => h) (fun r1 u1 T1 H1 locs1 hT hvm hp hB hz hk1 hS1 => by subst hp; exact kk _ _ _ hf9 hK9 H1 locs1 ls ⟨by rw [hT] at hB; exact hB, hS1⟩ hl)
theorem j_callSr (F : Fx p s m meth c cc nL own ret x) {y : MethodName} {bytes : ByteArray} {maxL idx : Nat} {re : Option FieldType} {rm : Room} {f9 : Rs} {K9 : Int32 → sT → sA → Option ρ} (M : mwS y bytes maxL re) (q : .methodLink own idx y ∈ lw_t) (As : List Value) (hn : (parseMethodDescriptor y.desc).map (fun d => d.parameters.length) = some As.length) (hrm : rm.cells = 0 ∧ rm.slots = 0 ∧ rm.frames + 1 ≤ R.frames ∧ 8 + (maxL + 11) + rm.locals ≤ R.locals) (hf : cells ≤ R.cells ∧ slots ≤ R.slots) {st0 : List Value} (hst : st0 = As.reverse ++ st) (hro : (st.map fun v => v.category).sum ≤ 8) (hd : decode cc pc = .ok (.invokestatic idx, 3))
    (hM : ∀ v t' a', f9 = some (v, t', a') → Met l y [.code y bytes maxL re] rm (Pre x N r t a As) (PostS x N r t' a' v) 0 0 (cA x)) (h : cal f9 K9 = some v9) (kk : ∀ v t' a', f9 = some (v, t', a') → K9 v t' a' = some v9 → J p l e R s m args below meth c x N r nL cells slots Q (pc + 3) lv (.ref (cAd x v.toNatClampNeg) :: st) t' a') : J p l e R s m args below meth c x N r nL cells slots Q pc lv st0 t a := by
  intro H locs ls hW hl
  obtain ⟨v, t', a', hf9, hK9⟩ := cal_some h
  obtain ⟨hx, hb, hml, hown, hre, hlk, hK, hKs⟩ := F
  have hts := hK.w args
  obtain ⟨m1, m2, m4, m5, m6⟩ := M
  refine va_callr (va_runS (As := As) (rest := st) (Ts := lw_t) ⟨hx, hb, hml, hown, hts⟩ (hM _ _ _ hf9) ⟨⟨hrm.1, hrm.2.1, hrm.2.2.1, hrm.2.2.2, fun w hw a1 U hU => by rw [List.mem_singleton] at hw; subst hw; exact gw_move (List.mem_filter.mp m1).2 hU (hts _ m1), List.mem_singleton.mpr rfl, hts _ m1, hts _ m4, ⟨m5, m6⟩, ar_of hn, hts _ q⟩, hts _ m2⟩ ⟨Pre.blind, Pre.at hK hKs hW⟩ rfl rfl hl.1 hst (lv_room hro) hd ⟨hf.1, hf.2⟩) hW.2 (fun _ _ h => h) (fun _ h => h) (fun u1 q1 T1 H1 locs1 hT hvm hp hB hz hk1 hS1 => by obtain ⟨rfl, hB⟩ := hB; exact kk _ _ _ hf9 hK9 H1 locs1 ls ⟨by rw [hT] at hB; exact hB, hS1⟩ hl)
end JS
def fJ3_checkIndex_8e157 (nF : Nat) (x0 x1 : Int32) (t : sT) (a : sA) : Rs := if x0 < 0 then none else if x0 < x1 then some (x0, t, a) else none
theorem kJ3_checkIndex_8e157 (l : Launch) {x : Cx} {N : Nat} {u0 v0 : Option Nat} {nF : Nat} {x0 x1 : Int32} {t : sT} {a : sA} {rv : Int32} {rt : sT} {ra : sA} (z9 : Value) (hz9 : z9 = .null ∨ ∃ z, z9 = .ref z) (h : fJ3_checkIndex_8e157 nF x0 x1 t a = some (rv, rt, ra)) : Met l yJ3_checkIndex_8e157 [.code yJ3_checkIndex_8e157 cJ3_checkIndex_8e157 3 (some .int)] (k2_rm 0 0) (Pre x N (rho u0 v0) t a [.int x0, .int x1, z9]) (PostI x N (rho u0 v0) rt ra rv) 0 0 (cA x) := by
  rcases hz9 with rfl | ⟨z, rfl⟩
  · refine j_entry (by decide) rfl (Nat.le_of_ble_eq_true rfl) ?_
    intro p e s m below meth c F hsz hnm
    unfold fJ3_checkIndex_8e157 at h
    show J p l e _ s m _ below meth c x N (rho u0 v0) 3 0 0 _ 0 [(0, .int x0), (1, .int x1), (2, .null)] [] t a
    refine j_iload_n F 0 dJ3_checkIndex_8e157_0 rfl rfl ?_
    refine j_if_lt F 9 dJ3_checkIndex_8e157_1 rfl h (fun h => by cases h) (fun h => ?_)
    refine j_iload_n F 0 dJ3_checkIndex_8e157_4 rfl rfl ?_
    refine j_iload_n F 1 dJ3_checkIndex_8e157_5 rfl rfl ?_
    refine j_icmp_lt F 16 dJ3_checkIndex_8e157_6 rfl h (fun h => ?_) (fun h => by cases h)
    refine j_iload_n F 0 dJ3_checkIndex_8e157_16 rfl rfl ?_
    exact j_ireturn F rfl dJ3_checkIndex_8e157_17 h
  · refine j_entry (by decide) rfl (Nat.le_of_ble_eq_true rfl) ?_
    intro p e s m below meth c F hsz hnm
    unfold fJ3_checkIndex_8e157 at h
    show J p l e _ s m _ below meth c x N (rho u0 v0) 3 0 0 _ 0 [(0, .int x0), (1, .int x1), (2, .ref z)] [] t a
    refine j_iload_n F 0 dJ3_checkIndex_8e157_0 rfl rfl ?_
    refine j_if_lt F 9 dJ3_checkIndex_8e157_1 rfl h (fun h => by cases h) (fun h => ?_)
    refine j_iload_n F 0 dJ3_checkIndex_8e157_4 rfl rfl ?_
    refine j_iload_n F 1 dJ3_checkIndex_8e157_5 rfl rfl ?_
    refine j_icmp_lt F 16 dJ3_checkIndex_8e157_6 rfl h (fun h => ?_) (fun h => by cases h)
    refine j_iload_n F 0 dJ3_checkIndex_8e157_16 rfl rfl ?_
    exact j_ireturn F rfl dJ3_checkIndex_8e157_17 h
def fJ0_checkIndex_df160 (nF : Nat) (x0 x1 : Int32) (t : sT) (a : sA) : Rs := cal (fJ3_checkIndex_8e157 nF x0 x1 t a) (fun _ t a => some (0, t, a))
theorem kJ0_checkIndex_df160 (l : Launch) {x : Cx} {N : Nat} {u0 v0 : Option Nat} {nF : Nat} {x0 x1 : Int32} {t : sT} {a : sA} {rv : Int32} {rt : sT} {ra : sA} (hN : 653 ≤ N) (h : fJ0_checkIndex_df160 nF x0 x1 t a = some (rv, rt, ra)) : Met l yJ0_checkIndex_df160 [.code yJ0_checkIndex_df160 cJ0_checkIndex_df160 2 none] (k2_rm 1 30) (Pre x N (rho u0 v0) t a [.int x0, .int x1]) (PostV x N (rho u0 v0) rt ra) 0 0 (cA x) := by
  refine j_entry (by decide) rfl (Nat.le_of_ble_eq_true rfl) ?_
  intro p e s m below meth c F hsz hnm
  have F : Fx p s m meth c cJ0_checkIndex_df160 2 RJ0 none x := F
  unfold fJ0_checkIndex_df160 at h
  show J p l e _ s m _ below meth c x N (rho u0 v0) 2 0 0 _ 0 [(0, .int x0), (1, .int x1)] [] t a
  refine j_iload_n F 0 dJ0_checkIndex_df160_0 rfl rfl ?_
  refine j_iload_n F 1 dJ0_checkIndex_df160_1 rfl rfl ?_
  refine j_getsF F qf_J0_1053 dJ0_checkIndex_df160_2 ?_ (fun z => ?_)
  · refine j_callSi F mwJ3_checkIndex_8e157 ql_J0_1059 [.int x0, .int x1, .null] rfl ⟨rfl, rfl, Nat.le_of_ble_eq_true rfl, Nat.le_of_ble_eq_true rfl⟩ ⟨Nat.le_refl 0, Nat.le_refl 0⟩ rfl (Nat.le_of_ble_eq_true rfl) dJ0_checkIndex_df160_5 (fun _ _ _ h9 => kJ3_checkIndex_8e157 l .null (Or.inl rfl) h9) h (fun v1 t1 a1 e1 h => ?_)
    refine j_pop F dJ0_checkIndex_df160_8 rfl ?_
    exact j_vreturn F rfl dJ0_checkIndex_df160_9 h
  · refine j_callSi F mwJ3_checkIndex_8e157 ql_J0_1059 [.int x0, .int x1, .ref z] rfl ⟨rfl, rfl, Nat.le_of_ble_eq_true rfl, Nat.le_of_ble_eq_true rfl⟩ ⟨Nat.le_refl 0, Nat.le_refl 0⟩ rfl (Nat.le_of_ble_eq_true rfl) dJ0_checkIndex_df160_5 (fun _ _ _ h9 => kJ3_checkIndex_8e157 l (.ref z) (Or.inr ⟨z, rfl⟩) h9) h (fun v1 t1 a1 e1 h => ?_)
    refine j_pop F dJ0_checkIndex_df160_8 rfl ?_
    exact j_vreturn F rfl dJ0_checkIndex_df160_9 h
end
