section
-- ===== PART A: goes FIRST, ahead of the names: the tables' words, and 'selects' of the private methods out of them =====
/-- a private method of a class that the tables say can be made, by its rows of tables_1 -/
def lw_okq (q : MethodName × Nat) : Prop := (q.1.cls ≠ "java/lang/invoke/MethodHandle" ∧ q.1.cls ≠ "java/lang/invoke/VarHandle") ∧ Cond.instantiable q.1.cls q.2 ∈ tables_1 ∧ Cond.privateMethod q.1 ∈ tables_1 ∧ Cond.instanceMethod q.1 ∈ tables_1
theorem lw_p0 : lw_okq (⟨"UnsaidWords$Law", "value", "(II[I)I"⟩, 8) := ⟨⟨by decide +kernel, by decide +kernel⟩, List.mem_of_getElem? (i := 129) (by decide +kernel), List.mem_of_getElem? (i := 421) (by decide +kernel), List.mem_of_getElem? (i := 422) (by decide +kernel)⟩
theorem lw_p1 : lw_okq (⟨"UnsaidWords$World", "spread", "(II)V"⟩, 14) := ⟨⟨by decide +kernel, by decide +kernel⟩, List.mem_of_getElem? (i := 29) (by decide +kernel), List.mem_of_getElem? (i := 452) (by decide +kernel), List.mem_of_getElem? (i := 453) (by decide +kernel)⟩
theorem lw_p2 : lw_okq (⟨"UnsaidWords$World", "walk", "()V"⟩, 14) := ⟨⟨by decide +kernel, by decide +kernel⟩, List.mem_of_getElem? (i := 29) (by decide +kernel), List.mem_of_getElem? (i := 495) (by decide +kernel), List.mem_of_getElem? (i := 496) (by decide +kernel)⟩
theorem lw_p3 : lw_okq (⟨"UnsaidWords$World", "breathe", "(II)V"⟩, 14) := ⟨⟨by decide +kernel, by decide +kernel⟩, List.mem_of_getElem? (i := 29) (by decide +kernel), List.mem_of_getElem? (i := 503) (by decide +kernel), List.mem_of_getElem? (i := 504) (by decide +kernel)⟩
theorem lw_p4 : lw_okq (⟨"UnsaidWords$World", "chatter", "()V"⟩, 14) := ⟨⟨by decide +kernel, by decide +kernel⟩, List.mem_of_getElem? (i := 29) (by decide +kernel), List.mem_of_getElem? (i := 510) (by decide +kernel), List.mem_of_getElem? (i := 511) (by decide +kernel)⟩
theorem lw_p5 : lw_okq (⟨"UnsaidWords$World", "draw", "(I)I"⟩, 14) := ⟨⟨by decide +kernel, by decide +kernel⟩, List.mem_of_getElem? (i := 29) (by decide +kernel), List.mem_of_getElem? (i := 514) (by decide +kernel), List.mem_of_getElem? (i := 515) (by decide +kernel)⟩
theorem lw_p6 : lw_okq (⟨"UnsaidWords$World", "longestUnsaid", "(I)I"⟩, 14) := ⟨⟨by decide +kernel, by decide +kernel⟩, List.mem_of_getElem? (i := 29) (by decide +kernel), List.mem_of_getElem? (i := 520) (by decide +kernel), List.mem_of_getElem? (i := 521) (by decide +kernel)⟩
theorem lw_p7 : lw_okq (⟨"UnsaidWords$World", "age", "()V"⟩, 14) := ⟨⟨by decide +kernel, by decide +kernel⟩, List.mem_of_getElem? (i := 29) (by decide +kernel), List.mem_of_getElem? (i := 524) (by decide +kernel), List.mem_of_getElem? (i := 525) (by decide +kernel)⟩
theorem lw_p8 : lw_okq (⟨"UnsaidWords$World", "lapse", "(I)V"⟩, 14) := ⟨⟨by decide +kernel, by decide +kernel⟩, List.mem_of_getElem? (i := 29) (by decide +kernel), List.mem_of_getElem? (i := 528) (by decide +kernel), List.mem_of_getElem? (i := 529) (by decide +kernel)⟩
theorem lw_p9 : lw_okq (⟨"UnsaidWords$Texts", "cut", "(LUnsaidWords$Tape;)V"⟩, 8) := ⟨⟨by decide +kernel, by decide +kernel⟩, List.mem_of_getElem? (i := 273) (by decide +kernel), List.mem_of_getElem? (i := 552) (by decide +kernel), List.mem_of_getElem? (i := 553) (by decide +kernel)⟩
theorem lw_p10 : lw_okq (⟨"UnsaidWords$Texts", "addToken", "(III)V"⟩, 8) := ⟨⟨by decide +kernel, by decide +kernel⟩, List.mem_of_getElem? (i := 273) (by decide +kernel), List.mem_of_getElem? (i := 624) (by decide +kernel), List.mem_of_getElem? (i := 625) (by decide +kernel)⟩
theorem lw_p11 : lw_okq (⟨"UnsaidWords$Texts", "kind", "()I"⟩, 8) := ⟨⟨by decide +kernel, by decide +kernel⟩, List.mem_of_getElem? (i := 273) (by decide +kernel), List.mem_of_getElem? (i := 697) (by decide +kernel), List.mem_of_getElem? (i := 698) (by decide +kernel)⟩
theorem lw_p12 : lw_okq (⟨"UnsaidWords$Texts", "readMeaning", "(LUnsaidWords$World;LUnsaidWords$Meanings;)Z"⟩, 8) := ⟨⟨by decide +kernel, by decide +kernel⟩, List.mem_of_getElem? (i := 273) (by decide +kernel), List.mem_of_getElem? (i := 701) (by decide +kernel), List.mem_of_getElem? (i := 702) (by decide +kernel)⟩
theorem lw_p13 : lw_okq (⟨"UnsaidWords$Texts", "takeHead", "(III)Z"⟩, 8) := ⟨⟨by decide +kernel, by decide +kernel⟩, List.mem_of_getElem? (i := 273) (by decide +kernel), List.mem_of_getElem? (i := 705) (by decide +kernel), List.mem_of_getElem? (i := 706) (by decide +kernel)⟩
theorem lw_p14 : lw_okq (⟨"UnsaidWords$Texts", "refuse", "(I)Z"⟩, 8) := ⟨⟨by decide +kernel, by decide +kernel⟩, List.mem_of_getElem? (i := 273) (by decide +kernel), List.mem_of_getElem? (i := 709) (by decide +kernel), List.mem_of_getElem? (i := 710) (by decide +kernel)⟩
theorem lw_p15 : lw_okq (⟨"UnsaidWords$Texts", "ofNext", "([I)I"⟩, 8) := ⟨⟨by decide +kernel, by decide +kernel⟩, List.mem_of_getElem? (i := 273) (by decide +kernel), List.mem_of_getElem? (i := 713) (by decide +kernel), List.mem_of_getElem? (i := 714) (by decide +kernel)⟩
def lw_privs_1 : List (MethodName × Nat) := [(⟨"UnsaidWords$Law", "value", "(II[I)I"⟩, 8), (⟨"UnsaidWords$World", "spread", "(II)V"⟩, 14), (⟨"UnsaidWords$World", "walk", "()V"⟩, 14), (⟨"UnsaidWords$World", "breathe", "(II)V"⟩, 14), (⟨"UnsaidWords$World", "chatter", "()V"⟩, 14), (⟨"UnsaidWords$World", "draw", "(I)I"⟩, 14), (⟨"UnsaidWords$World", "longestUnsaid", "(I)I"⟩, 14), (⟨"UnsaidWords$World", "age", "()V"⟩, 14), (⟨"UnsaidWords$World", "lapse", "(I)V"⟩, 14), (⟨"UnsaidWords$Texts", "cut", "(LUnsaidWords$Tape;)V"⟩, 8), (⟨"UnsaidWords$Texts", "addToken", "(III)V"⟩, 8), (⟨"UnsaidWords$Texts", "kind", "()I"⟩, 8), (⟨"UnsaidWords$Texts", "readMeaning", "(LUnsaidWords$World;LUnsaidWords$Meanings;)Z"⟩, 8), (⟨"UnsaidWords$Texts", "takeHead", "(III)Z"⟩, 8), (⟨"UnsaidWords$Texts", "refuse", "(I)Z"⟩, 8), (⟨"UnsaidWords$Texts", "ofNext", "([I)I"⟩, 8)]
theorem lw_r1 : ∀ q ∈ lw_privs_1, lw_okq q := List.forall_mem_cons.mpr ⟨lw_p0, List.forall_mem_cons.mpr ⟨lw_p1, List.forall_mem_cons.mpr ⟨lw_p2, List.forall_mem_cons.mpr ⟨lw_p3, List.forall_mem_cons.mpr ⟨lw_p4, List.forall_mem_cons.mpr ⟨lw_p5, List.forall_mem_cons.mpr ⟨lw_p6, List.forall_mem_cons.mpr ⟨lw_p7, List.forall_mem_cons.mpr ⟨lw_p8, List.forall_mem_cons.mpr ⟨lw_p9, List.forall_mem_cons.mpr ⟨lw_p10, List.forall_mem_cons.mpr ⟨lw_p11, List.forall_mem_cons.mpr ⟨lw_p12, List.forall_mem_cons.mpr ⟨lw_p13, List.forall_mem_cons.mpr ⟨lw_p14, List.forall_mem_cons.mpr ⟨lw_p15, fun _ h => absurd h List.not_mem_nil⟩⟩⟩⟩⟩⟩⟩⟩⟩⟩⟩⟩⟩⟩⟩⟩
theorem lw_p16 : lw_okq (⟨"UnsaidWords$Texts", "readWording", "(LUnsaidWords$World;LUnsaidWords$Meanings;)Z"⟩, 8) := ⟨⟨by decide +kernel, by decide +kernel⟩, List.mem_of_getElem? (i := 273) (by decide +kernel), List.mem_of_getElem? (i := 721) (by decide +kernel), List.mem_of_getElem? (i := 722) (by decide +kernel)⟩
theorem lw_p17 : lw_okq (⟨"UnsaidWords$Texts", "takeNumber", "(II)Z"⟩, 8) := ⟨⟨by decide +kernel, by decide +kernel⟩, List.mem_of_getElem? (i := 273) (by decide +kernel), List.mem_of_getElem? (i := 725) (by decide +kernel), List.mem_of_getElem? (i := 726) (by decide +kernel)⟩
theorem lw_p18 : lw_okq (⟨"UnsaidWords$Texts", "take", "(I)Z"⟩, 8) := ⟨⟨by decide +kernel, by decide +kernel⟩, List.mem_of_getElem? (i := 273) (by decide +kernel), List.mem_of_getElem? (i := 733) (by decide +kernel), List.mem_of_getElem? (i := 734) (by decide +kernel)⟩
theorem lw_p19 : lw_okq (⟨"UnsaidWords$Texts", "readLaw", "(LUnsaidWords$Law;)Z"⟩, 8) := ⟨⟨by decide +kernel, by decide +kernel⟩, List.mem_of_getElem? (i := 273) (by decide +kernel), List.mem_of_getElem? (i := 741) (by decide +kernel), List.mem_of_getElem? (i := 742) (by decide +kernel)⟩
theorem lw_p20 : lw_okq (⟨"UnsaidWords$Texts", "readSum", "(LUnsaidWords$Law;)Z"⟩, 8) := ⟨⟨by decide +kernel, by decide +kernel⟩, List.mem_of_getElem? (i := 273) (by decide +kernel), List.mem_of_getElem? (i := 749) (by decide +kernel), List.mem_of_getElem? (i := 750) (by decide +kernel)⟩
theorem lw_p21 : lw_okq (⟨"UnsaidWords$Texts", "readEither", "(LUnsaidWords$Law;I)Z"⟩, 8) := ⟨⟨by decide +kernel, by decide +kernel⟩, List.mem_of_getElem? (i := 273) (by decide +kernel), List.mem_of_getElem? (i := 761) (by decide +kernel), List.mem_of_getElem? (i := 762) (by decide +kernel)⟩
theorem lw_p22 : lw_okq (⟨"UnsaidWords$Texts", "readCondition", "(LUnsaidWords$Law;I)Z"⟩, 8) := ⟨⟨by decide +kernel, by decide +kernel⟩, List.mem_of_getElem? (i := 273) (by decide +kernel), List.mem_of_getElem? (i := 765) (by decide +kernel), List.mem_of_getElem? (i := 766) (by decide +kernel)⟩
theorem lw_p23 : lw_okq (⟨"UnsaidWords$Texts", "readWalk", "(LUnsaidWords$World;LUnsaidWords$Rows;)Z"⟩, 8) := ⟨⟨by decide +kernel, by decide +kernel⟩, List.mem_of_getElem? (i := 273) (by decide +kernel), List.mem_of_getElem? (i := 773) (by decide +kernel), List.mem_of_getElem? (i := 774) (by decide +kernel)⟩
theorem lw_p24 : lw_okq (⟨"UnsaidWords$Texts", "readNeed", "(LUnsaidWords$World;LUnsaidWords$Rows;)Z"⟩, 8) := ⟨⟨by decide +kernel, by decide +kernel⟩, List.mem_of_getElem? (i := 273) (by decide +kernel), List.mem_of_getElem? (i := 778) (by decide +kernel), List.mem_of_getElem? (i := 779) (by decide +kernel)⟩
theorem lw_p25 : lw_okq (⟨"UnsaidWords", "beginThought", "()V"⟩, 7) := ⟨⟨by decide +kernel, by decide +kernel⟩, List.mem_of_getElem? (i := 21) (by decide +kernel), List.mem_of_getElem? (i := 825) (by decide +kernel), List.mem_of_getElem? (i := 826) (by decide +kernel)⟩
theorem lw_p26 : lw_okq (⟨"UnsaidWordsModel", "forgets", "()V"⟩, 36) := ⟨⟨by decide +kernel, by decide +kernel⟩, List.mem_of_getElem? (i := 1062) (by decide +kernel), List.mem_of_getElem? (i := 1181) (by decide +kernel), List.mem_of_getElem? (i := 1182) (by decide +kernel)⟩
theorem lw_p27 : lw_okq (⟨"UnsaidWordsModel", "isPerson", "(I)Z"⟩, 36) := ⟨⟨by decide +kernel, by decide +kernel⟩, List.mem_of_getElem? (i := 1062) (by decide +kernel), List.mem_of_getElem? (i := 1203) (by decide +kernel), List.mem_of_getElem? (i := 1204) (by decide +kernel)⟩
theorem lw_p28 : lw_okq (⟨"UnsaidWordsModel", "isWord", "(I)Z"⟩, 36) := ⟨⟨by decide +kernel, by decide +kernel⟩, List.mem_of_getElem? (i := 1062) (by decide +kernel), List.mem_of_getElem? (i := 1207) (by decide +kernel), List.mem_of_getElem? (i := 1208) (by decide +kernel)⟩
theorem lw_p29 : lw_okq (⟨"UnsaidWordsModel", "next0", "()V"⟩, 36) := ⟨⟨by decide +kernel, by decide +kernel⟩, List.mem_of_getElem? (i := 1062) (by decide +kernel), List.mem_of_getElem? (i := 1231) (by decide +kernel), List.mem_of_getElem? (i := 1232) (by decide +kernel)⟩
theorem lw_p30 : lw_okq (⟨"UnsaidWordsModel", "see", "(I)I"⟩, 36) := ⟨⟨by decide +kernel, by decide +kernel⟩, List.mem_of_getElem? (i := 1062) (by decide +kernel), List.mem_of_getElem? (i := 1235) (by decide +kernel), List.mem_of_getElem? (i := 1236) (by decide +kernel)⟩
theorem lw_p31 : lw_okq (⟨"UnsaidWordsModel", "word0", "()I"⟩, 36) := ⟨⟨by decide +kernel, by decide +kernel⟩, List.mem_of_getElem? (i := 1062) (by decide +kernel), List.mem_of_getElem? (i := 1242) (by decide +kernel), List.mem_of_getElem? (i := 1243) (by decide +kernel)⟩
def lw_privs_2 : List (MethodName × Nat) := [(⟨"UnsaidWords$Texts", "readWording", "(LUnsaidWords$World;LUnsaidWords$Meanings;)Z"⟩, 8), (⟨"UnsaidWords$Texts", "takeNumber", "(II)Z"⟩, 8), (⟨"UnsaidWords$Texts", "take", "(I)Z"⟩, 8), (⟨"UnsaidWords$Texts", "readLaw", "(LUnsaidWords$Law;)Z"⟩, 8), (⟨"UnsaidWords$Texts", "readSum", "(LUnsaidWords$Law;)Z"⟩, 8), (⟨"UnsaidWords$Texts", "readEither", "(LUnsaidWords$Law;I)Z"⟩, 8), (⟨"UnsaidWords$Texts", "readCondition", "(LUnsaidWords$Law;I)Z"⟩, 8), (⟨"UnsaidWords$Texts", "readWalk", "(LUnsaidWords$World;LUnsaidWords$Rows;)Z"⟩, 8), (⟨"UnsaidWords$Texts", "readNeed", "(LUnsaidWords$World;LUnsaidWords$Rows;)Z"⟩, 8), (⟨"UnsaidWords", "beginThought", "()V"⟩, 7), (⟨"UnsaidWordsModel", "forgets", "()V"⟩, 36), (⟨"UnsaidWordsModel", "isPerson", "(I)Z"⟩, 36), (⟨"UnsaidWordsModel", "isWord", "(I)Z"⟩, 36), (⟨"UnsaidWordsModel", "next0", "()V"⟩, 36), (⟨"UnsaidWordsModel", "see", "(I)I"⟩, 36), (⟨"UnsaidWordsModel", "word0", "()I"⟩, 36)]
theorem lw_r2 : ∀ q ∈ lw_privs_2, lw_okq q := List.forall_mem_cons.mpr ⟨lw_p16, List.forall_mem_cons.mpr ⟨lw_p17, List.forall_mem_cons.mpr ⟨lw_p18, List.forall_mem_cons.mpr ⟨lw_p19, List.forall_mem_cons.mpr ⟨lw_p20, List.forall_mem_cons.mpr ⟨lw_p21, List.forall_mem_cons.mpr ⟨lw_p22, List.forall_mem_cons.mpr ⟨lw_p23, List.forall_mem_cons.mpr ⟨lw_p24, List.forall_mem_cons.mpr ⟨lw_p25, List.forall_mem_cons.mpr ⟨lw_p26, List.forall_mem_cons.mpr ⟨lw_p27, List.forall_mem_cons.mpr ⟨lw_p28, List.forall_mem_cons.mpr ⟨lw_p29, List.forall_mem_cons.mpr ⟨lw_p30, List.forall_mem_cons.mpr ⟨lw_p31, fun _ h => absurd h List.not_mem_nil⟩⟩⟩⟩⟩⟩⟩⟩⟩⟩⟩⟩⟩⟩⟩⟩
theorem lw_p32 : lw_okq (⟨"UnsaidWordsModel", "is", "(Ljava/lang/String;)Z"⟩, 36) := ⟨⟨by decide +kernel, by decide +kernel⟩, List.mem_of_getElem? (i := 1062) (by decide +kernel), List.mem_of_getElem? (i := 1247) (by decide +kernel), List.mem_of_getElem? (i := 1248) (by decide +kernel)⟩
theorem lw_p33 : lw_okq (⟨"UnsaidWordsModel", "lawWord", "()I"⟩, 36) := ⟨⟨by decide +kernel, by decide +kernel⟩, List.mem_of_getElem? (i := 1062) (by decide +kernel), List.mem_of_getElem? (i := 1254) (by decide +kernel), List.mem_of_getElem? (i := 1255) (by decide +kernel)⟩
theorem lw_p34 : lw_okq (⟨"UnsaidWordsModel", "asked", "()I"⟩, 36) := ⟨⟨by decide +kernel, by decide +kernel⟩, List.mem_of_getElem? (i := 1062) (by decide +kernel), List.mem_of_getElem? (i := 1264) (by decide +kernel), List.mem_of_getElem? (i := 1265) (by decide +kernel)⟩
theorem lw_p35 : lw_okq (⟨"UnsaidWordsModel", "walkWord", "()I"⟩, 36) := ⟨⟨by decide +kernel, by decide +kernel⟩, List.mem_of_getElem? (i := 1062) (by decide +kernel), List.mem_of_getElem? (i := 1276) (by decide +kernel), List.mem_of_getElem? (i := 1277) (by decide +kernel)⟩
theorem lw_p36 : lw_okq (⟨"UnsaidWordsModel", "needWord", "()I"⟩, 36) := ⟨⟨by decide +kernel, by decide +kernel⟩, List.mem_of_getElem? (i := 1062) (by decide +kernel), List.mem_of_getElem? (i := 1284) (by decide +kernel), List.mem_of_getElem? (i := 1285) (by decide +kernel)⟩
theorem lw_p37 : lw_okq (⟨"UnsaidWordsModel", "readsLaw", "()Z"⟩, 36) := ⟨⟨by decide +kernel, by decide +kernel⟩, List.mem_of_getElem? (i := 1062) (by decide +kernel), List.mem_of_getElem? (i := 1294) (by decide +kernel), List.mem_of_getElem? (i := 1295) (by decide +kernel)⟩
theorem lw_p38 : lw_okq (⟨"UnsaidWordsModel", "aLine", "()Z"⟩, 36) := ⟨⟨by decide +kernel, by decide +kernel⟩, List.mem_of_getElem? (i := 1062) (by decide +kernel), List.mem_of_getElem? (i := 1298) (by decide +kernel), List.mem_of_getElem? (i := 1299) (by decide +kernel)⟩
theorem lw_p39 : lw_okq (⟨"UnsaidWordsModel", "bad", "(I)Z"⟩, 36) := ⟨⟨by decide +kernel, by decide +kernel⟩, List.mem_of_getElem? (i := 1062) (by decide +kernel), List.mem_of_getElem? (i := 1302) (by decide +kernel), List.mem_of_getElem? (i := 1303) (by decide +kernel)⟩
theorem lw_p40 : lw_okq (⟨"UnsaidWordsModel", "sumUp", "()Z"⟩, 36) := ⟨⟨by decide +kernel, by decide +kernel⟩, List.mem_of_getElem? (i := 1062) (by decide +kernel), List.mem_of_getElem? (i := 1306) (by decide +kernel), List.mem_of_getElem? (i := 1307) (by decide +kernel)⟩
theorem lw_p41 : lw_okq (⟨"UnsaidWordsModel", "product", "()Z"⟩, 36) := ⟨⟨by decide +kernel, by decide +kernel⟩, List.mem_of_getElem? (i := 1062) (by decide +kernel), List.mem_of_getElem? (i := 1310) (by decide +kernel), List.mem_of_getElem? (i := 1311) (by decide +kernel)⟩
theorem lw_p42 : lw_okq (⟨"UnsaidWordsModel", "unit", "()Z"⟩, 36) := ⟨⟨by decide +kernel, by decide +kernel⟩, List.mem_of_getElem? (i := 1062) (by decide +kernel), List.mem_of_getElem? (i := 1314) (by decide +kernel), List.mem_of_getElem? (i := 1315) (by decide +kernel)⟩
theorem lw_p43 : lw_okq (⟨"UnsaidWordsModel", "lay", "(II)V"⟩, 36) := ⟨⟨by decide +kernel, by decide +kernel⟩, List.mem_of_getElem? (i := 1062) (by decide +kernel), List.mem_of_getElem? (i := 1318) (by decide +kernel), List.mem_of_getElem? (i := 1319) (by decide +kernel)⟩
theorem lw_p44 : lw_okq (⟨"UnsaidWordsModel", "any", "()Z"⟩, 36) := ⟨⟨by decide +kernel, by decide +kernel⟩, List.mem_of_getElem? (i := 1062) (by decide +kernel), List.mem_of_getElem? (i := 1322) (by decide +kernel), List.mem_of_getElem? (i := 1323) (by decide +kernel)⟩
theorem lw_p45 : lw_okq (⟨"UnsaidWordsModel", "every", "()Z"⟩, 36) := ⟨⟨by decide +kernel, by decide +kernel⟩, List.mem_of_getElem? (i := 1062) (by decide +kernel), List.mem_of_getElem? (i := 1326) (by decide +kernel), List.mem_of_getElem? (i := 1327) (by decide +kernel)⟩
theorem lw_p46 : lw_okq (⟨"UnsaidWordsModel", "oneTest", "()Z"⟩, 36) := ⟨⟨by decide +kernel, by decide +kernel⟩, List.mem_of_getElem? (i := 1062) (by decide +kernel), List.mem_of_getElem? (i := 1330) (by decide +kernel), List.mem_of_getElem? (i := 1331) (by decide +kernel)⟩
theorem lw_p47 : lw_okq (⟨"UnsaidWordsModel", "opens", "()Z"⟩, 36) := ⟨⟨by decide +kernel, by decide +kernel⟩, List.mem_of_getElem? (i := 1062) (by decide +kernel), List.mem_of_getElem? (i := 1334) (by decide +kernel), List.mem_of_getElem? (i := 1335) (by decide +kernel)⟩
def lw_privs_3 : List (MethodName × Nat) := [(⟨"UnsaidWordsModel", "is", "(Ljava/lang/String;)Z"⟩, 36), (⟨"UnsaidWordsModel", "lawWord", "()I"⟩, 36), (⟨"UnsaidWordsModel", "asked", "()I"⟩, 36), (⟨"UnsaidWordsModel", "walkWord", "()I"⟩, 36), (⟨"UnsaidWordsModel", "needWord", "()I"⟩, 36), (⟨"UnsaidWordsModel", "readsLaw", "()Z"⟩, 36), (⟨"UnsaidWordsModel", "aLine", "()Z"⟩, 36), (⟨"UnsaidWordsModel", "bad", "(I)Z"⟩, 36), (⟨"UnsaidWordsModel", "sumUp", "()Z"⟩, 36), (⟨"UnsaidWordsModel", "product", "()Z"⟩, 36), (⟨"UnsaidWordsModel", "unit", "()Z"⟩, 36), (⟨"UnsaidWordsModel", "lay", "(II)V"⟩, 36), (⟨"UnsaidWordsModel", "any", "()Z"⟩, 36), (⟨"UnsaidWordsModel", "every", "()Z"⟩, 36), (⟨"UnsaidWordsModel", "oneTest", "()Z"⟩, 36), (⟨"UnsaidWordsModel", "opens", "()Z"⟩, 36)]
theorem lw_r3 : ∀ q ∈ lw_privs_3, lw_okq q := List.forall_mem_cons.mpr ⟨lw_p32, List.forall_mem_cons.mpr ⟨lw_p33, List.forall_mem_cons.mpr ⟨lw_p34, List.forall_mem_cons.mpr ⟨lw_p35, List.forall_mem_cons.mpr ⟨lw_p36, List.forall_mem_cons.mpr ⟨lw_p37, List.forall_mem_cons.mpr ⟨lw_p38, List.forall_mem_cons.mpr ⟨lw_p39, List.forall_mem_cons.mpr ⟨lw_p40, List.forall_mem_cons.mpr ⟨lw_p41, List.forall_mem_cons.mpr ⟨lw_p42, List.forall_mem_cons.mpr ⟨lw_p43, List.forall_mem_cons.mpr ⟨lw_p44, List.forall_mem_cons.mpr ⟨lw_p45, List.forall_mem_cons.mpr ⟨lw_p46, List.forall_mem_cons.mpr ⟨lw_p47, fun _ h => absurd h List.not_mem_nil⟩⟩⟩⟩⟩⟩⟩⟩⟩⟩⟩⟩⟩⟩⟩⟩
theorem lw_p48 : lw_okq (⟨"UnsaidWordsModel", "need", "(I)Z"⟩, 36) := ⟨⟨by decide +kernel, by decide +kernel⟩, List.mem_of_getElem? (i := 1062) (by decide +kernel), List.mem_of_getElem? (i := 1338) (by decide +kernel), List.mem_of_getElem? (i := 1339) (by decide +kernel)⟩
theorem lw_p49 : lw_okq (⟨"UnsaidWordsModel", "readsRows", "()Z"⟩, 36) := ⟨⟨by decide +kernel, by decide +kernel⟩, List.mem_of_getElem? (i := 1062) (by decide +kernel), List.mem_of_getElem? (i := 1342) (by decide +kernel), List.mem_of_getElem? (i := 1343) (by decide +kernel)⟩
theorem lw_p50 : lw_okq (⟨"UnsaidWordsModel", "aMeaning", "()Z"⟩, 36) := ⟨⟨by decide +kernel, by decide +kernel⟩, List.mem_of_getElem? (i := 1062) (by decide +kernel), List.mem_of_getElem? (i := 1346) (by decide +kernel), List.mem_of_getElem? (i := 1347) (by decide +kernel)⟩
theorem lw_p51 : lw_okq (⟨"UnsaidWordsModel", "aWording", "(I)Z"⟩, 36) := ⟨⟨by decide +kernel, by decide +kernel⟩, List.mem_of_getElem? (i := 1062) (by decide +kernel), List.mem_of_getElem? (i := 1350) (by decide +kernel), List.mem_of_getElem? (i := 1351) (by decide +kernel)⟩
theorem lw_p52 : lw_okq (⟨"UnsaidWordsModel", "number", "(II)Z"⟩, 36) := ⟨⟨by decide +kernel, by decide +kernel⟩, List.mem_of_getElem? (i := 1062) (by decide +kernel), List.mem_of_getElem? (i := 1354) (by decide +kernel), List.mem_of_getElem? (i := 1355) (by decide +kernel)⟩
theorem lw_p53 : lw_okq (⟨"UnsaidWordsModel", "aWalk", "()Z"⟩, 36) := ⟨⟨by decide +kernel, by decide +kernel⟩, List.mem_of_getElem? (i := 1062) (by decide +kernel), List.mem_of_getElem? (i := 1358) (by decide +kernel), List.mem_of_getElem? (i := 1359) (by decide +kernel)⟩
theorem lw_p54 : lw_okq (⟨"UnsaidWordsModel", "told", "(III)Z"⟩, 36) := ⟨⟨by decide +kernel, by decide +kernel⟩, List.mem_of_getElem? (i := 1062) (by decide +kernel), List.mem_of_getElem? (i := 1362) (by decide +kernel), List.mem_of_getElem? (i := 1363) (by decide +kernel)⟩
theorem lw_p55 : lw_okq (⟨"UnsaidWordsModel", "aNeed", "()Z"⟩, 36) := ⟨⟨by decide +kernel, by decide +kernel⟩, List.mem_of_getElem? (i := 1062) (by decide +kernel), List.mem_of_getElem? (i := 1366) (by decide +kernel), List.mem_of_getElem? (i := 1367) (by decide +kernel)⟩
theorem lw_p56 : lw_okq (⟨"UnsaidWordsModel", "putsText", "(I)I"⟩, 36) := ⟨⟨by decide +kernel, by decide +kernel⟩, List.mem_of_getElem? (i := 1062) (by decide +kernel), List.mem_of_getElem? (i := 1370) (by decide +kernel), List.mem_of_getElem? (i := 1371) (by decide +kernel)⟩
theorem lw_p57 : lw_okq (⟨"UnsaidWordsModel", "putsMeanings", "()I"⟩, 36) := ⟨⟨by decide +kernel, by decide +kernel⟩, List.mem_of_getElem? (i := 1062) (by decide +kernel), List.mem_of_getElem? (i := 1374) (by decide +kernel), List.mem_of_getElem? (i := 1375) (by decide +kernel)⟩
theorem lw_p58 : lw_okq (⟨"UnsaidWordsModel", "putsLaw", "()I"⟩, 36) := ⟨⟨by decide +kernel, by decide +kernel⟩, List.mem_of_getElem? (i := 1062) (by decide +kernel), List.mem_of_getElem? (i := 1378) (by decide +kernel), List.mem_of_getElem? (i := 1379) (by decide +kernel)⟩
theorem lw_p59 : lw_okq (⟨"UnsaidWordsModel", "puts", "(III)I"⟩, 36) := ⟨⟨by decide +kernel, by decide +kernel⟩, List.mem_of_getElem? (i := 1062) (by decide +kernel), List.mem_of_getElem? (i := 1382) (by decide +kernel), List.mem_of_getElem? (i := 1383) (by decide +kernel)⟩
theorem lw_p60 : lw_okq (⟨"UnsaidWordsModel", "canSay", "(II)Z"⟩, 36) := ⟨⟨by decide +kernel, by decide +kernel⟩, List.mem_of_getElem? (i := 1062) (by decide +kernel), List.mem_of_getElem? (i := 1398) (by decide +kernel), List.mem_of_getElem? (i := 1399) (by decide +kernel)⟩
theorem lw_p61 : lw_okq (⟨"UnsaidWordsModel", "has", "(II)Z"⟩, 36) := ⟨⟨by decide +kernel, by decide +kernel⟩, List.mem_of_getElem? (i := 1062) (by decide +kernel), List.mem_of_getElem? (i := 1402) (by decide +kernel), List.mem_of_getElem? (i := 1403) (by decide +kernel)⟩
theorem lw_p62 : lw_okq (⟨"UnsaidWordsModel", "hasLapsed", "(I)Z"⟩, 36) := ⟨⟨by decide +kernel, by decide +kernel⟩, List.mem_of_getElem? (i := 1062) (by decide +kernel), List.mem_of_getElem? (i := 1406) (by decide +kernel), List.mem_of_getElem? (i := 1407) (by decide +kernel)⟩
theorem lw_p63 : lw_okq (⟨"UnsaidWordsModel", "tireOf", "(II)I"⟩, 36) := ⟨⟨by decide +kernel, by decide +kernel⟩, List.mem_of_getElem? (i := 1062) (by decide +kernel), List.mem_of_getElem? (i := 1410) (by decide +kernel), List.mem_of_getElem? (i := 1411) (by decide +kernel)⟩
def lw_privs_4 : List (MethodName × Nat) := [(⟨"UnsaidWordsModel", "need", "(I)Z"⟩, 36), (⟨"UnsaidWordsModel", "readsRows", "()Z"⟩, 36), (⟨"UnsaidWordsModel", "aMeaning", "()Z"⟩, 36), (⟨"UnsaidWordsModel", "aWording", "(I)Z"⟩, 36), (⟨"UnsaidWordsModel", "number", "(II)Z"⟩, 36), (⟨"UnsaidWordsModel", "aWalk", "()Z"⟩, 36), (⟨"UnsaidWordsModel", "told", "(III)Z"⟩, 36), (⟨"UnsaidWordsModel", "aNeed", "()Z"⟩, 36), (⟨"UnsaidWordsModel", "putsText", "(I)I"⟩, 36), (⟨"UnsaidWordsModel", "putsMeanings", "()I"⟩, 36), (⟨"UnsaidWordsModel", "putsLaw", "()I"⟩, 36), (⟨"UnsaidWordsModel", "puts", "(III)I"⟩, 36), (⟨"UnsaidWordsModel", "canSay", "(II)Z"⟩, 36), (⟨"UnsaidWordsModel", "has", "(II)Z"⟩, 36), (⟨"UnsaidWordsModel", "hasLapsed", "(I)Z"⟩, 36), (⟨"UnsaidWordsModel", "tireOf", "(II)I"⟩, 36)]
theorem lw_r4 : ∀ q ∈ lw_privs_4, lw_okq q := List.forall_mem_cons.mpr ⟨lw_p48, List.forall_mem_cons.mpr ⟨lw_p49, List.forall_mem_cons.mpr ⟨lw_p50, List.forall_mem_cons.mpr ⟨lw_p51, List.forall_mem_cons.mpr ⟨lw_p52, List.forall_mem_cons.mpr ⟨lw_p53, List.forall_mem_cons.mpr ⟨lw_p54, List.forall_mem_cons.mpr ⟨lw_p55, List.forall_mem_cons.mpr ⟨lw_p56, List.forall_mem_cons.mpr ⟨lw_p57, List.forall_mem_cons.mpr ⟨lw_p58, List.forall_mem_cons.mpr ⟨lw_p59, List.forall_mem_cons.mpr ⟨lw_p60, List.forall_mem_cons.mpr ⟨lw_p61, List.forall_mem_cons.mpr ⟨lw_p62, List.forall_mem_cons.mpr ⟨lw_p63, fun _ h => absurd h List.not_mem_nil⟩⟩⟩⟩⟩⟩⟩⟩⟩⟩⟩⟩⟩⟩⟩⟩
theorem lw_p64 : lw_okq (⟨"UnsaidWordsModel", "says", "(IIIIII)I"⟩, 36) := ⟨⟨by decide +kernel, by decide +kernel⟩, List.mem_of_getElem? (i := 1062) (by decide +kernel), List.mem_of_getElem? (i := 1414) (by decide +kernel), List.mem_of_getElem? (i := 1415) (by decide +kernel)⟩
theorem lw_p65 : lw_okq (⟨"UnsaidWordsModel", "knowers", "(I)I"⟩, 36) := ⟨⟨by decide +kernel, by decide +kernel⟩, List.mem_of_getElem? (i := 1062) (by decide +kernel), List.mem_of_getElem? (i := 1421) (by decide +kernel), List.mem_of_getElem? (i := 1422) (by decide +kernel)⟩
theorem lw_p66 : lw_okq (⟨"UnsaidWordsModel", "isSo", "(I)Z"⟩, 36) := ⟨⟨by decide +kernel, by decide +kernel⟩, List.mem_of_getElem? (i := 1062) (by decide +kernel), List.mem_of_getElem? (i := 1425) (by decide +kernel), List.mem_of_getElem? (i := 1426) (by decide +kernel)⟩
theorem lw_p67 : lw_okq (⟨"UnsaidWordsModel", "comesTo", "(III)I"⟩, 36) := ⟨⟨by decide +kernel, by decide +kernel⟩, List.mem_of_getElem? (i := 1062) (by decide +kernel), List.mem_of_getElem? (i := 1429) (by decide +kernel), List.mem_of_getElem? (i := 1430) (by decide +kernel)⟩
theorem lw_p68 : lw_okq (⟨"UnsaidWordsModel", "keeps", "()V"⟩, 36) := ⟨⟨by decide +kernel, by decide +kernel⟩, List.mem_of_getElem? (i := 1062) (by decide +kernel), List.mem_of_getElem? (i := 1442) (by decide +kernel), List.mem_of_getElem? (i := 1443) (by decide +kernel)⟩
theorem lw_p69 : lw_okq (⟨"UnsaidWordsModel", "says0", "(II)Z"⟩, 36) := ⟨⟨by decide +kernel, by decide +kernel⟩, List.mem_of_getElem? (i := 1062) (by decide +kernel), List.mem_of_getElem? (i := 1446) (by decide +kernel), List.mem_of_getElem? (i := 1447) (by decide +kernel)⟩
theorem lw_p70 : lw_okq (⟨"UnsaidWordsModel", "hearOf", "(II)I"⟩, 36) := ⟨⟨by decide +kernel, by decide +kernel⟩, List.mem_of_getElem? (i := 1062) (by decide +kernel), List.mem_of_getElem? (i := 1450) (by decide +kernel), List.mem_of_getElem? (i := 1451) (by decide +kernel)⟩
theorem lw_p71 : lw_okq (⟨"UnsaidWordsModel", "isHeard", "(II)V"⟩, 36) := ⟨⟨by decide +kernel, by decide +kernel⟩, List.mem_of_getElem? (i := 1062) (by decide +kernel), List.mem_of_getElem? (i := 1454) (by decide +kernel), List.mem_of_getElem? (i := 1455) (by decide +kernel)⟩
theorem lw_p72 : lw_okq (⟨"UnsaidWordsModel", "notes", "(III)V"⟩, 36) := ⟨⟨by decide +kernel, by decide +kernel⟩, List.mem_of_getElem? (i := 1062) (by decide +kernel), List.mem_of_getElem? (i := 1458) (by decide +kernel), List.mem_of_getElem? (i := 1459) (by decide +kernel)⟩
theorem lw_p73 : lw_okq (⟨"UnsaidWordsModel", "movesTo", "(II)V"⟩, 36) := ⟨⟨by decide +kernel, by decide +kernel⟩, List.mem_of_getElem? (i := 1062) (by decide +kernel), List.mem_of_getElem? (i := 1466) (by decide +kernel), List.mem_of_getElem? (i := 1467) (by decide +kernel)⟩
theorem lw_p74 : lw_okq (⟨"UnsaidWordsModel", "works", "()I"⟩, 36) := ⟨⟨by decide +kernel, by decide +kernel⟩, List.mem_of_getElem? (i := 1062) (by decide +kernel), List.mem_of_getElem? (i := 1482) (by decide +kernel), List.mem_of_getElem? (i := 1483) (by decide +kernel)⟩
theorem lw_p75 : lw_okq (⟨"UnsaidWordsModel", "walks", "(I)V"⟩, 36) := ⟨⟨by decide +kernel, by decide +kernel⟩, List.mem_of_getElem? (i := 1062) (by decide +kernel), List.mem_of_getElem? (i := 1486) (by decide +kernel), List.mem_of_getElem? (i := 1487) (by decide +kernel)⟩
theorem lw_p76 : lw_okq (⟨"UnsaidWordsModel", "chats", "()V"⟩, 36) := ⟨⟨by decide +kernel, by decide +kernel⟩, List.mem_of_getElem? (i := 1062) (by decide +kernel), List.mem_of_getElem? (i := 1490) (by decide +kernel), List.mem_of_getElem? (i := 1491) (by decide +kernel)⟩
theorem lw_p77 : lw_okq (⟨"UnsaidWordsModel", "draw", "(I)I"⟩, 36) := ⟨⟨by decide +kernel, by decide +kernel⟩, List.mem_of_getElem? (i := 1062) (by decide +kernel), List.mem_of_getElem? (i := 1494) (by decide +kernel), List.mem_of_getElem? (i := 1495) (by decide +kernel)⟩
theorem lw_p78 : lw_okq (⟨"UnsaidWordsModel", "stalest", "(I)I"⟩, 36) := ⟨⟨by decide +kernel, by decide +kernel⟩, List.mem_of_getElem? (i := 1062) (by decide +kernel), List.mem_of_getElem? (i := 1500) (by decide +kernel), List.mem_of_getElem? (i := 1501) (by decide +kernel)⟩
theorem lw_p79 : lw_okq (⟨"UnsaidWordsModel", "ages", "()I"⟩, 36) := ⟨⟨by decide +kernel, by decide +kernel⟩, List.mem_of_getElem? (i := 1062) (by decide +kernel), List.mem_of_getElem? (i := 1504) (by decide +kernel), List.mem_of_getElem? (i := 1505) (by decide +kernel)⟩
def lw_privs_5 : List (MethodName × Nat) := [(⟨"UnsaidWordsModel", "says", "(IIIIII)I"⟩, 36), (⟨"UnsaidWordsModel", "knowers", "(I)I"⟩, 36), (⟨"UnsaidWordsModel", "isSo", "(I)Z"⟩, 36), (⟨"UnsaidWordsModel", "comesTo", "(III)I"⟩, 36), (⟨"UnsaidWordsModel", "keeps", "()V"⟩, 36), (⟨"UnsaidWordsModel", "says0", "(II)Z"⟩, 36), (⟨"UnsaidWordsModel", "hearOf", "(II)I"⟩, 36), (⟨"UnsaidWordsModel", "isHeard", "(II)V"⟩, 36), (⟨"UnsaidWordsModel", "notes", "(III)V"⟩, 36), (⟨"UnsaidWordsModel", "movesTo", "(II)V"⟩, 36), (⟨"UnsaidWordsModel", "works", "()I"⟩, 36), (⟨"UnsaidWordsModel", "walks", "(I)V"⟩, 36), (⟨"UnsaidWordsModel", "chats", "()V"⟩, 36), (⟨"UnsaidWordsModel", "draw", "(I)I"⟩, 36), (⟨"UnsaidWordsModel", "stalest", "(I)I"⟩, 36), (⟨"UnsaidWordsModel", "ages", "()I"⟩, 36)]
theorem lw_r5 : ∀ q ∈ lw_privs_5, lw_okq q := List.forall_mem_cons.mpr ⟨lw_p64, List.forall_mem_cons.mpr ⟨lw_p65, List.forall_mem_cons.mpr ⟨lw_p66, List.forall_mem_cons.mpr ⟨lw_p67, List.forall_mem_cons.mpr ⟨lw_p68, List.forall_mem_cons.mpr ⟨lw_p69, List.forall_mem_cons.mpr ⟨lw_p70, List.forall_mem_cons.mpr ⟨lw_p71, List.forall_mem_cons.mpr ⟨lw_p72, List.forall_mem_cons.mpr ⟨lw_p73, List.forall_mem_cons.mpr ⟨lw_p74, List.forall_mem_cons.mpr ⟨lw_p75, List.forall_mem_cons.mpr ⟨lw_p76, List.forall_mem_cons.mpr ⟨lw_p77, List.forall_mem_cons.mpr ⟨lw_p78, List.forall_mem_cons.mpr ⟨lw_p79, fun _ h => absurd h List.not_mem_nil⟩⟩⟩⟩⟩⟩⟩⟩⟩⟩⟩⟩⟩⟩⟩⟩
theorem lw_p80 : lw_okq (⟨"UnsaidWordsModel", "keepOf", "(I)I"⟩, 36) := ⟨⟨by decide +kernel, by decide +kernel⟩, List.mem_of_getElem? (i := 1062) (by decide +kernel), List.mem_of_getElem? (i := 1508) (by decide +kernel), List.mem_of_getElem? (i := 1509) (by decide +kernel)⟩
theorem lw_p81 : lw_okq (⟨"UnsaidWordsModel", "lapses", "(I)V"⟩, 36) := ⟨⟨by decide +kernel, by decide +kernel⟩, List.mem_of_getElem? (i := 1062) (by decide +kernel), List.mem_of_getElem? (i := 1512) (by decide +kernel), List.mem_of_getElem? (i := 1513) (by decide +kernel)⟩
theorem lw_p82 : lw_okq (⟨"UnsaidWordsModel", "ends", "()V"⟩, 36) := ⟨⟨by decide +kernel, by decide +kernel⟩, List.mem_of_getElem? (i := 1062) (by decide +kernel), List.mem_of_getElem? (i := 1516) (by decide +kernel), List.mem_of_getElem? (i := 1517) (by decide +kernel)⟩
theorem lw_p83 : lw_okq (⟨"UnsaidWordsModel", "wordsOf", "(II)I"⟩, 36) := ⟨⟨by decide +kernel, by decide +kernel⟩, List.mem_of_getElem? (i := 1062) (by decide +kernel), List.mem_of_getElem? (i := 1540) (by decide +kernel), List.mem_of_getElem? (i := 1541) (by decide +kernel)⟩
theorem lw_p84 : lw_okq (⟨"UnsaidWordsModel", "longOf", "(II)I"⟩, 36) := ⟨⟨by decide +kernel, by decide +kernel⟩, List.mem_of_getElem? (i := 1062) (by decide +kernel), List.mem_of_getElem? (i := 1544) (by decide +kernel), List.mem_of_getElem? (i := 1545) (by decide +kernel)⟩
theorem lw_p85 : lw_okq (⟨"UnsaidWordsModel", "laysMeanings", "()V"⟩, 36) := ⟨⟨by decide +kernel, by decide +kernel⟩, List.mem_of_getElem? (i := 1062) (by decide +kernel), List.mem_of_getElem? (i := 1552) (by decide +kernel), List.mem_of_getElem? (i := 1553) (by decide +kernel)⟩
theorem lw_p86 : lw_okq (⟨"UnsaidWordsModel", "mostToGo", "()I"⟩, 36) := ⟨⟨by decide +kernel, by decide +kernel⟩, List.mem_of_getElem? (i := 1062) (by decide +kernel), List.mem_of_getElem? (i := 1556) (by decide +kernel), List.mem_of_getElem? (i := 1557) (by decide +kernel)⟩
theorem lw_p87 : lw_okq (⟨"UnsaidWordsModel", "living", "()I"⟩, 36) := ⟨⟨by decide +kernel, by decide +kernel⟩, List.mem_of_getElem? (i := 1062) (by decide +kernel), List.mem_of_getElem? (i := 1560) (by decide +kernel), List.mem_of_getElem? (i := 1561) (by decide +kernel)⟩
theorem lw_p88 : lw_okq (⟨"UnsaidWordsModel", "saidBy", "(I)I"⟩, 36) := ⟨⟨by decide +kernel, by decide +kernel⟩, List.mem_of_getElem? (i := 1062) (by decide +kernel), List.mem_of_getElem? (i := 1564) (by decide +kernel), List.mem_of_getElem? (i := 1565) (by decide +kernel)⟩
theorem lw_p89 : lw_okq (⟨"UnsaidWordsModel", "canBeSaid", "(II)Z"⟩, 36) := ⟨⟨by decide +kernel, by decide +kernel⟩, List.mem_of_getElem? (i := 1062) (by decide +kernel), List.mem_of_getElem? (i := 1568) (by decide +kernel), List.mem_of_getElem? (i := 1569) (by decide +kernel)⟩
theorem lw_p90 : lw_okq (⟨"UnsaidWordsModel", "saysAll", "(II)Z"⟩, 36) := ⟨⟨by decide +kernel, by decide +kernel⟩, List.mem_of_getElem? (i := 1062) (by decide +kernel), List.mem_of_getElem? (i := 1572) (by decide +kernel), List.mem_of_getElem? (i := 1573) (by decide +kernel)⟩
theorem lw_p91 : lw_okq (⟨"UnsaidWordsModel", "fewestToAdd", "(III)I"⟩, 36) := ⟨⟨by decide +kernel, by decide +kernel⟩, List.mem_of_getElem? (i := 1062) (by decide +kernel), List.mem_of_getElem? (i := 1576) (by decide +kernel), List.mem_of_getElem? (i := 1577) (by decide +kernel)⟩
theorem lw_p92 : lw_okq (⟨"UnsaidWordsModel", "lays", "()V"⟩, 36) := ⟨⟨by decide +kernel, by decide +kernel⟩, List.mem_of_getElem? (i := 1062) (by decide +kernel), List.mem_of_getElem? (i := 1592) (by decide +kernel), List.mem_of_getElem? (i := 1593) (by decide +kernel)⟩
theorem lw_p93 : lw_okq (⟨"UnsaidWordsModel", "putsBack", "()V"⟩, 36) := ⟨⟨by decide +kernel, by decide +kernel⟩, List.mem_of_getElem? (i := 1062) (by decide +kernel), List.mem_of_getElem? (i := 1596) (by decide +kernel), List.mem_of_getElem? (i := 1597) (by decide +kernel)⟩
theorem lw_p94 : lw_okq (⟨"UnsaidWordsModel", "aloneIn", "(I)I"⟩, 36) := ⟨⟨by decide +kernel, by decide +kernel⟩, List.mem_of_getElem? (i := 1062) (by decide +kernel), List.mem_of_getElem? (i := 1608) (by decide +kernel), List.mem_of_getElem? (i := 1609) (by decide +kernel)⟩
theorem lw_p95 : lw_okq (⟨"UnsaidWordsModel", "tonguesOf", "(I)I"⟩, 36) := ⟨⟨by decide +kernel, by decide +kernel⟩, List.mem_of_getElem? (i := 1062) (by decide +kernel), List.mem_of_getElem? (i := 1612) (by decide +kernel), List.mem_of_getElem? (i := 1613) (by decide +kernel)⟩
def lw_privs_6 : List (MethodName × Nat) := [(⟨"UnsaidWordsModel", "keepOf", "(I)I"⟩, 36), (⟨"UnsaidWordsModel", "lapses", "(I)V"⟩, 36), (⟨"UnsaidWordsModel", "ends", "()V"⟩, 36), (⟨"UnsaidWordsModel", "wordsOf", "(II)I"⟩, 36), (⟨"UnsaidWordsModel", "longOf", "(II)I"⟩, 36), (⟨"UnsaidWordsModel", "laysMeanings", "()V"⟩, 36), (⟨"UnsaidWordsModel", "mostToGo", "()I"⟩, 36), (⟨"UnsaidWordsModel", "living", "()I"⟩, 36), (⟨"UnsaidWordsModel", "saidBy", "(I)I"⟩, 36), (⟨"UnsaidWordsModel", "canBeSaid", "(II)Z"⟩, 36), (⟨"UnsaidWordsModel", "saysAll", "(II)Z"⟩, 36), (⟨"UnsaidWordsModel", "fewestToAdd", "(III)I"⟩, 36), (⟨"UnsaidWordsModel", "lays", "()V"⟩, 36), (⟨"UnsaidWordsModel", "putsBack", "()V"⟩, 36), (⟨"UnsaidWordsModel", "aloneIn", "(I)I"⟩, 36), (⟨"UnsaidWordsModel", "tonguesOf", "(I)I"⟩, 36)]
theorem lw_r6 : ∀ q ∈ lw_privs_6, lw_okq q := List.forall_mem_cons.mpr ⟨lw_p80, List.forall_mem_cons.mpr ⟨lw_p81, List.forall_mem_cons.mpr ⟨lw_p82, List.forall_mem_cons.mpr ⟨lw_p83, List.forall_mem_cons.mpr ⟨lw_p84, List.forall_mem_cons.mpr ⟨lw_p85, List.forall_mem_cons.mpr ⟨lw_p86, List.forall_mem_cons.mpr ⟨lw_p87, List.forall_mem_cons.mpr ⟨lw_p88, List.forall_mem_cons.mpr ⟨lw_p89, List.forall_mem_cons.mpr ⟨lw_p90, List.forall_mem_cons.mpr ⟨lw_p91, List.forall_mem_cons.mpr ⟨lw_p92, List.forall_mem_cons.mpr ⟨lw_p93, List.forall_mem_cons.mpr ⟨lw_p94, List.forall_mem_cons.mpr ⟨lw_p95, fun _ h => absurd h List.not_mem_nil⟩⟩⟩⟩⟩⟩⟩⟩⟩⟩⟩⟩⟩⟩⟩⟩
theorem lw_p96 : lw_okq (⟨"UnsaidWordsModel", "goesRound", "(IIII)V"⟩, 36) := ⟨⟨by decide +kernel, by decide +kernel⟩, List.mem_of_getElem? (i := 1062) (by decide +kernel), List.mem_of_getElem? (i := 1625) (by decide +kernel), List.mem_of_getElem? (i := 1626) (by decide +kernel)⟩
theorem lw_p97 : lw_okq (⟨"UnsaidWordsModel", "milesOf", "(II)I"⟩, 36) := ⟨⟨by decide +kernel, by decide +kernel⟩, List.mem_of_getElem? (i := 1062) (by decide +kernel), List.mem_of_getElem? (i := 1629) (by decide +kernel), List.mem_of_getElem? (i := 1630) (by decide +kernel)⟩
theorem lw_p98 : lw_okq (⟨"UnsaidWordsModel", "unsaidOf", "(I)I"⟩, 36) := ⟨⟨by decide +kernel, by decide +kernel⟩, List.mem_of_getElem? (i := 1062) (by decide +kernel), List.mem_of_getElem? (i := 1637) (by decide +kernel), List.mem_of_getElem? (i := 1638) (by decide +kernel)⟩
theorem lw_p99 : lw_okq (⟨"UnsaidWordsModel", "spokeSet", "()I"⟩, 36) := ⟨⟨by decide +kernel, by decide +kernel⟩, List.mem_of_getElem? (i := 1062) (by decide +kernel), List.mem_of_getElem? (i := 1649) (by decide +kernel), List.mem_of_getElem? (i := 1650) (by decide +kernel)⟩
theorem lw_p100 : lw_okq (⟨"UnsaidWordsModel", "greaterBy", "(II)I"⟩, 36) := ⟨⟨by decide +kernel, by decide +kernel⟩, List.mem_of_getElem? (i := 1062) (by decide +kernel), List.mem_of_getElem? (i := 1653) (by decide +kernel), List.mem_of_getElem? (i := 1654) (by decide +kernel)⟩
theorem lw_p101 : lw_okq (⟨"UnsaidWordsModel", "graspsOf", "(II)I"⟩, 36) := ⟨⟨by decide +kernel, by decide +kernel⟩, List.mem_of_getElem? (i := 1062) (by decide +kernel), List.mem_of_getElem? (i := 1661) (by decide +kernel), List.mem_of_getElem? (i := 1662) (by decide +kernel)⟩
theorem lw_p102 : lw_okq (⟨"UnsaidWordsModel", "peopleAt", "(I)I"⟩, 36) := ⟨⟨by decide +kernel, by decide +kernel⟩, List.mem_of_getElem? (i := 1062) (by decide +kernel), List.mem_of_getElem? (i := 1673) (by decide +kernel), List.mem_of_getElem? (i := 1674) (by decide +kernel)⟩
theorem lw_p103 : lw_okq (⟨"UnsaidWordsModel", "sharedBy", "(I)I"⟩, 36) := ⟨⟨by decide +kernel, by decide +kernel⟩, List.mem_of_getElem? (i := 1062) (by decide +kernel), List.mem_of_getElem? (i := 1677) (by decide +kernel), List.mem_of_getElem? (i := 1678) (by decide +kernel)⟩
theorem lw_p104 : lw_okq (⟨"UnsaidWordsModel", "longOfSet", "(I)I"⟩, 36) := ⟨⟨by decide +kernel, by decide +kernel⟩, List.mem_of_getElem? (i := 1062) (by decide +kernel), List.mem_of_getElem? (i := 1689) (by decide +kernel), List.mem_of_getElem? (i := 1690) (by decide +kernel)⟩
theorem lw_p105 : lw_okq (⟨"UnsaidWordsModel", "heapOf", "(I)I"⟩, 36) := ⟨⟨by decide +kernel, by decide +kernel⟩, List.mem_of_getElem? (i := 1062) (by decide +kernel), List.mem_of_getElem? (i := 1697) (by decide +kernel), List.mem_of_getElem? (i := 1698) (by decide +kernel)⟩
def lw_privs_7 : List (MethodName × Nat) := [(⟨"UnsaidWordsModel", "goesRound", "(IIII)V"⟩, 36), (⟨"UnsaidWordsModel", "milesOf", "(II)I"⟩, 36), (⟨"UnsaidWordsModel", "unsaidOf", "(I)I"⟩, 36), (⟨"UnsaidWordsModel", "spokeSet", "()I"⟩, 36), (⟨"UnsaidWordsModel", "greaterBy", "(II)I"⟩, 36), (⟨"UnsaidWordsModel", "graspsOf", "(II)I"⟩, 36), (⟨"UnsaidWordsModel", "peopleAt", "(I)I"⟩, 36), (⟨"UnsaidWordsModel", "sharedBy", "(I)I"⟩, 36), (⟨"UnsaidWordsModel", "longOfSet", "(I)I"⟩, 36), (⟨"UnsaidWordsModel", "heapOf", "(I)I"⟩, 36)]
theorem lw_r7 : ∀ q ∈ lw_privs_7, lw_okq q := List.forall_mem_cons.mpr ⟨lw_p96, List.forall_mem_cons.mpr ⟨lw_p97, List.forall_mem_cons.mpr ⟨lw_p98, List.forall_mem_cons.mpr ⟨lw_p99, List.forall_mem_cons.mpr ⟨lw_p100, List.forall_mem_cons.mpr ⟨lw_p101, List.forall_mem_cons.mpr ⟨lw_p102, List.forall_mem_cons.mpr ⟨lw_p103, List.forall_mem_cons.mpr ⟨lw_p104, List.forall_mem_cons.mpr ⟨lw_p105, fun _ h => absurd h List.not_mem_nil⟩⟩⟩⟩⟩⟩⟩⟩⟩⟩
def lw_privs : List (MethodName × Nat) := lw_privs_1 ++ (lw_privs_2 ++ (lw_privs_3 ++ (lw_privs_4 ++ (lw_privs_5 ++ (lw_privs_6 ++ (lw_privs_7))))))
def lw_tbl : List Cond := k2_sels lw_privs ++ tables_1
theorem lw_privs_ok : ∀ q ∈ lw_privs, lw_okq q := by
  show ∀ q ∈ lw_privs_1 ++ (lw_privs_2 ++ (lw_privs_3 ++ (lw_privs_4 ++ (lw_privs_5 ++ (lw_privs_6 ++ (lw_privs_7)))))), lw_okq q
  exact List.forall_mem_append.mpr ⟨lw_r1, List.forall_mem_append.mpr ⟨lw_r2, List.forall_mem_append.mpr ⟨lw_r3, List.forall_mem_append.mpr ⟨lw_r4, List.forall_mem_append.mpr ⟨lw_r5, List.forall_mem_append.mpr ⟨lw_r6, lw_r7⟩⟩⟩⟩⟩⟩
end
section
def RX0 : String := "UnsaidWords$Being"
def TX0 : u_T := fun k => match k with
  | 0 => ("UnsaidWords$Being", "draws", "I", false)
  | 1 => ("UnsaidWords$Being", "day", "I", false)
  | 2 => ("UnsaidWords$Being", "lapsed", "I", false)
  | 3 => ("UnsaidWords$Being", "unsaid", "[I", true)
  | 4 => ("UnsaidWords$Being", "said", "[I", true)
  | 5 => ("UnsaidWords$Being", "at", "[I", true)
  | 6 => ("UnsaidWords$Being", "tongue", "[I", true)
  | _ => ("UnsaidWords$Being", "breath", "[I", true)
def tyX0 : Nat → FieldType := fun k => match k with
  | 0 => .int
  | 1 => .int
  | 2 => .int
  | 3 => .array .int
  | 4 => .array .int
  | 5 => .array .int
  | 6 => .array .int
  | _ => .array .int
theorem nmX0 : ∀ a, a < 8 → ∀ b, b < 8 → a ≠ b → (TX0 a).2.1 ≠ (TX0 b).2.1 := by decide +kernel
theorem tyX0_ok : ∀ k, k < 8 → parseFieldDescriptor (TX0 k).2.2.1 = some (tyX0 k) := by decide +kernel
abbrev cX0_init : ByteArray := prog_2_method_1_code
def yX0_init : MethodName := ⟨RX0, "<init>", "()V"⟩
abbrev cX0_become : ByteArray := prog_2_method_2_code
def yX0_become : MethodName := ⟨RX0, "become", "(LUnsaidWords$Being;)V"⟩
def RX1 : String := "UnsaidWords$Law"
def TX1 : u_T := fun k => match k with
  | 0 => ("UnsaidWords$Law", "count", "I", false)
  | 1 => ("UnsaidWords$Law", "size", "I", false)
  | 2 => ("UnsaidWords$Law", "kinds", "[I", true)
  | 3 => ("UnsaidWords$Law", "starts", "[I", true)
  | 4 => ("UnsaidWords$Law", "conditions", "[I", true)
  | 5 => ("UnsaidWords$Law", "ends", "[I", true)
  | 6 => ("UnsaidWords$Law", "code", "[I", true)
  | _ => ("UnsaidWords$Law", "stack", "[I", true)
def tyX1 : Nat → FieldType := fun k => match k with
  | 0 => .int
  | 1 => .int
  | 2 => .array .int
  | 3 => .array .int
  | 4 => .array .int
  | 5 => .array .int
  | 6 => .array .int
  | _ => .array .int
theorem nmX1 : ∀ a, a < 8 → ∀ b, b < 8 → a ≠ b → (TX1 a).2.1 ≠ (TX1 b).2.1 := by decide +kernel
theorem tyX1_ok : ∀ k, k < 8 → parseFieldDescriptor (TX1 k).2.2.1 = some (tyX1 k) := by decide +kernel
abbrev cX1_init : ByteArray := prog_3_method_1_code
def yX1_init : MethodName := ⟨RX1, "<init>", "()V"⟩
abbrev cX1_become : ByteArray := prog_3_method_2_code
def yX1_become : MethodName := ⟨RX1, "become", "(LUnsaidWords$Law;)V"⟩
abbrev cX1_clear : ByteArray := prog_3_method_3_code
def yX1_clear : MethodName := ⟨RX1, "clear", "()V"⟩
abbrev cX1_open : ByteArray := prog_3_method_4_code
def yX1_open : MethodName := ⟨RX1, "open", "(I)V"⟩
abbrev cX1_openCondition : ByteArray := prog_3_method_5_code
def yX1_openCondition : MethodName := ⟨RX1, "openCondition", "()V"⟩
abbrev cX1_close : ByteArray := prog_3_method_6_code
def yX1_close : MethodName := ⟨RX1, "close", "()V"⟩
abbrev cX1_emit : ByteArray := prog_3_method_7_code
def yX1_emit : MethodName := ⟨RX1, "emit", "(I)V"⟩
abbrev cX1_tells : ByteArray := prog_3_method_8_code
def yX1_tells : MethodName := ⟨RX1, "tells", "(I[II)I"⟩
abbrev cX1_value : ByteArray := prog_3_method_9_code
def yX1_value : MethodName := ⟨RX1, "value", "(II[I)I"⟩
def RX2 : String := "UnsaidWords$Meanings"
def TX2 : u_T := fun k => match k with
  | 0 => ("UnsaidWords$Meanings", "count", "I", false)
  | 1 => ("UnsaidWords$Meanings", "wordings", "[I", true)
  | 2 => ("UnsaidWords$Meanings", "sets", "[I", true)
  | _ => ("UnsaidWords$Meanings", "longs", "[I", true)
def tyX2 : Nat → FieldType := fun k => match k with
  | 0 => .int
  | 1 => .array .int
  | 2 => .array .int
  | _ => .array .int
theorem nmX2 : ∀ a, a < 4 → ∀ b, b < 4 → a ≠ b → (TX2 a).2.1 ≠ (TX2 b).2.1 := by decide +kernel
theorem tyX2_ok : ∀ k, k < 4 → parseFieldDescriptor (TX2 k).2.2.1 = some (tyX2 k) := by decide +kernel
abbrev cX2_init : ByteArray := prog_4_method_1_code
def yX2_init : MethodName := ⟨RX2, "<init>", "()V"⟩
abbrev cX2_become : ByteArray := prog_4_method_2_code
def yX2_become : MethodName := ⟨RX2, "become", "(LUnsaidWords$Meanings;)V"⟩
abbrev cX2_open : ByteArray := prog_4_method_3_code
def yX2_open : MethodName := ⟨RX2, "open", "()V"⟩
abbrev cX2_addWording : ByteArray := prog_4_method_4_code
def yX2_addWording : MethodName := ⟨RX2, "addWording", "(II)Z"⟩
abbrev cX2_isLatestFull : ByteArray := prog_4_method_5_code
def yX2_isLatestFull : MethodName := ⟨RX2, "isLatestFull", "()Z"⟩
abbrev cX2_longOf : ByteArray := prog_4_method_6_code
def yX2_longOf : MethodName := ⟨RX2, "longOf", "(II)I"⟩
abbrev cX2_sayableWith : ByteArray := prog_4_method_7_code
def yX2_sayableWith : MethodName := ⟨RX2, "sayableWith", "(I)I"⟩
abbrev cX2_shortest : ByteArray := prog_4_method_8_code
def yX2_shortest : MethodName := ⟨RX2, "shortest", "(II)I"⟩
abbrev cX2_longest : ByteArray := prog_4_method_9_code
def yX2_longest : MethodName := ⟨RX2, "longest", "(II)I"⟩
abbrev cX2_proudest : ByteArray := prog_4_method_10_code
def yX2_proudest : MethodName := ⟨RX2, "proudest", "(I)I"⟩
def RX3 : String := "UnsaidWords$Past"
def TX3 : u_T := fun k => match k with
  | 0 => ("UnsaidWords$Past", "count", "I", false)
  | 1 => ("UnsaidWords$Past", "latest", "I", false)
  | 2 => ("UnsaidWords$Past", "beings", "[LUnsaidWords$Being;", true)
  | _ => ("UnsaidWords$Past", "bookLines", "[I", true)
def tyX3 : Nat → FieldType := fun k => match k with
  | 0 => .int
  | 1 => .int
  | 2 => .array (.object "UnsaidWords$Being")
  | _ => .array .int
theorem nmX3 : ∀ a, a < 4 → ∀ b, b < 4 → a ≠ b → (TX3 a).2.1 ≠ (TX3 b).2.1 := by decide +kernel
theorem tyX3_ok : ∀ k, k < 4 → parseFieldDescriptor (TX3 k).2.2.1 = some (tyX3 k) := by decide +kernel
abbrev cX3_init : ByteArray := prog_5_method_1_code
def yX3_init : MethodName := ⟨RX3, "<init>", "()V"⟩
abbrev cX3_keep : ByteArray := prog_5_method_2_code
def yX3_keep : MethodName := ⟨RX3, "keep", "(LUnsaidWords$World;)V"⟩
abbrev cX3_bringBack : ByteArray := prog_5_method_3_code
def yX3_bringBack : MethodName := ⟨RX3, "bringBack", "(LUnsaidWords$World;)Z"⟩
abbrev cX3_forget : ByteArray := prog_5_method_4_code
def yX3_forget : MethodName := ⟨RX3, "forget", "()V"⟩
def RX4 : String := "UnsaidWords$Rows"
def TX4 : u_T := fun k => match k with
  | 0 => ("UnsaidWords$Rows", "count", "I", false)
  | _ => ("UnsaidWords$Rows", "cells", "[I", true)
def tyX4 : Nat → FieldType := fun k => match k with
  | 0 => .int
  | _ => .array .int
theorem nmX4 : ∀ a, a < 2 → ∀ b, b < 2 → a ≠ b → (TX4 a).2.1 ≠ (TX4 b).2.1 := by decide +kernel
theorem tyX4_ok : ∀ k, k < 2 → parseFieldDescriptor (TX4 k).2.2.1 = some (tyX4 k) := by decide +kernel
abbrev cX4_init : ByteArray := prog_6_method_1_code
def yX4_init : MethodName := ⟨RX4, "<init>", "(I)V"⟩
abbrev cX4_add : ByteArray := prog_6_method_2_code
def yX4_add : MethodName := ⟨RX4, "add", "(IIII)V"⟩
abbrev cX4_cell : ByteArray := prog_6_method_3_code
def yX4_cell : MethodName := ⟨RX4, "cell", "(II)I"⟩
abbrev cX4_become : ByteArray := prog_6_method_4_code
def yX4_become : MethodName := ⟨RX4, "become", "(LUnsaidWords$Rows;)V"⟩
def RX5 : String := "UnsaidWords$Tape"
def TX5 : u_T := fun k => match k with
  | 0 => ("UnsaidWords$Tape", "length", "I", false)
  | _ => ("UnsaidWords$Tape", "bytes", "[B", true)
def tyX5 : Nat → FieldType := fun k => match k with
  | 0 => .int
  | _ => .array .byte
theorem nmX5 : ∀ a, a < 2 → ∀ b, b < 2 → a ≠ b → (TX5 a).2.1 ≠ (TX5 b).2.1 := by decide +kernel
theorem tyX5_ok : ∀ k, k < 2 → parseFieldDescriptor (TX5 k).2.2.1 = some (tyX5 k) := by decide +kernel
abbrev cX5_init : ByteArray := prog_7_method_1_code
def yX5_init : MethodName := ⟨RX5, "<init>", "()V"⟩
abbrev cX5_put : ByteArray := prog_7_method_2_code
def yX5_put : MethodName := ⟨RX5, "put", "(I)V"⟩
abbrev cX5_at : ByteArray := prog_7_method_3_code
def yX5_at : MethodName := ⟨RX5, "at", "(I)I"⟩
def RX6 : String := "UnsaidWords$Texts"
def TX6 : u_T := fun k => match k with
  | 0 => ("UnsaidWords$Texts", "fault", "I", false)
  | 1 => ("UnsaidWords$Texts", "faultPlace", "I", false)
  | 2 => ("UnsaidWords$Texts", "count", "I", false)
  | 3 => ("UnsaidWords$Texts", "next", "I", false)
  | 4 => ("UnsaidWords$Texts", "kinds", "[I", true)
  | 5 => ("UnsaidWords$Texts", "places", "[I", true)
  | 6 => ("UnsaidWords$Texts", "values", "[I", true)
  | _ => ("UnsaidWords$Texts", "taken", "I", false)
def tyX6 : Nat → FieldType := fun k => match k with
  | 0 => .int
  | 1 => .int
  | 2 => .int
  | 3 => .int
  | 4 => .array .int
  | 5 => .array .int
  | 6 => .array .int
  | _ => .int
theorem nmX6 : ∀ a, a < 8 → ∀ b, b < 8 → a ≠ b → (TX6 a).2.1 ≠ (TX6 b).2.1 := by decide +kernel
theorem tyX6_ok : ∀ k, k < 8 → parseFieldDescriptor (TX6 k).2.2.1 = some (tyX6 k) := by decide +kernel
abbrev cX6_init : ByteArray := prog_8_method_1_code
def yX6_init : MethodName := ⟨RX6, "<init>", "()V"⟩
abbrev cX6_read : ByteArray := prog_8_method_2_code
def yX6_read : MethodName := ⟨RX6, "read", "(ILUnsaidWords$Tape;LUnsaidWords$World;LUnsaidWords$World;)I"⟩
abbrev cX6_cut : ByteArray := prog_8_method_3_code
def yX6_cut : MethodName := ⟨RX6, "cut", "(LUnsaidWords$Tape;)V"⟩
abbrev cX6_endOfLetters : ByteArray := prog_8_method_4_code
def yX6_endOfLetters : MethodName := ⟨RX6, "endOfLetters", "(LUnsaidWords$Tape;I)I"⟩
abbrev cX6_endOfDigits : ByteArray := prog_8_method_5_code
def yX6_endOfDigits : MethodName := ⟨RX6, "endOfDigits", "(LUnsaidWords$Tape;I)I"⟩
abbrev cX6_addToken : ByteArray := prog_8_method_6_code
def yX6_addToken : MethodName := ⟨RX6, "addToken", "(III)V"⟩
abbrev cX6_isLetter : ByteArray := prog_8_method_7_code
def yX6_isLetter : MethodName := ⟨RX6, "isLetter", "(I)Z"⟩
abbrev cX6_isDigit : ByteArray := prog_8_method_8_code
def yX6_isDigit : MethodName := ⟨RX6, "isDigit", "(I)Z"⟩
abbrev cX6_isSign : ByteArray := prog_8_method_9_code
def yX6_isSign : MethodName := ⟨RX6, "isSign", "(I)Z"⟩
abbrev cX6_number : ByteArray := prog_8_method_10_code
def yX6_number : MethodName := ⟨RX6, "number", "(LUnsaidWords$Tape;II)I"⟩
abbrev cX6_keyword : ByteArray := prog_8_method_11_code
def yX6_keyword : MethodName := ⟨RX6, "keyword", "(LUnsaidWords$Tape;II)I"⟩
abbrev cX6_isKeyword : ByteArray := prog_8_method_12_code
def yX6_isKeyword : MethodName := ⟨RX6, "isKeyword", "(LUnsaidWords$Tape;III)Z"⟩
abbrev cX6_kind : ByteArray := prog_8_method_13_code
def yX6_kind : MethodName := ⟨RX6, "kind", "()I"⟩
abbrev cX6_ofNext : ByteArray := prog_8_method_14_code
def yX6_ofNext : MethodName := ⟨RX6, "ofNext", "([I)I"⟩
abbrev cX6_refuse : ByteArray := prog_8_method_15_code
def yX6_refuse : MethodName := ⟨RX6, "refuse", "(I)Z"⟩
abbrev cX6_take : ByteArray := prog_8_method_16_code
def yX6_take : MethodName := ⟨RX6, "take", "(I)Z"⟩
abbrev cX6_takeNumber : ByteArray := prog_8_method_17_code
def yX6_takeNumber : MethodName := ⟨RX6, "takeNumber", "(II)Z"⟩
abbrev cX6_takeHead : ByteArray := prog_8_method_18_code
def yX6_takeHead : MethodName := ⟨RX6, "takeHead", "(III)Z"⟩
abbrev cX6_readMeaning : ByteArray := prog_8_method_19_code
def yX6_readMeaning : MethodName := ⟨RX6, "readMeaning", "(LUnsaidWords$World;LUnsaidWords$Meanings;)Z"⟩
abbrev cX6_readWording : ByteArray := prog_8_method_20_code
def yX6_readWording : MethodName := ⟨RX6, "readWording", "(LUnsaidWords$World;LUnsaidWords$Meanings;)Z"⟩
abbrev cX6_readWalk : ByteArray := prog_8_method_21_code
def yX6_readWalk : MethodName := ⟨RX6, "readWalk", "(LUnsaidWords$World;LUnsaidWords$Rows;)Z"⟩
abbrev cX6_readNeed : ByteArray := prog_8_method_22_code
def yX6_readNeed : MethodName := ⟨RX6, "readNeed", "(LUnsaidWords$World;LUnsaidWords$Rows;)Z"⟩
abbrev cX6_readLaw : ByteArray := prog_8_method_23_code
def yX6_readLaw : MethodName := ⟨RX6, "readLaw", "(LUnsaidWords$Law;)Z"⟩
abbrev cX6_readEither : ByteArray := prog_8_method_24_code
def yX6_readEither : MethodName := ⟨RX6, "readEither", "(LUnsaidWords$Law;I)Z"⟩
abbrev cX6_readCondition : ByteArray := prog_8_method_25_code
def yX6_readCondition : MethodName := ⟨RX6, "readCondition", "(LUnsaidWords$Law;I)Z"⟩
abbrev cX6_readSum : ByteArray := prog_8_method_26_code
def yX6_readSum : MethodName := ⟨RX6, "readSum", "(LUnsaidWords$Law;)Z"⟩
def RX7 : String := "UnsaidWords$Thought"
def TX7 : u_T := fun k => match k with
  | _ => ("", "", "", false)
def tyX7 : Nat → FieldType := fun k => match k with
  | _ => .int
theorem nmX7 : ∀ a, a < 0 → ∀ b, b < 0 → a ≠ b → (TX7 a).2.1 ≠ (TX7 b).2.1 := by decide +kernel
theorem tyX7_ok : ∀ k, k < 0 → parseFieldDescriptor (TX7 k).2.2.1 = some (tyX7 k) := by decide +kernel
abbrev cX7_mostToGo : ByteArray := prog_9_method_2_code
def yX7_mostToGo : MethodName := ⟨RX7, "mostToGo", "(LUnsaidWords$World;)I"⟩
abbrev cX7_fewestToCarve : ByteArray := prog_9_method_3_code
def yX7_fewestToCarve : MethodName := ⟨RX7, "fewestToCarve", "(LUnsaidWords$World;)I"⟩
abbrev cX7_fewestToTeach : ByteArray := prog_9_method_4_code
def yX7_fewestToTeach : MethodName := ⟨RX7, "fewestToTeach", "(LUnsaidWords$World;I)I"⟩
abbrev cX7_fewestToAdd : ByteArray := prog_9_method_5_code
def yX7_fewestToAdd : MethodName := ⟨RX7, "fewestToAdd", "(LUnsaidWords$World;III)I"⟩
abbrev cX7_fewestKeepers : ByteArray := prog_9_method_6_code
def yX7_fewestKeepers : MethodName := ⟨RX7, "fewestKeepers", "(LUnsaidWords$World;)I"⟩
abbrev cX7_tonguesTogether : ByteArray := prog_9_method_7_code
def yX7_tonguesTogether : MethodName := ⟨RX7, "tonguesTogether", "(LUnsaidWords$World;I)I"⟩
abbrev cX7_cost : ByteArray := prog_9_method_8_code
def yX7_cost : MethodName := ⟨RX7, "cost", "(LUnsaidWords$World;I)I"⟩
abbrev cX7_dearest : ByteArray := prog_9_method_9_code
def yX7_dearest : MethodName := ⟨RX7, "dearest", "(LUnsaidWords$World;)I"⟩
abbrev cX7_fewestMiles : ByteArray := prog_9_method_10_code
def yX7_fewestMiles : MethodName := ⟨RX7, "fewestMiles", "(LUnsaidWords$World;II)I"⟩
abbrev cX7_milesThrough : ByteArray := prog_9_method_11_code
def yX7_milesThrough : MethodName := ⟨RX7, "milesThrough", "(LUnsaidWords$World;III)I"⟩
abbrev cX7_placeOnRound : ByteArray := prog_9_method_12_code
def yX7_placeOnRound : MethodName := ⟨RX7, "placeOnRound", "(LUnsaidWords$World;III)I"⟩
abbrev cX7_firstOnRound : ByteArray := prog_9_method_13_code
def yX7_firstOnRound : MethodName := ⟨RX7, "firstOnRound", "(LUnsaidWords$World;II)I"⟩
abbrev cX7_longestUnsaid : ByteArray := prog_9_method_14_code
def yX7_longestUnsaid : MethodName := ⟨RX7, "longestUnsaid", "(LUnsaidWords$World;II)I"⟩
abbrev cX7_unsaidTogether : ByteArray := prog_9_method_15_code
def yX7_unsaidTogether : MethodName := ⟨RX7, "unsaidTogether", "(LUnsaidWords$World;I)I"⟩
abbrev cX7_longTogether : ByteArray := prog_9_method_16_code
def yX7_longTogether : MethodName := ⟨RX7, "longTogether", "(LUnsaidWords$World;I)I"⟩
abbrev cX7_speakers : ByteArray := prog_9_method_17_code
def yX7_speakers : MethodName := ⟨RX7, "speakers", "(LUnsaidWords$World;)I"⟩
abbrev cX7_wordToHear : ByteArray := prog_9_method_18_code
def yX7_wordToHear : MethodName := ⟨RX7, "wordToHear", "(LUnsaidWords$World;I)I"⟩
abbrev cX7_understood : ByteArray := prog_9_method_19_code
def yX7_understood : MethodName := ⟨RX7, "understood", "(LUnsaidWords$World;II)I"⟩
abbrev cX7_circleAround : ByteArray := prog_9_method_20_code
def yX7_circleAround : MethodName := ⟨RX7, "circleAround", "(LUnsaidWords$World;I)I"⟩
abbrev cX7_widened : ByteArray := prog_9_method_21_code
def yX7_widened : MethodName := ⟨RX7, "widened", "(LUnsaidWords$World;I)I"⟩
abbrev cX7_longestVerse : ByteArray := prog_9_method_22_code
def yX7_longestVerse : MethodName := ⟨RX7, "longestVerse", "(LUnsaidWords$World;)I"⟩
abbrev cX7_isWithoutKin : ByteArray := prog_9_method_23_code
def yX7_isWithoutKin : MethodName := ⟨RX7, "isWithoutKin", "(LUnsaidWords$World;I)Z"⟩
abbrev cX7_fullestPlace : ByteArray := prog_9_method_24_code
def yX7_fullestPlace : MethodName := ⟨RX7, "fullestPlace", "(LUnsaidWords$World;)I"⟩
abbrev cX7_wordsInAllTongues : ByteArray := prog_9_method_25_code
def yX7_wordsInAllTongues : MethodName := ⟨RX7, "wordsInAllTongues", "(LUnsaidWords$World;I)I"⟩
abbrev cX7_heapSum : ByteArray := prog_9_method_26_code
def yX7_heapSum : MethodName := ⟨RX7, "heapSum", "(LUnsaidWords$World;)I"⟩
abbrev cX7_wordToSilence : ByteArray := prog_9_method_27_code
def yX7_wordToSilence : MethodName := ⟨RX7, "wordToSilence", "(LUnsaidWords$World;I)I"⟩
def RX8 : String := "UnsaidWords$World"
def TX8 : u_T := fun k => match k with
  | 0 => ("UnsaidWords$World", "words", "I", false)
  | 1 => ("UnsaidWords$World", "people", "I", false)
  | 2 => ("UnsaidWords$World", "chat", "I", false)
  | 3 => ("UnsaidWords$World", "lasting", "[I", true)
  | 4 => ("UnsaidWords$World", "kinOf", "[I", true)
  | 5 => ("UnsaidWords$World", "distances", "[I", true)
  | 6 => ("UnsaidWords$World", "being", "LUnsaidWords$Being;", true)
  | 7 => ("UnsaidWords$World", "book", "LUnsaidWords$Rows;", true)
  | 8 => ("UnsaidWords$World", "walks", "LUnsaidWords$Rows;", true)
  | 9 => ("UnsaidWords$World", "needs", "LUnsaidWords$Rows;", true)
  | 10 => ("UnsaidWords$World", "talks", "LUnsaidWords$Rows;", true)
  | 11 => ("UnsaidWords$World", "meanings", "LUnsaidWords$Meanings;", true)
  | 12 => ("UnsaidWords$World", "law", "LUnsaidWords$Law;", true)
  | _ => ("UnsaidWords$World", "facts", "[I", true)
def tyX8 : Nat → FieldType := fun k => match k with
  | 0 => .int
  | 1 => .int
  | 2 => .int
  | 3 => .array .int
  | 4 => .array .int
  | 5 => .array .int
  | 6 => .object "UnsaidWords$Being"
  | 7 => .object "UnsaidWords$Rows"
  | 8 => .object "UnsaidWords$Rows"
  | 9 => .object "UnsaidWords$Rows"
  | 10 => .object "UnsaidWords$Rows"
  | 11 => .object "UnsaidWords$Meanings"
  | 12 => .object "UnsaidWords$Law"
  | _ => .array .int
theorem nmX8 : ∀ a, a < 14 → ∀ b, b < 14 → a ≠ b → (TX8 a).2.1 ≠ (TX8 b).2.1 := by decide +kernel
theorem tyX8_ok : ∀ k, k < 14 → parseFieldDescriptor (TX8 k).2.2.1 = some (tyX8 k) := by decide +kernel
abbrev cX8_init : ByteArray := prog_10_method_1_code
def yX8_init : MethodName := ⟨RX8, "<init>", "()V"⟩
abbrev cX8_become : ByteArray := prog_10_method_2_code
def yX8_become : MethodName := ⟨RX8, "become", "(LUnsaidWords$World;)V"⟩
abbrev cX8_isIn : ByteArray := prog_10_method_3_code
def yX8_isIn : MethodName := ⟨RX8, "isIn", "(II)Z"⟩
abbrev cX8_isPlace : ByteArray := prog_10_method_4_code
def yX8_isPlace : MethodName := ⟨RX8, "isPlace", "(I)Z"⟩
abbrev cX8_hasWord : ByteArray := prog_10_method_5_code
def yX8_hasWord : MethodName := ⟨RX8, "hasWord", "(I)Z"⟩
abbrev cX8_hasPerson : ByteArray := prog_10_method_6_code
def yX8_hasPerson : MethodName := ⟨RX8, "hasPerson", "(I)Z"⟩
abbrev cX8_hasLapsed : ByteArray := prog_10_method_7_code
def yX8_hasLapsed : MethodName := ⟨RX8, "hasLapsed", "(I)Z"⟩
abbrev cX8_hasInTongue : ByteArray := prog_10_method_8_code
def yX8_hasInTongue : MethodName := ⟨RX8, "hasInTongue", "(II)Z"⟩
abbrev cX8_living : ByteArray := prog_10_method_9_code
def yX8_living : MethodName := ⟨RX8, "living", "()I"⟩
abbrev cX8_sayable : ByteArray := prog_10_method_10_code
def yX8_sayable : MethodName := ⟨RX8, "sayable", "()I"⟩
abbrev cX8_addWord : ByteArray := prog_10_method_11_code
def yX8_addWord : MethodName := ⟨RX8, "addWord", "(I)I"⟩
abbrev cX8_addPerson : ByteArray := prog_10_method_12_code
def yX8_addPerson : MethodName := ⟨RX8, "addPerson", "(I)I"⟩
abbrev cX8_knowers : ByteArray := prog_10_method_13_code
def yX8_knowers : MethodName := ⟨RX8, "knowers", "(I)I"⟩
abbrev cX8_peopleAt : ByteArray := prog_10_method_14_code
def yX8_peopleAt : MethodName := ⟨RX8, "peopleAt", "(I)I"⟩
abbrev cX8_milesBetween : ByteArray := prog_10_method_15_code
def yX8_milesBetween : MethodName := ⟨RX8, "milesBetween", "(II)I"⟩
abbrev cX8_heap : ByteArray := prog_10_method_16_code
def yX8_heap : MethodName := ⟨RX8, "heap", "(I)I"⟩
abbrev cX8_lawFor : ByteArray := prog_10_method_17_code
def yX8_lawFor : MethodName := ⟨RX8, "lawFor", "(III)I"⟩
abbrev cX8_held : ByteArray := prog_10_method_18_code
def yX8_held : MethodName := ⟨RX8, "held", "(III)I"⟩
abbrev cX8_canSpeak : ByteArray := prog_10_method_19_code
def yX8_canSpeak : MethodName := ⟨RX8, "canSpeak", "(II)Z"⟩
abbrev cX8_speak : ByteArray := prog_10_method_20_code
def yX8_speak : MethodName := ⟨RX8, "speak", "(II)Z"⟩
abbrev cX8_spread : ByteArray := prog_10_method_21_code
def yX8_spread : MethodName := ⟨RX8, "spread", "(II)V"⟩
abbrev cX8_moveTo : ByteArray := prog_10_method_22_code
def yX8_moveTo : MethodName := ⟨RX8, "moveTo", "(II)V"⟩
abbrev cX8_learn : ByteArray := prog_10_method_23_code
def yX8_learn : MethodName := ⟨RX8, "learn", "(II)V"⟩
abbrev cX8_revive : ByteArray := prog_10_method_24_code
def yX8_revive : MethodName := ⟨RX8, "revive", "(I)V"⟩
abbrev cX8_passDay : ByteArray := prog_10_method_25_code
def yX8_passDay : MethodName := ⟨RX8, "passDay", "()V"⟩
abbrev cX8_walk : ByteArray := prog_10_method_26_code
def yX8_walk : MethodName := ⟨RX8, "walk", "()V"⟩
abbrev cX8_breathe : ByteArray := prog_10_method_27_code
def yX8_breathe : MethodName := ⟨RX8, "breathe", "(II)V"⟩
abbrev cX8_chatter : ByteArray := prog_10_method_28_code
def yX8_chatter : MethodName := ⟨RX8, "chatter", "()V"⟩
abbrev cX8_draw : ByteArray := prog_10_method_29_code
def yX8_draw : MethodName := ⟨RX8, "draw", "(I)I"⟩
abbrev cX8_longestUnsaid : ByteArray := prog_10_method_30_code
def yX8_longestUnsaid : MethodName := ⟨RX8, "longestUnsaid", "(I)I"⟩
abbrev cX8_age : ByteArray := prog_10_method_31_code
def yX8_age : MethodName := ⟨RX8, "age", "()V"⟩
abbrev cX8_lapse : ByteArray := prog_10_method_32_code
def yX8_lapse : MethodName := ⟨RX8, "lapse", "(I)V"⟩
def RX9 : String := "UnsaidWords"
def TX9 : u_T := fun k => match k with
  | 0 => ("UnsaidWords", "now", "LUnsaidWords$World;", true)
  | 1 => ("UnsaidWords", "imaged", "LUnsaidWords$World;", true)
  | 2 => ("UnsaidWords", "spare", "LUnsaidWords$World;", true)
  | 3 => ("UnsaidWords", "past", "LUnsaidWords$Past;", true)
  | 4 => ("UnsaidWords", "tape", "LUnsaidWords$Tape;", true)
  | 5 => ("UnsaidWords", "texts", "LUnsaidWords$Texts;", true)
  | _ => ("UnsaidWords", "hasImage", "Z", false)
def tyX9 : Nat → FieldType := fun k => match k with
  | 0 => .object "UnsaidWords$World"
  | 1 => .object "UnsaidWords$World"
  | 2 => .object "UnsaidWords$World"
  | 3 => .object "UnsaidWords$Past"
  | 4 => .object "UnsaidWords$Tape"
  | 5 => .object "UnsaidWords$Texts"
  | _ => .boolean
theorem nmX9 : ∀ a, a < 7 → ∀ b, b < 7 → a ≠ b → (TX9 a).2.1 ≠ (TX9 b).2.1 := by decide +kernel
theorem tyX9_ok : ∀ k, k < 7 → parseFieldDescriptor (TX9 k).2.2.1 = some (tyX9 k) := by decide +kernel
abbrev cX9_init : ByteArray := prog_1_method_1_code
def yX9_init : MethodName := ⟨RX9, "<init>", "()V"⟩
abbrev cX9_state : ByteArray := prog_1_method_2_code
def yX9_state : MethodName := ⟨RX9, "state", "(I)I"⟩
abbrev cX9_word : ByteArray := prog_1_method_3_code
def yX9_word : MethodName := ⟨RX9, "word", "(I)I"⟩
abbrev cX9_person : ByteArray := prog_1_method_4_code
def yX9_person : MethodName := ⟨RX9, "person", "(I)I"⟩
abbrev cX9_set : ByteArray := prog_1_method_5_code
def yX9_set : MethodName := ⟨RX9, "set", "(III)Z"⟩
abbrev cX9_isUpTo : ByteArray := prog_1_method_6_code
def yX9_isUpTo : MethodName := ⟨RX9, "isUpTo", "(II)Z"⟩
abbrev cX9_kin : ByteArray := prog_1_method_7_code
def yX9_kin : MethodName := ⟨RX9, "kin", "(IIZ)Z"⟩
abbrev cX9_miles : ByteArray := prog_1_method_8_code
def yX9_miles : MethodName := ⟨RX9, "miles", "(III)Z"⟩
abbrev cX9_say : ByteArray := prog_1_method_9_code
def yX9_say : MethodName := ⟨RX9, "say", "(II)I"⟩
abbrev cX9_move : ByteArray := prog_1_method_10_code
def yX9_move : MethodName := ⟨RX9, "move", "(II)Z"⟩
abbrev cX9_teach : ByteArray := prog_1_method_11_code
def yX9_teach : MethodName := ⟨RX9, "teach", "(II)Z"⟩
abbrev cX9_carve : ByteArray := prog_1_method_12_code
def yX9_carve : MethodName := ⟨RX9, "carve", "(I)Z"⟩
abbrev cX9_days : ByteArray := prog_1_method_13_code
def yX9_days : MethodName := ⟨RX9, "days", "(I)I"⟩
abbrev cX9_feed : ByteArray := prog_1_method_14_code
def yX9_feed : MethodName := ⟨RX9, "feed", "(IIIII)I"⟩
abbrev cX9_end : ByteArray := prog_1_method_15_code
def yX9_end : MethodName := ⟨RX9, "end", "(I)Z"⟩
abbrev cX9_text : ByteArray := prog_1_method_16_code
def yX9_text : MethodName := ⟨RX9, "text", "(I)I"⟩
abbrev cX9_fault : ByteArray := prog_1_method_17_code
def yX9_fault : MethodName := ⟨RX9, "fault", "(I)I"⟩
abbrev cX9_of : ByteArray := prog_1_method_18_code
def yX9_of : MethodName := ⟨RX9, "of", "(II)I"⟩
abbrev cX9_who : ByteArray := prog_1_method_19_code
def yX9_who : MethodName := ⟨RX9, "who", "(II)I"⟩
abbrev cX9_asks : ByteArray := prog_1_method_20_code
def yX9_asks : MethodName := ⟨RX9, "asks", "(IIZ)I"⟩
abbrev cX9_book : ByteArray := prog_1_method_21_code
def yX9_book : MethodName := ⟨RX9, "book", "(II)I"⟩
abbrev cX9_goes : ByteArray := prog_1_method_22_code
def yX9_goes : MethodName := ⟨RX9, "goes", "(II)I"⟩
abbrev cX9_beginThought : ByteArray := prog_1_method_23_code
def yX9_beginThought : MethodName := ⟨RX9, "beginThought", "()V"⟩
abbrev cX9_misses : ByteArray := prog_1_method_24_code
def yX9_misses : MethodName := ⟨RX9, "misses", "(I)I"⟩
abbrev cX9_wording : ByteArray := prog_1_method_25_code
def yX9_wording : MethodName := ⟨RX9, "wording", "(II)I"⟩
abbrev cX9_go : ByteArray := prog_1_method_26_code
def yX9_go : MethodName := ⟨RX9, "go", "(I)I"⟩
abbrev cX9_keepers : ByteArray := prog_1_method_27_code
def yX9_keepers : MethodName := ⟨RX9, "keepers", "(I)I"⟩
abbrev cX9_costs : ByteArray := prog_1_method_28_code
def yX9_costs : MethodName := ⟨RX9, "costs", "(I)I"⟩
abbrev cX9_round : ByteArray := prog_1_method_29_code
def yX9_round : MethodName := ⟨RX9, "round", "(III)I"⟩
abbrev cX9_quarrel : ByteArray := prog_1_method_30_code
def yX9_quarrel : MethodName := ⟨RX9, "quarrel", "(IIII)I"⟩
abbrev cX9_talk : ByteArray := prog_1_method_31_code
def yX9_talk : MethodName := ⟨RX9, "talk", "(II)I"⟩
abbrev cX9_spoke : ByteArray := prog_1_method_32_code
def yX9_spoke : MethodName := ⟨RX9, "spoke", "(Z)I"⟩
abbrev cX9_grasps : ByteArray := prog_1_method_33_code
def yX9_grasps : MethodName := ⟨RX9, "grasps", "(II)I"⟩
abbrev cX9_circle : ByteArray := prog_1_method_34_code
def yX9_circle : MethodName := ⟨RX9, "circle", "(I)I"⟩
abbrev cX9_odds : ByteArray := prog_1_method_35_code
def yX9_odds : MethodName := ⟨RX9, "odds", "(II)I"⟩
abbrev cX9_school : ByteArray := prog_1_method_36_code
def yX9_school : MethodName := ⟨RX9, "school", "(II)I"⟩
abbrev cX9_verse : ByteArray := prog_1_method_37_code
def yX9_verse : MethodName := ⟨RX9, "verse", "(I)I"⟩
abbrev cX9_boast : ByteArray := prog_1_method_38_code
def yX9_boast : MethodName := ⟨RX9, "boast", "(II)I"⟩
abbrev cX9_crowd : ByteArray := prog_1_method_39_code
def yX9_crowd : MethodName := ⟨RX9, "crowd", "(I)I"⟩
abbrev cX9_silence : ByteArray := prog_1_method_40_code
def yX9_silence : MethodName := ⟨RX9, "silence", "(I)I"⟩
abbrev cX9_undo : ByteArray := prog_1_method_41_code
def yX9_undo : MethodName := ⟨RX9, "undo", "()Z"⟩
abbrev cX9_image : ByteArray := prog_1_method_42_code
def yX9_image : MethodName := ⟨RX9, "image", "(Z)Z"⟩
abbrev cX9_look : ByteArray := prog_1_method_43_code
def yX9_look : MethodName := ⟨RX9, "look", "(I)I"⟩
def RX10 : String := "UnsaidWordsModel"
def TX10 : u_T := fun k => match k with
  | 0 => ("UnsaidWordsModel", "w", "[I", true)
  | 1 => ("UnsaidWordsModel", "kept", "[I", true)
  | 2 => ("UnsaidWordsModel", "back", "[I", true)
  | 3 => ("UnsaidWordsModel", "lying", "[I", true)
  | 4 => ("UnsaidWordsModel", "backMany", "I", false)
  | 5 => ("UnsaidWordsModel", "hasImage", "Z", false)
  | 6 => ("UnsaidWordsModel", "freshLine", "[I", true)
  | 7 => ("UnsaidWordsModel", "freshStep", "[I", true)
  | 8 => ("UnsaidWordsModel", "freshWays", "[I", true)
  | 9 => ("UnsaidWordsModel", "freshMeans", "[I", true)
  | 10 => ("UnsaidWordsModel", "freshRow", "[I", true)
  | 11 => ("UnsaidWordsModel", "tape", "[I", true)
  | 12 => ("UnsaidWordsModel", "pile", "[I", true)
  | 13 => ("UnsaidWordsModel", "facts", "[I", true)
  | 14 => ("UnsaidWordsModel", "reading", "I", false)
  | 15 => ("UnsaidWordsModel", "lines", "I", false)
  | 16 => ("UnsaidWordsModel", "steps", "I", false)
  | 17 => ("UnsaidWordsModel", "rows", "I", false)
  | 18 => ("UnsaidWordsModel", "taped", "I", false)
  | 19 => ("UnsaidWordsModel", "at", "I", false)
  | 20 => ("UnsaidWordsModel", "token", "I", false)
  | 21 => ("UnsaidWordsModel", "tokenAt", "I", false)
  | 22 => ("UnsaidWordsModel", "value", "I", false)
  | 23 => ("UnsaidWordsModel", "wrong", "I", false)
  | 24 => ("UnsaidWordsModel", "wrongAt", "I", false)
  | 25 => ("UnsaidWordsModel", "faultKind", "I", false)
  | 26 => ("UnsaidWordsModel", "depth", "I", false)
  | 27 => ("UnsaidWordsModel", "faultPlace", "I", false)
  | 28 => ("UnsaidWordsModel", "numbered", "I", false)
  | 29 => ("UnsaidWordsModel", "isTrue", "Z", false)
  | 30 => ("UnsaidWordsModel", "firstLapsed", "I", false)
  | 31 => ("UnsaidWordsModel", "firstDay", "I", false)
  | 32 => ("UnsaidWordsModel", "laid", "[I", true)
  | 33 => ("UnsaidWordsModel", "order", "[I", true)
  | 34 => ("UnsaidWordsModel", "bestOrder", "[I", true)
  | _ => ("UnsaidWordsModel", "leastMiles", "I", false)
def tyX10 : Nat → FieldType := fun k => match k with
  | 0 => .array .int
  | 1 => .array .int
  | 2 => .array .int
  | 3 => .array .int
  | 4 => .int
  | 5 => .boolean
  | 6 => .array .int
  | 7 => .array .int
  | 8 => .array .int
  | 9 => .array .int
  | 10 => .array .int
  | 11 => .array .int
  | 12 => .array .int
  | 13 => .array .int
  | 14 => .int
  | 15 => .int
  | 16 => .int
  | 17 => .int
  | 18 => .int
  | 19 => .int
  | 20 => .int
  | 21 => .int
  | 22 => .int
  | 23 => .int
  | 24 => .int
  | 25 => .int
  | 26 => .int
  | 27 => .int
  | 28 => .int
  | 29 => .boolean
  | 30 => .int
  | 31 => .int
  | 32 => .array .int
  | 33 => .array .int
  | 34 => .array .int
  | _ => .int
theorem nmX10 : ∀ a, a < 36 → ∀ b, b < 36 → a ≠ b → (TX10 a).2.1 ≠ (TX10 b).2.1 := by decide +kernel
theorem tyX10_ok : ∀ k, k < 36 → parseFieldDescriptor (TX10 k).2.2.1 = some (tyX10 k) := by decide +kernel
abbrev cX10_init : ByteArray := prog_12_method_1_code
def yX10_init : MethodName := ⟨RX10, "<init>", "()V"⟩
abbrev cX10_isIn : ByteArray := prog_12_method_2_code
def yX10_isIn : MethodName := ⟨RX10, "isIn", "(III)Z"⟩
abbrev cX10_lesser : ByteArray := prog_12_method_3_code
def yX10_lesser : MethodName := ⟨RX10, "lesser", "(II)I"⟩
abbrev cX10_greater : ByteArray := prog_12_method_4_code
def yX10_greater : MethodName := ⟨RX10, "greater", "(II)I"⟩
abbrev cX10_isWord : ByteArray := prog_12_method_5_code
def yX10_isWord : MethodName := ⟨RX10, "isWord", "(I)Z"⟩
abbrev cX10_isPerson : ByteArray := prog_12_method_6_code
def yX10_isPerson : MethodName := ⟨RX10, "isPerson", "(I)Z"⟩
abbrev cX10_isPlace : ByteArray := prog_12_method_7_code
def yX10_isPlace : MethodName := ⟨RX10, "isPlace", "(I)Z"⟩
abbrev cX10_hasLapsed : ByteArray := prog_12_method_8_code
def yX10_hasLapsed : MethodName := ⟨RX10, "hasLapsed", "(I)Z"⟩
abbrev cX10_has : ByteArray := prog_12_method_9_code
def yX10_has : MethodName := ⟨RX10, "has", "(II)Z"⟩
abbrev cX10_count : ByteArray := prog_12_method_10_code
def yX10_count : MethodName := ⟨RX10, "count", "(I)I"⟩
abbrev cX10_living : ByteArray := prog_12_method_11_code
def yX10_living : MethodName := ⟨RX10, "living", "()I"⟩
abbrev cX10_forgets : ByteArray := prog_12_method_12_code
def yX10_forgets : MethodName := ⟨RX10, "forgets", "()V"⟩
abbrev cX10_state : ByteArray := prog_12_method_13_code
def yX10_state : MethodName := ⟨RX10, "state", "(I)I"⟩
abbrev cX10_draw : ByteArray := prog_12_method_14_code
def yX10_draw : MethodName := ⟨RX10, "draw", "(I)I"⟩
abbrev cX10_word : ByteArray := prog_12_method_15_code
def yX10_word : MethodName := ⟨RX10, "word", "(I)I"⟩
abbrev cX10_person : ByteArray := prog_12_method_16_code
def yX10_person : MethodName := ⟨RX10, "person", "(I)I"⟩
abbrev cX10_set : ByteArray := prog_12_method_17_code
def yX10_set : MethodName := ⟨RX10, "set", "(III)Z"⟩
abbrev cX10_kin : ByteArray := prog_12_method_18_code
def yX10_kin : MethodName := ⟨RX10, "kin", "(IIZ)Z"⟩
abbrev cX10_milesOf : ByteArray := prog_12_method_19_code
def yX10_milesOf : MethodName := ⟨RX10, "milesOf", "(II)I"⟩
abbrev cX10_miles : ByteArray := prog_12_method_20_code
def yX10_miles : MethodName := ⟨RX10, "miles", "(III)Z"⟩
abbrev cX10_feed : ByteArray := prog_12_method_21_code
def yX10_feed : MethodName := ⟨RX10, "feed", "(IIIII)I"⟩
abbrev cX10_end : ByteArray := prog_12_method_22_code
def yX10_end : MethodName := ⟨RX10, "end", "(I)Z"⟩
abbrev cX10_see : ByteArray := prog_12_method_23_code
def yX10_see : MethodName := ⟨RX10, "see", "(I)I"⟩
abbrev cX10_isLetter : ByteArray := prog_12_method_24_code
def yX10_isLetter : MethodName := ⟨RX10, "isLetter", "(I)Z"⟩
abbrev cX10_isDigit : ByteArray := prog_12_method_25_code
def yX10_isDigit : MethodName := ⟨RX10, "isDigit", "(I)Z"⟩
abbrev cX10_is : ByteArray := prog_12_method_26_code
def yX10_is : MethodName := ⟨RX10, "is", "(Ljava/lang/String;)Z"⟩
abbrev cX10_asked : ByteArray := prog_12_method_27_code
def yX10_asked : MethodName := ⟨RX10, "asked", "()I"⟩
abbrev cX10_lawWord : ByteArray := prog_12_method_28_code
def yX10_lawWord : MethodName := ⟨RX10, "lawWord", "()I"⟩
abbrev cX10_walkWord : ByteArray := prog_12_method_29_code
def yX10_walkWord : MethodName := ⟨RX10, "walkWord", "()I"⟩
abbrev cX10_needWord : ByteArray := prog_12_method_30_code
def yX10_needWord : MethodName := ⟨RX10, "needWord", "()I"⟩
abbrev cX10_word0 : ByteArray := prog_12_method_31_code
def yX10_word0 : MethodName := ⟨RX10, "word0", "()I"⟩
abbrev cX10_next0 : ByteArray := prog_12_method_32_code
def yX10_next0 : MethodName := ⟨RX10, "next0", "()V"⟩
abbrev cX10_bad : ByteArray := prog_12_method_33_code
def yX10_bad : MethodName := ⟨RX10, "bad", "(I)Z"⟩
abbrev cX10_need : ByteArray := prog_12_method_34_code
def yX10_need : MethodName := ⟨RX10, "need", "(I)Z"⟩
abbrev cX10_lay : ByteArray := prog_12_method_35_code
def yX10_lay : MethodName := ⟨RX10, "lay", "(II)V"⟩
abbrev cX10_opens : ByteArray := prog_12_method_36_code
def yX10_opens : MethodName := ⟨RX10, "opens", "()Z"⟩
abbrev cX10_sumUp : ByteArray := prog_12_method_37_code
def yX10_sumUp : MethodName := ⟨RX10, "sumUp", "()Z"⟩
abbrev cX10_product : ByteArray := prog_12_method_38_code
def yX10_product : MethodName := ⟨RX10, "product", "()Z"⟩
abbrev cX10_unit : ByteArray := prog_12_method_39_code
def yX10_unit : MethodName := ⟨RX10, "unit", "()Z"⟩
abbrev cX10_any : ByteArray := prog_12_method_40_code
def yX10_any : MethodName := ⟨RX10, "any", "()Z"⟩
abbrev cX10_every : ByteArray := prog_12_method_41_code
def yX10_every : MethodName := ⟨RX10, "every", "()Z"⟩
abbrev cX10_oneTest : ByteArray := prog_12_method_42_code
def yX10_oneTest : MethodName := ⟨RX10, "oneTest", "()Z"⟩
abbrev cX10_aLine : ByteArray := prog_12_method_43_code
def yX10_aLine : MethodName := ⟨RX10, "aLine", "()Z"⟩
abbrev cX10_readsLaw : ByteArray := prog_12_method_44_code
def yX10_readsLaw : MethodName := ⟨RX10, "readsLaw", "()Z"⟩
abbrev cX10_number : ByteArray := prog_12_method_45_code
def yX10_number : MethodName := ⟨RX10, "number", "(II)Z"⟩
abbrev cX10_aWording : ByteArray := prog_12_method_46_code
def yX10_aWording : MethodName := ⟨RX10, "aWording", "(I)Z"⟩
abbrev cX10_aMeaning : ByteArray := prog_12_method_47_code
def yX10_aMeaning : MethodName := ⟨RX10, "aMeaning", "()Z"⟩
abbrev cX10_told : ByteArray := prog_12_method_48_code
def yX10_told : MethodName := ⟨RX10, "told", "(III)Z"⟩
abbrev cX10_aWalk : ByteArray := prog_12_method_49_code
def yX10_aWalk : MethodName := ⟨RX10, "aWalk", "()Z"⟩
abbrev cX10_aNeed : ByteArray := prog_12_method_50_code
def yX10_aNeed : MethodName := ⟨RX10, "aNeed", "()Z"⟩
abbrev cX10_readsRows : ByteArray := prog_12_method_51_code
def yX10_readsRows : MethodName := ⟨RX10, "readsRows", "()Z"⟩
abbrev cX10_putsLaw : ByteArray := prog_12_method_52_code
def yX10_putsLaw : MethodName := ⟨RX10, "putsLaw", "()I"⟩
abbrev cX10_putsMeanings : ByteArray := prog_12_method_53_code
def yX10_putsMeanings : MethodName := ⟨RX10, "putsMeanings", "()I"⟩
abbrev cX10_puts : ByteArray := prog_12_method_54_code
def yX10_puts : MethodName := ⟨RX10, "puts", "(III)I"⟩
abbrev cX10_putsText : ByteArray := prog_12_method_55_code
def yX10_putsText : MethodName := ⟨RX10, "putsText", "(I)I"⟩
abbrev cX10_text : ByteArray := prog_12_method_56_code
def yX10_text : MethodName := ⟨RX10, "text", "(I)I"⟩
abbrev cX10_fault : ByteArray := prog_12_method_57_code
def yX10_fault : MethodName := ⟨RX10, "fault", "(I)I"⟩
abbrev cX10_both : ByteArray := prog_12_method_58_code
def yX10_both : MethodName := ⟨RX10, "both", "(III)I"⟩
abbrev cX10_comesTo : ByteArray := prog_12_method_59_code
def yX10_comesTo : MethodName := ⟨RX10, "comesTo", "(III)I"⟩
abbrev cX10_isSo : ByteArray := prog_12_method_60_code
def yX10_isSo : MethodName := ⟨RX10, "isSo", "(I)Z"⟩
abbrev cX10_knowers : ByteArray := prog_12_method_61_code
def yX10_knowers : MethodName := ⟨RX10, "knowers", "(I)I"⟩
abbrev cX10_says : ByteArray := prog_12_method_62_code
def yX10_says : MethodName := ⟨RX10, "says", "(IIIIII)I"⟩
abbrev cX10_keepOf : ByteArray := prog_12_method_63_code
def yX10_keepOf : MethodName := ⟨RX10, "keepOf", "(I)I"⟩
abbrev cX10_hearOf : ByteArray := prog_12_method_64_code
def yX10_hearOf : MethodName := ⟨RX10, "hearOf", "(II)I"⟩
abbrev cX10_tireOf : ByteArray := prog_12_method_65_code
def yX10_tireOf : MethodName := ⟨RX10, "tireOf", "(II)I"⟩
abbrev cX10_keeps : ByteArray := prog_12_method_66_code
def yX10_keeps : MethodName := ⟨RX10, "keeps", "()V"⟩
abbrev cX10_undo : ByteArray := prog_12_method_67_code
def yX10_undo : MethodName := ⟨RX10, "undo", "()Z"⟩
abbrev cX10_notes : ByteArray := prog_12_method_68_code
def yX10_notes : MethodName := ⟨RX10, "notes", "(III)V"⟩
abbrev cX10_canSay : ByteArray := prog_12_method_69_code
def yX10_canSay : MethodName := ⟨RX10, "canSay", "(II)Z"⟩
abbrev cX10_isHeard : ByteArray := prog_12_method_70_code
def yX10_isHeard : MethodName := ⟨RX10, "isHeard", "(II)V"⟩
abbrev cX10_says0 : ByteArray := prog_12_method_71_code
def yX10_says0 : MethodName := ⟨RX10, "says0", "(II)Z"⟩
abbrev cX10_say : ByteArray := prog_12_method_72_code
def yX10_say : MethodName := ⟨RX10, "say", "(II)I"⟩
abbrev cX10_movesTo : ByteArray := prog_12_method_73_code
def yX10_movesTo : MethodName := ⟨RX10, "movesTo", "(II)V"⟩
abbrev cX10_move : ByteArray := prog_12_method_74_code
def yX10_move : MethodName := ⟨RX10, "move", "(II)Z"⟩
abbrev cX10_teach : ByteArray := prog_12_method_75_code
def yX10_teach : MethodName := ⟨RX10, "teach", "(II)Z"⟩
abbrev cX10_carve : ByteArray := prog_12_method_76_code
def yX10_carve : MethodName := ⟨RX10, "carve", "(I)Z"⟩
abbrev cX10_walks : ByteArray := prog_12_method_77_code
def yX10_walks : MethodName := ⟨RX10, "walks", "(I)V"⟩
abbrev cX10_stalest : ByteArray := prog_12_method_78_code
def yX10_stalest : MethodName := ⟨RX10, "stalest", "(I)I"⟩
abbrev cX10_chats : ByteArray := prog_12_method_79_code
def yX10_chats : MethodName := ⟨RX10, "chats", "()V"⟩
abbrev cX10_lapses : ByteArray := prog_12_method_80_code
def yX10_lapses : MethodName := ⟨RX10, "lapses", "(I)V"⟩
abbrev cX10_ages : ByteArray := prog_12_method_81_code
def yX10_ages : MethodName := ⟨RX10, "ages", "()I"⟩
abbrev cX10_works : ByteArray := prog_12_method_82_code
def yX10_works : MethodName := ⟨RX10, "works", "()I"⟩
abbrev cX10_ends : ByteArray := prog_12_method_83_code
def yX10_ends : MethodName := ⟨RX10, "ends", "()V"⟩
abbrev cX10_days : ByteArray := prog_12_method_84_code
def yX10_days : MethodName := ⟨RX10, "days", "(I)I"⟩
abbrev cX10_of : ByteArray := prog_12_method_85_code
def yX10_of : MethodName := ⟨RX10, "of", "(II)I"⟩
abbrev cX10_who : ByteArray := prog_12_method_86_code
def yX10_who : MethodName := ⟨RX10, "who", "(II)I"⟩
abbrev cX10_asks : ByteArray := prog_12_method_87_code
def yX10_asks : MethodName := ⟨RX10, "asks", "(IIZ)I"⟩
abbrev cX10_book : ByteArray := prog_12_method_88_code
def yX10_book : MethodName := ⟨RX10, "book", "(II)I"⟩
abbrev cX10_wordsOf : ByteArray := prog_12_method_89_code
def yX10_wordsOf : MethodName := ⟨RX10, "wordsOf", "(II)I"⟩
abbrev cX10_longOf : ByteArray := prog_12_method_90_code
def yX10_longOf : MethodName := ⟨RX10, "longOf", "(II)I"⟩
abbrev cX10_canBeSaid : ByteArray := prog_12_method_91_code
def yX10_canBeSaid : MethodName := ⟨RX10, "canBeSaid", "(II)Z"⟩
abbrev cX10_saidBy : ByteArray := prog_12_method_92_code
def yX10_saidBy : MethodName := ⟨RX10, "saidBy", "(I)I"⟩
abbrev cX10_wording : ByteArray := prog_12_method_93_code
def yX10_wording : MethodName := ⟨RX10, "wording", "(II)I"⟩
abbrev cX10_laysMeanings : ByteArray := prog_12_method_94_code
def yX10_laysMeanings : MethodName := ⟨RX10, "laysMeanings", "()V"⟩
abbrev cX10_saysAll : ByteArray := prog_12_method_95_code
def yX10_saysAll : MethodName := ⟨RX10, "saysAll", "(II)Z"⟩
abbrev cX10_mostToGo : ByteArray := prog_12_method_96_code
def yX10_mostToGo : MethodName := ⟨RX10, "mostToGo", "()I"⟩
abbrev cX10_fewestToAdd : ByteArray := prog_12_method_97_code
def yX10_fewestToAdd : MethodName := ⟨RX10, "fewestToAdd", "(III)I"⟩
abbrev cX10_go : ByteArray := prog_12_method_98_code
def yX10_go : MethodName := ⟨RX10, "go", "(I)I"⟩
abbrev cX10_school : ByteArray := prog_12_method_99_code
def yX10_school : MethodName := ⟨RX10, "school", "(II)I"⟩
abbrev cX10_boast : ByteArray := prog_12_method_100_code
def yX10_boast : MethodName := ⟨RX10, "boast", "(II)I"⟩
abbrev cX10_lays : ByteArray := prog_12_method_101_code
def yX10_lays : MethodName := ⟨RX10, "lays", "()V"⟩
abbrev cX10_putsBack : ByteArray := prog_12_method_102_code
def yX10_putsBack : MethodName := ⟨RX10, "putsBack", "()V"⟩
abbrev cX10_goes : ByteArray := prog_12_method_103_code
def yX10_goes : MethodName := ⟨RX10, "goes", "(II)I"⟩
abbrev cX10_misses : ByteArray := prog_12_method_104_code
def yX10_misses : MethodName := ⟨RX10, "misses", "(I)I"⟩
abbrev cX10_tonguesOf : ByteArray := prog_12_method_105_code
def yX10_tonguesOf : MethodName := ⟨RX10, "tonguesOf", "(I)I"⟩
abbrev cX10_aloneIn : ByteArray := prog_12_method_106_code
def yX10_aloneIn : MethodName := ⟨RX10, "aloneIn", "(I)I"⟩
abbrev cX10_costs : ByteArray := prog_12_method_107_code
def yX10_costs : MethodName := ⟨RX10, "costs", "(I)I"⟩
abbrev cX10_keepers : ByteArray := prog_12_method_108_code
def yX10_keepers : MethodName := ⟨RX10, "keepers", "(I)I"⟩
abbrev cX10_goesRound : ByteArray := prog_12_method_109_code
def yX10_goesRound : MethodName := ⟨RX10, "goesRound", "(IIII)V"⟩
abbrev cX10_round : ByteArray := prog_12_method_110_code
def yX10_round : MethodName := ⟨RX10, "round", "(III)I"⟩
abbrev cX10_unsaidOf : ByteArray := prog_12_method_111_code
def yX10_unsaidOf : MethodName := ⟨RX10, "unsaidOf", "(I)I"⟩
abbrev cX10_quarrel : ByteArray := prog_12_method_112_code
def yX10_quarrel : MethodName := ⟨RX10, "quarrel", "(IIII)I"⟩
abbrev cX10_talk : ByteArray := prog_12_method_113_code
def yX10_talk : MethodName := ⟨RX10, "talk", "(II)I"⟩
abbrev cX10_spokeSet : ByteArray := prog_12_method_114_code
def yX10_spokeSet : MethodName := ⟨RX10, "spokeSet", "()I"⟩
abbrev cX10_greaterBy : ByteArray := prog_12_method_115_code
def yX10_greaterBy : MethodName := ⟨RX10, "greaterBy", "(II)I"⟩
abbrev cX10_spoke : ByteArray := prog_12_method_116_code
def yX10_spoke : MethodName := ⟨RX10, "spoke", "(Z)I"⟩
abbrev cX10_graspsOf : ByteArray := prog_12_method_117_code
def yX10_graspsOf : MethodName := ⟨RX10, "graspsOf", "(II)I"⟩
abbrev cX10_grasps : ByteArray := prog_12_method_118_code
def yX10_grasps : MethodName := ⟨RX10, "grasps", "(II)I"⟩
abbrev cX10_circle : ByteArray := prog_12_method_119_code
def yX10_circle : MethodName := ⟨RX10, "circle", "(I)I"⟩
abbrev cX10_peopleAt : ByteArray := prog_12_method_120_code
def yX10_peopleAt : MethodName := ⟨RX10, "peopleAt", "(I)I"⟩
abbrev cX10_sharedBy : ByteArray := prog_12_method_121_code
def yX10_sharedBy : MethodName := ⟨RX10, "sharedBy", "(I)I"⟩
abbrev cX10_crowd : ByteArray := prog_12_method_122_code
def yX10_crowd : MethodName := ⟨RX10, "crowd", "(I)I"⟩
abbrev cX10_odds : ByteArray := prog_12_method_123_code
def yX10_odds : MethodName := ⟨RX10, "odds", "(II)I"⟩
abbrev cX10_longOfSet : ByteArray := prog_12_method_124_code
def yX10_longOfSet : MethodName := ⟨RX10, "longOfSet", "(I)I"⟩
abbrev cX10_verse : ByteArray := prog_12_method_125_code
def yX10_verse : MethodName := ⟨RX10, "verse", "(I)I"⟩
abbrev cX10_heapOf : ByteArray := prog_12_method_126_code
def yX10_heapOf : MethodName := ⟨RX10, "heapOf", "(I)I"⟩
abbrev cX10_silence : ByteArray := prog_12_method_127_code
def yX10_silence : MethodName := ⟨RX10, "silence", "(I)I"⟩
abbrev cX10_image : ByteArray := prog_12_method_128_code
def yX10_image : MethodName := ⟨RX10, "image", "(Z)Z"⟩
abbrev cX10_look : ByteArray := prog_12_method_129_code
def yX10_look : MethodName := ⟨RX10, "look", "(I)I"⟩
def RJ11 : String := "java/lang/Character"
abbrev cJ11_isValidCodePoint_9a6ad : ByteArray := prog_13_method_11_code
def yJ11_isValidCodePoint_9a6ad : MethodName := ⟨RJ11, "isValidCodePoint", "(I)Z"⟩
abbrev cJ11_highSurrogate_5068e : ByteArray := prog_13_method_28_code
def yJ11_highSurrogate_5068e : MethodName := ⟨RJ11, "highSurrogate", "(I)C"⟩
abbrev cJ11_lowSurrogate_5068e : ByteArray := prog_13_method_29_code
def yJ11_lowSurrogate_5068e : MethodName := ⟨RJ11, "lowSurrogate", "(I)C"⟩
def RJ6 : String := "java/lang/Integer"
abbrev cJ6_numberOfTrailingZeros_0f7a4 : ByteArray := prog_14_method_48_code
def yJ6_numberOfTrailingZeros_0f7a4 : MethodName := ⟨RJ6, "numberOfTrailingZeros", "(I)I"⟩
abbrev cJ6_bitCount_0f7a4 : ByteArray := prog_14_method_49_code
def yJ6_bitCount_0f7a4 : MethodName := ⟨RJ6, "bitCount", "(I)I"⟩
def RJ9 : String := "java/lang/Math"
abbrev cJ9_max_7cf53 : ByteArray := prog_15_method_65_code
def yJ9_max_7cf53 : MethodName := ⟨RJ9, "max", "(II)I"⟩
abbrev cJ9_min_7cf53 : ByteArray := prog_15_method_69_code
def yJ9_min_7cf53 : MethodName := ⟨RJ9, "min", "(II)I"⟩
def RJ0 : String := "java/lang/String"
abbrev cJ0_length_8abf5 : ByteArray := prog_16_method_54_code
def yJ0_length_8abf5 : MethodName := ⟨RJ0, "length", "()I"⟩
abbrev cJ0_charAt_5068e : ByteArray := prog_16_method_56_code
def yJ0_charAt_5068e : MethodName := ⟨RJ0, "charAt", "(I)C"⟩
abbrev cJ0_indexOf_0f7a4 : ByteArray := prog_16_method_79_code
def yJ0_indexOf_0f7a4 : MethodName := ⟨RJ0, "indexOf", "(I)I"⟩
abbrev cJ0_indexOf_7cf53 : ByteArray := prog_16_method_80_code
def yJ0_indexOf_7cf53 : MethodName := ⟨RJ0, "indexOf", "(II)I"⟩
abbrev cJ0_coder_7d493 : ByteArray := prog_16_method_152_code
def yJ0_coder_7d493 : MethodName := ⟨RJ0, "coder", "()B"⟩
abbrev cJ0_isLatin1_aae02 : ByteArray := prog_16_method_154_code
def yJ0_isLatin1_aae02 : MethodName := ⟨RJ0, "isLatin1", "()Z"⟩
abbrev cJ0_checkIndex_df160 : ByteArray := prog_16_method_155_code
def yJ0_checkIndex_df160 : MethodName := ⟨RJ0, "checkIndex", "(II)V"⟩
abbrev cJ0_checkBoundsBeginEnd_23922 : ByteArray := prog_16_method_158_code
def yJ0_checkBoundsBeginEnd_23922 : MethodName := ⟨RJ0, "checkBoundsBeginEnd", "(III)V"⟩
def RJ1 : String := "java/lang/StringLatin1"
abbrev cJ1_charAt_3b067 : ByteArray := prog_17_method_2_code
def yJ1_charAt_3b067 : MethodName := ⟨RJ1, "charAt", "([BI)C"⟩
abbrev cJ1_canEncode_9a6ad : ByteArray := prog_17_method_4_code
def yJ1_canEncode_9a6ad : MethodName := ⟨RJ1, "canEncode", "(I)Z"⟩
abbrev cJ1_indexOf_4cfef : ByteArray := prog_17_method_22_code
def yJ1_indexOf_4cfef : MethodName := ⟨RJ1, "indexOf", "([BIII)I"⟩
abbrev cJ1_indexOfChar_4cfef : ByteArray := prog_17_method_23_code
def yJ1_indexOfChar_4cfef : MethodName := ⟨RJ1, "indexOfChar", "([BIII)I"⟩
def RJ2 : String := "java/lang/StringUTF16"
abbrev cJ2_getChar_3b067 : ByteArray := prog_18_method_5_code
def yJ2_getChar_3b067 : MethodName := ⟨RJ2, "getChar", "([BI)C"⟩
abbrev cJ2_length_9d52b : ByteArray := prog_18_method_6_code
def yJ2_length_9d52b : MethodName := ⟨RJ2, "length", "([B)I"⟩
abbrev cJ2_indexOf_4cfef : ByteArray := prog_18_method_40_code
def yJ2_indexOf_4cfef : MethodName := ⟨RJ2, "indexOf", "([BIII)I"⟩
abbrev cJ2_indexOfChar_4cfef : ByteArray := prog_18_method_47_code
def yJ2_indexOfChar_4cfef : MethodName := ⟨RJ2, "indexOfChar", "([BIII)I"⟩
abbrev cJ2_indexOfCharUnsafe_4cfef : ByteArray := prog_18_method_48_code
def yJ2_indexOfCharUnsafe_4cfef : MethodName := ⟨RJ2, "indexOfCharUnsafe", "([BIII)I"⟩
abbrev cJ2_indexOfSupplementary_4cfef : ByteArray := prog_18_method_49_code
def yJ2_indexOfSupplementary_4cfef : MethodName := ⟨RJ2, "indexOfSupplementary", "([BIII)I"⟩
abbrev cJ2_charAt_3b067 : ByteArray := prog_18_method_83_code
def yJ2_charAt_3b067 : MethodName := ⟨RJ2, "charAt", "([BI)C"⟩
abbrev cJ2_checkIndex_2214a : ByteArray := prog_18_method_91_code
def yJ2_checkIndex_2214a : MethodName := ⟨RJ2, "checkIndex", "(I[B)V"⟩
abbrev cJ2_checkBoundsBeginEnd_d044e : ByteArray := prog_18_method_93_code
def yJ2_checkBoundsBeginEnd_d044e : MethodName := ⟨RJ2, "checkBoundsBeginEnd", "(II[B)V"⟩
def RJ10 : String := "java/lang/System"
def RJ3 : String := "jdk/internal/util/Preconditions"
abbrev cJ3_checkIndex_8e157 : ByteArray := prog_20_method_11_code
def yJ3_checkIndex_8e157 : MethodName := ⟨RJ3, "checkIndex", "(IILjava/util/function/BiFunction;)I"⟩
abbrev cJ3_checkFromToIndex_8c36e : ByteArray := prog_20_method_12_code
def yJ3_checkFromToIndex_8c36e : MethodName := ⟨RJ3, "checkFromToIndex", "(IIILjava/util/function/BiFunction;)I"⟩
def RL : String := "UnsaidWordsLaw"
abbrev cL_law : ByteArray := code
def yL_law : MethodName := ⟨RL, "law", "([I)Z"⟩
abbrev vwCl : List vw_C := [(RX0, TX0, 8), (RX1, TX1, 8), (RX2, TX2, 4), (RX3, TX3, 4), (RX4, TX4, 2), (RX5, TX5, 2), (RX6, TX6, 8), (RX8, TX8, 14), (RX9, TX9, 7), (RX10, TX10, 36)]
end
section
-- ===== the words that are good: 'xc_T' =====
def xc_T : List Cond := lw_tbl.filter goodWord
theorem xc_in {w : Cond} (i : Nat) (h : lw_tbl[i]? = some w) (hg : goodWord w = true) : w ∈ xc_T := List.mem_filter.mpr ⟨List.mem_of_getElem? h, hg⟩
theorem xc_goodT : ∀ w ∈ xc_T, goodWord w = true := fun w h => (List.mem_filter.mp h).2
theorem xc_goodIn {ws : List Cond} (h : ∀ w ∈ ws, w ∈ xc_T) : GoodIn xc_T ws := fun w hw => ⟨h w hw, good_of_word (xc_goodT w (h w hw))⟩
-- ===== memory of numbers, shapes of cells, worlds =====
abbrev xc_M : Type := Nat → Nat → Int32
abbrev xc_Sh : Type := List (Nat × Nat)
abbrev xc_Px : Type := Nat → Nat → Option Nat
/-- a world: the launch, the classes' numbers and slots, the three classes of arrays, the shapes of the cells, their references, their addresses -/
abbrev xc_X : Type := Launch × va_G × (ClassId × ClassId × ClassId) × xc_Sh × xc_Px × (Nat → Nat)
def xc_wr (I : xc_M) (a k : Nat) (v : Int32) : xc_M := fun b j => if b = a ∧ j = k then v else I b j
def xc_nf (c : Nat) : Nat := [8, 8, 4, 4, 2, 2, 8, 14, 7, 36].getD c 0
def xc_rfs : List (List Bool) := [[false, false, false, true, true, true, true, true], [false, false, true, true, true, true, true, true], [false, true, true, true], [false, false, true, true], [false, true], [false, true], [false, false, false, false, true, true, true, false], [false, false, false, true, true, true, true, true, true, true, true, true, true, true], [true, true, true, true, true, true, false], [true, true, true, true, false, false, true, true, true, true, true, true, true, true, false, false, false, false, false, false, false, false, false, false, false, false, false, false, false, false, false, false, true, true, true, false]]
def xc_rf (c k : Nat) : Bool := (xc_rfs.getD c []).getD k false
def xc_fv (X : xc_X) (I : xc_M) (c a k : Nat) : Value := if xc_rf c k = true then (match X.2.2.2.2.1 a k with | none => .null | some x => .ref (X.2.2.2.2.2 x)) else .int (I a k)
def xc_fs (X : xc_X) (I : xc_M) (c a : Nat) : List Value := (List.range (xc_nf c)).map (xc_fv X I c a)
def xc_ent (X : xc_X) (I : xc_M) (a : Nat) (k : Nat × Nat) : va_E := match k.1 with
  | 0 => .inl (X.2.2.1.1, k.2, .inl (I a))
  | 1 => .inl (X.2.2.1.2.1, k.2, .inl (I a))
  | 2 => .inl (X.2.2.1.2.2, k.2, .inr (.inr (.inr (.inr (fun j => (X.2.2.2.2.1 a j).map X.2.2.2.2.2)))))
  | c + 3 => .inr (c, xc_fs X I c a)
def xc_ws (X : xc_X) (I : xc_M) : va_W := X.2.2.2.1.mapIdx (fun a k => (X.2.2.2.2.2 a, xc_ent X I a k))
theorem xc_at {X : xc_X} (I : xc_M) {a : Nat} {k : Nat × Nat} (h : X.2.2.2.1[a]? = some k) : (xc_ws X I)[a]? = some (X.2.2.2.2.2 a, xc_ent X I a k) := by
  unfold xc_ws
  rw [List.getElem?_mapIdx, h]
  rfl
theorem xc_ent_ne {X : xc_X} {I : xc_M} {a b k : Nat} {v : Int32} {s : Nat × Nat} (h : b ≠ a) : xc_ent X (xc_wr I a k v) b s = xc_ent X I b s := by
  have h1 : xc_wr I a k v b = I b := by
    funext j
    simp [xc_wr, h]
  obtain ⟨c, n⟩ := s
  match c with
  | 0 => simp [xc_ent, h1]
  | 1 => simp [xc_ent, h1]
  | 2 => rfl
  | c + 3 =>
    simp only [xc_ent, xc_fs]
    congr 2
    apply List.map_congr_left
    intro j _
    simp only [xc_fv, h1]
theorem xc_set {X : xc_X} {I : xc_M} {a k : Nat} {v : Int32} {s : Nat × Nat} {e : va_E} (h : X.2.2.2.1[a]? = some s) (he : e = xc_ent X (xc_wr I a k v) a s) : (xc_ws X I).set a (X.2.2.2.2.2 a, e) = xc_ws X (xc_wr I a k v) := by
  apply List.ext_getElem?
  intro j
  have hlen : a < (xc_ws X I).length := (List.getElem?_eq_some_iff.mp (xc_at I h)).1
  by_cases hj : j = a
  · subst hj
    rw [List.getElem?_set_self hlen, xc_at _ h, he]
  · rw [List.getElem?_set_ne (Ne.symm hj)]
    unfold xc_ws
    rw [List.getElem?_mapIdx, List.getElem?_mapIdx]
    cases hs : X.2.2.2.1[j]? with
    | none => rfl
    | some t =>
      simp only [Option.map_some]
      rw [xc_ent_ne hj]
theorem xc_wr_arr (I : xc_M) (a k : Nat) (v : Int32) : upd (I a) k v = xc_wr I a k v a := by
  funext j
  simp [upd, xc_wr]
theorem xc_wr_fs {X : xc_X} {I : xc_M} {c a k : Nat} {v : Int32} (hr : xc_rf c k = false) : (xc_fs X I c a).set k (.int v) = xc_fs X (xc_wr I a k v) c a := by
  apply List.ext_getElem?
  intro j
  unfold xc_fs
  by_cases hj : j = k
  · subst hj
    by_cases hl : j < xc_nf c
    · rw [List.getElem?_set_self (by simpa using hl)]
      simp [hl, xc_fv, hr, xc_wr]
    · have h1 : ((List.range (xc_nf c)).map (xc_fv X I c a)).length ≤ j := by simp; omega
      rw [List.getElem?_eq_none (by simpa using h1), List.getElem?_eq_none (by simp; omega)]
  · rw [List.getElem?_set_ne (Ne.symm hj)]
    by_cases hl : j < xc_nf c
    · simp [hl, xc_fv, xc_wr, hj]
    · rw [List.getElem?_eq_none (by simp; omega), List.getElem?_eq_none (by simp; omega)]
abbrev xc_ty (X : xc_X) : List (ClassId × FieldType) := [(X.2.2.1.1, .int), (X.2.2.1.2.1, .byte), (X.2.2.1.2.2, .object "UnsaidWords$Being")]
-- ===== where a method stands =====
abbrev xc_C : Type := Program × Env × Room × State × MethodId × Array Value × List Frame × Method × Code
def xc_rm (n : Nat) : Room := { frames := n + 1, cells := 0, slots := 0, locals := 64 * (n + 1) }
def xc_Ok (X : xc_X) (C : xc_C) (A : Nat → Prop) (n : Nat) (cc : ByteArray) (own : String) (nL : Nat) (ret : Option FieldType) : Prop := C.1.tables.exec = Jvm.exec ∧ C.2.2.2.2.2.2.2.2.code = cc ∧ C.2.2.2.2.2.2.2.2.maxLocals = nL ∧ C.2.2.2.1.vm.findClass own = some C.2.2.2.2.1.cls ∧ (∀ w ∈ xc_T, w.before C.2.2.2.2.2.1 C.2.2.2.1 = true) ∧ va_K X.2.1 vwCl (xc_ty X) C.2.2.2.1 ∧ C.2.2.2.2.2.2.2.1.sig.returnType = ret ∧ C.2.2.2.2.2.2.2.1.locks = false ∧ C.2.2.1 = xc_rm n ∧ ∀ q : Nat, C.2.2.2.1.heap.size ≤ q → A q
def xc_W (X : xc_X) (C : xc_C) (H : Heap) (locs : List Loc) (Q : State → Prop) (g : JFrame) : Prop := W C.1 X.1 C.2.1 C.2.2.1 C.2.2.2.1 C.2.2.2.2.1 C.2.2.2.2.2.1 C.2.2.2.2.2.2.1 C.2.2.2.2.2.2.2.1 C.2.2.2.2.2.2.2.2 H locs 0 0 Q g
def xc_G (X : xc_X) (C : xc_C) (A : Nat → Prop) (Q : State → Prop) (nL pc : Nat) (lv : List (Nat × Value)) (st : List Value) (I : xc_M) : Prop := ∀ (H : Heap) (locs : List Loc) (ls : Array Slot), va_P X.2.1 vwCl (xc_ws X I) H → va_D A (xc_ws X I) → va_S A C.2.2.2.1.heap H locs → lv_has ls nL lv → xc_W X C H locs Q (F0 C.2.2.2.2.1 pc ls st)
def xc_B (X : xc_X) (A : Nat → Prop) (u : xc_M) (t : State) : Prop := va_P X.2.1 vwCl (xc_ws X u) t.heap ∧ va_K X.2.1 vwCl (xc_ty X) t ∧ va_D A (xc_ws X u)
def xc_Q (X : xc_X) (A : Nat → Prop) (ret : Option FieldType) (r : Int32) (I : xc_M) : Array Value → State → Outcome → State → Prop := match ret with
  | none => va_Qv (fun u : xc_M => u = I) (xc_B X A) A
  | some _ => va_Qi (fun (r2 : Int32) (u : xc_M) => r2 = r ∧ u = I) (xc_B X A) A
/-- from here on the method answers as the program t says -/
def xc_S (X : xc_X) (C : xc_C) (A : Nat → Prop) (nL : Nat) (ret : Option FieldType) (t : Option (Int32 × xc_M)) (pc : Nat) (lv : List (Nat × Value)) (st : List Value) (I : xc_M) : Prop := ∀ (r : Int32) (J : xc_M), t = some (r, J) → xc_G X C A (MQ C.2.2.2.2.2.2.1 (xc_Q X A ret r J) C.2.2.2.2.2.1 C.2.2.2.1 0 0 A) nL pc lv st I
/-- the method y, called with av over the memory I, answers as the program t says -/
def xc_Cf (X : xc_X) (n : Nat) (y : MethodName) (cc : ByteArray) (maxL : Nat) (ret : Option FieldType) (av : List Value) (I : xc_M) (t : Option (Int32 × xc_M)) : Prop := ∀ (r : Int32) (J : xc_M), t = some (r, J) → ∀ sz : Nat, Met X.1 y (.code y cc maxL ret :: xc_T) (xc_rm n) (va_Pc av (fun U => U.heap.size = sz ∧ va_P X.2.1 vwCl (xc_ws X I) U.heap ∧ va_K X.2.1 vwCl (xc_ty X) U ∧ va_D (fun _ => True) (xc_ws X I))) (xc_Q X (va_A (xc_ws X I) sz) ret r J) 0 0 (va_A (xc_ws X I) sz)
-- ===== the programs =====
def xc_rd {α : Type} (n a : Nat) (i : Int32) (I : xc_M) (f : Int32 → Option α) : Option α := if i < 0 ∨ n ≤ i.toNatClampNeg then none else f (I a i.toNatClampNeg)
def xc_st {α : Type} (n a : Nat) (i v : Int32) (I : xc_M) (f : xc_M → Option α) : Option α := if i < 0 ∨ n ≤ i.toNatClampNeg then none else f (xc_wr I a i.toNatClampNeg v)
def xc_mw {α : Type} (I : xc_M) (a k : Nat) (v : Int32) (f : xc_M → Option α) : Option α := f (xc_wr I a k v)
def xc_mz {α : Type} (I : xc_M) (a k : Nat) (v : Int32) (f : xc_M → Option α) : Option α := if v = 0 ∨ v = 1 then f (xc_wr I a k v) else none
def xc_dv {α : Type} (x y : Int32) (f : Int32 → Option α) : Option α := if y = 0 then none else f (x / y)
def xc_rem {α : Type} (x y : Int32) (f : Int32 → Option α) : Option α := if y = 0 then none else f (x - x / y * y)
def xc_cl {α : Type} (t : Option (Int32 × xc_M)) (f : Int32 → xc_M → Option α) : Option α := match t with
  | none => none
  | some q => f q.1 q.2
def xc_cr {α : Type} (t : Option Int32) (f : Int32 → Option α) : Option α := match t with
  | none => none
  | some r => f r
def xc_rb (x : Int32) (I : xc_M) : Option (Int32 × xc_M) := if x = 0 ∨ x = 1 then some (x, I) else none
def xc_ro (t : Option Int32) (I : xc_M) : Option (Int32 × xc_M) := match t with
  | none => none
  | some r => some (r, I)
def xc_lt {α : Type} (x : Int32) (f : Int32 → Option α) : Option α := f x
def xc_cv {α : Type} (t : Option (Int32 × xc_M)) (f : xc_M → Option α) : Option α := match t with
  | none => none
  | some q => f q.2
end
section
section
variable {X : xc_X} {C : xc_C} {A : Nat → Prop} {n nL : Nat} {ret : Option FieldType} {cc : ByteArray} {own : String} {t t1 t2 : Option (Int32 × xc_M)} {pc : Nat} {lv lv' : List (Nat × Value)} {st : List Value} {I : xc_M}

theorem xi_iadd (h : xc_Ok X C A n cc own nL ret) {x y : Int32} (hd : decode cc pc = .ok (.iadd, 1)) (k : xc_S X C A nL ret t (pc + 1) lv (.int (x + y) :: st) I) : xc_S X C A nL ret t pc lv (.int y :: .int x :: st) I := fun r J hr H locs ls hP hD hS hl => lv_iadd h.1 h.2.1 hd (k r J hr H locs ls hP hD hS hl)
theorem xi_isub (h : xc_Ok X C A n cc own nL ret) {x y : Int32} (hd : decode cc pc = .ok (.isub, 1)) (k : xc_S X C A nL ret t (pc + 1) lv (.int (x - y) :: st) I) : xc_S X C A nL ret t pc lv (.int y :: .int x :: st) I := fun r J hr H locs ls hP hD hS hl => lv_isub h.1 h.2.1 hd (k r J hr H locs ls hP hD hS hl)
theorem xi_imul (h : xc_Ok X C A n cc own nL ret) {x y : Int32} (hd : decode cc pc = .ok (.imul, 1)) (k : xc_S X C A nL ret t (pc + 1) lv (.int (x * y) :: st) I) : xc_S X C A nL ret t pc lv (.int y :: .int x :: st) I := fun r J hr H locs ls hP hD hS hl => lv_imul h.1 h.2.1 hd (k r J hr H locs ls hP hD hS hl)
theorem xi_iand (h : xc_Ok X C A n cc own nL ret) {x y : Int32} (hd : decode cc pc = .ok (.iand, 1)) (k : xc_S X C A nL ret t (pc + 1) lv (.int (x &&& y) :: st) I) : xc_S X C A nL ret t pc lv (.int y :: .int x :: st) I := fun r J hr H locs ls hP hD hS hl => lv_iand h.1 h.2.1 hd (k r J hr H locs ls hP hD hS hl)
theorem xi_ior (h : xc_Ok X C A n cc own nL ret) {x y : Int32} (hd : decode cc pc = .ok (.ior, 1)) (k : xc_S X C A nL ret t (pc + 1) lv (.int (x ||| y) :: st) I) : xc_S X C A nL ret t pc lv (.int y :: .int x :: st) I := fun r J hr H locs ls hP hD hS hl => lv_ior h.1 h.2.1 hd (k r J hr H locs ls hP hD hS hl)
theorem xi_ixor (h : xc_Ok X C A n cc own nL ret) {x y : Int32} (hd : decode cc pc = .ok (.ixor, 1)) (k : xc_S X C A nL ret t (pc + 1) lv (.int (x ^^^ y) :: st) I) : xc_S X C A nL ret t pc lv (.int y :: .int x :: st) I := fun r J hr H locs ls hP hD hS hl => lv_ixor h.1 h.2.1 hd (k r J hr H locs ls hP hD hS hl)
theorem xi_ishl (h : xc_Ok X C A n cc own nL ret) {x y : Int32} (hd : decode cc pc = .ok (.ishl, 1)) (k : xc_S X C A nL ret t (pc + 1) lv (.int (x <<< (y &&& 31)) :: st) I) : xc_S X C A nL ret t pc lv (.int y :: .int x :: st) I := fun r J hr H locs ls hP hD hS hl => lv_ishl h.1 h.2.1 hd (k r J hr H locs ls hP hD hS hl)
theorem xi_ishr (h : xc_Ok X C A n cc own nL ret) {x y : Int32} (hd : decode cc pc = .ok (.ishr, 1)) (k : xc_S X C A nL ret t (pc + 1) lv (.int (x >>> (y &&& 31)) :: st) I) : xc_S X C A nL ret t pc lv (.int y :: .int x :: st) I := fun r J hr H locs ls hP hD hS hl => lv_ishr h.1 h.2.1 hd (k r J hr H locs ls hP hD hS hl)
theorem xi_iushr (h : xc_Ok X C A n cc own nL ret) {x y : Int32} (hd : decode cc pc = .ok (.iushr, 1)) (k : xc_S X C A nL ret t (pc + 1) lv (.int ((x.toUInt32 >>> (y.toUInt32 &&& Int32.toUInt32 31)).toInt32) :: st) I) : xc_S X C A nL ret t pc lv (.int y :: .int x :: st) I := fun r J hr H locs ls hP hD hS hl => lv_iushr h.1 h.2.1 hd rfl (k r J hr H locs ls hP hD hS hl)
theorem xi_idiv (h : xc_Ok X C A n cc own nL ret) {x y : Int32} {f : Int32 → Option (Int32 × xc_M)} (hd : decode cc pc = .ok (.idiv, 1)) (k : ∀ v : Int32, xc_S X C A nL ret (f v) (pc + 1) lv (.int v :: st) I) : xc_S X C A nL ret (xc_dv x y f) pc lv (.int y :: .int x :: st) I := by
  intro r J hr
  unfold xc_dv at hr
  split at hr
  · cases hr
  · rename_i hy
    exact fun H locs ls hP hD hS hl => lv_idiv h.1 h.2.1 hd hy (k _ r J hr H locs ls hP hD hS hl)
theorem xi_irem (h : xc_Ok X C A n cc own nL ret) {x y : Int32} {f : Int32 → Option (Int32 × xc_M)} (hd : decode cc pc = .ok (.irem, 1)) (k : ∀ v : Int32, xc_S X C A nL ret (f v) (pc + 1) lv (.int v :: st) I) : xc_S X C A nL ret (xc_rem x y f) pc lv (.int y :: .int x :: st) I := by
  intro r J hr
  unfold xc_rem at hr
  split at hr
  · cases hr
  · rename_i hy
    exact fun H locs ls hP hD hS hl => lv_irem h.1 h.2.1 hd hy (k _ r J hr H locs ls hP hD hS hl)
theorem xi_iconst (h : xc_Ok X C A n cc own nL ret) {m : Int} {v : Int32} (hd : decode cc pc = .ok (.iconst m, 1)) (hv : Int32.ofInt m = v) (k : xc_S X C A nL ret t (pc + 1) lv (.int v :: st) I) : xc_S X C A nL ret t pc lv st I := fun r J hr H locs ls hP hD hS hl => lv_iconst h.1 h.2.1 hd hv (k r J hr H locs ls hP hD hS hl)
theorem xi_bipush (h : xc_Ok X C A n cc own nL ret) {m : Int} {v : Int32} (hd : decode cc pc = .ok (.bipush m, 2)) (hv : (Int8.ofInt m).toInt32 = v) (k : xc_S X C A nL ret t (pc + 2) lv (.int v :: st) I) : xc_S X C A nL ret t pc lv st I := fun r J hr H locs ls hP hD hS hl => lv_bipush h.1 h.2.1 hd hv (k r J hr H locs ls hP hD hS hl)
theorem xi_sipush (h : xc_Ok X C A n cc own nL ret) {m : Int} {v : Int32} (hd : decode cc pc = .ok (.sipush m, 3)) (hv : (Int16.ofInt m).toInt32 = v) (k : xc_S X C A nL ret t (pc + 3) lv (.int v :: st) I) : xc_S X C A nL ret t pc lv st I := fun r J hr H locs ls hP hD hS hl => lv_sipush h.1 h.2.1 hd hv (k r J hr H locs ls hP hD hS hl)
theorem xi_ldc (h : xc_Ok X C A n cc own nL ret) {ix : Nat} {v : Int32} (hd : decode cc pc = .ok (.ldc ix, 2)) (hw : Jvm.Cond.constant own ix v ∈ xc_T) (k : xc_S X C A nL ret t (pc + 2) lv (.int v :: st) I) : xc_S X C A nL ret t pc lv st I := fun r J hr H locs ls hP hD hS hl => lv_ldc h.1 h.2.1 h.2.2.2.1 (h.2.2.2.2.1 _ hw) hd (k r J hr H locs ls hP hD hS hl)
theorem xi_ldc_w (h : xc_Ok X C A n cc own nL ret) {ix : Nat} {v : Int32} (hd : decode cc pc = .ok (.ldc_w ix, 3)) (hw : Jvm.Cond.constant own ix v ∈ xc_T) (k : xc_S X C A nL ret t (pc + 3) lv (.int v :: st) I) : xc_S X C A nL ret t pc lv st I := fun r J hr H locs ls hP hD hS hl => lv_ldcw h.1 h.2.1 h.2.2.2.1 (h.2.2.2.2.1 _ hw) hd (k r J hr H locs ls hP hD hS hl)
theorem xi_iload_n (h : xc_Ok X C A n cc own nL ret) (p : Nat) {j : Fin 4} {i : Nat} {x : Int32} (hd : decode cc pc = .ok (.iload_n j, 1)) (hi : (j : Nat) = i) (hp : lv[p]? = some (i, .int x)) (k : xc_S X C A nL ret t (pc + 1) lv (.int x :: st) I) : xc_S X C A nL ret t pc lv st I := fun r J hr H locs ls hP hD hS hl => lv_iload_n h.1 h.2.1 hd hi (lv_at hl p hp) (k r J hr H locs ls hP hD hS hl)
theorem xi_iload (h : xc_Ok X C A n cc own nL ret) (p : Nat) {i : Nat} {x : Int32} (hd : decode cc pc = .ok (.iload i, 2)) (hp : lv[p]? = some (i, .int x)) (k : xc_S X C A nL ret t (pc + 2) lv (.int x :: st) I) : xc_S X C A nL ret t pc lv st I := fun r J hr H locs ls hP hD hS hl => lv_iload h.1 h.2.1 hd (lv_at hl p hp) (k r J hr H locs ls hP hD hS hl)
theorem xi_aload_n (h : xc_Ok X C A n cc own nL ret) (p : Nat) {j : Fin 4} {i : Nat} {x : Nat} (hd : decode cc pc = .ok (.aload_n j, 1)) (hi : (j : Nat) = i) (hp : lv[p]? = some (i, .ref x)) (k : xc_S X C A nL ret t (pc + 1) lv (.ref x :: st) I) : xc_S X C A nL ret t pc lv st I := fun r J hr H locs ls hP hD hS hl => lv_aload_n h.1 h.2.1 hd hi (lv_at hl p hp) (k r J hr H locs ls hP hD hS hl)
theorem xi_aload (h : xc_Ok X C A n cc own nL ret) (p : Nat) {i : Nat} {x : Nat} (hd : decode cc pc = .ok (.aload i, 2)) (hp : lv[p]? = some (i, .ref x)) (k : xc_S X C A nL ret t (pc + 2) lv (.ref x :: st) I) : xc_S X C A nL ret t pc lv st I := fun r J hr H locs ls hP hD hS hl => lv_aload h.1 h.2.1 hd (lv_at hl p hp) (k r J hr H locs ls hP hD hS hl)
def xc_ins (q : Nat × Value) : List (Nat × Value) → List (Nat × Value)
  | [] => [q]
  | p :: l => if q.1 < p.1 then q :: p :: l else p :: xc_ins q l
theorem xc_ins_mem {q p : Nat × Value} : ∀ {l : List (Nat × Value)}, p ∈ xc_ins q l → p ∈ q :: l
  | [], h => h
  | a :: l, h => by
    unfold xc_ins at h
    split at h
    · exact h
    · rcases List.mem_cons.mp h with rfl | h
      · simp
      · rcases List.mem_cons.mp (xc_ins_mem h) with rfl | h
        · simp
        · simp [h]
def xc_put (i : Nat) (v : Value) (lv : List (Nat × Value)) : List (Nat × Value) := xc_ins (i, v) (lv.filter (fun q => !(q.1 == i) && !(q.1 + 1 == i && q.2.category == 2)))
theorem xc_put_has {ls : Array Slot} {i : Nat} {v : Value} (hl : lv_has ls nL ((i, v) :: lv.filter (fun q => !(q.1 == i) && !(q.1 + 1 == i && q.2.category == 2)))) : lv_has ls nL (xc_put i v lv) := ⟨hl.1, hl.2.1, fun q hq => hl.2.2 q (xc_ins_mem hq)⟩
theorem xi_istore_n (h : xc_Ok X C A n cc own nL ret) {j : Fin 4} {i : Nat} {x : Int32} {f : Int32 → Option (Int32 × xc_M)} {lv2 : Int32 → List (Nat × Value)} (hd : decode cc pc = .ok (.istore_n j, 1)) (hi : (j : Nat) = i) (hn : i < nL) (hl2 : ∀ y : Int32, xc_put i (.int y) lv = lv2 y) (k : ∀ y : Int32, xc_S X C A nL ret (f y) (pc + 1) (lv2 y) st I) : xc_S X C A nL ret (xc_lt x f) pc lv (.int x :: st) I := fun r J hr H locs ls hP hD hS hl => lv_istore_n h.1 h.2.1 hd hi hl hn rfl (fun ls2 hl3 => k x r J hr H locs ls2 hP hD hS (by rw [← hl2]; exact xc_put_has hl3))
theorem xi_istore (h : xc_Ok X C A n cc own nL ret) {i : Nat} {x : Int32} {f : Int32 → Option (Int32 × xc_M)} {lv2 : Int32 → List (Nat × Value)} (hd : decode cc pc = .ok (.istore i, 2)) (hn : i < nL) (hl2 : ∀ y : Int32, xc_put i (.int y) lv = lv2 y) (k : ∀ y : Int32, xc_S X C A nL ret (f y) (pc + 2) (lv2 y) st I) : xc_S X C A nL ret (xc_lt x f) pc lv (.int x :: st) I := fun r J hr H locs ls hP hD hS hl => lv_istore h.1 h.2.1 hd hl hn rfl (fun ls2 hl3 => k x r J hr H locs ls2 hP hD hS (by rw [← hl2]; exact xc_put_has hl3))
theorem xi_iinc (h : xc_Ok X C A n cc own nL ret) (p : Nat) {i : Nat} {m : Int} {x v : Int32} {f : Int32 → Option (Int32 × xc_M)} {lv2 : Int32 → List (Nat × Value)} (hd : decode cc pc = .ok (.iinc i m, 3)) (hp : lv[p]? = some (i, .int x)) (hv : Int32.ofInt m = v) (hn : i < nL) (hl2 : ∀ y : Int32, xc_put i (.int y) lv = lv2 y) (k : ∀ y : Int32, xc_S X C A nL ret (f y) (pc + 3) (lv2 y) st I) : xc_S X C A nL ret (xc_lt (x + v) f) pc lv st I := fun r J hr H locs ls hP hD hS hl => lv_iinc (v := x + v) h.1 h.2.1 hd hl hp (by rw [hv]) hn rfl (fun ls2 hl3 => k _ r J hr H locs ls2 hP hD hS (by rw [← hl2]; exact xc_put_has hl3))
theorem xi_astore_n (h : xc_Ok X C A n cc own nL ret) {j : Fin 4} {i x : Nat} (hd : decode cc pc = .ok (.astore_n j, 1)) (hi : (j : Nat) = i) (hn : i < nL) (hl2 : xc_put i (.ref x) lv = lv') (k : xc_S X C A nL ret t (pc + 1) lv' st I) : xc_S X C A nL ret t pc lv (.ref x :: st) I := fun r J hr H locs ls hP hD hS hl => lv_astore_n h.1 h.2.1 hd hi hl hn rfl (fun ls2 hl3 => k r J hr H locs ls2 hP hD hS (by rw [← hl2]; exact xc_put_has hl3))
theorem xi_pop (h : xc_Ok X C A n cc own nL ret) {v : Value} (hd : decode cc pc = .ok (.pop, 1)) (hv : v.category = 1) (k : xc_S X C A nL ret t (pc + 1) lv st I) : xc_S X C A nL ret t pc lv (v :: st) I := fun r J hr H locs ls hP hD hS hl => lv_pop h.1 h.2.1 hd hv (k r J hr H locs ls hP hD hS hl)
theorem xi_dup (h : xc_Ok X C A n cc own nL ret) {v : Value} (hd : decode cc pc = .ok (.dup, 1)) (hv : v.category = 1) (k : xc_S X C A nL ret t (pc + 1) lv (v :: v :: st) I) : xc_S X C A nL ret t pc lv (v :: st) I := fun r J hr H locs ls hP hD hS hl => lv_dup h.1 h.2.1 hd hv (k r J hr H locs ls hP hD hS hl)
theorem xi_dup2 (h : xc_Ok X C A n cc own nL ret) {v w : Value} (hd : decode cc pc = .ok (.dup2, 1)) (hv : v.category = 1) (hw : w.category = 1) (k : xc_S X C A nL ret t (pc + 1) lv (v :: w :: v :: w :: st) I) : xc_S X C A nL ret t pc lv (v :: w :: st) I := fun r J hr H locs ls hP hD hS hl => lv_dup2_11 h.1 h.2.1 hd hv hw (k r J hr H locs ls hP hD hS hl)
theorem xi_i2b (h : xc_Ok X C A n cc own nL ret) {x : Int32} (hd : decode cc pc = .ok (.i2b, 1)) (k : xc_S X C A nL ret t (pc + 1) lv (.int x.toInt8.toInt32 :: st) I) : xc_S X C A nL ret t pc lv (.int x :: st) I := fun r J hr H locs ls hP hD hS hl => lv_i2b h.1 h.2.1 hd rfl (k r J hr H locs ls hP hD hS hl)
theorem xi_goto (h : xc_Ok X C A n cc own nL ret) {off : Int} {tgt : Nat} (hd : decode cc pc = .ok (.goto off, 3)) (ht : (pc : Int) + off = (tgt : Int)) (k : xc_S X C A nL ret t tgt lv st I) : xc_S X C A nL ret t pc lv st I := fun r J hr H locs ls hP hD hS hl => lv_goto h.1 h.2.1 hd ht (k r J hr H locs ls hP hD hS hl)
theorem xi_icmp_eq (h : xc_Ok X C A n cc own nL ret) {x y : Int32} {off : Int} {tgt : Nat} {ic : Decidable (x = y)} (hd : decode cc pc = .ok (.if_icmp .eq off, 3)) (ht : (pc : Int) + off = (tgt : Int)) (k1 : xc_S X C A nL ret t1 tgt lv st I) (k2 : xc_S X C A nL ret t2 (pc + 3) lv st I) : xc_S X C A nL ret (@ite _ (x = y) ic t1 t2) pc lv (.int y :: .int x :: st) I := fun r J hr H locs ls hP hD hS hl => lv_icmp_eq h.1 h.2.1 hd ht (fun q => k1 r J (by rw [if_pos q] at hr; exact hr) H locs ls hP hD hS hl) (fun q => k2 r J (by rw [if_neg q] at hr; exact hr) H locs ls hP hD hS hl)
theorem xi_if_eq (h : xc_Ok X C A n cc own nL ret) {x : Int32} {off : Int} {tgt : Nat} {ic : Decidable (x = 0)} (hd : decode cc pc = .ok (.ifCond .eq off, 3)) (ht : (pc : Int) + off = (tgt : Int)) (k1 : xc_S X C A nL ret t1 tgt lv st I) (k2 : xc_S X C A nL ret t2 (pc + 3) lv st I) : xc_S X C A nL ret (@ite _ (x = 0) ic t1 t2) pc lv (.int x :: st) I := fun r J hr H locs ls hP hD hS hl => lv_if_eq h.1 h.2.1 hd ht (fun q => k1 r J (by rw [if_pos q] at hr; exact hr) H locs ls hP hD hS hl) (fun q => k2 r J (by rw [if_neg q] at hr; exact hr) H locs ls hP hD hS hl)
theorem xi_icmp_ne (h : xc_Ok X C A n cc own nL ret) {x y : Int32} {off : Int} {tgt : Nat} {ic : Decidable (x ≠ y)} (hd : decode cc pc = .ok (.if_icmp .ne off, 3)) (ht : (pc : Int) + off = (tgt : Int)) (k1 : xc_S X C A nL ret t1 tgt lv st I) (k2 : xc_S X C A nL ret t2 (pc + 3) lv st I) : xc_S X C A nL ret (@ite _ (x ≠ y) ic t1 t2) pc lv (.int y :: .int x :: st) I := fun r J hr H locs ls hP hD hS hl => lv_icmp_ne h.1 h.2.1 hd ht (fun q => k1 r J (by rw [if_pos q] at hr; exact hr) H locs ls hP hD hS hl) (fun q => k2 r J (by rw [if_neg (fun z => z q)] at hr; exact hr) H locs ls hP hD hS hl)
theorem xi_if_ne (h : xc_Ok X C A n cc own nL ret) {x : Int32} {off : Int} {tgt : Nat} {ic : Decidable (x ≠ 0)} (hd : decode cc pc = .ok (.ifCond .ne off, 3)) (ht : (pc : Int) + off = (tgt : Int)) (k1 : xc_S X C A nL ret t1 tgt lv st I) (k2 : xc_S X C A nL ret t2 (pc + 3) lv st I) : xc_S X C A nL ret (@ite _ (x ≠ 0) ic t1 t2) pc lv (.int x :: st) I := fun r J hr H locs ls hP hD hS hl => lv_if_ne h.1 h.2.1 hd ht (fun q => k1 r J (by rw [if_pos q] at hr; exact hr) H locs ls hP hD hS hl) (fun q => k2 r J (by rw [if_neg (fun z => z q)] at hr; exact hr) H locs ls hP hD hS hl)
theorem xi_icmp_lt (h : xc_Ok X C A n cc own nL ret) {x y : Int32} {off : Int} {tgt : Nat} {ic : Decidable (x < y)} (hd : decode cc pc = .ok (.if_icmp .lt off, 3)) (ht : (pc : Int) + off = (tgt : Int)) (k1 : xc_S X C A nL ret t1 tgt lv st I) (k2 : xc_S X C A nL ret t2 (pc + 3) lv st I) : xc_S X C A nL ret (@ite _ (x < y) ic t1 t2) pc lv (.int y :: .int x :: st) I := fun r J hr H locs ls hP hD hS hl => lv_icmp_lt h.1 h.2.1 hd ht (fun q => k1 r J (by rw [if_pos q] at hr; exact hr) H locs ls hP hD hS hl) (fun q => k2 r J (by rw [if_neg q] at hr; exact hr) H locs ls hP hD hS hl)
theorem xi_if_lt (h : xc_Ok X C A n cc own nL ret) {x : Int32} {off : Int} {tgt : Nat} {ic : Decidable (x < 0)} (hd : decode cc pc = .ok (.ifCond .lt off, 3)) (ht : (pc : Int) + off = (tgt : Int)) (k1 : xc_S X C A nL ret t1 tgt lv st I) (k2 : xc_S X C A nL ret t2 (pc + 3) lv st I) : xc_S X C A nL ret (@ite _ (x < 0) ic t1 t2) pc lv (.int x :: st) I := fun r J hr H locs ls hP hD hS hl => lv_if_lt h.1 h.2.1 hd ht (fun q => k1 r J (by rw [if_pos q] at hr; exact hr) H locs ls hP hD hS hl) (fun q => k2 r J (by rw [if_neg q] at hr; exact hr) H locs ls hP hD hS hl)
theorem xi_icmp_le (h : xc_Ok X C A n cc own nL ret) {x y : Int32} {off : Int} {tgt : Nat} {ic : Decidable (x ≤ y)} (hd : decode cc pc = .ok (.if_icmp .le off, 3)) (ht : (pc : Int) + off = (tgt : Int)) (k1 : xc_S X C A nL ret t1 tgt lv st I) (k2 : xc_S X C A nL ret t2 (pc + 3) lv st I) : xc_S X C A nL ret (@ite _ (x ≤ y) ic t1 t2) pc lv (.int y :: .int x :: st) I := fun r J hr H locs ls hP hD hS hl => lv_icmp_le h.1 h.2.1 hd ht (fun q => k1 r J (by rw [if_pos q] at hr; exact hr) H locs ls hP hD hS hl) (fun q => k2 r J (by rw [if_neg q] at hr; exact hr) H locs ls hP hD hS hl)
theorem xi_if_le (h : xc_Ok X C A n cc own nL ret) {x : Int32} {off : Int} {tgt : Nat} {ic : Decidable (x ≤ 0)} (hd : decode cc pc = .ok (.ifCond .le off, 3)) (ht : (pc : Int) + off = (tgt : Int)) (k1 : xc_S X C A nL ret t1 tgt lv st I) (k2 : xc_S X C A nL ret t2 (pc + 3) lv st I) : xc_S X C A nL ret (@ite _ (x ≤ 0) ic t1 t2) pc lv (.int x :: st) I := fun r J hr H locs ls hP hD hS hl => lv_if_le h.1 h.2.1 hd ht (fun q => k1 r J (by rw [if_pos q] at hr; exact hr) H locs ls hP hD hS hl) (fun q => k2 r J (by rw [if_neg q] at hr; exact hr) H locs ls hP hD hS hl)
theorem xi_icmp_gt (h : xc_Ok X C A n cc own nL ret) {x y : Int32} {off : Int} {tgt : Nat} {ic : Decidable (y < x)} (hd : decode cc pc = .ok (.if_icmp .gt off, 3)) (ht : (pc : Int) + off = (tgt : Int)) (k1 : xc_S X C A nL ret t1 tgt lv st I) (k2 : xc_S X C A nL ret t2 (pc + 3) lv st I) : xc_S X C A nL ret (@ite _ (y < x) ic t1 t2) pc lv (.int y :: .int x :: st) I := fun r J hr H locs ls hP hD hS hl => lv_icmp_gt h.1 h.2.1 hd ht (fun q => k1 r J (by rw [if_pos q] at hr; exact hr) H locs ls hP hD hS hl) (fun q => k2 r J (by rw [if_neg q] at hr; exact hr) H locs ls hP hD hS hl)
theorem xi_if_gt (h : xc_Ok X C A n cc own nL ret) {x : Int32} {off : Int} {tgt : Nat} {ic : Decidable (0 < x)} (hd : decode cc pc = .ok (.ifCond .gt off, 3)) (ht : (pc : Int) + off = (tgt : Int)) (k1 : xc_S X C A nL ret t1 tgt lv st I) (k2 : xc_S X C A nL ret t2 (pc + 3) lv st I) : xc_S X C A nL ret (@ite _ (0 < x) ic t1 t2) pc lv (.int x :: st) I := fun r J hr H locs ls hP hD hS hl => lv_if_gt h.1 h.2.1 hd ht (fun q => k1 r J (by rw [if_pos q] at hr; exact hr) H locs ls hP hD hS hl) (fun q => k2 r J (by rw [if_neg q] at hr; exact hr) H locs ls hP hD hS hl)
theorem xi_icmp_ge (h : xc_Ok X C A n cc own nL ret) {x y : Int32} {off : Int} {tgt : Nat} {ic : Decidable (y ≤ x)} (hd : decode cc pc = .ok (.if_icmp .ge off, 3)) (ht : (pc : Int) + off = (tgt : Int)) (k1 : xc_S X C A nL ret t1 tgt lv st I) (k2 : xc_S X C A nL ret t2 (pc + 3) lv st I) : xc_S X C A nL ret (@ite _ (y ≤ x) ic t1 t2) pc lv (.int y :: .int x :: st) I := fun r J hr H locs ls hP hD hS hl => lv_icmp_ge h.1 h.2.1 hd ht (fun q => k1 r J (by rw [if_pos q] at hr; exact hr) H locs ls hP hD hS hl) (fun q => k2 r J (by rw [if_neg q] at hr; exact hr) H locs ls hP hD hS hl)
theorem xi_if_ge (h : xc_Ok X C A n cc own nL ret) {x : Int32} {off : Int} {tgt : Nat} {ic : Decidable (0 ≤ x)} (hd : decode cc pc = .ok (.ifCond .ge off, 3)) (ht : (pc : Int) + off = (tgt : Int)) (k1 : xc_S X C A nL ret t1 tgt lv st I) (k2 : xc_S X C A nL ret t2 (pc + 3) lv st I) : xc_S X C A nL ret (@ite _ (0 ≤ x) ic t1 t2) pc lv (.int x :: st) I := fun r J hr H locs ls hP hD hS hl => lv_if_ge h.1 h.2.1 hd ht (fun q => k1 r J (by rw [if_pos q] at hr; exact hr) H locs ls hP hD hS hl) (fun q => k2 r J (by rw [if_neg q] at hr; exact hr) H locs ls hP hD hS hl)
theorem xi_sub (ks : List Nat) (hl : lv_pick lv ks = lv') (k : xc_S X C A nL ret t pc lv' st I) : xc_S X C A nL ret t pc lv st I := fun r J hr H locs ls hP hD hS hl0 => k r J hr H locs ls hP hD hS (lv_sub hl0 ks hl)
theorem xi_none : xc_S X C A nL ret none pc lv st I := fun r J hr => by cases hr
theorem xi_iret (h : xc_Ok X C A n cc own nL (some .int)) {x : Int32} (hd : decode cc pc = .ok (.ireturn, 1)) : xc_S X C A nL (some .int) (some (x, I)) pc lv [.int x] I := by
  intro r J hr H locs ls hP hD hS hl
  cases hr
  exact W.iret h.1 h.2.1 h.2.2.2.2.2.2.1 (fun t ht hW => ⟨⟨x, I, rfl, ⟨rfl, rfl⟩, by rw [ht]; exact hP, va_K.moved hW.alike h.2.2.2.2.2.1, hD⟩, hS.F ht⟩) hS.2.2 hd h.2.2.2.2.2.2.2.1
theorem xi_zret (h : xc_Ok X C A n cc own nL (some .boolean)) {x : Int32} (hd : decode cc pc = .ok (.ireturn, 1)) : xc_S X C A nL (some .boolean) (xc_rb x I) pc lv [.int x] I := by
  intro r J hr H locs ls hP hD hS hl
  unfold xc_rb at hr
  split at hr
  · rename_i q
    cases hr
    exact W.zret h.1 h.2.1 h.2.2.2.2.2.2.1 (by rcases q with rfl | rfl <;> rfl) (fun t ht hW => ⟨⟨x, I, rfl, ⟨rfl, rfl⟩, by rw [ht]; exact hP, va_K.moved hW.alike h.2.2.2.2.2.1, hD⟩, hS.F ht⟩) hS.2.2 hd h.2.2.2.2.2.2.2.1
  · cases hr
theorem xi_vret (h : xc_Ok X C A n cc own nL none) (hd : decode cc pc = .ok (.return_, 1)) : xc_S X C A nL none (some (0, I)) pc lv [] I := by
  intro r J hr H locs ls hP hD hS hl
  cases hr
  exact W.vret h.1 h.2.1 h.2.2.2.2.2.2.1 (fun t ht hW => ⟨⟨I, rfl, rfl, by rw [ht]; exact hP, va_K.moved hW.alike h.2.2.2.2.2.1, hD⟩, hS.F ht⟩) hS.2.2 hd h.2.2.2.2.2.2.2.1
theorem xi_iald (h : xc_Ok X C A n cc own nL ret) {a m : Nat} {i : Int32} {f : Int32 → Option (Int32 × xc_M)} (hd : decode cc pc = .ok (.iaload, 1)) (hs : X.2.2.2.1[a]? = some (0, m)) (k : ∀ v : Int32, xc_S X C A nL ret (f v) (pc + 1) lv (.int v :: st) I) : xc_S X C A nL ret (xc_rd m a i I f) pc lv (.int i :: .ref (X.2.2.2.2.2 a) :: st) I := by
  intro r J hr
  unfold xc_rd at hr
  split at hr
  · cases hr
  · rename_i q
    exact fun H locs ls hP hD hS hl => va_iald h.1 h.2.1 h.2.2.2.2.2.1 hP a 0 (xc_at I hs) rfl q hd (k _ r J hr H locs ls hP hD hS hl)
theorem xi_bald (h : xc_Ok X C A n cc own nL ret) {a m : Nat} {i : Int32} {f : Int32 → Option (Int32 × xc_M)} (hd : decode cc pc = .ok (.baload, 1)) (hs : X.2.2.2.1[a]? = some (1, m)) (k : ∀ v : Int32, xc_S X C A nL ret (f v) (pc + 1) lv (.int v :: st) I) : xc_S X C A nL ret (xc_rd m a i I f) pc lv (.int i :: .ref (X.2.2.2.2.2 a) :: st) I := by
  intro r J hr
  unfold xc_rd at hr
  split at hr
  · cases hr
  · rename_i q
    exact fun H locs ls hP hD hS hl => va_bald h.1 h.2.1 h.2.2.2.2.2.1 hP a 1 (xc_at I hs) rfl q hd (k _ r J hr H locs ls hP hD hS hl)
theorem xi_iast (h : xc_Ok X C A n cc own nL ret) {a m : Nat} {i v : Int32} {f : xc_M → Option (Int32 × xc_M)} (hd : decode cc pc = .ok (.iastore, 1)) (hs : X.2.2.2.1[a]? = some (0, m)) (k : ∀ J : xc_M, xc_S X C A nL ret (f J) (pc + 1) lv st J) : xc_S X C A nL ret (xc_st m a i v I f) pc lv (.int v :: .int i :: .ref (X.2.2.2.2.2 a) :: st) I := by
  intro r J hr
  unfold xc_st at hr
  split at hr
  · cases hr
  · rename_i q
    intro H locs ls hP hD hS hl
    refine va_iast h.1 h.2.1 h.2.2.2.2.2.1 hP hD hS a 0 (xc_at I hs) rfl q hd (fun H1 locs1 hP1 hD1 hS1 => ?_)
    rw [xc_set (k := i.toNatClampNeg) (v := v) hs (by simp only [xc_ent, xc_wr_arr])] at hP1 hD1
    exact k _ r J hr H1 locs1 ls hP1 hD1 hS1 hl
theorem xi_bast (h : xc_Ok X C A n cc own nL ret) {a m : Nat} {i v : Int32} {f : xc_M → Option (Int32 × xc_M)} (hd : decode cc pc = .ok (.bastore, 1)) (hs : X.2.2.2.1[a]? = some (1, m)) (k : ∀ J : xc_M, xc_S X C A nL ret (f J) (pc + 1) lv st J) : xc_S X C A nL ret (xc_st m a i (vp_nar .byte v) I f) pc lv (.int v :: .int i :: .ref (X.2.2.2.2.2 a) :: st) I := by
  intro r J hr
  unfold xc_st at hr
  split at hr
  · cases hr
  · rename_i q
    intro H locs ls hP hD hS hl
    refine va_bast h.1 h.2.1 h.2.2.2.2.2.1 hP hD hS a 1 (xc_at I hs) rfl q hd (fun H1 locs1 hP1 hD1 hS1 => ?_)
    rw [xc_set (k := i.toNatClampNeg) (v := vp_nar .byte v) hs (by simp only [xc_ent, xc_wr_arr])] at hP1 hD1
    exact k _ r J hr H1 locs1 ls hP1 hD1 hS1 hl
theorem xi_alen (h : xc_Ok X C A n cc own nL ret) {a m : Nat} {v : Int32} (hd : decode cc pc = .ok (.arraylength, 1)) (hs : X.2.2.2.1[a]? = some (0, m)) (hv : Int32.ofNat m = v) (k : xc_S X C A nL ret t (pc + 1) lv (.int v :: st) I) : xc_S X C A nL ret t pc lv (.ref (X.2.2.2.2.2 a) :: st) I := fun r J hr H locs ls hP hD hS hl => va_alen h.1 h.2.1 h.2.2.2.2.2.1 hP a 0 (xc_at I hs) rfl hv hd (k r J hr H locs ls hP hD hS hl)
/-- a class of the table: its number, its name, its fields -/
def xc_Kl (c : Nat) (R : String) (T : u_T) (N : Nat) (ty : Nat → FieldType) : Prop := vwCl[c]? = some (R, T, N) ∧ (∀ w ∈ u_ws R T N, w ∈ xc_T) ∧ (∀ k, k < N → parseFieldDescriptor (T k).2.2.1 = some (ty k)) ∧ (∀ a, a < N → ∀ b, b < N → a ≠ b → (T a).2.1 ≠ (T b).2.1) ∧ xc_nf c = N ∧ ∀ k, k < N → (T k).1 = R
theorem xi_getI (h : xc_Ok X C A n cc own nL ret) {c a j u ix N : Nat} {R : String} {T : u_T} {ty : Nat → FieldType} (hK : xc_Kl c R T N ty) (hd : decode cc pc = .ok (.getfield ix, 3)) (hw : Cond.fieldLink own ix R (T j).2.1 (T j).2.2.1 ∈ xc_T) (hj : j < N) (hr : xc_rf c j = false) (hs : X.2.2.2.1[a]? = some (c + 3, u)) (k : xc_S X C A nL ret t (pc + 3) lv (.int (I a j) :: st) I) : xc_S X C A nL ret t pc lv (.ref (X.2.2.2.2.2 a) :: st) I := fun r J hr2 H locs ls hP hD hS hl => va_get h.1 h.2.1 h.2.2.2.2.1 hK.2.1 h.2.2.2.1 h.2.2.2.2.2.1 hP a (xc_at I hs) hK.1 j hj (h.2.2.2.2.1 _ hw) (by rw [hK.2.2.2.2.2 j hj]; exact fun _ q => q) (by simp [xc_fs, hK.2.2.2.2.1, hj, xc_fv, hr]) hd (k r J hr2 H locs ls hP hD hS hl)
theorem xi_getR (h : xc_Ok X C A n cc own nL ret) {c a b j u ix N : Nat} {R : String} {T : u_T} {ty : Nat → FieldType} (hK : xc_Kl c R T N ty) (hd : decode cc pc = .ok (.getfield ix, 3)) (hw : Cond.fieldLink own ix R (T j).2.1 (T j).2.2.1 ∈ xc_T) (hj : j < N) (hr : xc_rf c j = true) (hs : X.2.2.2.1[a]? = some (c + 3, u)) (hp : X.2.2.2.2.1 a j = some b) (k : xc_S X C A nL ret t (pc + 3) lv (.ref (X.2.2.2.2.2 b) :: st) I) : xc_S X C A nL ret t pc lv (.ref (X.2.2.2.2.2 a) :: st) I := fun r J hr2 H locs ls hP hD hS hl => va_get h.1 h.2.1 h.2.2.2.2.1 hK.2.1 h.2.2.2.1 h.2.2.2.2.2.1 hP a (xc_at I hs) hK.1 j hj (h.2.2.2.2.1 _ hw) (by rw [hK.2.2.2.2.2 j hj]; exact fun _ q => q) (by simp [xc_fs, hK.2.2.2.2.1, hj, xc_fv, hr, hp]) hd (k r J hr2 H locs ls hP hD hS hl)
theorem xi_putI (h : xc_Ok X C A n cc own nL ret) {c a j u ix N : Nat} {R : String} {T : u_T} {ty : Nat → FieldType} {x : Int32} {f : xc_M → Option (Int32 × xc_M)} (hK : xc_Kl c R T N ty) (hd : decode cc pc = .ok (.putfield ix, 3)) (hw : Cond.fieldLink own ix R (T j).2.1 (T j).2.2.1 ∈ xc_T) (hj : j < N) (hr : xc_rf c j = false) (hfin : (T j).2.2.2 = false) (hty : ty j = .int) (hs : X.2.2.2.1[a]? = some (c + 3, u)) (k : ∀ J : xc_M, xc_S X C A nL ret (f J) (pc + 3) lv st J) : xc_S X C A nL ret (xc_mw I a j x f) pc lv (.int x :: .ref (X.2.2.2.2.2 a) :: st) I := by
  intro r J hr2 H locs ls hP hD hS hl
  refine va_put h.1 h.2.1 h.2.2.2.2.1 hK.2.1 ty hK.2.2.1 hK.2.2.2.1 h.2.2.2.1 h.2.2.2.2.2.1 hP hD hS a (xc_at I hs) hK.1 j hj (h.2.2.2.2.1 _ hw) (by rw [hK.2.2.2.2.2 j hj]; exact fun _ q => q) hfin (ty := .int) (by rw [← hty]; exact hK.2.2.1 j hj) rfl rfl (by simp [xc_fs, hK.2.2.2.2.1, hj]) hd (fun H1 locs1 hP1 hD1 hS1 => ?_)
  rw [xc_wr_fs hr, xc_set (I := I) (k := j) (v := x) (e := .inr (c, xc_fs X (xc_wr I a j x) c a)) hs rfl] at hP1 hD1
  exact k _ r J hr2 H1 locs1 ls hP1 hD1 hS1 hl
theorem xi_putZ (h : xc_Ok X C A n cc own nL ret) {c a j u ix N : Nat} {R : String} {T : u_T} {ty : Nat → FieldType} {x : Int32} {f : xc_M → Option (Int32 × xc_M)} (hK : xc_Kl c R T N ty) (hd : decode cc pc = .ok (.putfield ix, 3)) (hw : Cond.fieldLink own ix R (T j).2.1 (T j).2.2.1 ∈ xc_T) (hj : j < N) (hr : xc_rf c j = false) (hfin : (T j).2.2.2 = false) (hty : ty j = .boolean) (hs : X.2.2.2.1[a]? = some (c + 3, u)) (k : ∀ J : xc_M, xc_S X C A nL ret (f J) (pc + 3) lv st J) : xc_S X C A nL ret (xc_mz I a j x f) pc lv (.int x :: .ref (X.2.2.2.2.2 a) :: st) I := by
  intro r J hr2
  unfold xc_mz at hr2
  split at hr2
  · rename_i q
    intro H locs ls hP hD hS hl
    refine va_put h.1 h.2.1 h.2.2.2.2.1 hK.2.1 ty hK.2.2.1 hK.2.2.2.1 h.2.2.2.1 h.2.2.2.2.2.1 hP hD hS a (xc_at I hs) hK.1 j hj (h.2.2.2.2.1 _ hw) (by rw [hK.2.2.2.2.2 j hj]; exact fun _ q => q) hfin (ty := .boolean) (by rw [← hty]; exact hK.2.2.1 j hj) (by rcases q with rfl | rfl <;> rfl) (by rcases q with rfl | rfl <;> rfl) (by simp [xc_fs, hK.2.2.2.2.1, hj]) hd (fun H1 locs1 hP1 hD1 hS1 => ?_)
    rw [xc_wr_fs hr, xc_set (I := I) (k := j) (v := x) (e := .inr (c, xc_fs X (xc_wr I a j x) c a)) hs rfl] at hP1 hD1
    exact k _ r J hr2 H1 locs1 ls hP1 hD1 hS1 hl
  · cases hr2
/-- a method's contract out of the walk of its body -/
theorem xc_Cf.of {y : MethodName} {av : List Value} (hy : plainName y.cls = true) (hlen : (lg_sl av).length ≤ nL) (body : ∀ (C : xc_C) (A : Nat → Prop), xc_Ok X C A n cc y.cls nL ret → xc_S X C A nL ret t 0 (lv_args 0 av) [] I) : xc_Cf X n y cc nL ret av I t := by
  intro r J hr sz
  refine Met.ofW (cc := cc) (maxL := nL) (ret := ret) hy rfl ?_
  intro p e s m args below meth c s₁ B hml hv
  obtain ⟨rfl, hsz, hP, hK, hD0⟩ := hv
  subst hsz
  have hts := atoms_spec (ws := Cond.code y cc nL ret :: xc_T) B.pre
  have hD := hD0.self (sz := s.heap.size)
  have hl := lv_entry av (n := nL) hlen
  rw [lg_entry_eq]
  exact body (p, e, (headSpec (Cond.code y cc nL ret :: xc_T) (xc_rm n)).room, s, m, av.toArray, below, meth, c) (va_A (xc_ws X I) s.heap.size) ⟨B.exec, B.bytes, hml, findClass_of_methodNamed B.named, fun w hw => hts w (List.mem_cons_of_mem _ hw), hK, B.returns, B.notSynchronized, rfl, fun q hq => Or.inr hq⟩ r J hr s.heap [] _ hP hD va_S.rf hl
/-- the facts of a method that is called -/
def xc_Md (y : MethodName) (cc : ByteArray) (maxL : Nat) (ret : Option FieldType) (np : Nat) : Prop := Cond.code y cc maxL ret ∈ xc_T ∧ Cond.initialized y.cls ∈ xc_T ∧ (y.cls ≠ "java/lang/invoke/MethodHandle" ∧ y.cls ≠ "java/lang/invoke/VarHandle" ∧ (parseMethodDescriptor y.desc).map (fun d => d.parameters.length) = some np) ∧ maxL ≤ 45
theorem xc_words {y : MethodName} {cc : ByteArray} {maxL np : Nat} {ret : Option FieldType} (md : xc_Md y cc maxL ret np) : GoodIn xc_T (Cond.code y cc maxL ret :: xc_T) := xc_goodIn (fun w hw => by
  rcases List.mem_cons.mp hw with rfl | hw
  · exact md.1
  · exact hw)
theorem xc_callB {C : xc_C} {y : MethodName} {cc' : ByteArray} {maxL' n' np ix : Nat} {ret' : Option FieldType} (h : xc_Ok X C A n cc own nL ret) (md : xc_Md y cc' maxL' ret' np) (hl : Cond.methodLink own ix y ∈ xc_T) (hn : n' < n) : CallB C.2.2.1 C.2.2.2.1 C.2.2.2.2.2.1 own ix y cc' maxL' ret' (Cond.code y cc' maxL' ret' :: xc_T) (xc_rm n') 0 0 np := by
  refine callB_of np h.2.2.2.2.1 (xc_words md) rfl rfl rfl (h.2.2.2.2.1 _ md.2.1) (h.2.2.2.2.1 _ hl) md.2.2.1 ?_
  have e := h.2.2.2.2.2.2.2.2.1
  rw [e]
  have := md.2.2.2
  constructor
  · show n' + 1 + 1 ≤ n + 1
    omega
  · show 8 + (maxL' + 11) + 64 * (n' + 1) ≤ 64 * (n + 1)
    omega
def xc_top (ret : Option FieldType) (r : Int32) (st : List Value) : List Value := match ret with
  | none => st
  | some _ => .int r :: st
theorem xc_goes {C : xc_C} {A : Nat → Prop} (h : xc_Ok X C A n cc own nL ret) {n' : Nat} {y : MethodName} {st0 : List Value} {ret' : Option FieldType} {r : Int32} {J : xc_M} {ar : Array Value} {H : Heap} {locs : List Loc} {ls : Array Slot} {Q : State → Prop} {lv : List (Nat × Value)}
    (hr : va_Run C.1 X.1 C.2.1 C.2.2.1 C.2.2.2.1 C.2.2.2.2.1 C.2.2.2.2.2.1 C.2.2.2.2.2.2.1 C.2.2.2.2.2.2.2.1 C.2.2.2.2.2.2.2.2 H locs 0 0 0 0 (F0 C.2.2.2.2.1 pc ls st0) st (xc_Q X (va_A (xc_ws X I) H.size) ret' r J ar) (va_A (xc_ws X I) H.size))
    (hD : va_D A (xc_ws X I)) (hS : va_S A C.2.2.2.1.heap H locs)
    (k : ∀ (H1 : Heap) (locs1 : List Loc), va_P X.2.1 vwCl (xc_ws X J) H1 → va_D A (xc_ws X J) → va_S A C.2.2.2.1.heap H1 locs1 → xc_W X C H1 locs1 Q (F0 C.2.2.2.2.1 (pc + 3) ls (xc_top ret' r st))) : xc_W X C H locs Q (F0 C.2.2.2.2.1 pc ls st0) := by
  have hf : ∀ q, va_A (xc_ws X I) H.size q → A q := fun q hq => by
    rcases hq with ⟨i, e, hq⟩ | hq
    · exact hD.2 i _ hq
    · exact h.2.2.2.2.2.2.2.2.2 q (Nat.le_trans hS.1 hq)
  cases ret' with
  | none =>
    refine va_callv (a := ar) hr hS (fun q _ hq => hf q hq) hf (fun u t3 H1 locs1 ht hvm hw hB hz1 hk1 hS1 => ?_)
    subst hw
    exact k H1 locs1 (by rw [← ht]; exact hB.1) (hB.2.2.weaken (fun _ q _ hq => hf q.1 hq)) hS1
  | some rt =>
    refine va_calli (a := ar) hr hS (fun q _ hq => hf q hq) hf (fun r2 u t3 H1 locs1 ht hvm hw hB hz1 hk1 hS1 => ?_)
    obtain ⟨rfl, rfl⟩ := hw
    exact k H1 locs1 (by rw [← ht]; exact hB.1) (hB.2.2.weaken (fun _ q _ hq => hf q.1 hq)) hS1
theorem xc_preB (h : xc_Ok X C A n cc own nL ret) {av : List Value} {H : Heap} (hP : va_P X.2.1 vwCl (xc_ws X I) H) (hD : va_D A (xc_ws X I)) : PreS C.2.2.2.1 H (va_Pc av (fun U => U.heap.size = H.size ∧ va_P X.2.1 vwCl (xc_ws X I) U.heap ∧ va_K X.2.1 vwCl (xc_ty X) U ∧ va_D (fun _ => True) (xc_ws X I))) av := ⟨fun a U g mk q => by obtain ⟨q0, q1, qP, qK, qD⟩ := q; exact ⟨q0, q1, qP, va_K.moved (u := U) (U := U.calling g mk a) (Vm.Alike.refl U.vm) qK, qD⟩, fun U hU hW => ⟨rfl, by rw [hU], by rw [hU]; exact hP, va_K.moved hW.alike h.2.2.2.2.2.1, hD.weaken (fun _ _ _ _ => trivial)⟩⟩
theorem xc_runV {n' np ix a ci u maxL' N : Nat} {R : String} {T : u_T} {y : MethodName} {cc' : ByteArray} {ret' : Option FieldType} {av : List Value} {t3 : Option (Int32 × xc_M)} {st0 : List Value} {r : Int32} {J : xc_M} {H : Heap} {locs : List Loc} {ls : Array Slot} (h : xc_Ok X C A n cc own nL ret) (hd : decode cc pc = .ok (.invokevirtual ix, 3)) (md : xc_Md y cc' maxL' ret' np) (hi : Cond.instanceMethod y ∈ xc_T) (hse : Cond.selects y.cls y y ∈ xc_T) (hl : Cond.methodLink own ix y ∈ xc_T) (hn : n' < n) (hs : X.2.2.2.1[a]? = some (ci + 3, u)) (hc : vwCl[ci]? = some (R, T, N)) (hR : R = y.cls) (hav : av.length = np) (hst : st0 = av.reverse ++ .ref (X.2.2.2.2.2 a) :: st) (hcat : (st.map fun v => v.category).sum ≤ 8) (cf : xc_Cf X n' y cc' maxL' ret' (.ref (X.2.2.2.2.2 a) :: av) I t3) (ht3 : t3 = some (r, J)) (hP : va_P X.2.1 vwCl (xc_ws X I) H) (hD : va_D A (xc_ws X I)) (hls : ls.size = nL) : va_Run C.1 X.1 C.2.1 C.2.2.1 C.2.2.2.1 C.2.2.2.2.1 C.2.2.2.2.2.1 C.2.2.2.2.2.2.1 C.2.2.2.2.2.2.2.1 C.2.2.2.2.2.2.2.2 H locs 0 0 0 0 (F0 C.2.2.2.2.1 pc ls st0) st (xc_Q X (va_A (xc_ws X I) H.size) ret' r J (Value.ref (X.2.2.2.2.2 a) :: av).toArray) (va_A (xc_ws X I) H.size) := by
  have hB := xc_preB h hP hD (av := .ref (X.2.2.2.2.2 a) :: av)
  refine va_runV ⟨h.1, h.2.1, h.2.2.1, h.2.2.2.1, h.2.2.2.2.1⟩ (cf r J ht3 H.size) ⟨xc_callB h md hl hn, h.2.2.2.2.1 _ hi, h.2.2.2.2.1 _ hse⟩ ⟨hB.1, ?_, hB.2⟩ rfl hav hls hst (lv_room hcat) hd ⟨by rw [h.2.2.2.2.2.2.2.2.1]; exact Nat.le_refl 0, by rw [h.2.2.2.2.2.2.2.2.1]; exact Nat.le_refl 0⟩
  have hrc := va_recv h.2.2.2.2.2.1 hP hc (xc_at I hs)
  rw [← hR]
  exact hrc
theorem xc_runS {n' np ix maxL' : Nat} {y : MethodName} {cc' : ByteArray} {ret' : Option FieldType} {av : List Value} {t3 : Option (Int32 × xc_M)} {st0 : List Value} {r : Int32} {J : xc_M} {H : Heap} {locs : List Loc} {ls : Array Slot} (h : xc_Ok X C A n cc own nL ret) (hd : decode cc pc = .ok (.invokestatic ix, 3)) (md : xc_Md y cc' maxL' ret' np) (hi : Cond.static y ∈ xc_T) (hl : Cond.methodLink own ix y ∈ xc_T) (hn : n' < n) (hav : av.length = np) (hst : st0 = av.reverse ++ st) (hcat : (st.map fun v => v.category).sum ≤ 8) (cf : xc_Cf X n' y cc' maxL' ret' av I t3) (ht3 : t3 = some (r, J)) (hP : va_P X.2.1 vwCl (xc_ws X I) H) (hD : va_D A (xc_ws X I)) (hls : ls.size = nL) : va_Run C.1 X.1 C.2.1 C.2.2.1 C.2.2.2.1 C.2.2.2.2.1 C.2.2.2.2.2.1 C.2.2.2.2.2.2.1 C.2.2.2.2.2.2.2.1 C.2.2.2.2.2.2.2.2 H locs 0 0 0 0 (F0 C.2.2.2.2.1 pc ls st0) st (xc_Q X (va_A (xc_ws X I) H.size) ret' r J av.toArray) (va_A (xc_ws X I) H.size) :=
  va_runS ⟨h.1, h.2.1, h.2.2.1, h.2.2.2.1, h.2.2.2.2.1⟩ (cf r J ht3 H.size) ⟨xc_callB h md hl hn, h.2.2.2.2.1 _ hi⟩ (xc_preB h hP hD) rfl hav hls hst (lv_room hcat) hd ⟨by rw [h.2.2.2.2.2.2.2.2.1]; exact Nat.le_refl 0, by rw [h.2.2.2.2.2.2.2.2.1]; exact Nat.le_refl 0⟩
theorem xi_callV (h : xc_Ok X C A n cc own nL ret) {n' np ix a ci u maxL' N : Nat} {R : String} {T : u_T} {y : MethodName} {cc' : ByteArray} {av : List Value} {st0 : List Value} {rt : FieldType} {t3 : Option (Int32 × xc_M)} {f : Int32 → xc_M → Option (Int32 × xc_M)} (hd : decode cc pc = .ok (.invokevirtual ix, 3)) (md : xc_Md y cc' maxL' (some rt) np) (hi : Cond.instanceMethod y ∈ xc_T) (hse : Cond.selects y.cls y y ∈ xc_T) (hlk : Cond.methodLink own ix y ∈ xc_T) (hn : n' < n) (hs : X.2.2.2.1[a]? = some (ci + 3, u)) (hc : vwCl[ci]? = some (R, T, N)) (hR : R = y.cls) (hav : av.length = np) (hst : st0 = av.reverse ++ .ref (X.2.2.2.2.2 a) :: st) (hcat : (st.map fun v => v.category).sum ≤ 8) (cf : xc_Cf X n' y cc' maxL' (some rt) (.ref (X.2.2.2.2.2 a) :: av) I t3) (k : ∀ (v : Int32) (J : xc_M), xc_S X C A nL ret (f v J) (pc + 3) lv (.int v :: st) J) : xc_S X C A nL ret (xc_cl t3 f) pc lv st0 I := by
  intro r J hr
  cases ht3 : t3 with
  | none => rw [ht3] at hr; cases hr
  | some q =>
    rw [ht3] at hr
    intro H locs ls hP hD hS hl
    exact xc_goes (ret' := some rt) (y := y) (lv := lv) (n' := n') h (xc_runV h hd md hi hse hlk hn hs hc hR hav hst hcat cf (by rw [ht3]) hP hD hl.1) hD hS (fun H1 locs1 hP1 hD1 hS1 => k q.1 q.2 r J hr H1 locs1 ls hP1 hD1 hS1 hl)
theorem xi_askV (h : xc_Ok X C A n cc own nL ret) {n' np ix a ci u maxL' N : Nat} {R : String} {T : u_T} {y : MethodName} {cc' : ByteArray} {av : List Value} {st0 : List Value} {rt : FieldType} {t3 : Option Int32} {f : Int32 → Option (Int32 × xc_M)} (hd : decode cc pc = .ok (.invokevirtual ix, 3)) (md : xc_Md y cc' maxL' (some rt) np) (hi : Cond.instanceMethod y ∈ xc_T) (hse : Cond.selects y.cls y y ∈ xc_T) (hlk : Cond.methodLink own ix y ∈ xc_T) (hn : n' < n) (hs : X.2.2.2.1[a]? = some (ci + 3, u)) (hc : vwCl[ci]? = some (R, T, N)) (hR : R = y.cls) (hav : av.length = np) (hst : st0 = av.reverse ++ .ref (X.2.2.2.2.2 a) :: st) (hcat : (st.map fun v => v.category).sum ≤ 8) (cf : xc_Cf X n' y cc' maxL' (some rt) (.ref (X.2.2.2.2.2 a) :: av) I (xc_ro t3 I)) (k : ∀ v : Int32, xc_S X C A nL ret (f v) (pc + 3) lv (.int v :: st) I) : xc_S X C A nL ret (xc_cr t3 f) pc lv st0 I := by
  intro r J hr
  cases ht3 : t3 with
  | none => rw [ht3] at hr; cases hr
  | some q =>
    rw [ht3] at hr
    intro H locs ls hP hD hS hl
    exact xc_goes (ret' := some rt) (y := y) (lv := lv) (n' := n') h (xc_runV h hd md hi hse hlk hn hs hc hR hav hst hcat cf (r := q) (J := I) (by rw [ht3]; rfl) hP hD hl.1) hD hS (fun H1 locs1 hP1 hD1 hS1 => k q r J hr H1 locs1 ls hP1 hD1 hS1 hl)
theorem xi_doV (h : xc_Ok X C A n cc own nL ret) {n' np ix a ci u maxL' N : Nat} {R : String} {T : u_T} {y : MethodName} {cc' : ByteArray} {av : List Value} {st0 : List Value} {t3 : Option (Int32 × xc_M)} {f : xc_M → Option (Int32 × xc_M)} (hd : decode cc pc = .ok (.invokevirtual ix, 3)) (md : xc_Md y cc' maxL' none np) (hi : Cond.instanceMethod y ∈ xc_T) (hse : Cond.selects y.cls y y ∈ xc_T) (hlk : Cond.methodLink own ix y ∈ xc_T) (hn : n' < n) (hs : X.2.2.2.1[a]? = some (ci + 3, u)) (hc : vwCl[ci]? = some (R, T, N)) (hR : R = y.cls) (hav : av.length = np) (hst : st0 = av.reverse ++ .ref (X.2.2.2.2.2 a) :: st) (hcat : (st.map fun v => v.category).sum ≤ 8) (cf : xc_Cf X n' y cc' maxL' none (.ref (X.2.2.2.2.2 a) :: av) I t3) (k : ∀ J : xc_M, xc_S X C A nL ret (f J) (pc + 3) lv st J) : xc_S X C A nL ret (xc_cv t3 f) pc lv st0 I := by
  intro r J hr
  cases ht3 : t3 with
  | none => rw [ht3] at hr; cases hr
  | some q =>
    rw [ht3] at hr
    intro H locs ls hP hD hS hl
    exact xc_goes (ret' := none) (y := y) (lv := lv) (n' := n') h (xc_runV h hd md hi hse hlk hn hs hc hR hav hst hcat cf (r := q.1) (J := q.2) (by rw [ht3]) hP hD hl.1) hD hS (fun H1 locs1 hP1 hD1 hS1 => k q.2 r J hr H1 locs1 ls hP1 hD1 hS1 hl)
theorem xi_callS (h : xc_Ok X C A n cc own nL ret) {n' np ix maxL' : Nat} {y : MethodName} {cc' : ByteArray} {av : List Value} {st0 : List Value} {rt : FieldType} {t3 : Option (Int32 × xc_M)} {f : Int32 → xc_M → Option (Int32 × xc_M)} (hd : decode cc pc = .ok (.invokestatic ix, 3)) (md : xc_Md y cc' maxL' (some rt) np) (hi : Cond.static y ∈ xc_T) (hlk : Cond.methodLink own ix y ∈ xc_T) (hn : n' < n) (hav : av.length = np) (hst : st0 = av.reverse ++ st) (hcat : (st.map fun v => v.category).sum ≤ 8) (cf : xc_Cf X n' y cc' maxL' (some rt) av I t3) (k : ∀ (v : Int32) (J : xc_M), xc_S X C A nL ret (f v J) (pc + 3) lv (.int v :: st) J) : xc_S X C A nL ret (xc_cl t3 f) pc lv st0 I := by
  intro r J hr
  cases ht3 : t3 with
  | none => rw [ht3] at hr; cases hr
  | some q =>
    rw [ht3] at hr
    intro H locs ls hP hD hS hl
    exact xc_goes (ret' := some rt) (y := y) (lv := lv) (n' := n') h (xc_runS h hd md hi hlk hn hav hst hcat cf (by rw [ht3]) hP hD hl.1) hD hS (fun H1 locs1 hP1 hD1 hS1 => k q.1 q.2 r J hr H1 locs1 ls hP1 hD1 hS1 hl)
theorem xi_askS (h : xc_Ok X C A n cc own nL ret) {n' np ix maxL' : Nat} {y : MethodName} {cc' : ByteArray} {av : List Value} {st0 : List Value} {rt : FieldType} {t3 : Option Int32} {f : Int32 → Option (Int32 × xc_M)} (hd : decode cc pc = .ok (.invokestatic ix, 3)) (md : xc_Md y cc' maxL' (some rt) np) (hi : Cond.static y ∈ xc_T) (hlk : Cond.methodLink own ix y ∈ xc_T) (hn : n' < n) (hav : av.length = np) (hst : st0 = av.reverse ++ st) (hcat : (st.map fun v => v.category).sum ≤ 8) (cf : xc_Cf X n' y cc' maxL' (some rt) av I (xc_ro t3 I)) (k : ∀ v : Int32, xc_S X C A nL ret (f v) (pc + 3) lv (.int v :: st) I) : xc_S X C A nL ret (xc_cr t3 f) pc lv st0 I := by
  intro r J hr
  cases ht3 : t3 with
  | none => rw [ht3] at hr; cases hr
  | some q =>
    rw [ht3] at hr
    intro H locs ls hP hD hS hl
    exact xc_goes (ret' := some rt) (y := y) (lv := lv) (n' := n') h (xc_runS h hd md hi hlk hn hav hst hcat cf (r := q) (J := I) (by rw [ht3]; rfl) hP hD hl.1) hD hS (fun H1 locs1 hP1 hD1 hS1 => k q r J hr H1 locs1 ls hP1 hD1 hS1 hl)
theorem xi_doS (h : xc_Ok X C A n cc own nL ret) {n' np ix maxL' : Nat} {y : MethodName} {cc' : ByteArray} {av : List Value} {st0 : List Value} {t3 : Option (Int32 × xc_M)} {f : xc_M → Option (Int32 × xc_M)} (hd : decode cc pc = .ok (.invokestatic ix, 3)) (md : xc_Md y cc' maxL' none np) (hi : Cond.static y ∈ xc_T) (hlk : Cond.methodLink own ix y ∈ xc_T) (hn : n' < n) (hav : av.length = np) (hst : st0 = av.reverse ++ st) (hcat : (st.map fun v => v.category).sum ≤ 8) (cf : xc_Cf X n' y cc' maxL' none av I t3) (k : ∀ J : xc_M, xc_S X C A nL ret (f J) (pc + 3) lv st J) : xc_S X C A nL ret (xc_cv t3 f) pc lv st0 I := by
  intro r J hr
  cases ht3 : t3 with
  | none => rw [ht3] at hr; cases hr
  | some q =>
    rw [ht3] at hr
    intro H locs ls hP hD hS hl
    exact xc_goes (ret' := none) (y := y) (lv := lv) (n' := n') h (xc_runS h hd md hi hlk hn hav hst hcat cf (r := q.1) (J := q.2) (by rw [ht3]) hP hD hl.1) hD hS (fun H1 locs1 hP1 hD1 hS1 => k q.2 r J hr H1 locs1 ls hP1 hD1 hS1 hl)
end
end
