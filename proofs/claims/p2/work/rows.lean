section
-- ===== PART A: goes FIRST, ahead of the names: the tables' words, and 'selects' of the private methods out of them =====
/-- a private method of a class that the tables say can be made, by its rows of tables_1 -/
def lw_okq (q : MethodName × Nat) : Prop := (q.1.cls ≠ "java/lang/invoke/MethodHandle" ∧ q.1.cls ≠ "java/lang/invoke/VarHandle") ∧ Cond.instantiable q.1.cls q.2 ∈ tables_1 ∧ Cond.privateMethod q.1 ∈ tables_1 ∧ Cond.instanceMethod q.1 ∈ tables_1
theorem lw_p0 : lw_okq (⟨"Cyclepaint$Palette", "roundOf", "(I)I"⟩, 4) := ⟨⟨by decide +kernel, by decide +kernel⟩, List.mem_of_getElem? (i := 39) (by decide +kernel), List.mem_of_getElem? (i := 98) (by decide +kernel), List.mem_of_getElem? (i := 99) (by decide +kernel)⟩
theorem lw_p1 : lw_okq (⟨"Cyclepaint", "giveEntry", "(II)Z"⟩, 8) := ⟨⟨by decide +kernel, by decide +kernel⟩, List.mem_of_getElem? (i := 31) (by decide +kernel), List.mem_of_getElem? (i := 130) (by decide +kernel), List.mem_of_getElem? (i := 131) (by decide +kernel)⟩
theorem lw_p2 : lw_okq (⟨"Cyclepaint", "entryOf", "(I)I"⟩, 8) := ⟨⟨by decide +kernel, by decide +kernel⟩, List.mem_of_getElem? (i := 31) (by decide +kernel), List.mem_of_getElem? (i := 134) (by decide +kernel), List.mem_of_getElem? (i := 135) (by decide +kernel)⟩
theorem lw_p3 : lw_okq (⟨"Cyclepaint", "lightAt", "(I)I"⟩, 8) := ⟨⟨by decide +kernel, by decide +kernel⟩, List.mem_of_getElem? (i := 31) (by decide +kernel), List.mem_of_getElem? (i := 163) (by decide +kernel), List.mem_of_getElem? (i := 164) (by decide +kernel)⟩
theorem lw_p4 : lw_okq (⟨"Cyclepaint", "kinds", "()I"⟩, 8) := ⟨⟨by decide +kernel, by decide +kernel⟩, List.mem_of_getElem? (i := 31) (by decide +kernel), List.mem_of_getElem? (i := 197) (by decide +kernel), List.mem_of_getElem? (i := 198) (by decide +kernel)⟩
theorem lw_p5 : lw_okq (⟨"Cyclepaint", "usedEntries", "()I"⟩, 8) := ⟨⟨by decide +kernel, by decide +kernel⟩, List.mem_of_getElem? (i := 31) (by decide +kernel), List.mem_of_getElem? (i := 207) (by decide +kernel), List.mem_of_getElem? (i := 208) (by decide +kernel)⟩
theorem lw_p6 : lw_okq (⟨"Cyclepaint", "pictureFact", "(I)I"⟩, 8) := ⟨⟨by decide +kernel, by decide +kernel⟩, List.mem_of_getElem? (i := 31) (by decide +kernel), List.mem_of_getElem? (i := 220) (by decide +kernel), List.mem_of_getElem? (i := 221) (by decide +kernel)⟩
theorem lw_p7 : lw_okq (⟨"Cyclepaint", "lightOfLightestRow", "()I"⟩, 8) := ⟨⟨by decide +kernel, by decide +kernel⟩, List.mem_of_getElem? (i := 31) (by decide +kernel), List.mem_of_getElem? (i := 228) (by decide +kernel), List.mem_of_getElem? (i := 229) (by decide +kernel)⟩
theorem lw_p8 : lw_okq (⟨"Cyclepaint", "shownNow", "(I)I"⟩, 8) := ⟨⟨by decide +kernel, by decide +kernel⟩, List.mem_of_getElem? (i := 31) (by decide +kernel), List.mem_of_getElem? (i := 232) (by decide +kernel), List.mem_of_getElem? (i := 233) (by decide +kernel)⟩
theorem lw_p9 : lw_okq (⟨"Cyclepaint", "flickeringDots", "()I"⟩, 8) := ⟨⟨by decide +kernel, by decide +kernel⟩, List.mem_of_getElem? (i := 31) (by decide +kernel), List.mem_of_getElem? (i := 239) (by decide +kernel), List.mem_of_getElem? (i := 240) (by decide +kernel)⟩
theorem lw_p10 : lw_okq (⟨"Cyclepaint", "isBarred", "()Z"⟩, 8) := ⟨⟨by decide +kernel, by decide +kernel⟩, List.mem_of_getElem? (i := 31) (by decide +kernel), List.mem_of_getElem? (i := 247) (by decide +kernel), List.mem_of_getElem? (i := 248) (by decide +kernel)⟩
theorem lw_p11 : lw_okq (⟨"Cyclepaint", "coloursShown", "()I"⟩, 8) := ⟨⟨by decide +kernel, by decide +kernel⟩, List.mem_of_getElem? (i := 31) (by decide +kernel), List.mem_of_getElem? (i := 251) (by decide +kernel), List.mem_of_getElem? (i := 252) (by decide +kernel)⟩
theorem lw_p12 : lw_okq (⟨"Cyclepaint", "entryFact", "(II)I"⟩, 8) := ⟨⟨by decide +kernel, by decide +kernel⟩, List.mem_of_getElem? (i := 31) (by decide +kernel), List.mem_of_getElem? (i := 265) (by decide +kernel), List.mem_of_getElem? (i := 266) (by decide +kernel)⟩
theorem lw_p13 : lw_okq (⟨"Cyclepaint", "usesOf", "(I)I"⟩, 8) := ⟨⟨by decide +kernel, by decide +kernel⟩, List.mem_of_getElem? (i := 31) (by decide +kernel), List.mem_of_getElem? (i := 276) (by decide +kernel), List.mem_of_getElem? (i := 277) (by decide +kernel)⟩
theorem lw_p14 : lw_okq (⟨"Cyclepaint", "dotFact", "(II)I"⟩, 8) := ⟨⟨by decide +kernel, by decide +kernel⟩, List.mem_of_getElem? (i := 31) (by decide +kernel), List.mem_of_getElem? (i := 287) (by decide +kernel), List.mem_of_getElem? (i := 288) (by decide +kernel)⟩
theorem lw_p15 : lw_okq (⟨"Cyclepaint", "ticksUntil", "(I)I"⟩, 8) := ⟨⟨by decide +kernel, by decide +kernel⟩, List.mem_of_getElem? (i := 31) (by decide +kernel), List.mem_of_getElem? (i := 299) (by decide +kernel), List.mem_of_getElem? (i := 300) (by decide +kernel)⟩
def lw_privs_1 : List (MethodName × Nat) := [(⟨"Cyclepaint$Palette", "roundOf", "(I)I"⟩, 4), (⟨"Cyclepaint", "giveEntry", "(II)Z"⟩, 8), (⟨"Cyclepaint", "entryOf", "(I)I"⟩, 8), (⟨"Cyclepaint", "lightAt", "(I)I"⟩, 8), (⟨"Cyclepaint", "kinds", "()I"⟩, 8), (⟨"Cyclepaint", "usedEntries", "()I"⟩, 8), (⟨"Cyclepaint", "pictureFact", "(I)I"⟩, 8), (⟨"Cyclepaint", "lightOfLightestRow", "()I"⟩, 8), (⟨"Cyclepaint", "shownNow", "(I)I"⟩, 8), (⟨"Cyclepaint", "flickeringDots", "()I"⟩, 8), (⟨"Cyclepaint", "isBarred", "()Z"⟩, 8), (⟨"Cyclepaint", "coloursShown", "()I"⟩, 8), (⟨"Cyclepaint", "entryFact", "(II)I"⟩, 8), (⟨"Cyclepaint", "usesOf", "(I)I"⟩, 8), (⟨"Cyclepaint", "dotFact", "(II)I"⟩, 8), (⟨"Cyclepaint", "ticksUntil", "(I)I"⟩, 8)]
theorem lw_r1 : ∀ q ∈ lw_privs_1, lw_okq q := List.forall_mem_cons.mpr ⟨lw_p0, List.forall_mem_cons.mpr ⟨lw_p1, List.forall_mem_cons.mpr ⟨lw_p2, List.forall_mem_cons.mpr ⟨lw_p3, List.forall_mem_cons.mpr ⟨lw_p4, List.forall_mem_cons.mpr ⟨lw_p5, List.forall_mem_cons.mpr ⟨lw_p6, List.forall_mem_cons.mpr ⟨lw_p7, List.forall_mem_cons.mpr ⟨lw_p8, List.forall_mem_cons.mpr ⟨lw_p9, List.forall_mem_cons.mpr ⟨lw_p10, List.forall_mem_cons.mpr ⟨lw_p11, List.forall_mem_cons.mpr ⟨lw_p12, List.forall_mem_cons.mpr ⟨lw_p13, List.forall_mem_cons.mpr ⟨lw_p14, List.forall_mem_cons.mpr ⟨lw_p15, fun _ h => absurd h List.not_mem_nil⟩⟩⟩⟩⟩⟩⟩⟩⟩⟩⟩⟩⟩⟩⟩⟩
theorem lw_p16 : lw_okq (⟨"Cyclepaint", "showsKept", "(II)Z"⟩, 8) := ⟨⟨by decide +kernel, by decide +kernel⟩, List.mem_of_getElem? (i := 31) (by decide +kernel), List.mem_of_getElem? (i := 303) (by decide +kernel), List.mem_of_getElem? (i := 304) (by decide +kernel)⟩
theorem lw_p17 : lw_okq (⟨"Cyclepaint", "lightestTick", "(I)I"⟩, 8) := ⟨⟨by decide +kernel, by decide +kernel⟩, List.mem_of_getElem? (i := 31) (by decide +kernel), List.mem_of_getElem? (i := 307) (by decide +kernel), List.mem_of_getElem? (i := 308) (by decide +kernel)⟩
theorem lw_p18 : lw_okq (⟨"java/lang/Throwable", "fillInStackTrace", "(I)Ljava/lang/Throwable;"⟩, 6) := ⟨⟨by decide +kernel, by decide +kernel⟩, List.mem_of_getElem? (i := 374) (by decide +kernel), List.mem_of_getElem? (i := 372) (by decide +kernel), List.mem_of_getElem? (i := 373) (by decide +kernel)⟩
theorem lw_p19 : lw_okq (⟨"Cyclepaint$Palette", "numberEntries", "()V"⟩, 4) := ⟨⟨by decide +kernel, by decide +kernel⟩, List.mem_of_getElem? (i := 39) (by decide +kernel), List.mem_of_getElem? (i := 504) (by decide +kernel), List.mem_of_getElem? (i := 505) (by decide +kernel)⟩
theorem lw_p20 : lw_okq (⟨"CyclepaintModel", "start", "(ZI)Z"⟩, 8) := ⟨⟨by decide +kernel, by decide +kernel⟩, List.mem_of_getElem? (i := 912) (by decide +kernel), List.mem_of_getElem? (i := 986) (by decide +kernel), List.mem_of_getElem? (i := 987) (by decide +kernel)⟩
theorem lw_p21 : lw_okq (⟨"CyclepaintModel", "refuse", "(ZI)Z"⟩, 8) := ⟨⟨by decide +kernel, by decide +kernel⟩, List.mem_of_getElem? (i := 912) (by decide +kernel), List.mem_of_getElem? (i := 990) (by decide +kernel), List.mem_of_getElem? (i := 991) (by decide +kernel)⟩
theorem lw_p22 : lw_okq (⟨"CyclepaintModel", "isTaken", "(II)Z"⟩, 8) := ⟨⟨by decide +kernel, by decide +kernel⟩, List.mem_of_getElem? (i := 912) (by decide +kernel), List.mem_of_getElem? (i := 1009) (by decide +kernel), List.mem_of_getElem? (i := 1010) (by decide +kernel)⟩
theorem lw_p23 : lw_okq (⟨"CyclepaintModel", "rangeOf", "(I)I"⟩, 8) := ⟨⟨by decide +kernel, by decide +kernel⟩, List.mem_of_getElem? (i := 912) (by decide +kernel), List.mem_of_getElem? (i := 1013) (by decide +kernel), List.mem_of_getElem? (i := 1014) (by decide +kernel)⟩
theorem lw_p24 : lw_okq (⟨"java/util/ArrayList", "add", "(Ljava/lang/Object;[Ljava/lang/Object;I)V"⟩, 3) := ⟨⟨by decide +kernel, by decide +kernel⟩, List.mem_of_getElem? (i := 918) (by decide +kernel), List.mem_of_getElem? (i := 1034) (by decide +kernel), List.mem_of_getElem? (i := 1035) (by decide +kernel)⟩
theorem lw_p25 : lw_okq (⟨"java/util/ArrayList", "grow", "()[Ljava/lang/Object;"⟩, 3) := ⟨⟨by decide +kernel, by decide +kernel⟩, List.mem_of_getElem? (i := 918) (by decide +kernel), List.mem_of_getElem? (i := 1038) (by decide +kernel), List.mem_of_getElem? (i := 1039) (by decide +kernel)⟩
theorem lw_p26 : lw_okq (⟨"java/util/ArrayList", "grow", "(I)[Ljava/lang/Object;"⟩, 3) := ⟨⟨by decide +kernel, by decide +kernel⟩, List.mem_of_getElem? (i := 918) (by decide +kernel), List.mem_of_getElem? (i := 1042) (by decide +kernel), List.mem_of_getElem? (i := 1043) (by decide +kernel)⟩
theorem lw_p27 : lw_okq (⟨"CyclepaintModel", "isNoRange", "(I)Z"⟩, 8) := ⟨⟨by decide +kernel, by decide +kernel⟩, List.mem_of_getElem? (i := 912) (by decide +kernel), List.mem_of_getElem? (i := 1078) (by decide +kernel), List.mem_of_getElem? (i := 1079) (by decide +kernel)⟩
theorem lw_p28 : lw_okq (⟨"java/util/ArrayList", "fastRemove", "([Ljava/lang/Object;I)V"⟩, 3) := ⟨⟨by decide +kernel, by decide +kernel⟩, List.mem_of_getElem? (i := 918) (by decide +kernel), List.mem_of_getElem? (i := 1093) (by decide +kernel), List.mem_of_getElem? (i := 1094) (by decide +kernel)⟩
theorem lw_p29 : lw_okq (⟨"CyclepaintModel", "smallest", "(I)I"⟩, 8) := ⟨⟨by decide +kernel, by decide +kernel⟩, List.mem_of_getElem? (i := 912) (by decide +kernel), List.mem_of_getElem? (i := 1102) (by decide +kernel), List.mem_of_getElem? (i := 1103) (by decide +kernel)⟩
theorem lw_p30 : lw_okq (⟨"CyclepaintModel", "twins", "(I)I"⟩, 8) := ⟨⟨by decide +kernel, by decide +kernel⟩, List.mem_of_getElem? (i := 912) (by decide +kernel), List.mem_of_getElem? (i := 1106) (by decide +kernel), List.mem_of_getElem? (i := 1107) (by decide +kernel)⟩
theorem lw_p31 : lw_okq (⟨"CyclepaintModel", "areTwins", "(II)Z"⟩, 8) := ⟨⟨by decide +kernel, by decide +kernel⟩, List.mem_of_getElem? (i := 912) (by decide +kernel), List.mem_of_getElem? (i := 1110) (by decide +kernel), List.mem_of_getElem? (i := 1111) (by decide +kernel)⟩
def lw_privs_2 : List (MethodName × Nat) := [(⟨"Cyclepaint", "showsKept", "(II)Z"⟩, 8), (⟨"Cyclepaint", "lightestTick", "(I)I"⟩, 8), (⟨"java/lang/Throwable", "fillInStackTrace", "(I)Ljava/lang/Throwable;"⟩, 6), (⟨"Cyclepaint$Palette", "numberEntries", "()V"⟩, 4), (⟨"CyclepaintModel", "start", "(ZI)Z"⟩, 8), (⟨"CyclepaintModel", "refuse", "(ZI)Z"⟩, 8), (⟨"CyclepaintModel", "isTaken", "(II)Z"⟩, 8), (⟨"CyclepaintModel", "rangeOf", "(I)I"⟩, 8), (⟨"java/util/ArrayList", "add", "(Ljava/lang/Object;[Ljava/lang/Object;I)V"⟩, 3), (⟨"java/util/ArrayList", "grow", "()[Ljava/lang/Object;"⟩, 3), (⟨"java/util/ArrayList", "grow", "(I)[Ljava/lang/Object;"⟩, 3), (⟨"CyclepaintModel", "isNoRange", "(I)Z"⟩, 8), (⟨"java/util/ArrayList", "fastRemove", "([Ljava/lang/Object;I)V"⟩, 3), (⟨"CyclepaintModel", "smallest", "(I)I"⟩, 8), (⟨"CyclepaintModel", "twins", "(I)I"⟩, 8), (⟨"CyclepaintModel", "areTwins", "(II)Z"⟩, 8)]
theorem lw_r2 : ∀ q ∈ lw_privs_2, lw_okq q := List.forall_mem_cons.mpr ⟨lw_p16, List.forall_mem_cons.mpr ⟨lw_p17, List.forall_mem_cons.mpr ⟨lw_p18, List.forall_mem_cons.mpr ⟨lw_p19, List.forall_mem_cons.mpr ⟨lw_p20, List.forall_mem_cons.mpr ⟨lw_p21, List.forall_mem_cons.mpr ⟨lw_p22, List.forall_mem_cons.mpr ⟨lw_p23, List.forall_mem_cons.mpr ⟨lw_p24, List.forall_mem_cons.mpr ⟨lw_p25, List.forall_mem_cons.mpr ⟨lw_p26, List.forall_mem_cons.mpr ⟨lw_p27, List.forall_mem_cons.mpr ⟨lw_p28, List.forall_mem_cons.mpr ⟨lw_p29, List.forall_mem_cons.mpr ⟨lw_p30, List.forall_mem_cons.mpr ⟨lw_p31, fun _ h => absurd h List.not_mem_nil⟩⟩⟩⟩⟩⟩⟩⟩⟩⟩⟩⟩⟩⟩⟩⟩
theorem lw_p32 : lw_okq (⟨"CyclepaintModel", "roundOf", "(I)I"⟩, 8) := ⟨⟨by decide +kernel, by decide +kernel⟩, List.mem_of_getElem? (i := 912) (by decide +kernel), List.mem_of_getElem? (i := 1114) (by decide +kernel), List.mem_of_getElem? (i := 1115) (by decide +kernel)⟩
theorem lw_p33 : lw_okq (⟨"CyclepaintModel", "show", "(II)I"⟩, 8) := ⟨⟨by decide +kernel, by decide +kernel⟩, List.mem_of_getElem? (i := 912) (by decide +kernel), List.mem_of_getElem? (i := 1124) (by decide +kernel), List.mem_of_getElem? (i := 1125) (by decide +kernel)⟩
theorem lw_p34 : lw_okq (⟨"CyclepaintModel", "flickering", "()I"⟩, 8) := ⟨⟨by decide +kernel, by decide +kernel⟩, List.mem_of_getElem? (i := 912) (by decide +kernel), List.mem_of_getElem? (i := 1152) (by decide +kernel), List.mem_of_getElem? (i := 1153) (by decide +kernel)⟩
theorem lw_p35 : lw_okq (⟨"CyclepaintModel", "flicker", "(I)I"⟩, 8) := ⟨⟨by decide +kernel, by decide +kernel⟩, List.mem_of_getElem? (i := 912) (by decide +kernel), List.mem_of_getElem? (i := 1156) (by decide +kernel), List.mem_of_getElem? (i := 1157) (by decide +kernel)⟩
theorem lw_p36 : lw_okq (⟨"CyclepaintModel", "dotNow", "(II)I"⟩, 8) := ⟨⟨by decide +kernel, by decide +kernel⟩, List.mem_of_getElem? (i := 912) (by decide +kernel), List.mem_of_getElem? (i := 1168) (by decide +kernel), List.mem_of_getElem? (i := 1169) (by decide +kernel)⟩
theorem lw_p37 : lw_okq (⟨"CyclepaintModel", "ofEntryNow", "(II)I"⟩, 8) := ⟨⟨by decide +kernel, by decide +kernel⟩, List.mem_of_getElem? (i := 912) (by decide +kernel), List.mem_of_getElem? (i := 1179) (by decide +kernel), List.mem_of_getElem? (i := 1180) (by decide +kernel)⟩
theorem lw_p38 : lw_okq (⟨"CyclepaintModel", "isStill", "(I)Z"⟩, 8) := ⟨⟨by decide +kernel, by decide +kernel⟩, List.mem_of_getElem? (i := 912) (by decide +kernel), List.mem_of_getElem? (i := 1183) (by decide +kernel), List.mem_of_getElem? (i := 1184) (by decide +kernel)⟩
theorem lw_p39 : lw_okq (⟨"CyclepaintModel", "ofRangeNow", "(II)I"⟩, 8) := ⟨⟨by decide +kernel, by decide +kernel⟩, List.mem_of_getElem? (i := 912) (by decide +kernel), List.mem_of_getElem? (i := 1191) (by decide +kernel), List.mem_of_getElem? (i := 1192) (by decide +kernel)⟩
theorem lw_p40 : lw_okq (⟨"CyclepaintModel", "pictureNow", "(I)I"⟩, 8) := ⟨⟨by decide +kernel, by decide +kernel⟩, List.mem_of_getElem? (i := 912) (by decide +kernel), List.mem_of_getElem? (i := 1199) (by decide +kernel), List.mem_of_getElem? (i := 1200) (by decide +kernel)⟩
theorem lw_p41 : lw_okq (⟨"CyclepaintModel", "entries", "()I"⟩, 8) := ⟨⟨by decide +kernel, by decide +kernel⟩, List.mem_of_getElem? (i := 912) (by decide +kernel), List.mem_of_getElem? (i := 1203) (by decide +kernel), List.mem_of_getElem? (i := 1204) (by decide +kernel)⟩
theorem lw_p42 : lw_okq (⟨"CyclepaintModel", "kinds", "()I"⟩, 8) := ⟨⟨by decide +kernel, by decide +kernel⟩, List.mem_of_getElem? (i := 912) (by decide +kernel), List.mem_of_getElem? (i := 1208) (by decide +kernel), List.mem_of_getElem? (i := 1209) (by decide +kernel)⟩
theorem lw_p43 : lw_okq (⟨"CyclepaintModel", "lightAt", "(I)I"⟩, 8) := ⟨⟨by decide +kernel, by decide +kernel⟩, List.mem_of_getElem? (i := 912) (by decide +kernel), List.mem_of_getElem? (i := 1212) (by decide +kernel), List.mem_of_getElem? (i := 1213) (by decide +kernel)⟩
theorem lw_p44 : lw_okq (⟨"CyclepaintModel", "mostOfRows", "()I"⟩, 8) := ⟨⟨by decide +kernel, by decide +kernel⟩, List.mem_of_getElem? (i := 912) (by decide +kernel), List.mem_of_getElem? (i := 1216) (by decide +kernel), List.mem_of_getElem? (i := 1217) (by decide +kernel)⟩
theorem lw_p45 : lw_okq (⟨"CyclepaintModel", "unlike", "()I"⟩, 8) := ⟨⟨by decide +kernel, by decide +kernel⟩, List.mem_of_getElem? (i := 912) (by decide +kernel), List.mem_of_getElem? (i := 1221) (by decide +kernel), List.mem_of_getElem? (i := 1222) (by decide +kernel)⟩
theorem lw_p46 : lw_okq (⟨"CyclepaintModel", "periodNow", "()I"⟩, 8) := ⟨⟨by decide +kernel, by decide +kernel⟩, List.mem_of_getElem? (i := 912) (by decide +kernel), List.mem_of_getElem? (i := 1230) (by decide +kernel), List.mem_of_getElem? (i := 1231) (by decide +kernel)⟩
theorem lw_p47 : lw_okq (⟨"CyclepaintModel", "findNow", "(III)I"⟩, 8) := ⟨⟨by decide +kernel, by decide +kernel⟩, List.mem_of_getElem? (i := 912) (by decide +kernel), List.mem_of_getElem? (i := 1303) (by decide +kernel), List.mem_of_getElem? (i := 1304) (by decide +kernel)⟩
def lw_privs_3 : List (MethodName × Nat) := [(⟨"CyclepaintModel", "roundOf", "(I)I"⟩, 8), (⟨"CyclepaintModel", "show", "(II)I"⟩, 8), (⟨"CyclepaintModel", "flickering", "()I"⟩, 8), (⟨"CyclepaintModel", "flicker", "(I)I"⟩, 8), (⟨"CyclepaintModel", "dotNow", "(II)I"⟩, 8), (⟨"CyclepaintModel", "ofEntryNow", "(II)I"⟩, 8), (⟨"CyclepaintModel", "isStill", "(I)Z"⟩, 8), (⟨"CyclepaintModel", "ofRangeNow", "(II)I"⟩, 8), (⟨"CyclepaintModel", "pictureNow", "(I)I"⟩, 8), (⟨"CyclepaintModel", "entries", "()I"⟩, 8), (⟨"CyclepaintModel", "kinds", "()I"⟩, 8), (⟨"CyclepaintModel", "lightAt", "(I)I"⟩, 8), (⟨"CyclepaintModel", "mostOfRows", "()I"⟩, 8), (⟨"CyclepaintModel", "unlike", "()I"⟩, 8), (⟨"CyclepaintModel", "periodNow", "()I"⟩, 8), (⟨"CyclepaintModel", "findNow", "(III)I"⟩, 8)]
theorem lw_r3 : ∀ q ∈ lw_privs_3, lw_okq q := List.forall_mem_cons.mpr ⟨lw_p32, List.forall_mem_cons.mpr ⟨lw_p33, List.forall_mem_cons.mpr ⟨lw_p34, List.forall_mem_cons.mpr ⟨lw_p35, List.forall_mem_cons.mpr ⟨lw_p36, List.forall_mem_cons.mpr ⟨lw_p37, List.forall_mem_cons.mpr ⟨lw_p38, List.forall_mem_cons.mpr ⟨lw_p39, List.forall_mem_cons.mpr ⟨lw_p40, List.forall_mem_cons.mpr ⟨lw_p41, List.forall_mem_cons.mpr ⟨lw_p42, List.forall_mem_cons.mpr ⟨lw_p43, List.forall_mem_cons.mpr ⟨lw_p44, List.forall_mem_cons.mpr ⟨lw_p45, List.forall_mem_cons.mpr ⟨lw_p46, List.forall_mem_cons.mpr ⟨lw_p47, fun _ h => absurd h List.not_mem_nil⟩⟩⟩⟩⟩⟩⟩⟩⟩⟩⟩⟩⟩⟩⟩⟩
theorem lw_p48 : lw_okq (⟨"CyclepaintModel", "meetNow", "(IIII)I"⟩, 8) := ⟨⟨by decide +kernel, by decide +kernel⟩, List.mem_of_getElem? (i := 912) (by decide +kernel), List.mem_of_getElem? (i := 1311) (by decide +kernel), List.mem_of_getElem? (i := 1312) (by decide +kernel)⟩
theorem lw_p49 : lw_okq (⟨"CyclepaintModel", "whenNow", "(I)I"⟩, 8) := ⟨⟨by decide +kernel, by decide +kernel⟩, List.mem_of_getElem? (i := 912) (by decide +kernel), List.mem_of_getElem? (i := 1319) (by decide +kernel), List.mem_of_getElem? (i := 1320) (by decide +kernel)⟩
theorem lw_p50 : lw_okq (⟨"CyclepaintModel", "lightestNow", "(I)I"⟩, 8) := ⟨⟨by decide +kernel, by decide +kernel⟩, List.mem_of_getElem? (i := 912) (by decide +kernel), List.mem_of_getElem? (i := 1327) (by decide +kernel), List.mem_of_getElem? (i := 1328) (by decide +kernel)⟩
theorem lw_p51 : lw_okq (⟨"CyclepaintModel", "isSoundNow", "()Z"⟩, 8) := ⟨⟨by decide +kernel, by decide +kernel⟩, List.mem_of_getElem? (i := 912) (by decide +kernel), List.mem_of_getElem? (i := 1335) (by decide +kernel), List.mem_of_getElem? (i := 1336) (by decide +kernel)⟩
def lw_privs_4 : List (MethodName × Nat) := [(⟨"CyclepaintModel", "meetNow", "(IIII)I"⟩, 8), (⟨"CyclepaintModel", "whenNow", "(I)I"⟩, 8), (⟨"CyclepaintModel", "lightestNow", "(I)I"⟩, 8), (⟨"CyclepaintModel", "isSoundNow", "()Z"⟩, 8)]
theorem lw_r4 : ∀ q ∈ lw_privs_4, lw_okq q := List.forall_mem_cons.mpr ⟨lw_p48, List.forall_mem_cons.mpr ⟨lw_p49, List.forall_mem_cons.mpr ⟨lw_p50, List.forall_mem_cons.mpr ⟨lw_p51, fun _ h => absurd h List.not_mem_nil⟩⟩⟩⟩
def lw_privs : List (MethodName × Nat) := lw_privs_1 ++ (lw_privs_2 ++ (lw_privs_3 ++ (lw_privs_4)))
def lw_tbl : List Cond := k2_sels lw_privs ++ tables_1
theorem lw_privs_ok : ∀ q ∈ lw_privs, lw_okq q := by
  show ∀ q ∈ lw_privs_1 ++ (lw_privs_2 ++ (lw_privs_3 ++ (lw_privs_4))), lw_okq q
  exact List.forall_mem_append.mpr ⟨lw_r1, List.forall_mem_append.mpr ⟨lw_r2, List.forall_mem_append.mpr ⟨lw_r3, lw_r4⟩⟩⟩
/-- the streams that the claim lets the run draw from -/
abbrev lw_cs : List Choice := [Jvm.Choice.named "NaN.bits"]
theorem lw_bits : nanBits ∈ lw_cs := by first | decide | exact List.mem_cons_self | simp [lw_cs, nanBits]
def RX0 : String := "Cyclepaint$Palette"
def TX0 : u_T := fun k => match k with
  | 0 => ("Cyclepaint$Palette", "base", "[I", true)
  | 1 => ("Cyclepaint$Palette", "rangeOf", "[I", true)
  | 2 => ("Cyclepaint$Palette", "ranges", "[LCyclepaint$Range;", true)
  | _ => ("Cyclepaint$Palette", "count", "I", false)
def tyX0 : Nat → FieldType := fun k => match k with
  | 0 => .array .int
  | 1 => .array .int
  | 2 => .array (.object "Cyclepaint$Range")
  | _ => .int
theorem nmX0 : ∀ a, a < 4 → ∀ b, b < 4 → a ≠ b → (TX0 a).2.1 ≠ (TX0 b).2.1 := by decide +kernel
theorem tyX0_ok : ∀ k, k < 4 → parseFieldDescriptor (TX0 k).2.2.1 = some (tyX0 k) := by decide +kernel
abbrev cX0_init : ByteArray := prog_2_method_1_code
def yX0_init : MethodName := ⟨RX0, "<init>", "()V"⟩
abbrev cX0_ranges : ByteArray := prog_2_method_2_code
def yX0_ranges : MethodName := ⟨RX0, "ranges", "()I"⟩
abbrev cX0_rangeAt : ByteArray := prog_2_method_3_code
def yX0_rangeAt : MethodName := ⟨RX0, "rangeAt", "(I)LCyclepaint$Range;"⟩
abbrev cX0_rangeNumber : ByteArray := prog_2_method_4_code
def yX0_rangeNumber : MethodName := ⟨RX0, "rangeNumber", "(I)I"⟩
abbrev cX0_baseOf : ByteArray := prog_2_method_5_code
def yX0_baseOf : MethodName := ⟨RX0, "baseOf", "(I)I"⟩
abbrev cX0_tellBase : ByteArray := prog_2_method_6_code
def yX0_tellBase : MethodName := ⟨RX0, "tellBase", "(II)V"⟩
abbrev cX0_isFree : ByteArray := prog_2_method_7_code
def yX0_isFree : MethodName := ⟨RX0, "isFree", "(II)Z"⟩
abbrev cX0_addRange : ByteArray := prog_2_method_8_code
def yX0_addRange : MethodName := ⟨RX0, "addRange", "(LCyclepaint$Range;)I"⟩
abbrev cX0_removeRange : ByteArray := prog_2_method_9_code
def yX0_removeRange : MethodName := ⟨RX0, "removeRange", "(I)V"⟩
abbrev cX0_numberEntries : ByteArray := prog_2_method_10_code
def yX0_numberEntries : MethodName := ⟨RX0, "numberEntries", "()V"⟩
abbrev cX0_shows : ByteArray := prog_2_method_11_code
def yX0_shows : MethodName := ⟨RX0, "shows", "(II)I"⟩
abbrev cX0_changes : ByteArray := prog_2_method_12_code
def yX0_changes : MethodName := ⟨RX0, "changes", "(III)I"⟩
abbrev cX0_isStill : ByteArray := prog_2_method_13_code
def yX0_isStill : MethodName := ⟨RX0, "isStill", "(I)Z"⟩
abbrev cX0_areTwins : ByteArray := prog_2_method_14_code
def yX0_areTwins : MethodName := ⟨RX0, "areTwins", "(II)Z"⟩
abbrev cX0_smallestTwin : ByteArray := prog_2_method_15_code
def yX0_smallestTwin : MethodName := ⟨RX0, "smallestTwin", "(I)I"⟩
abbrev cX0_twins : ByteArray := prog_2_method_16_code
def yX0_twins : MethodName := ⟨RX0, "twins", "(I)I"⟩
abbrev cX0_roundOf : ByteArray := prog_2_method_17_code
def yX0_roundOf : MethodName := ⟨RX0, "roundOf", "(I)I"⟩
abbrev cX0_commonRound : ByteArray := prog_2_method_18_code
def yX0_commonRound : MethodName := ⟨RX0, "commonRound", "()I"⟩
abbrev cX0_firstShown : ByteArray := prog_2_method_19_code
def yX0_firstShown : MethodName := ⟨RX0, "firstShown", "(III)I"⟩
abbrev cX0_firstMeeting : ByteArray := prog_2_method_20_code
def yX0_firstMeeting : MethodName := ⟨RX0, "firstMeeting", "(IIIII)I"⟩
abbrev cX0_comesRound : ByteArray := prog_2_method_21_code
def yX0_comesRound : MethodName := ⟨RX0, "comesRound", "(I)Z"⟩
abbrev cX0_areStillAtBase : ByteArray := prog_2_method_22_code
def yX0_areStillAtBase : MethodName := ⟨RX0, "areStillAtBase", "(I)Z"⟩
abbrev cX0_areTwinsAlike : ByteArray := prog_2_method_23_code
def yX0_areTwinsAlike : MethodName := ⟨RX0, "areTwinsAlike", "(I)Z"⟩
abbrev cX0_areRangesApart : ByteArray := prog_2_method_24_code
def yX0_areRangesApart : MethodName := ⟨RX0, "areRangesApart", "()Z"⟩
abbrev cX0_leastCommonMultiple : ByteArray := prog_2_method_25_code
def yX0_leastCommonMultiple : MethodName := ⟨RX0, "leastCommonMultiple", "(II)I"⟩
abbrev cX0_greatestCommonDivisor : ByteArray := prog_2_method_26_code
def yX0_greatestCommonDivisor : MethodName := ⟨RX0, "greatestCommonDivisor", "(II)I"⟩
def RX1 : String := "Cyclepaint$Range"
def TX1 : u_T := fun k => match k with
  | 0 => ("Cyclepaint$Range", "first", "I", true)
  | 1 => ("Cyclepaint$Range", "length", "I", true)
  | 2 => ("Cyclepaint$Range", "speed", "I", false)
  | 3 => ("Cyclepaint$Range", "kind", "I", false)
  | _ => ("Cyclepaint$Range", "cycle", "I", false)
def tyX1 : Nat → FieldType := fun k => match k with
  | 0 => .int
  | 1 => .int
  | 2 => .int
  | 3 => .int
  | _ => .int
theorem nmX1 : ∀ a, a < 5 → ∀ b, b < 5 → a ≠ b → (TX1 a).2.1 ≠ (TX1 b).2.1 := by decide +kernel
theorem tyX1_ok : ∀ k, k < 5 → parseFieldDescriptor (TX1 k).2.2.1 = some (tyX1 k) := by decide +kernel
abbrev cX1_init : ByteArray := prog_3_method_1_code
def yX1_init : MethodName := ⟨RX1, "<init>", "(IIII)V"⟩
abbrev cX1_tell : ByteArray := prog_3_method_2_code
def yX1_tell : MethodName := ⟨RX1, "tell", "(II)V"⟩
abbrev cX1_holds : ByteArray := prog_3_method_3_code
def yX1_holds : MethodName := ⟨RX1, "holds", "(I)Z"⟩
abbrev cX1_round : ByteArray := prog_3_method_4_code
def yX1_round : MethodName := ⟨RX1, "round", "()I"⟩
abbrev cX1_shift : ByteArray := prog_3_method_5_code
def yX1_shift : MethodName := ⟨RX1, "shift", "(I)I"⟩
abbrev cX1_source : ByteArray := prog_3_method_6_code
def yX1_source : MethodName := ⟨RX1, "source", "(II)I"⟩
abbrev cX1_fact : ByteArray := prog_3_method_7_code
def yX1_fact : MethodName := ⟨RX1, "fact", "(II)I"⟩
def RX2 : String := "Cyclepaint"
def TX2 : u_T := fun k => match k with
  | 0 => ("Cyclepaint", "palette", "LCyclepaint$Palette;", true)
  | 1 => ("Cyclepaint", "dots", "[I", true)
  | 2 => ("Cyclepaint", "uses", "[I", true)
  | 3 => ("Cyclepaint", "kept", "[I", true)
  | 4 => ("Cyclepaint", "keptCount", "I", false)
  | 5 => ("Cyclepaint", "tick", "I", false)
  | 6 => ("Cyclepaint", "limit", "I", false)
  | _ => ("Cyclepaint", "refused", "I", false)
def tyX2 : Nat → FieldType := fun k => match k with
  | 0 => .object "Cyclepaint$Palette"
  | 1 => .array .int
  | 2 => .array .int
  | 3 => .array .int
  | 4 => .int
  | 5 => .int
  | 6 => .int
  | _ => .int
theorem nmX2 : ∀ a, a < 8 → ∀ b, b < 8 → a ≠ b → (TX2 a).2.1 ≠ (TX2 b).2.1 := by decide +kernel
theorem tyX2_ok : ∀ k, k < 8 → parseFieldDescriptor (TX2 k).2.2.1 = some (tyX2 k) := by decide +kernel
abbrev cX2_init : ByteArray := prog_1_method_1_code
def yX2_init : MethodName := ⟨RX2, "<init>", "()V"⟩
abbrev cX2_colour : ByteArray := prog_1_method_2_code
def yX2_colour : MethodName := ⟨RX2, "colour", "(II)I"⟩
abbrev cX2_paint : ByteArray := prog_1_method_3_code
def yX2_paint : MethodName := ⟨RX2, "paint", "(IIII)I"⟩
abbrev cX2_range : ByteArray := prog_1_method_4_code
def yX2_range : MethodName := ⟨RX2, "range", "(IIII)I"⟩
abbrev cX2_turn : ByteArray := prog_1_method_5_code
def yX2_turn : MethodName := ⟨RX2, "turn", "(III)I"⟩
abbrev cX2_stop : ByteArray := prog_1_method_6_code
def yX2_stop : MethodName := ⟨RX2, "stop", "(I)I"⟩
abbrev cX2_merge : ByteArray := prog_1_method_7_code
def yX2_merge : MethodName := ⟨RX2, "merge", "()I"⟩
abbrev cX2_run : ByteArray := prog_1_method_8_code
def yX2_run : MethodName := ⟨RX2, "run", "(I)I"⟩
abbrev cX2_jump : ByteArray := prog_1_method_9_code
def yX2_jump : MethodName := ⟨RX2, "jump", "(I)I"⟩
abbrev cX2_keep : ByteArray := prog_1_method_10_code
def yX2_keep : MethodName := ⟨RX2, "keep", "()I"⟩
abbrev cX2_limit : ByteArray := prog_1_method_11_code
def yX2_limit : MethodName := ⟨RX2, "limit", "(I)Z"⟩
abbrev cX2_call : ByteArray := prog_1_method_12_code
def yX2_call : MethodName := ⟨RX2, "call", "()I"⟩
abbrev cX2_dot : ByteArray := prog_1_method_13_code
def yX2_dot : MethodName := ⟨RX2, "dot", "(III)I"⟩
abbrev cX2_ofEntry : ByteArray := prog_1_method_14_code
def yX2_ofEntry : MethodName := ⟨RX2, "ofEntry", "(II)I"⟩
abbrev cX2_ofRange : ByteArray := prog_1_method_15_code
def yX2_ofRange : MethodName := ⟨RX2, "ofRange", "(II)I"⟩
abbrev cX2_picture : ByteArray := prog_1_method_16_code
def yX2_picture : MethodName := ⟨RX2, "picture", "(I)I"⟩
abbrev cX2_period : ByteArray := prog_1_method_17_code
def yX2_period : MethodName := ⟨RX2, "period", "()I"⟩
abbrev cX2_row : ByteArray := prog_1_method_18_code
def yX2_row : MethodName := ⟨RX2, "row", "(I)Ljava/lang/String;"⟩
abbrev cX2_mean : ByteArray := prog_1_method_19_code
def yX2_mean : MethodName := ⟨RX2, "mean", "()D"⟩
abbrev cX2_at : ByteArray := prog_1_method_20_code
def yX2_at : MethodName := ⟨RX2, "at", "(II)I"⟩
abbrev cX2_find : ByteArray := prog_1_method_21_code
def yX2_find : MethodName := ⟨RX2, "find", "(III)I"⟩
abbrev cX2_meet : ByteArray := prog_1_method_22_code
def yX2_meet : MethodName := ⟨RX2, "meet", "(IIII)I"⟩
abbrev cX2_when : ByteArray := prog_1_method_23_code
def yX2_when : MethodName := ⟨RX2, "when", "(I)I"⟩
abbrev cX2_lightest : ByteArray := prog_1_method_24_code
def yX2_lightest : MethodName := ⟨RX2, "lightest", "(I)I"⟩
abbrev cX2_isSound : ByteArray := prog_1_method_25_code
def yX2_isSound : MethodName := ⟨RX2, "isSound", "()Z"⟩
abbrev cX2_digest : ByteArray := prog_1_method_26_code
def yX2_digest : MethodName := ⟨RX2, "digest", "()J"⟩
abbrev cX2_isEntry : ByteArray := prog_1_method_27_code
def yX2_isEntry : MethodName := ⟨RX2, "isEntry", "(I)Z"⟩
abbrev cX2_isColour : ByteArray := prog_1_method_28_code
def yX2_isColour : MethodName := ⟨RX2, "isColour", "(I)Z"⟩
abbrev cX2_isDot : ByteArray := prog_1_method_29_code
def yX2_isDot : MethodName := ⟨RX2, "isDot", "(II)Z"⟩
abbrev cX2_isSpeed : ByteArray := prog_1_method_30_code
def yX2_isSpeed : MethodName := ⟨RX2, "isSpeed", "(I)Z"⟩
abbrev cX2_isKind : ByteArray := prog_1_method_31_code
def yX2_isKind : MethodName := ⟨RX2, "isKind", "(I)Z"⟩
abbrev cX2_isTick : ByteArray := prog_1_method_32_code
def yX2_isTick : MethodName := ⟨RX2, "isTick", "(I)Z"⟩
abbrev cX2_isTickCount : ByteArray := prog_1_method_33_code
def yX2_isTickCount : MethodName := ⟨RX2, "isTickCount", "(I)Z"⟩
abbrev cX2_isFact : ByteArray := prog_1_method_34_code
def yX2_isFact : MethodName := ⟨RX2, "isFact", "(II)Z"⟩
abbrev cX2_mixed : ByteArray := prog_1_method_35_code
def yX2_mixed : MethodName := ⟨RX2, "mixed", "(JJ)J"⟩
abbrev cX2_lightOf : ByteArray := prog_1_method_36_code
def yX2_lightOf : MethodName := ⟨RX2, "lightOf", "(I)I"⟩
abbrev cX2_giveEntry : ByteArray := prog_1_method_37_code
def yX2_giveEntry : MethodName := ⟨RX2, "giveEntry", "(II)Z"⟩
abbrev cX2_entryOf : ByteArray := prog_1_method_38_code
def yX2_entryOf : MethodName := ⟨RX2, "entryOf", "(I)I"⟩
abbrev cX2_usesOf : ByteArray := prog_1_method_39_code
def yX2_usesOf : MethodName := ⟨RX2, "usesOf", "(I)I"⟩
abbrev cX2_shownNow : ByteArray := prog_1_method_40_code
def yX2_shownNow : MethodName := ⟨RX2, "shownNow", "(I)I"⟩
abbrev cX2_dotFact : ByteArray := prog_1_method_41_code
def yX2_dotFact : MethodName := ⟨RX2, "dotFact", "(II)I"⟩
abbrev cX2_entryFact : ByteArray := prog_1_method_42_code
def yX2_entryFact : MethodName := ⟨RX2, "entryFact", "(II)I"⟩
abbrev cX2_pictureFact : ByteArray := prog_1_method_43_code
def yX2_pictureFact : MethodName := ⟨RX2, "pictureFact", "(I)I"⟩
abbrev cX2_usedEntries : ByteArray := prog_1_method_44_code
def yX2_usedEntries : MethodName := ⟨RX2, "usedEntries", "()I"⟩
abbrev cX2_kinds : ByteArray := prog_1_method_45_code
def yX2_kinds : MethodName := ⟨RX2, "kinds", "()I"⟩
abbrev cX2_lightAt : ByteArray := prog_1_method_46_code
def yX2_lightAt : MethodName := ⟨RX2, "lightAt", "(I)I"⟩
abbrev cX2_lightOfLightestRow : ByteArray := prog_1_method_47_code
def yX2_lightOfLightestRow : MethodName := ⟨RX2, "lightOfLightestRow", "()I"⟩
abbrev cX2_flickeringDots : ByteArray := prog_1_method_48_code
def yX2_flickeringDots : MethodName := ⟨RX2, "flickeringDots", "()I"⟩
abbrev cX2_isBarred : ByteArray := prog_1_method_49_code
def yX2_isBarred : MethodName := ⟨RX2, "isBarred", "()Z"⟩
abbrev cX2_coloursShown : ByteArray := prog_1_method_50_code
def yX2_coloursShown : MethodName := ⟨RX2, "coloursShown", "()I"⟩
abbrev cX2_ticksUntil : ByteArray := prog_1_method_51_code
def yX2_ticksUntil : MethodName := ⟨RX2, "ticksUntil", "(I)I"⟩
abbrev cX2_showsKept : ByteArray := prog_1_method_52_code
def yX2_showsKept : MethodName := ⟨RX2, "showsKept", "(II)Z"⟩
abbrev cX2_lightestTick : ByteArray := prog_1_method_53_code
def yX2_lightestTick : MethodName := ⟨RX2, "lightestTick", "(I)I"⟩
def RX3 : String := "CyclepaintLaw$Out"
def TX3 : u_T := fun k => match k with
  | 0 => ("CyclepaintLaw$Out", "n", "J", false)
  | _ => ("CyclepaintLaw$Out", "s", "Ljava/lang/String;", false)
def tyX3 : Nat → FieldType := fun k => match k with
  | 0 => .long
  | _ => .object "java/lang/String"
theorem nmX3 : ∀ a, a < 2 → ∀ b, b < 2 → a ≠ b → (TX3 a).2.1 ≠ (TX3 b).2.1 := by decide +kernel
theorem tyX3_ok : ∀ k, k < 2 → parseFieldDescriptor (TX3 k).2.2.1 = some (tyX3 k) := by decide +kernel
abbrev cX3_init : ByteArray := prog_5_method_1_code
def yX3_init : MethodName := ⟨RX3, "<init>", "()V"⟩
def RX4 : String := "CyclepaintModel"
def TX4 : u_T := fun k => match k with
  | 0 => ("CyclepaintModel", "thrown", "I", false)
  | 1 => ("CyclepaintModel", "tick", "I", false)
  | 2 => ("CyclepaintModel", "refused", "I", false)
  | 3 => ("CyclepaintModel", "limit", "I", false)
  | 4 => ("CyclepaintModel", "bases", "[I", true)
  | 5 => ("CyclepaintModel", "dots", "[I", true)
  | 6 => ("CyclepaintModel", "ranges", "Ljava/util/ArrayList;", true)
  | _ => ("CyclepaintModel", "kept", "Ljava/util/ArrayList;", true)
def tyX4 : Nat → FieldType := fun k => match k with
  | 0 => .int
  | 1 => .int
  | 2 => .int
  | 3 => .int
  | 4 => .array .int
  | 5 => .array .int
  | 6 => .object "java/util/ArrayList"
  | _ => .object "java/util/ArrayList"
theorem nmX4 : ∀ a, a < 8 → ∀ b, b < 8 → a ≠ b → (TX4 a).2.1 ≠ (TX4 b).2.1 := by decide +kernel
theorem tyX4_ok : ∀ k, k < 8 → parseFieldDescriptor (TX4 k).2.2.1 = some (tyX4 k) := by decide +kernel
abbrev cX4_init : ByteArray := prog_6_method_1_code
def yX4_init : MethodName := ⟨RX4, "<init>", "()V"⟩
abbrev cX4_thrown : ByteArray := prog_6_method_2_code
def yX4_thrown : MethodName := ⟨RX4, "thrown", "()I"⟩
abbrev cX4_isIn : ByteArray := prog_6_method_3_code
def yX4_isIn : MethodName := ⟨RX4, "isIn", "(III)Z"⟩
abbrev cX4_refuse : ByteArray := prog_6_method_4_code
def yX4_refuse : MethodName := ⟨RX4, "refuse", "(ZI)Z"⟩
abbrev cX4_start : ByteArray := prog_6_method_5_code
def yX4_start : MethodName := ⟨RX4, "start", "(ZI)Z"⟩
abbrev cX4_isNoEntry : ByteArray := prog_6_method_6_code
def yX4_isNoEntry : MethodName := ⟨RX4, "isNoEntry", "(I)Z"⟩
abbrev cX4_isNoRange : ByteArray := prog_6_method_7_code
def yX4_isNoRange : MethodName := ⟨RX4, "isNoRange", "(I)Z"⟩
abbrev cX4_isNoColour : ByteArray := prog_6_method_8_code
def yX4_isNoColour : MethodName := ⟨RX4, "isNoColour", "(I)Z"⟩
abbrev cX4_isNoTick : ByteArray := prog_6_method_9_code
def yX4_isNoTick : MethodName := ⟨RX4, "isNoTick", "(I)Z"⟩
abbrev cX4_light : ByteArray := prog_6_method_10_code
def yX4_light : MethodName := ⟨RX4, "light", "(I)I"⟩
abbrev cX4_rangeOf : ByteArray := prog_6_method_11_code
def yX4_rangeOf : MethodName := ⟨RX4, "rangeOf", "(I)I"⟩
abbrev cX4_shift : ByteArray := prog_6_method_12_code
def yX4_shift : MethodName := ⟨RX4, "shift", "([II)I"⟩
abbrev cX4_show : ByteArray := prog_6_method_13_code
def yX4_show : MethodName := ⟨RX4, "show", "(II)I"⟩
abbrev cX4_round : ByteArray := prog_6_method_14_code
def yX4_round : MethodName := ⟨RX4, "round", "([I)I"⟩
abbrev cX4_roundOf : ByteArray := prog_6_method_15_code
def yX4_roundOf : MethodName := ⟨RX4, "roundOf", "(I)I"⟩
abbrev cX4_common : ByteArray := prog_6_method_16_code
def yX4_common : MethodName := ⟨RX4, "common", "(II)I"⟩
abbrev cX4_periodNow : ByteArray := prog_6_method_17_code
def yX4_periodNow : MethodName := ⟨RX4, "periodNow", "()I"⟩
abbrev cX4_isStill : ByteArray := prog_6_method_18_code
def yX4_isStill : MethodName := ⟨RX4, "isStill", "(I)Z"⟩
abbrev cX4_areTwins : ByteArray := prog_6_method_19_code
def yX4_areTwins : MethodName := ⟨RX4, "areTwins", "(II)Z"⟩
abbrev cX4_twins : ByteArray := prog_6_method_20_code
def yX4_twins : MethodName := ⟨RX4, "twins", "(I)I"⟩
abbrev cX4_smallest : ByteArray := prog_6_method_21_code
def yX4_smallest : MethodName := ⟨RX4, "smallest", "(I)I"⟩
abbrev cX4_entries : ByteArray := prog_6_method_22_code
def yX4_entries : MethodName := ⟨RX4, "entries", "()I"⟩
abbrev cX4_kinds : ByteArray := prog_6_method_23_code
def yX4_kinds : MethodName := ⟨RX4, "kinds", "()I"⟩
abbrev cX4_flicker : ByteArray := prog_6_method_24_code
def yX4_flicker : MethodName := ⟨RX4, "flicker", "(I)I"⟩
abbrev cX4_flickering : ByteArray := prog_6_method_25_code
def yX4_flickering : MethodName := ⟨RX4, "flickering", "()I"⟩
abbrev cX4_lightAt : ByteArray := prog_6_method_26_code
def yX4_lightAt : MethodName := ⟨RX4, "lightAt", "(I)I"⟩
abbrev cX4_colour : ByteArray := prog_6_method_27_code
def yX4_colour : MethodName := ⟨RX4, "colour", "(II)I"⟩
abbrev cX4_paint : ByteArray := prog_6_method_28_code
def yX4_paint : MethodName := ⟨RX4, "paint", "(IIII)I"⟩
abbrev cX4_isTaken : ByteArray := prog_6_method_29_code
def yX4_isTaken : MethodName := ⟨RX4, "isTaken", "(II)Z"⟩
abbrev cX4_range : ByteArray := prog_6_method_30_code
def yX4_range : MethodName := ⟨RX4, "range", "(IIII)I"⟩
abbrev cX4_turn : ByteArray := prog_6_method_31_code
def yX4_turn : MethodName := ⟨RX4, "turn", "(III)I"⟩
abbrev cX4_stop : ByteArray := prog_6_method_32_code
def yX4_stop : MethodName := ⟨RX4, "stop", "(I)I"⟩
abbrev cX4_merge : ByteArray := prog_6_method_33_code
def yX4_merge : MethodName := ⟨RX4, "merge", "()I"⟩
abbrev cX4_run : ByteArray := prog_6_method_34_code
def yX4_run : MethodName := ⟨RX4, "run", "(I)I"⟩
abbrev cX4_jump : ByteArray := prog_6_method_35_code
def yX4_jump : MethodName := ⟨RX4, "jump", "(I)I"⟩
abbrev cX4_keep : ByteArray := prog_6_method_36_code
def yX4_keep : MethodName := ⟨RX4, "keep", "()I"⟩
abbrev cX4_limit : ByteArray := prog_6_method_37_code
def yX4_limit : MethodName := ⟨RX4, "limit", "(I)Z"⟩
abbrev cX4_call : ByteArray := prog_6_method_38_code
def yX4_call : MethodName := ⟨RX4, "call", "()I"⟩
abbrev cX4_dotNow : ByteArray := prog_6_method_39_code
def yX4_dotNow : MethodName := ⟨RX4, "dotNow", "(II)I"⟩
abbrev cX4_dot : ByteArray := prog_6_method_40_code
def yX4_dot : MethodName := ⟨RX4, "dot", "(III)I"⟩
abbrev cX4_ofEntryNow : ByteArray := prog_6_method_41_code
def yX4_ofEntryNow : MethodName := ⟨RX4, "ofEntryNow", "(II)I"⟩
abbrev cX4_ofEntry : ByteArray := prog_6_method_42_code
def yX4_ofEntry : MethodName := ⟨RX4, "ofEntry", "(II)I"⟩
abbrev cX4_ofRangeNow : ByteArray := prog_6_method_43_code
def yX4_ofRangeNow : MethodName := ⟨RX4, "ofRangeNow", "(II)I"⟩
abbrev cX4_ofRange : ByteArray := prog_6_method_44_code
def yX4_ofRange : MethodName := ⟨RX4, "ofRange", "(II)I"⟩
abbrev cX4_mostOfRows : ByteArray := prog_6_method_45_code
def yX4_mostOfRows : MethodName := ⟨RX4, "mostOfRows", "()I"⟩
abbrev cX4_unlike : ByteArray := prog_6_method_46_code
def yX4_unlike : MethodName := ⟨RX4, "unlike", "()I"⟩
abbrev cX4_pictureNow : ByteArray := prog_6_method_47_code
def yX4_pictureNow : MethodName := ⟨RX4, "pictureNow", "(I)I"⟩
abbrev cX4_picture : ByteArray := prog_6_method_48_code
def yX4_picture : MethodName := ⟨RX4, "picture", "(I)I"⟩
abbrev cX4_period : ByteArray := prog_6_method_49_code
def yX4_period : MethodName := ⟨RX4, "period", "()I"⟩
abbrev cX4_row : ByteArray := prog_6_method_50_code
def yX4_row : MethodName := ⟨RX4, "row", "(I)Ljava/lang/String;"⟩
abbrev cX4_mean : ByteArray := prog_6_method_51_code
def yX4_mean : MethodName := ⟨RX4, "mean", "()D"⟩
abbrev cX4_at : ByteArray := prog_6_method_52_code
def yX4_at : MethodName := ⟨RX4, "at", "(II)I"⟩
abbrev cX4_findNow : ByteArray := prog_6_method_53_code
def yX4_findNow : MethodName := ⟨RX4, "findNow", "(III)I"⟩
abbrev cX4_find : ByteArray := prog_6_method_54_code
def yX4_find : MethodName := ⟨RX4, "find", "(III)I"⟩
abbrev cX4_meetNow : ByteArray := prog_6_method_55_code
def yX4_meetNow : MethodName := ⟨RX4, "meetNow", "(IIII)I"⟩
abbrev cX4_meet : ByteArray := prog_6_method_56_code
def yX4_meet : MethodName := ⟨RX4, "meet", "(IIII)I"⟩
abbrev cX4_whenNow : ByteArray := prog_6_method_57_code
def yX4_whenNow : MethodName := ⟨RX4, "whenNow", "(I)I"⟩
abbrev cX4_when : ByteArray := prog_6_method_58_code
def yX4_when : MethodName := ⟨RX4, "when", "(I)I"⟩
abbrev cX4_lightestNow : ByteArray := prog_6_method_59_code
def yX4_lightestNow : MethodName := ⟨RX4, "lightestNow", "(I)I"⟩
abbrev cX4_lightest : ByteArray := prog_6_method_60_code
def yX4_lightest : MethodName := ⟨RX4, "lightest", "(I)I"⟩
abbrev cX4_isSoundNow : ByteArray := prog_6_method_61_code
def yX4_isSoundNow : MethodName := ⟨RX4, "isSoundNow", "()Z"⟩
abbrev cX4_isSound : ByteArray := prog_6_method_62_code
def yX4_isSound : MethodName := ⟨RX4, "isSound", "()Z"⟩
abbrev cX4_digest : ByteArray := prog_6_method_63_code
def yX4_digest : MethodName := ⟨RX4, "digest", "()J"⟩
def RJx145de : String := "java/io/Serializable"
def TJx145de : u_T := fun k => match k with
  | _ => ("", "", "", false)
def tyJx145de : Nat → FieldType := fun k => match k with
  | _ => .int
theorem nmJx145de : ∀ a, a < 0 → ∀ b, b < 0 → a ≠ b → (TJx145de a).2.1 ≠ (TJx145de b).2.1 := by decide +kernel
theorem tyJx145de_ok : ∀ k, k < 0 → parseFieldDescriptor (TJx145de k).2.2.1 = some (tyJx145de k) := by decide +kernel
def RJ5 : String := "java/lang/AbstractStringBuilder"
def TJ5 : u_T := fun k => match k with
  | _ => ("", "", "", false)
def tyJ5 : Nat → FieldType := fun k => match k with
  | _ => .int
theorem nmJ5 : ∀ a, a < 0 → ∀ b, b < 0 → a ≠ b → (TJ5 a).2.1 ≠ (TJ5 b).2.1 := by decide +kernel
theorem tyJ5_ok : ∀ k, k < 0 → parseFieldDescriptor (TJ5 k).2.2.1 = some (tyJ5 k) := by decide +kernel
abbrev cJ5_init_d00df : ByteArray := prog_8_method_2_code
def yJ5_init_d00df : MethodName := ⟨RJ5, "<init>", "(I)V"⟩
abbrev cJ5_length_8abf5 : ByteArray := prog_8_method_6_code
def yJ5_length_8abf5 : MethodName := ⟨RJ5, "length", "()I"⟩
abbrev cJ5_ensureCapacityInternal_d00df : ByteArray := prog_8_method_9_code
def yJ5_ensureCapacityInternal_d00df : MethodName := ⟨RJ5, "ensureCapacityInternal", "(I)V"⟩
abbrev cJ5_newCapacity_0f7a4 : ByteArray := prog_8_method_10_code
def yJ5_newCapacity_0f7a4 : MethodName := ⟨RJ5, "newCapacity", "(I)I"⟩
abbrev cJ5_inflate_da8c8 : ByteArray := prog_8_method_11_code
def yJ5_inflate_da8c8 : MethodName := ⟨RJ5, "inflate", "()V"⟩
abbrev cJ5_append_cf1ce : ByteArray := prog_8_method_22_code
def yJ5_append_cf1ce : MethodName := ⟨RJ5, "append", "(Ljava/lang/String;)Ljava/lang/AbstractStringBuilder;"⟩
abbrev cJ5_appendNull_278bc : ByteArray := prog_8_method_26_code
def yJ5_appendNull_278bc : MethodName := ⟨RJ5, "appendNull", "()Ljava/lang/AbstractStringBuilder;"⟩
abbrev cJ5_append_3fe6f : ByteArray := prog_8_method_31_code
def yJ5_append_3fe6f : MethodName := ⟨RJ5, "append", "(C)Ljava/lang/AbstractStringBuilder;"⟩
abbrev cJ5_append_c97b9 : ByteArray := prog_8_method_32_code
def yJ5_append_c97b9 : MethodName := ⟨RJ5, "append", "(I)Ljava/lang/AbstractStringBuilder;"⟩
abbrev cJ5_getValue_6d5f1 : ByteArray := prog_8_method_64_code
def yJ5_getValue_6d5f1 : MethodName := ⟨RJ5, "getValue", "()[B"⟩
abbrev cJ5_isLatin1_aae02 : ByteArray := prog_8_method_68_code
def yJ5_isLatin1_aae02 : MethodName := ⟨RJ5, "isLatin1", "()Z"⟩
abbrev cJ5_inflateIfNeededFor_a7421 : ByteArray := prog_8_method_71_code
def yJ5_inflateIfNeededFor_a7421 : MethodName := ⟨RJ5, "inflateIfNeededFor", "(Ljava/lang/String;)V"⟩
abbrev cJ5_putStringAt_47b60 : ByteArray := prog_8_method_73_code
def yJ5_putStringAt_47b60 : MethodName := ⟨RJ5, "putStringAt", "(ILjava/lang/String;)V"⟩
def RJx2cfe8 : String := "java/lang/Appendable"
def TJx2cfe8 : u_T := fun k => match k with
  | _ => ("", "", "", false)
def tyJx2cfe8 : Nat → FieldType := fun k => match k with
  | _ => .int
theorem nmJx2cfe8 : ∀ a, a < 0 → ∀ b, b < 0 → a ≠ b → (TJx2cfe8 a).2.1 ≠ (TJx2cfe8 b).2.1 := by decide +kernel
theorem tyJx2cfe8_ok : ∀ k, k < 0 → parseFieldDescriptor (TJx2cfe8 k).2.2.1 = some (tyJx2cfe8 k) := by decide +kernel
def RJx9f9b0 : String := "java/lang/CharSequence"
def TJx9f9b0 : u_T := fun k => match k with
  | _ => ("", "", "", false)
def tyJx9f9b0 : Nat → FieldType := fun k => match k with
  | _ => .int
theorem nmJx9f9b0 : ∀ a, a < 0 → ∀ b, b < 0 → a ≠ b → (TJx9f9b0 a).2.1 ≠ (TJx9f9b0 b).2.1 := by decide +kernel
theorem tyJx9f9b0_ok : ∀ k, k < 0 → parseFieldDescriptor (TJx9f9b0 k).2.2.1 = some (tyJx9f9b0 k) := by decide +kernel
def RJx8e188 : String := "java/lang/Cloneable"
def TJx8e188 : u_T := fun k => match k with
  | _ => ("", "", "", false)
def tyJx8e188 : Nat → FieldType := fun k => match k with
  | _ => .int
theorem nmJx8e188 : ∀ a, a < 0 → ∀ b, b < 0 → a ≠ b → (TJx8e188 a).2.1 ≠ (TJx8e188 b).2.1 := by decide +kernel
theorem tyJx8e188_ok : ∀ k, k < 0 → parseFieldDescriptor (TJx8e188 k).2.2.1 = some (tyJx8e188 k) := by decide +kernel
def RJxb160c : String := "java/lang/Comparable"
def TJxb160c : u_T := fun k => match k with
  | _ => ("", "", "", false)
def tyJxb160c : Nat → FieldType := fun k => match k with
  | _ => .int
theorem nmJxb160c : ∀ a, a < 0 → ∀ b, b < 0 → a ≠ b → (TJxb160c a).2.1 ≠ (TJxb160c b).2.1 := by decide +kernel
theorem tyJxb160c_ok : ∀ k, k < 0 → parseFieldDescriptor (TJxb160c k).2.2.1 = some (tyJxb160c k) := by decide +kernel
def RJ6 : String := "java/lang/Integer"
def TJ6 : u_T := fun k => match k with
  | _ => ("", "", "", false)
def tyJ6 : Nat → FieldType := fun k => match k with
  | _ => .int
theorem nmJ6 : ∀ a, a < 0 → ∀ b, b < 0 → a ≠ b → (TJ6 a).2.1 ≠ (TJ6 b).2.1 := by decide +kernel
theorem tyJ6_ok : ∀ k, k < 0 → parseFieldDescriptor (TJ6 k).2.2.1 = some (tyJ6 k) := by decide +kernel
abbrev cJ6_getChars_ba4f3 : ByteArray := prog_17_method_12_code
def yJ6_getChars_ba4f3 : MethodName := ⟨RJ6, "getChars", "(II[B)I"⟩
abbrev cJ6_stringSize_0f7a4 : ByteArray := prog_17_method_13_code
def yJ6_stringSize_0f7a4 : MethodName := ⟨RJ6, "stringSize", "(I)I"⟩
abbrev cJ6_numberOfTrailingZeros_0f7a4 : ByteArray := prog_17_method_48_code
def yJ6_numberOfTrailingZeros_0f7a4 : MethodName := ⟨RJ6, "numberOfTrailingZeros", "(I)I"⟩
abbrev cJ6_bitCount_0f7a4 : ByteArray := prog_17_method_49_code
def yJ6_bitCount_0f7a4 : MethodName := ⟨RJ6, "bitCount", "(I)I"⟩
def RJxab1ab : String := "java/lang/Iterable"
def TJxab1ab : u_T := fun k => match k with
  | _ => ("", "", "", false)
def tyJxab1ab : Nat → FieldType := fun k => match k with
  | _ => .int
theorem nmJxab1ab : ∀ a, a < 0 → ∀ b, b < 0 → a ≠ b → (TJxab1ab a).2.1 ≠ (TJxab1ab b).2.1 := by decide +kernel
theorem tyJxab1ab_ok : ∀ k, k < 0 → parseFieldDescriptor (TJxab1ab k).2.2.1 = some (tyJxab1ab k) := by decide +kernel
def RJ13 : String := "java/lang/Long"
def TJ13 : u_T := fun k => match k with
  | _ => ("", "", "", false)
def tyJ13 : Nat → FieldType := fun k => match k with
  | _ => .int
theorem nmJ13 : ∀ a, a < 0 → ∀ b, b < 0 → a ≠ b → (TJ13 a).2.1 ≠ (TJ13 b).2.1 := by decide +kernel
theorem tyJ13_ok : ∀ k, k < 0 → parseFieldDescriptor (TJ13 k).2.2.1 = some (tyJ13 k) := by decide +kernel
abbrev cJ13_bitCount_95d88 : ByteArray := prog_19_method_50_code
def yJ13_bitCount_95d88 : MethodName := ⟨RJ13, "bitCount", "(J)I"⟩
def RJ9 : String := "java/lang/Math"
def TJ9 : u_T := fun k => match k with
  | _ => ("", "", "", false)
def tyJ9 : Nat → FieldType := fun k => match k with
  | _ => .int
theorem nmJ9 : ∀ a, a < 0 → ∀ b, b < 0 → a ≠ b → (TJ9 a).2.1 ≠ (TJ9 b).2.1 := by decide +kernel
theorem tyJ9_ok : ∀ k, k < 0 → parseFieldDescriptor (TJ9 k).2.2.1 = some (tyJ9 k) := by decide +kernel
abbrev cJ9_max_7cf53 : ByteArray := prog_20_method_65_code
def yJ9_max_7cf53 : MethodName := ⟨RJ9, "max", "(II)I"⟩
abbrev cJ9_min_7cf53 : ByteArray := prog_20_method_69_code
def yJ9_min_7cf53 : MethodName := ⟨RJ9, "min", "(II)I"⟩
def RJxd2413 : String := "java/lang/Number"
def TJxd2413 : u_T := fun k => match k with
  | _ => ("", "", "", false)
def tyJxd2413 : Nat → FieldType := fun k => match k with
  | _ => .int
theorem nmJxd2413 : ∀ a, a < 0 → ∀ b, b < 0 → a ≠ b → (TJxd2413 a).2.1 ≠ (TJxd2413 b).2.1 := by decide +kernel
theorem tyJxd2413_ok : ∀ k, k < 0 → parseFieldDescriptor (TJxd2413 k).2.2.1 = some (tyJxd2413 k) := by decide +kernel
def RJ0 : String := "java/lang/String"
def TJ0 : u_T := fun k => match k with
  | 0 => ("java/lang/String", "value", "[B", true)
  | 1 => ("java/lang/String", "coder", "B", true)
  | 2 => ("java/lang/String", "hash", "I", false)
  | _ => ("java/lang/String", "hashIsZero", "Z", false)
def tyJ0 : Nat → FieldType := fun k => match k with
  | 0 => .array .byte
  | 1 => .byte
  | 2 => .int
  | _ => .boolean
theorem nmJ0 : ∀ a, a < 4 → ∀ b, b < 4 → a ≠ b → (TJ0 a).2.1 ≠ (TJ0 b).2.1 := by decide +kernel
theorem tyJ0_ok : ∀ k, k < 4 → parseFieldDescriptor (TJ0 k).2.2.1 = some (tyJ0 k) := by decide +kernel
abbrev cJ0_init_81219 : ByteArray := prog_23_method_53_code
def yJ0_init_81219 : MethodName := ⟨RJ0, "<init>", "(Ljava/lang/StringBuilder;)V"⟩
abbrev cJ0_length_8abf5 : ByteArray := prog_23_method_54_code
def yJ0_length_8abf5 : MethodName := ⟨RJ0, "length", "()I"⟩
abbrev cJ0_getBytes_840e7 : ByteArray := prog_23_method_147_code
def yJ0_getBytes_840e7 : MethodName := ⟨RJ0, "getBytes", "([BIB)V"⟩
abbrev cJ0_init_db425 : ByteArray := prog_23_method_150_code
def yJ0_init_db425 : MethodName := ⟨RJ0, "<init>", "(Ljava/lang/AbstractStringBuilder;Ljava/lang/Void;)V"⟩
abbrev cJ0_coder_7d493 : ByteArray := prog_23_method_152_code
def yJ0_coder_7d493 : MethodName := ⟨RJ0, "coder", "()B"⟩
abbrev cJ0_checkIndex_df160 : ByteArray := prog_23_method_155_code
def yJ0_checkIndex_df160 : MethodName := ⟨RJ0, "checkIndex", "(II)V"⟩
abbrev cJ0_checkBoundsOffCount_cabcc : ByteArray := prog_23_method_157_code
def yJ0_checkBoundsOffCount_cabcc : MethodName := ⟨RJ0, "checkBoundsOffCount", "(III)I"⟩
abbrev cJ0_checkBoundsBeginEnd_23922 : ByteArray := prog_23_method_158_code
def yJ0_checkBoundsBeginEnd_23922 : MethodName := ⟨RJ0, "checkBoundsBeginEnd", "(III)V"⟩
def RJ4 : String := "java/lang/StringBuilder"
def TJ4 : u_T := fun k => match k with
  | 0 => ("java/lang/AbstractStringBuilder", "value", "[B", false)
  | 1 => ("java/lang/AbstractStringBuilder", "coder", "B", false)
  | 2 => ("java/lang/AbstractStringBuilder", "maybeLatin1", "Z", false)
  | _ => ("java/lang/AbstractStringBuilder", "count", "I", false)
def tyJ4 : Nat → FieldType := fun k => match k with
  | 0 => .array .byte
  | 1 => .byte
  | 2 => .boolean
  | _ => .int
theorem nmJ4 : ∀ a, a < 4 → ∀ b, b < 4 → a ≠ b → (TJ4 a).2.1 ≠ (TJ4 b).2.1 := by decide +kernel
theorem tyJ4_ok : ∀ k, k < 4 → parseFieldDescriptor (TJ4 k).2.2.1 = some (tyJ4 k) := by decide +kernel
abbrev cJ4_init_da8c8 : ByteArray := prog_24_method_1_code
def yJ4_init_da8c8 : MethodName := ⟨RJ4, "<init>", "()V"⟩
abbrev cJ4_append_15ec4 : ByteArray := prog_24_method_7_code
def yJ4_append_15ec4 : MethodName := ⟨RJ4, "append", "(Ljava/lang/String;)Ljava/lang/StringBuilder;"⟩
abbrev cJ4_append_cf468 : ByteArray := prog_24_method_14_code
def yJ4_append_cf468 : MethodName := ⟨RJ4, "append", "(C)Ljava/lang/StringBuilder;"⟩
abbrev cJ4_append_bf812 : ByteArray := prog_24_method_15_code
def yJ4_append_bf812 : MethodName := ⟨RJ4, "append", "(I)Ljava/lang/StringBuilder;"⟩
abbrev cJ4_toString_0e30d : ByteArray := prog_24_method_42_code
def yJ4_toString_0e30d : MethodName := ⟨RJ4, "toString", "()Ljava/lang/String;"⟩
abbrev cJ4_length_8abf5 : ByteArray := prog_24_method_93_code
def yJ4_length_8abf5 : MethodName := ⟨RJ4, "length", "()I"⟩
def RJ1 : String := "java/lang/StringLatin1"
def TJ1 : u_T := fun k => match k with
  | _ => ("", "", "", false)
def tyJ1 : Nat → FieldType := fun k => match k with
  | _ => .int
theorem nmJ1 : ∀ a, a < 0 → ∀ b, b < 0 → a ≠ b → (TJ1 a).2.1 ≠ (TJ1 b).2.1 := by decide +kernel
theorem tyJ1_ok : ∀ k, k < 0 → parseFieldDescriptor (TJ1 k).2.2.1 = some (tyJ1 k) := by decide +kernel
abbrev cJ1_canEncode_fc78d : ByteArray := prog_25_method_3_code
def yJ1_canEncode_fc78d : MethodName := ⟨RJ1, "canEncode", "(C)Z"⟩
abbrev cJ1_inflate_0e8fd : ByteArray := prog_25_method_50_code
def yJ1_inflate_0e8fd : MethodName := ⟨RJ1, "inflate", "([BI[BII)V"⟩
def RJ2 : String := "java/lang/StringUTF16"
def TJ2 : u_T := fun k => match k with
  | _ => ("", "", "", false)
def tyJ2 : Nat → FieldType := fun k => match k with
  | _ => .int
theorem nmJ2 : ∀ a, a < 0 → ∀ b, b < 0 → a ≠ b → (TJ2 a).2.1 ≠ (TJ2 b).2.1 := by decide +kernel
theorem tyJ2_ok : ∀ k, k < 0 → parseFieldDescriptor (TJ2 k).2.2.1 = some (tyJ2 k) := by decide +kernel
abbrev cJ2_newBytesFor_77867 : ByteArray := prog_26_method_2_code
def yJ2_newBytesFor_77867 : MethodName := ⟨RJ2, "newBytesFor", "(I)[B"⟩
abbrev cJ2_newBytesLength_0f7a4 : ByteArray := prog_26_method_3_code
def yJ2_newBytesLength_0f7a4 : MethodName := ⟨RJ2, "newBytesLength", "(I)I"⟩
abbrev cJ2_putChar_b72d1 : ByteArray := prog_26_method_4_code
def yJ2_putChar_b72d1 : MethodName := ⟨RJ2, "putChar", "([BII)V"⟩
abbrev cJ2_getChar_3b067 : ByteArray := prog_26_method_5_code
def yJ2_getChar_3b067 : MethodName := ⟨RJ2, "getChar", "([BI)C"⟩
abbrev cJ2_length_9d52b : ByteArray := prog_26_method_6_code
def yJ2_length_9d52b : MethodName := ⟨RJ2, "length", "([B)I"⟩
abbrev cJ2_coderFromArrayLen_85cad : ByteArray := prog_26_method_15_code
def yJ2_coderFromArrayLen_85cad : MethodName := ⟨RJ2, "coderFromArrayLen", "([BI)B"⟩
abbrev cJ2_compress_39247 : ByteArray := prog_26_method_17_code
def yJ2_compress_39247 : MethodName := ⟨RJ2, "compress", "([BII)[B"⟩
abbrev cJ2_compress_5af95 : ByteArray := prog_26_method_22_code
def yJ2_compress_5af95 : MethodName := ⟨RJ2, "compress", "([BI[BII)I"⟩
abbrev cJ2_putCharSB_b72d1 : ByteArray := prog_26_method_71_code
def yJ2_putCharSB_b72d1 : MethodName := ⟨RJ2, "putCharSB", "([BII)V"⟩
abbrev cJ2_getChars_46870 : ByteArray := prog_26_method_77_code
def yJ2_getChars_46870 : MethodName := ⟨RJ2, "getChars", "(III[B)I"⟩
abbrev cJ2_putCharsAt_cd4e5 : ByteArray := prog_26_method_81_code
def yJ2_putCharsAt_cd4e5 : MethodName := ⟨RJ2, "putCharsAt", "([BICCCC)I"⟩
abbrev cJ2_inflate_0e8fd : ByteArray := prog_26_method_86_code
def yJ2_inflate_0e8fd : MethodName := ⟨RJ2, "inflate", "([BI[BII)V"⟩
abbrev cJ2_getChars_ba4f3 : ByteArray := prog_26_method_89_code
def yJ2_getChars_ba4f3 : MethodName := ⟨RJ2, "getChars", "(II[B)I"⟩
abbrev cJ2_checkIndex_2214a : ByteArray := prog_26_method_91_code
def yJ2_checkIndex_2214a : MethodName := ⟨RJ2, "checkIndex", "(I[B)V"⟩
abbrev cJ2_checkBoundsBeginEnd_d044e : ByteArray := prog_26_method_93_code
def yJ2_checkBoundsBeginEnd_d044e : MethodName := ⟨RJ2, "checkBoundsBeginEnd", "(II[B)V"⟩
abbrev cJ2_checkBoundsOffCount_d044e : ByteArray := prog_26_method_94_code
def yJ2_checkBoundsOffCount_d044e : MethodName := ⟨RJ2, "checkBoundsOffCount", "(II[B)V"⟩
def RJ10 : String := "java/lang/System"
def TJ10 : u_T := fun k => match k with
  | _ => ("", "", "", false)
def tyJ10 : Nat → FieldType := fun k => match k with
  | _ => .int
theorem nmJ10 : ∀ a, a < 0 → ∀ b, b < 0 → a ≠ b → (TJ10 a).2.1 ≠ (TJ10 b).2.1 := by decide +kernel
theorem tyJ10_ok : ∀ k, k < 0 → parseFieldDescriptor (TJ10 k).2.2.1 = some (tyJ10 k) := by decide +kernel
def RJxfd54e : String := "java/lang/constant/Constable"
def TJxfd54e : u_T := fun k => match k with
  | _ => ("", "", "", false)
def tyJxfd54e : Nat → FieldType := fun k => match k with
  | _ => .int
theorem nmJxfd54e : ∀ a, a < 0 → ∀ b, b < 0 → a ≠ b → (TJxfd54e a).2.1 ≠ (TJxfd54e b).2.1 := by decide +kernel
theorem tyJxfd54e_ok : ∀ k, k < 0 → parseFieldDescriptor (TJxfd54e k).2.2.1 = some (tyJxfd54e k) := by decide +kernel
def RJx3cf43 : String := "java/lang/constant/ConstantDesc"
def TJx3cf43 : u_T := fun k => match k with
  | _ => ("", "", "", false)
def tyJx3cf43 : Nat → FieldType := fun k => match k with
  | _ => .int
theorem nmJx3cf43 : ∀ a, a < 0 → ∀ b, b < 0 → a ≠ b → (TJx3cf43 a).2.1 ≠ (TJx3cf43 b).2.1 := by decide +kernel
theorem tyJx3cf43_ok : ∀ k, k < 0 → parseFieldDescriptor (TJx3cf43 k).2.2.1 = some (tyJx3cf43 k) := by decide +kernel
def RJxa1e45 : String := "java/util/AbstractCollection"
def TJxa1e45 : u_T := fun k => match k with
  | _ => ("", "", "", false)
def tyJxa1e45 : Nat → FieldType := fun k => match k with
  | _ => .int
theorem nmJxa1e45 : ∀ a, a < 0 → ∀ b, b < 0 → a ≠ b → (TJxa1e45 a).2.1 ≠ (TJxa1e45 b).2.1 := by decide +kernel
theorem tyJxa1e45_ok : ∀ k, k < 0 → parseFieldDescriptor (TJxa1e45 k).2.2.1 = some (tyJxa1e45 k) := by decide +kernel
abbrev cJxa1e45_init_da8c8 : ByteArray := prog_31_method_1_code
def yJxa1e45_init_da8c8 : MethodName := ⟨RJxa1e45, "<init>", "()V"⟩
def RJxc12de : String := "java/util/AbstractList"
def TJxc12de : u_T := fun k => match k with
  | _ => ("", "", "", false)
def tyJxc12de : Nat → FieldType := fun k => match k with
  | _ => .int
theorem nmJxc12de : ∀ a, a < 0 → ∀ b, b < 0 → a ≠ b → (TJxc12de a).2.1 ≠ (TJxc12de b).2.1 := by decide +kernel
theorem tyJxc12de_ok : ∀ k, k < 0 → parseFieldDescriptor (TJxc12de k).2.2.1 = some (tyJxc12de k) := by decide +kernel
abbrev cJxc12de_init_da8c8 : ByteArray := prog_32_method_1_code
def yJxc12de_init_da8c8 : MethodName := ⟨RJxc12de, "<init>", "()V"⟩
def RJx35411 : String := "java/util/ArrayList$Itr"
def TJx35411 : u_T := fun k => match k with
  | 0 => ("java/util/ArrayList$Itr", "cursor", "I", false)
  | 1 => ("java/util/ArrayList$Itr", "lastRet", "I", false)
  | 2 => ("java/util/ArrayList$Itr", "expectedModCount", "I", false)
  | _ => ("java/util/ArrayList$Itr", "this$0", "Ljava/util/ArrayList;", true)
def tyJx35411 : Nat → FieldType := fun k => match k with
  | 0 => .int
  | 1 => .int
  | 2 => .int
  | _ => .object "java/util/ArrayList"
theorem nmJx35411 : ∀ a, a < 4 → ∀ b, b < 4 → a ≠ b → (TJx35411 a).2.1 ≠ (TJx35411 b).2.1 := by decide +kernel
theorem tyJx35411_ok : ∀ k, k < 4 → parseFieldDescriptor (TJx35411 k).2.2.1 = some (tyJx35411 k) := by decide +kernel
abbrev cJx35411_init_45d68 : ByteArray := prog_34_method_1_code
def yJx35411_init_45d68 : MethodName := ⟨RJx35411, "<init>", "(Ljava/util/ArrayList;)V"⟩
abbrev cJx35411_hasNext_aae02 : ByteArray := prog_34_method_2_code
def yJx35411_hasNext_aae02 : MethodName := ⟨RJx35411, "hasNext", "()Z"⟩
abbrev cJx35411_next_0502b : ByteArray := prog_34_method_3_code
def yJx35411_next_0502b : MethodName := ⟨RJx35411, "next", "()Ljava/lang/Object;"⟩
abbrev cJx35411_checkForComodification_da8c8 : ByteArray := prog_34_method_6_code
def yJx35411_checkForComodification_da8c8 : MethodName := ⟨RJx35411, "checkForComodification", "()V"⟩
def RJx4a65c : String := "java/util/ArrayList"
def TJx4a65c : u_T := fun k => match k with
  | 0 => ("java/util/AbstractList", "modCount", "I", false)
  | 1 => ("java/util/ArrayList", "elementData", "[Ljava/lang/Object;", false)
  | _ => ("java/util/ArrayList", "size", "I", false)
def tyJx4a65c : Nat → FieldType := fun k => match k with
  | 0 => .int
  | 1 => .array (.object "java/lang/Object")
  | _ => .int
theorem nmJx4a65c : ∀ a, a < 3 → ∀ b, b < 3 → a ≠ b → (TJx4a65c a).2.1 ≠ (TJx4a65c b).2.1 := by decide +kernel
theorem tyJx4a65c_ok : ∀ k, k < 3 → parseFieldDescriptor (TJx4a65c k).2.2.1 = some (tyJx4a65c k) := by decide +kernel
abbrev cJx4a65c_init_da8c8 : ByteArray := prog_33_method_2_code
def yJx4a65c_init_da8c8 : MethodName := ⟨RJx4a65c, "<init>", "()V"⟩
abbrev cJx4a65c_grow_92f84 : ByteArray := prog_33_method_6_code
def yJx4a65c_grow_92f84 : MethodName := ⟨RJx4a65c, "grow", "(I)[Ljava/lang/Object;"⟩
abbrev cJx4a65c_grow_d5877 : ByteArray := prog_33_method_7_code
def yJx4a65c_grow_d5877 : MethodName := ⟨RJx4a65c, "grow", "()[Ljava/lang/Object;"⟩
abbrev cJx4a65c_size_8abf5 : ByteArray := prog_33_method_8_code
def yJx4a65c_size_8abf5 : MethodName := ⟨RJx4a65c, "size", "()I"⟩
abbrev cJx4a65c_elementData_915e3 : ByteArray := prog_33_method_18_code
def yJx4a65c_elementData_915e3 : MethodName := ⟨RJx4a65c, "elementData", "(I)Ljava/lang/Object;"⟩
abbrev cJx4a65c_get_915e3 : ByteArray := prog_33_method_20_code
def yJx4a65c_get_915e3 : MethodName := ⟨RJx4a65c, "get", "(I)Ljava/lang/Object;"⟩
abbrev cJx4a65c_add_72be8 : ByteArray := prog_33_method_24_code
def yJx4a65c_add_72be8 : MethodName := ⟨RJx4a65c, "add", "(Ljava/lang/Object;[Ljava/lang/Object;I)V"⟩
abbrev cJx4a65c_add_9ea2d : ByteArray := prog_33_method_25_code
def yJx4a65c_add_9ea2d : MethodName := ⟨RJx4a65c, "add", "(Ljava/lang/Object;)Z"⟩
abbrev cJx4a65c_remove_915e3 : ByteArray := prog_33_method_29_code
def yJx4a65c_remove_915e3 : MethodName := ⟨RJx4a65c, "remove", "(I)Ljava/lang/Object;"⟩
abbrev cJx4a65c_fastRemove_b59b0 : ByteArray := prog_33_method_39_code
def yJx4a65c_fastRemove_b59b0 : MethodName := ⟨RJx4a65c, "fastRemove", "([Ljava/lang/Object;I)V"⟩
abbrev cJx4a65c_iterator_32c93 : ByteArray := prog_33_method_55_code
def yJx4a65c_iterator_32c93 : MethodName := ⟨RJx4a65c, "iterator", "()Ljava/util/Iterator;"⟩
def RJ7 : String := "java/util/Arrays"
def TJ7 : u_T := fun k => match k with
  | _ => ("", "", "", false)
def tyJ7 : Nat → FieldType := fun k => match k with
  | _ => .int
theorem nmJ7 : ∀ a, a < 0 → ∀ b, b < 0 → a ≠ b → (TJ7 a).2.1 ≠ (TJ7 b).2.1 := by decide +kernel
theorem tyJ7_ok : ∀ k, k < 0 → parseFieldDescriptor (TJ7 k).2.2.1 = some (tyJ7 k) := by decide +kernel
abbrev cJ7_copyOf_1904c : ByteArray := prog_35_method_119_code
def yJ7_copyOf_1904c : MethodName := ⟨RJ7, "copyOf", "([Ljava/lang/Object;I)[Ljava/lang/Object;"⟩
abbrev cJ7_copyOf_6403c : ByteArray := prog_35_method_120_code
def yJ7_copyOf_6403c : MethodName := ⟨RJ7, "copyOf", "([Ljava/lang/Object;ILjava/lang/Class;)[Ljava/lang/Object;"⟩
abbrev cJ7_copyOf_9075b : ByteArray := prog_35_method_121_code
def yJ7_copyOf_9075b : MethodName := ⟨RJ7, "copyOf", "([BI)[B"⟩
abbrev cJ7_checkLength_df160 : ByteArray := prog_35_method_131_code
def yJ7_checkLength_df160 : MethodName := ⟨RJ7, "checkLength", "(II)V"⟩
abbrev cJ7_copyOfRange_39247 : ByteArray := prog_35_method_132_code
def yJ7_copyOfRange_39247 : MethodName := ⟨RJ7, "copyOfRange", "([BII)[B"⟩
abbrev cJ7_copyOfRangeByte_39247 : ByteArray := prog_35_method_133_code
def yJ7_copyOfRangeByte_39247 : MethodName := ⟨RJ7, "copyOfRangeByte", "([BII)[B"⟩
def RJx5ef63 : String := "java/util/Collection"
def TJx5ef63 : u_T := fun k => match k with
  | _ => ("", "", "", false)
def tyJx5ef63 : Nat → FieldType := fun k => match k with
  | _ => .int
theorem nmJx5ef63 : ∀ a, a < 0 → ∀ b, b < 0 → a ≠ b → (TJx5ef63 a).2.1 ≠ (TJx5ef63 b).2.1 := by decide +kernel
theorem tyJx5ef63_ok : ∀ k, k < 0 → parseFieldDescriptor (TJx5ef63 k).2.2.1 = some (tyJx5ef63 k) := by decide +kernel
def RJx4d0d8 : String := "java/util/Iterator"
def TJx4d0d8 : u_T := fun k => match k with
  | _ => ("", "", "", false)
def tyJx4d0d8 : Nat → FieldType := fun k => match k with
  | _ => .int
theorem nmJx4d0d8 : ∀ a, a < 0 → ∀ b, b < 0 → a ≠ b → (TJx4d0d8 a).2.1 ≠ (TJx4d0d8 b).2.1 := by decide +kernel
theorem tyJx4d0d8_ok : ∀ k, k < 0 → parseFieldDescriptor (TJx4d0d8 k).2.2.1 = some (tyJx4d0d8 k) := by decide +kernel
def RJxbd725 : String := "java/util/List"
def TJxbd725 : u_T := fun k => match k with
  | _ => ("", "", "", false)
def tyJxbd725 : Nat → FieldType := fun k => match k with
  | _ => .int
theorem nmJxbd725 : ∀ a, a < 0 → ∀ b, b < 0 → a ≠ b → (TJxbd725 a).2.1 ≠ (TJxbd725 b).2.1 := by decide +kernel
theorem tyJxbd725_ok : ∀ k, k < 0 → parseFieldDescriptor (TJxbd725 k).2.2.1 = some (tyJxbd725 k) := by decide +kernel
def RJ15 : String := "java/util/Objects"
def TJ15 : u_T := fun k => match k with
  | _ => ("", "", "", false)
def tyJ15 : Nat → FieldType := fun k => match k with
  | _ => .int
theorem nmJ15 : ∀ a, a < 0 → ∀ b, b < 0 → a ≠ b → (TJ15 a).2.1 ≠ (TJ15 b).2.1 := by decide +kernel
theorem tyJ15_ok : ∀ k, k < 0 → parseFieldDescriptor (TJ15 k).2.2.1 = some (tyJ15 k) := by decide +kernel
abbrev cJ15_checkIndex_7cf53 : ByteArray := prog_39_method_17_code
def yJ15_checkIndex_7cf53 : MethodName := ⟨RJ15, "checkIndex", "(II)I"⟩
def RJxf0a74 : String := "java/util/RandomAccess"
def TJxf0a74 : u_T := fun k => match k with
  | _ => ("", "", "", false)
def tyJxf0a74 : Nat → FieldType := fun k => match k with
  | _ => .int
theorem nmJxf0a74 : ∀ a, a < 0 → ∀ b, b < 0 → a ≠ b → (TJxf0a74 a).2.1 ≠ (TJxf0a74 b).2.1 := by decide +kernel
theorem tyJxf0a74_ok : ∀ k, k < 0 → parseFieldDescriptor (TJxf0a74 k).2.2.1 = some (tyJxf0a74 k) := by decide +kernel
def RJxa66e6 : String := "java/util/SequencedCollection"
def TJxa66e6 : u_T := fun k => match k with
  | _ => ("", "", "", false)
def tyJxa66e6 : Nat → FieldType := fun k => match k with
  | _ => .int
theorem nmJxa66e6 : ∀ a, a < 0 → ∀ b, b < 0 → a ≠ b → (TJxa66e6 a).2.1 ≠ (TJxa66e6 b).2.1 := by decide +kernel
theorem tyJxa66e6_ok : ∀ k, k < 0 → parseFieldDescriptor (TJxa66e6 k).2.2.1 = some (tyJxa66e6 k) := by decide +kernel
def RJ8 : String := "jdk/internal/util/ArraysSupport"
def TJ8 : u_T := fun k => match k with
  | _ => ("", "", "", false)
def tyJ8 : Nat → FieldType := fun k => match k with
  | _ => .int
theorem nmJ8 : ∀ a, a < 0 → ∀ b, b < 0 → a ≠ b → (TJ8 a).2.1 ≠ (TJ8 b).2.1 := by decide +kernel
theorem tyJ8_ok : ∀ k, k < 0 → parseFieldDescriptor (TJ8 k).2.2.1 = some (tyJ8 k) := by decide +kernel
abbrev cJ8_newLength_cabcc : ByteArray := prog_42_method_27_code
def yJ8_newLength_cabcc : MethodName := ⟨RJ8, "newLength", "(III)I"⟩
abbrev cJ8_hugeLength_7cf53 : ByteArray := prog_42_method_28_code
def yJ8_hugeLength_7cf53 : MethodName := ⟨RJ8, "hugeLength", "(II)I"⟩
def RJ3 : String := "jdk/internal/util/Preconditions"
def TJ3 : u_T := fun k => match k with
  | _ => ("", "", "", false)
def tyJ3 : Nat → FieldType := fun k => match k with
  | _ => .int
theorem nmJ3 : ∀ a, a < 0 → ∀ b, b < 0 → a ≠ b → (TJ3 a).2.1 ≠ (TJ3 b).2.1 := by decide +kernel
theorem tyJ3_ok : ∀ k, k < 0 → parseFieldDescriptor (TJ3 k).2.2.1 = some (tyJ3 k) := by decide +kernel
abbrev cJ3_checkIndex_8e157 : ByteArray := prog_43_method_11_code
def yJ3_checkIndex_8e157 : MethodName := ⟨RJ3, "checkIndex", "(IILjava/util/function/BiFunction;)I"⟩
abbrev cJ3_checkFromToIndex_8c36e : ByteArray := prog_43_method_12_code
def yJ3_checkFromToIndex_8c36e : MethodName := ⟨RJ3, "checkFromToIndex", "(IIILjava/util/function/BiFunction;)I"⟩
abbrev cJ3_checkFromIndexSize_8c36e : ByteArray := prog_43_method_13_code
def yJ3_checkFromIndexSize_8c36e : MethodName := ⟨RJ3, "checkFromIndexSize", "(IIILjava/util/function/BiFunction;)I"⟩
def RL : String := "CyclepaintLaw"
abbrev cL_colour : ByteArray := method_2_code
def yL_colour : MethodName := ⟨RL, "colour", "(LCyclepaint;IILCyclepaintLaw$Out;)I"⟩
abbrev cL_paint : ByteArray := method_3_code
def yL_paint : MethodName := ⟨RL, "paint", "(LCyclepaint;IIIILCyclepaintLaw$Out;)I"⟩
abbrev cL_range : ByteArray := method_4_code
def yL_range : MethodName := ⟨RL, "range", "(LCyclepaint;IIIILCyclepaintLaw$Out;)I"⟩
abbrev cL_turn : ByteArray := method_5_code
def yL_turn : MethodName := ⟨RL, "turn", "(LCyclepaint;IIILCyclepaintLaw$Out;)I"⟩
abbrev cL_stop : ByteArray := method_6_code
def yL_stop : MethodName := ⟨RL, "stop", "(LCyclepaint;ILCyclepaintLaw$Out;)I"⟩
abbrev cL_run : ByteArray := method_7_code
def yL_run : MethodName := ⟨RL, "run", "(LCyclepaint;ILCyclepaintLaw$Out;)I"⟩
abbrev cL_jump : ByteArray := method_8_code
def yL_jump : MethodName := ⟨RL, "jump", "(LCyclepaint;ILCyclepaintLaw$Out;)I"⟩
abbrev cL_keep : ByteArray := method_9_code
def yL_keep : MethodName := ⟨RL, "keep", "(LCyclepaint;LCyclepaintLaw$Out;)I"⟩
abbrev cL_limit : ByteArray := method_10_code
def yL_limit : MethodName := ⟨RL, "limit", "(LCyclepaint;ILCyclepaintLaw$Out;)I"⟩
abbrev cL_dot : ByteArray := method_11_code
def yL_dot : MethodName := ⟨RL, "dot", "(LCyclepaint;IIILCyclepaintLaw$Out;)I"⟩
abbrev cL_ofEntry : ByteArray := method_12_code
def yL_ofEntry : MethodName := ⟨RL, "ofEntry", "(LCyclepaint;IILCyclepaintLaw$Out;)I"⟩
abbrev cL_ofRange : ByteArray := method_13_code
def yL_ofRange : MethodName := ⟨RL, "ofRange", "(LCyclepaint;IILCyclepaintLaw$Out;)I"⟩
abbrev cL_picture : ByteArray := method_14_code
def yL_picture : MethodName := ⟨RL, "picture", "(LCyclepaint;ILCyclepaintLaw$Out;)I"⟩
abbrev cL_row : ByteArray := method_15_code
def yL_row : MethodName := ⟨RL, "row", "(LCyclepaint;ILCyclepaintLaw$Out;)I"⟩
abbrev cL_at : ByteArray := method_16_code
def yL_at : MethodName := ⟨RL, "at", "(LCyclepaint;IILCyclepaintLaw$Out;)I"⟩
abbrev cL_find : ByteArray := method_17_code
def yL_find : MethodName := ⟨RL, "find", "(LCyclepaint;IIILCyclepaintLaw$Out;)I"⟩
abbrev cL_meet : ByteArray := method_18_code
def yL_meet : MethodName := ⟨RL, "meet", "(LCyclepaint;IIIILCyclepaintLaw$Out;)I"⟩
abbrev cL_when : ByteArray := method_19_code
def yL_when : MethodName := ⟨RL, "when", "(LCyclepaint;ILCyclepaintLaw$Out;)I"⟩
abbrev cL_lightest : ByteArray := method_20_code
def yL_lightest : MethodName := ⟨RL, "lightest", "(LCyclepaint;ILCyclepaintLaw$Out;)I"⟩
abbrev cL_law : ByteArray := code
def yL_law : MethodName := ⟨RL, "law", "([I)Z"⟩
abbrev vwCl : List vw_C := [(RJ0, TJ0, 4), (RJ4, TJ4, 4), (RJx35411, TJx35411, 4), (RJx4a65c, TJx4a65c, 3), (RX0, TX0, 4), (RX1, TX1, 5), (RX2, TX2, 8), (RX3, TX3, 2), (RX4, TX4, 8)]
end
section
/-! ===== own base: numbers, the one list of words, rows with bundled premises ===== -/
def zI (z : Int) : Int32 := Int32.ofInt z
abbrev rg (a : Int) : Prop := -2147483648 ≤ a ∧ a < 2147483648
theorem zI_of (x : Int32) : zI x.toInt = x := Int32.ofInt_toInt x
theorem zI_rg (x : Int32) : rg x.toInt := ⟨by have := Int32.le_toInt x; omega, by have := Int32.toInt_lt x; omega⟩
theorem zI_ex (x : Int32) : ∃ a : Int, rg a ∧ x = zI a := ⟨x.toInt, zI_rg x, (zI_of x).symm⟩
theorem zI_toInt {a : Int} (h : rg a) : (zI a).toInt = a := Int32.toInt_ofInt_of_le (by omega) (by omega)
theorem zI_add (a b : Int) : zI a + zI b = zI (a + b) := (Int32.ofInt_add a b).symm
theorem zI_sub (a b : Int) : zI a - zI b = zI (a - b) := (Int32.ofInt_sub a b).symm
theorem zI_mul (a b : Int) : zI a * zI b = zI (a * b) := (Int32.ofInt_mul a b).symm
theorem zI_lt {a b : Int} (ha : rg a) (hb : rg b) : zI a < zI b ↔ a < b := by rw [Int32.lt_iff_toInt_lt, zI_toInt ha, zI_toInt hb]
theorem zI_le {a b : Int} (ha : rg a) (hb : rg b) : zI a ≤ zI b ↔ a ≤ b := by rw [Int32.le_iff_toInt_le, zI_toInt ha, zI_toInt hb]
theorem zI_eq {a b : Int} (ha : rg a) (hb : rg b) : zI a = zI b ↔ a = b := ⟨fun h => by have h2 := congrArg Int32.toInt h; rw [zI_toInt ha, zI_toInt hb] at h2; exact h2, fun h => by rw [h]⟩
theorem zI_clamp {a : Int} (h : rg a) : (zI a).toNatClampNeg = a.toNat := Int32.toNatClampNeg_ofInt_of_le (by omega) (by omega)
theorem zI_0 : (0 : Int32) = zI 0 := rfl
theorem zI_nI (n : Nat) : nI n = zI n := Int32.ofInt_eq_ofNat.symm
theorem zI_ne0 {b : Int} (hb : rg b) (h : b ≠ 0) : ¬ zI b = 0 := fun q => h ((zI_eq hb (by omega)).mp (q.trans zI_0))
theorem zI_div {a b : Int} (ha : 0 ≤ a ∧ a < 2147483648) (hb : 0 < b ∧ b < 2147483648) : zI a / zI b = zI (a / b) := by
  have h0 : 0 ≤ a / b := Int.ediv_nonneg ha.1 (by omega)
  have h1 : a / b ≤ a := Int.ediv_le_self b ha.1
  apply Int32.toInt_inj.mp
  rw [Int32.toInt_div_of_ne_right _ _ (fun q => by have := congrArg Int32.toInt q; rw [zI_toInt (by omega)] at this; have h2 : (-1 : Int32).toInt = -1 := rfl; omega), zI_toInt (by omega), zI_toInt (by omega), zI_toInt (by omega), Int.tdiv_eq_ediv_of_nonneg ha.1]
theorem zI_rem {a b : Int} (ha : 0 ≤ a ∧ a < 2147483648) (hb : 0 < b ∧ b < 2147483648) : zI a - zI a / zI b * zI b = zI (a % b) := by
  rw [zI_div ha hb, zI_mul, zI_sub]
  congr 1
  have := Int.mul_ediv_add_emod a b
  rw [Int.mul_comm] at this
  omega
theorem zI_in {a : Int} {n : Nat} (h : 0 ≤ a ∧ a < n) (hn : n < 2147483648) : vp_in (zI a) n := vp_in_iff.mpr ⟨by rw [zI_toInt (by omega)]; exact h.1, by rw [zI_toInt (by omega)]; exact h.2⟩
/-- a truth value as the machine has it -/
def bI (b : Bool) : Int32 := if b then 1 else 0
theorem bI_t : bI true = 1 := rfl
theorem bI_f : bI false = 0 := rfl
theorem bI_nar (b : Bool) : narrow .boolean (.int (bI b)) = .int (bI b) := by cases b <;> rfl
theorem bI_eq0 (b : Bool) : bI b = 0 ↔ b = false := by cases b <;> decide
/-- rows of numbers as the heap has them -/
def zA (g : Int → Int32) : Nat → Int32 := fun j => g j
def zB (h : Int → Int) : Nat → Int32 := fun j => zI (h j)
def zC (o : Int → Option Nat) : Nat → Option Nat := fun j => o j
def up {α : Type} (g : Int → α) (k : Int) (v : α) : Int → α := fun j => if j = k then v else g j
theorem up_s {α : Type} {g : Int → α} {k : Int} {v : α} : up g k v k = v := if_pos rfl
theorem up_n {α : Type} {g : Int → α} {k j : Int} {v : α} (h : j ≠ k) : up g k v j = g j := if_neg h
theorem zA_at {g : Int → Int32} {a : Int} (h : 0 ≤ a ∧ a < 2147483648) : zA g (zI a).toNatClampNeg = g a := by
  rw [zI_clamp (by omega)]; show g ((a.toNat : Nat) : Int) = g a; rw [Int.toNat_of_nonneg h.1]
theorem zB_at {g : Int → Int} {a : Int} (h : 0 ≤ a ∧ a < 2147483648) : zB g (zI a).toNatClampNeg = zI (g a) := by
  rw [zI_clamp (by omega)]; show zI (g ((a.toNat : Nat) : Int)) = zI (g a); rw [Int.toNat_of_nonneg h.1]
theorem zC_at {g : Int → Option Nat} {a : Int} (h : 0 ≤ a ∧ a < 2147483648) : zC g (zI a).toNatClampNeg = g a := by
  rw [zI_clamp (by omega)]; show g ((a.toNat : Nat) : Int) = g a; rw [Int.toNat_of_nonneg h.1]
theorem zA_up {g : Int → Int32} {a : Int} {x : Int32} (h : 0 ≤ a ∧ a < 2147483648) : upd (zA g) (zI a).toNatClampNeg x = zA (up g a x) := by
  rw [zI_clamp (by omega)]; funext j; unfold upd zA up; by_cases q : j = a.toNat
  · rw [if_pos q, if_pos (by omega)]
  · rw [if_neg q, if_neg (by omega)]
theorem zB_up {g : Int → Int} {a x : Int} (h : 0 ≤ a ∧ a < 2147483648) : upd (zB g) (zI a).toNatClampNeg (zI x) = zB (up g a x) := by
  rw [zI_clamp (by omega)]; funext j; unfold upd zB up; by_cases q : j = a.toNat
  · rw [if_pos q, if_pos (by omega)]
  · rw [if_neg q, if_neg (by omega)]
/-! the words -/
theorem zin1 {w : Cond} (h : w ∈ tables_1_1) : w ∈ lw_tbl := List.mem_append_right _ (List.mem_append_left _ h)
theorem zin2 {w : Cond} (h : w ∈ tables_1_2) : w ∈ lw_tbl := List.mem_append_right _ (List.mem_append_right _ (List.mem_append_left _ h))
theorem zin3 {w : Cond} (h : w ∈ tables_1_3) : w ∈ lw_tbl := List.mem_append_right _ (List.mem_append_right _ (List.mem_append_right _ (List.mem_append_left _ h)))
theorem zin4 {w : Cond} (h : w ∈ tables_1_4) : w ∈ lw_tbl := List.mem_append_right _ (List.mem_append_right _ (List.mem_append_right _ (List.mem_append_right _ (List.mem_append_left _ h))))
theorem zin5 {w : Cond} (h : w ∈ tables_1_5) : w ∈ lw_tbl := List.mem_append_right _ (List.mem_append_right _ (List.mem_append_right _ (List.mem_append_right _ (List.mem_append_right _ (List.mem_append_left _ h)))))
theorem zin6 {w : Cond} (h : w ∈ tables_1_6) : w ∈ lw_tbl := List.mem_append_right _ (List.mem_append_right _ (List.mem_append_right _ (List.mem_append_right _ (List.mem_append_right _ (List.mem_append_right _ (h))))))
theorem zinS {w : Cond} (h : w ∈ k2_sels lw_privs) : w ∈ lw_tbl := List.mem_append_left _ h
def lw_g : List Cond := lw_tbl.filter goodWord
theorem zg_of {w : Cond} (h : w ∈ lw_tbl) (g : goodWord w = true) : w ∈ lw_g := List.mem_filter.mpr ⟨h, g⟩
abbrev wq (y : MethodName) (b : ByteArray) (n : Nat) (r : Option FieldType) : List Cond := Cond.code y b n r :: lw_g
theorem zgood_tbl : GoodIn lw_g lw_g := fun w h => ⟨h, good_of_word (List.mem_filter.mp h).2⟩
theorem zgood_wq {y : MethodName} {b : ByteArray} {n : Nat} {r : Option FieldType} (h : Cond.code y b n r ∈ lw_g) : GoodIn lw_g (wq y b n r) := fun w hw => by
  rcases List.mem_cons.mp hw with rfl | hw
  · exact zgood_tbl _ h
  · exact zgood_tbl _ hw
/-- the classes' and arrays' names, for the worlds: (class ids and slots, array classes) -/
abbrev zG : Type := va_G × (Nat → ClassId)
def zT (G : zG) : List (ClassId × FieldType) := [(G.2 0, .int), (G.2 1, .object "Cyclepaint$Range"), (G.2 2, .object "java/lang/Object"), (G.2 3, .byte)]
/-- words that hold of the tables wherever one stands, beside those of lw_g -/
def zNl : List Cond := lw_tbl.filter fun w => w.onTables && (match w with | .castable .. => true | .declares .. => true | .interfaceMethod .. => true | .publicMethod .. => true | .unhidden .. => true | _ => false)
def zKn (G : zG) (U : State) : Prop := va_K G.1 vwCl (zT G) U
theorem zKn.moved {G : zG} {u U : State} (h : u.vm.Alike U.vm) (k : zKn G u) : zKn G U := va_K.moved h k
theorem zG_I {G : zG} {U : State} (h : zKn G U) : U.vm.findClass "[I" = some (G.2 0) := by
  have h1 := (h.2 0 (G.2 0, .int) rfl).2
  have h2 : U.vm.findClass ("[" ++ FieldType.int.toString) = some (G.2 0) := h1
  rw [show ("[" ++ FieldType.int.toString) = "[I" from by decide +kernel] at h2
  exact h2
def zK (G : zG) (P : Heap → Prop) : State → Prop := fun U => P U.heap ∧ zKn G U
def zCl (ci : Nat) (C : String) (T : u_T) (N : Nat) : Prop := vwCl[ci]? = some (C, T, N) ∧ ∀ w ∈ u_ws C T N, w ∈ lw_g
def zOK (y : MethodName) (b : ByteArray) (n : Nat) (r : Option FieldType) (na : Nat) : Prop := Cond.code y b n r ∈ lw_g ∧ Cond.initialized y.cls ∈ lw_g ∧ (y.cls ≠ "java/lang/invoke/MethodHandle" ∧ y.cls ≠ "java/lang/invoke/VarHandle" ∧ (parseMethodDescriptor y.desc).map (fun d => d.parameters.length) = some na)
def zOV (y : MethodName) (b : ByteArray) (n : Nat) (r : Option FieldType) (na : Nat) : Prop := zOK y b n r na ∧ Cond.instanceMethod y ∈ lw_g ∧ Cond.selects y.cls y y ∈ lw_g
def zOS (y : MethodName) (b : ByteArray) (n : Nat) (r : Option FieldType) (na : Nat) : Prop := zOK y b n r na ∧ Cond.static y ∈ lw_g
/-- a method that only reads: what it answers; the heap stays -/
def zQ (v : Option Value) : Array Value → State → Outcome → State → Prop := fun _ st o t => o = .returned v ∧ t.heap = st.heap
def zF : Addr → Prop := fun _ => False
def zR (R rm : Room) (maxL : Nat) : Prop := rm.cells = 0 ∧ rm.slots = 0 ∧ rm.frames + 1 ≤ R.frames ∧ 8 + (maxL + 11) + rm.locals ≤ R.locals
abbrev rmR (f l : Nat) : Room := { frames := f, cells := 0, slots := 0, locals := l }
theorem va_one {D : va_G} {cl : List vw_C} {q : Nat × va_E} {H : Heap} (h : va_at D cl q H) : va_P D cl [q] H := fun k x hk => by
  cases k with
  | zero => cases hk; exact h
  | succ k => simp at hk
section ZR
variable {p : Program} {l : Launch} {e : Env} {R : Room} {s : State} {m : MethodId} {args : Array Value} {below : List Frame} {meth : Method} {c : Code} {H : Heap} {locs : List Loc} {cells slots : Nat} {Q : State → Prop}
variable {cc : ByteArray} {nL : Nat} {own : String} {pc : Nat} {ls : Array Slot} {rest : List Value} {G : zG}
theorem z_iconst (S : CallFix p m c cc nL s args lw_g own) {n : Int} (d : decode cc pc = .ok (.iconst n, 1)) (k : W p l e R s m args below meth c H locs cells slots Q (F0 m (pc + 1) ls (.int (zI n) :: rest))) : W p l e R s m args below meth c H locs cells slots Q (F0 m pc ls rest) := lv_iconst S.1 S.2.1 d rfl k
theorem z_bipush (S : CallFix p m c cc nL s args lw_g own) {n : Int} (d : decode cc pc = .ok (.bipush n, 2)) (hv : (Int8.ofInt n).toInt32 = zI n) (k : W p l e R s m args below meth c H locs cells slots Q (F0 m (pc + 2) ls (.int (zI n) :: rest))) : W p l e R s m args below meth c H locs cells slots Q (F0 m pc ls rest) := lv_bipush S.1 S.2.1 d hv k
theorem z_sipush (S : CallFix p m c cc nL s args lw_g own) {n : Int} (d : decode cc pc = .ok (.sipush n, 3)) (hv : (Int16.ofInt n).toInt32 = zI n) (k : W p l e R s m args below meth c H locs cells slots Q (F0 m (pc + 3) ls (.int (zI n) :: rest))) : W p l e R s m args below meth c H locs cells slots Q (F0 m pc ls rest) := lv_sipush S.1 S.2.1 d hv k
theorem z_ldc (S : CallFix p m c cc nL s args lw_g own) {index : Nat} {v : Int32} (n : Int) (hc : Jvm.Cond.constant own index v ∈ lw_g) (hv : v = zI n) (d : decode cc pc = .ok (.ldc index, 2)) (k : W p l e R s m args below meth c H locs cells slots Q (F0 m (pc + 2) ls (.int (zI n) :: rest))) : W p l e R s m args below meth c H locs cells slots Q (F0 m pc ls rest) := lv_ldc S.1 S.2.1 S.2.2.2.1 (S.2.2.2.2 _ hc) d (by rw [hv]; exact k)
theorem z_iload_n (S : CallFix p m c cc nL s args lw_g own) {k : Fin 4} {i : Nat} {x : Int32} {lv : List (Nat × Value)} (d : decode cc pc = .ok (.iload_n k, 1)) (hl : lv_has ls nL lv) (j : Nat) (hi : (k : Nat) = i) (hj : lv[j]? = some (i, .int x)) (kk : W p l e R s m args below meth c H locs cells slots Q (F0 m (pc + 1) ls (.int x :: rest))) : W p l e R s m args below meth c H locs cells slots Q (F0 m pc ls rest) := lv_iload_n S.1 S.2.1 d hi (lv_at hl j hj) kk
theorem z_iload (S : CallFix p m c cc nL s args lw_g own) {i : Nat} {x : Int32} {lv : List (Nat × Value)} (d : decode cc pc = .ok (.iload i, 2)) (hl : lv_has ls nL lv) (j : Nat) (hj : lv[j]? = some (i, .int x)) (kk : W p l e R s m args below meth c H locs cells slots Q (F0 m (pc + 2) ls (.int x :: rest))) : W p l e R s m args below meth c H locs cells slots Q (F0 m pc ls rest) := lv_iload S.1 S.2.1 d (lv_at hl j hj) kk
theorem z_aload_n (S : CallFix p m c cc nL s args lw_g own) {k : Fin 4} {i x : Nat} {lv : List (Nat × Value)} (d : decode cc pc = .ok (.aload_n k, 1)) (hl : lv_has ls nL lv) (j : Nat) (hi : (k : Nat) = i) (hj : lv[j]? = some (i, .ref x)) (kk : W p l e R s m args below meth c H locs cells slots Q (F0 m (pc + 1) ls (.ref x :: rest))) : W p l e R s m args below meth c H locs cells slots Q (F0 m pc ls rest) := lv_aload_n S.1 S.2.1 d hi (lv_at hl j hj) kk
theorem z_aload (S : CallFix p m c cc nL s args lw_g own) {i x : Nat} {lv : List (Nat × Value)} (d : decode cc pc = .ok (.aload i, 2)) (hl : lv_has ls nL lv) (j : Nat) (hj : lv[j]? = some (i, .ref x)) (kk : W p l e R s m args below meth c H locs cells slots Q (F0 m (pc + 2) ls (.ref x :: rest))) : W p l e R s m args below meth c H locs cells slots Q (F0 m pc ls rest) := lv_aload S.1 S.2.1 d (lv_at hl j hj) kk
theorem z_aload_nN (S : CallFix p m c cc nL s args lw_g own) {k : Fin 4} {i : Nat} {lv : List (Nat × Value)} (d : decode cc pc = .ok (.aload_n k, 1)) (hl : lv_has ls nL lv) (j : Nat) (hi : (k : Nat) = i) (hj : lv[j]? = some (i, .null)) (kk : W p l e R s m args below meth c H locs cells slots Q (F0 m (pc + 1) ls (.null :: rest))) : W p l e R s m args below meth c H locs cells slots Q (F0 m pc ls rest) := lv_aload_nN S.1 S.2.1 d hi (lv_at hl j hj) kk
theorem z_aloadN (S : CallFix p m c cc nL s args lw_g own) {i : Nat} {lv : List (Nat × Value)} (d : decode cc pc = .ok (.aload i, 2)) (hl : lv_has ls nL lv) (j : Nat) (hj : lv[j]? = some (i, .null)) (kk : W p l e R s m args below meth c H locs cells slots Q (F0 m (pc + 2) ls (.null :: rest))) : W p l e R s m args below meth c H locs cells slots Q (F0 m pc ls rest) := lv_aloadN S.1 S.2.1 d (lv_at hl j hj) kk
theorem z_iadd (S : CallFix p m c cc nL s args lw_g own) (d : decode cc pc = .ok (.iadd, 1)) {a b : Int} (k : W p l e R s m args below meth c H locs cells slots Q (F0 m (pc + 1) ls (.int (zI (a + b)) :: rest))) : W p l e R s m args below meth c H locs cells slots Q (F0 m pc ls (.int (zI b) :: .int (zI a) :: rest)) := lv_iadd S.1 S.2.1 d (by rw [zI_add]; exact k)
theorem z_isub (S : CallFix p m c cc nL s args lw_g own) (d : decode cc pc = .ok (.isub, 1)) {a b : Int} (k : W p l e R s m args below meth c H locs cells slots Q (F0 m (pc + 1) ls (.int (zI (a - b)) :: rest))) : W p l e R s m args below meth c H locs cells slots Q (F0 m pc ls (.int (zI b) :: .int (zI a) :: rest)) := lv_isub S.1 S.2.1 d (by rw [zI_sub]; exact k)
theorem z_imul (S : CallFix p m c cc nL s args lw_g own) (d : decode cc pc = .ok (.imul, 1)) {a b : Int} (k : W p l e R s m args below meth c H locs cells slots Q (F0 m (pc + 1) ls (.int (zI (a * b)) :: rest))) : W p l e R s m args below meth c H locs cells slots Q (F0 m pc ls (.int (zI b) :: .int (zI a) :: rest)) := lv_imul S.1 S.2.1 d (by rw [zI_mul]; exact k)
theorem z_idiv (S : CallFix p m c cc nL s args lw_g own) (d : decode cc pc = .ok (.idiv, 1)) {a b : Int} (ha : 0 ≤ a ∧ a < 2147483648) (hb : 0 < b ∧ b < 2147483648) (k : W p l e R s m args below meth c H locs cells slots Q (F0 m (pc + 1) ls (.int (zI (a / b)) :: rest))) : W p l e R s m args below meth c H locs cells slots Q (F0 m pc ls (.int (zI b) :: .int (zI a) :: rest)) := lv_idiv S.1 S.2.1 d (zI_ne0 (by omega) (by omega)) (by rw [zI_div ha hb]; exact k)
theorem z_irem (S : CallFix p m c cc nL s args lw_g own) (d : decode cc pc = .ok (.irem, 1)) {a b : Int} (ha : 0 ≤ a ∧ a < 2147483648) (hb : 0 < b ∧ b < 2147483648) (k : W p l e R s m args below meth c H locs cells slots Q (F0 m (pc + 1) ls (.int (zI (a % b)) :: rest))) : W p l e R s m args below meth c H locs cells slots Q (F0 m pc ls (.int (zI b) :: .int (zI a) :: rest)) := lv_irem S.1 S.2.1 d (zI_ne0 (by omega) (by omega)) (by rw [zI_rem ha hb]; exact k)
theorem z_dup (S : CallFix p m c cc nL s args lw_g own) (d : decode cc pc = .ok (.dup, 1)) {v : Value} (hv : v.category = 1) (k : W p l e R s m args below meth c H locs cells slots Q (F0 m (pc + 1) ls (v :: v :: rest))) : W p l e R s m args below meth c H locs cells slots Q (F0 m pc ls (v :: rest)) := lv_dup S.1 S.2.1 d hv k
theorem z_goto (S : CallFix p m c cc nL s args lw_g own) {off : Int} (tgt : Nat) (d : decode cc pc = .ok (.goto off, 3)) (ht : (pc : Int) + off = (tgt : Int)) (k : W p l e R s m args below meth c H locs cells slots Q (F0 m tgt ls rest)) : W p l e R s m args below meth c H locs cells slots Q (F0 m pc ls rest) := lv_goto S.1 S.2.1 d ht k
theorem z_istore_n (S : CallFix p m c cc nL s args lw_g own) {k : Fin 4} {i : Nat} {x : Int32} {lv lv' : List (Nat × Value)} (d : decode cc pc = .ok (.istore_n k, 1)) (hl : lv_has ls nL lv) (hi : (k : Nat) = i) (hn : i < nL) (hq : (i, Value.int x) :: lv.filter (fun q => !(q.1 == i) && !(q.1 + 1 == i && q.2.category == 2)) = lv') (kk : ∀ ls', lv_has ls' nL lv' → W p l e R s m args below meth c H locs cells slots Q (F0 m (pc + 1) ls' rest)) : W p l e R s m args below meth c H locs cells slots Q (F0 m pc ls (.int x :: rest)) := lv_istore_n S.1 S.2.1 d hi hl hn hq kk
theorem z_istore (S : CallFix p m c cc nL s args lw_g own) {i : Nat} {x : Int32} {lv lv' : List (Nat × Value)} (d : decode cc pc = .ok (.istore i, 2)) (hl : lv_has ls nL lv) (hn : i < nL) (hq : (i, Value.int x) :: lv.filter (fun q => !(q.1 == i) && !(q.1 + 1 == i && q.2.category == 2)) = lv') (kk : ∀ ls', lv_has ls' nL lv' → W p l e R s m args below meth c H locs cells slots Q (F0 m (pc + 2) ls' rest)) : W p l e R s m args below meth c H locs cells slots Q (F0 m pc ls (.int x :: rest)) := lv_istore S.1 S.2.1 d hl hn hq kk
theorem z_astore_n (S : CallFix p m c cc nL s args lw_g own) {k : Fin 4} {i x : Nat} {lv lv' : List (Nat × Value)} (d : decode cc pc = .ok (.astore_n k, 1)) (hl : lv_has ls nL lv) (hi : (k : Nat) = i) (hn : i < nL) (hq : (i, Value.ref x) :: lv.filter (fun q => !(q.1 == i) && !(q.1 + 1 == i && q.2.category == 2)) = lv') (kk : ∀ ls', lv_has ls' nL lv' → W p l e R s m args below meth c H locs cells slots Q (F0 m (pc + 1) ls' rest)) : W p l e R s m args below meth c H locs cells slots Q (F0 m pc ls (.ref x :: rest)) := lv_astore_n S.1 S.2.1 d hi hl hn hq kk
theorem z_astore (S : CallFix p m c cc nL s args lw_g own) {i x : Nat} {lv lv' : List (Nat × Value)} (d : decode cc pc = .ok (.astore i, 2)) (hl : lv_has ls nL lv) (hn : i < nL) (hq : (i, Value.ref x) :: lv.filter (fun q => !(q.1 == i) && !(q.1 + 1 == i && q.2.category == 2)) = lv') (kk : ∀ ls', lv_has ls' nL lv' → W p l e R s m args below meth c H locs cells slots Q (F0 m (pc + 2) ls' rest)) : W p l e R s m args below meth c H locs cells slots Q (F0 m pc ls (.ref x :: rest)) := lv_astore S.1 S.2.1 d hl hn hq kk
theorem z_astore_nN (S : CallFix p m c cc nL s args lw_g own) {k : Fin 4} {i : Nat} {lv lv' : List (Nat × Value)} (d : decode cc pc = .ok (.astore_n k, 1)) (hl : lv_has ls nL lv) (hi : (k : Nat) = i) (hn : i < nL) (hq : (i, Value.null) :: lv.filter (fun q => !(q.1 == i) && !(q.1 + 1 == i && q.2.category == 2)) = lv') (kk : ∀ ls', lv_has ls' nL lv' → W p l e R s m args below meth c H locs cells slots Q (F0 m (pc + 1) ls' rest)) : W p l e R s m args below meth c H locs cells slots Q (F0 m pc ls (.null :: rest)) := lv_astore_nN S.1 S.2.1 d hi hl hn hq kk
theorem z_astoreN (S : CallFix p m c cc nL s args lw_g own) {i : Nat} {lv lv' : List (Nat × Value)} (d : decode cc pc = .ok (.astore i, 2)) (hl : lv_has ls nL lv) (hn : i < nL) (hq : (i, Value.null) :: lv.filter (fun q => !(q.1 == i) && !(q.1 + 1 == i && q.2.category == 2)) = lv') (kk : ∀ ls', lv_has ls' nL lv' → W p l e R s m args below meth c H locs cells slots Q (F0 m (pc + 2) ls' rest)) : W p l e R s m args below meth c H locs cells slots Q (F0 m pc ls (.null :: rest)) := lv_astoreN S.1 S.2.1 d hl hn hq kk
theorem z_iinc (S : CallFix p m c cc nL s args lw_g own) {i : Nat} {n x : Int} {lv lv' : List (Nat × Value)} (d : decode cc pc = .ok (.iinc i n, 3)) (hl : lv_has ls nL lv) (j : Nat) (hj : lv[j]? = some (i, .int (zI x))) (hn : i < nL) (hq : (i, Value.int (zI (x + n))) :: lv.filter (fun q => !(q.1 == i) && !(q.1 + 1 == i && q.2.category == 2)) = lv') (kk : ∀ ls', lv_has ls' nL lv' → W p l e R s m args below meth c H locs cells slots Q (F0 m (pc + 3) ls' rest)) : W p l e R s m args below meth c H locs cells slots Q (F0 m pc ls rest) := lv_iinc S.1 S.2.1 d hl hj (zI_add x n) hn hq kk
theorem z0 : rg 0 := by omega
theorem z_icmp_eq (S : CallFix p m c cc nL s args lw_g own) {off : Int} (tgt : Nat) (d : decode cc pc = .ok (.if_icmp .eq off, 3)) (ht : (pc : Int) + off = (tgt : Int)) {a b : Int} (ha : rg a) (hb : rg b) (kt : a = b → W p l e R s m args below meth c H locs cells slots Q (F0 m tgt ls rest)) (kf : ¬ (a = b) → W p l e R s m args below meth c H locs cells slots Q (F0 m (pc + 3) ls rest)) : W p l e R s m args below meth c H locs cells slots Q (F0 m pc ls (.int (zI b) :: .int (zI a) :: rest)) := lv_icmp_eq S.1 S.2.1 d ht (fun q => kt ((zI_eq ha hb).mp q)) (fun q => kf (fun z => q ((zI_eq ha hb).mpr z)))
theorem z_icmp_eq_T (S : CallFix p m c cc nL s args lw_g own) {off : Int} (tgt : Nat) (d : decode cc pc = .ok (.if_icmp .eq off, 3)) (ht : (pc : Int) + off = (tgt : Int)) {a b : Int} (ha : rg a) (hb : rg b) (h : a = b) (kt : W p l e R s m args below meth c H locs cells slots Q (F0 m tgt ls rest)) : W p l e R s m args below meth c H locs cells slots Q (F0 m pc ls (.int (zI b) :: .int (zI a) :: rest)) := z_icmp_eq S tgt d ht ha hb (fun _ => kt) (fun q => absurd h q)
theorem z_icmp_eq_F (S : CallFix p m c cc nL s args lw_g own) {off : Int} (tgt : Nat) (d : decode cc pc = .ok (.if_icmp .eq off, 3)) (ht : (pc : Int) + off = (tgt : Int)) {a b : Int} (ha : rg a) (hb : rg b) (h : ¬ (a = b)) (kf : W p l e R s m args below meth c H locs cells slots Q (F0 m (pc + 3) ls rest)) : W p l e R s m args below meth c H locs cells slots Q (F0 m pc ls (.int (zI b) :: .int (zI a) :: rest)) := z_icmp_eq S tgt d ht ha hb (fun q => absurd q h) (fun _ => kf)
theorem z_icmp_ne (S : CallFix p m c cc nL s args lw_g own) {off : Int} (tgt : Nat) (d : decode cc pc = .ok (.if_icmp .ne off, 3)) (ht : (pc : Int) + off = (tgt : Int)) {a b : Int} (ha : rg a) (hb : rg b) (kt : ¬ a = b → W p l e R s m args below meth c H locs cells slots Q (F0 m tgt ls rest)) (kf : ¬ (¬ a = b) → W p l e R s m args below meth c H locs cells slots Q (F0 m (pc + 3) ls rest)) : W p l e R s m args below meth c H locs cells slots Q (F0 m pc ls (.int (zI b) :: .int (zI a) :: rest)) := lv_icmp_ne S.1 S.2.1 d ht (fun q => kt ((not_congr (zI_eq ha hb)).mp q)) (fun q => kf (fun z => z ((zI_eq ha hb).mp q)))
theorem z_icmp_ne_T (S : CallFix p m c cc nL s args lw_g own) {off : Int} (tgt : Nat) (d : decode cc pc = .ok (.if_icmp .ne off, 3)) (ht : (pc : Int) + off = (tgt : Int)) {a b : Int} (ha : rg a) (hb : rg b) (h : ¬ a = b) (kt : W p l e R s m args below meth c H locs cells slots Q (F0 m tgt ls rest)) : W p l e R s m args below meth c H locs cells slots Q (F0 m pc ls (.int (zI b) :: .int (zI a) :: rest)) := z_icmp_ne S tgt d ht ha hb (fun _ => kt) (fun q => absurd h q)
theorem z_icmp_ne_F (S : CallFix p m c cc nL s args lw_g own) {off : Int} (tgt : Nat) (d : decode cc pc = .ok (.if_icmp .ne off, 3)) (ht : (pc : Int) + off = (tgt : Int)) {a b : Int} (ha : rg a) (hb : rg b) (h : ¬ (¬ a = b)) (kf : W p l e R s m args below meth c H locs cells slots Q (F0 m (pc + 3) ls rest)) : W p l e R s m args below meth c H locs cells slots Q (F0 m pc ls (.int (zI b) :: .int (zI a) :: rest)) := z_icmp_ne S tgt d ht ha hb (fun q => absurd q h) (fun _ => kf)
theorem z_icmp_lt (S : CallFix p m c cc nL s args lw_g own) {off : Int} (tgt : Nat) (d : decode cc pc = .ok (.if_icmp .lt off, 3)) (ht : (pc : Int) + off = (tgt : Int)) {a b : Int} (ha : rg a) (hb : rg b) (kt : a < b → W p l e R s m args below meth c H locs cells slots Q (F0 m tgt ls rest)) (kf : ¬ (a < b) → W p l e R s m args below meth c H locs cells slots Q (F0 m (pc + 3) ls rest)) : W p l e R s m args below meth c H locs cells slots Q (F0 m pc ls (.int (zI b) :: .int (zI a) :: rest)) := lv_icmp_lt S.1 S.2.1 d ht (fun q => kt ((zI_lt ha hb).mp q)) (fun q => kf (fun z => q ((zI_lt ha hb).mpr z)))
theorem z_icmp_lt_T (S : CallFix p m c cc nL s args lw_g own) {off : Int} (tgt : Nat) (d : decode cc pc = .ok (.if_icmp .lt off, 3)) (ht : (pc : Int) + off = (tgt : Int)) {a b : Int} (ha : rg a) (hb : rg b) (h : a < b) (kt : W p l e R s m args below meth c H locs cells slots Q (F0 m tgt ls rest)) : W p l e R s m args below meth c H locs cells slots Q (F0 m pc ls (.int (zI b) :: .int (zI a) :: rest)) := z_icmp_lt S tgt d ht ha hb (fun _ => kt) (fun q => absurd h q)
theorem z_icmp_lt_F (S : CallFix p m c cc nL s args lw_g own) {off : Int} (tgt : Nat) (d : decode cc pc = .ok (.if_icmp .lt off, 3)) (ht : (pc : Int) + off = (tgt : Int)) {a b : Int} (ha : rg a) (hb : rg b) (h : ¬ (a < b)) (kf : W p l e R s m args below meth c H locs cells slots Q (F0 m (pc + 3) ls rest)) : W p l e R s m args below meth c H locs cells slots Q (F0 m pc ls (.int (zI b) :: .int (zI a) :: rest)) := z_icmp_lt S tgt d ht ha hb (fun q => absurd q h) (fun _ => kf)
theorem z_icmp_ge (S : CallFix p m c cc nL s args lw_g own) {off : Int} (tgt : Nat) (d : decode cc pc = .ok (.if_icmp .ge off, 3)) (ht : (pc : Int) + off = (tgt : Int)) {a b : Int} (ha : rg a) (hb : rg b) (kt : b ≤ a → W p l e R s m args below meth c H locs cells slots Q (F0 m tgt ls rest)) (kf : ¬ (b ≤ a) → W p l e R s m args below meth c H locs cells slots Q (F0 m (pc + 3) ls rest)) : W p l e R s m args below meth c H locs cells slots Q (F0 m pc ls (.int (zI b) :: .int (zI a) :: rest)) := lv_icmp_ge S.1 S.2.1 d ht (fun q => kt ((zI_le hb ha).mp q)) (fun q => kf (fun z => q ((zI_le hb ha).mpr z)))
theorem z_icmp_ge_T (S : CallFix p m c cc nL s args lw_g own) {off : Int} (tgt : Nat) (d : decode cc pc = .ok (.if_icmp .ge off, 3)) (ht : (pc : Int) + off = (tgt : Int)) {a b : Int} (ha : rg a) (hb : rg b) (h : b ≤ a) (kt : W p l e R s m args below meth c H locs cells slots Q (F0 m tgt ls rest)) : W p l e R s m args below meth c H locs cells slots Q (F0 m pc ls (.int (zI b) :: .int (zI a) :: rest)) := z_icmp_ge S tgt d ht ha hb (fun _ => kt) (fun q => absurd h q)
theorem z_icmp_ge_F (S : CallFix p m c cc nL s args lw_g own) {off : Int} (tgt : Nat) (d : decode cc pc = .ok (.if_icmp .ge off, 3)) (ht : (pc : Int) + off = (tgt : Int)) {a b : Int} (ha : rg a) (hb : rg b) (h : ¬ (b ≤ a)) (kf : W p l e R s m args below meth c H locs cells slots Q (F0 m (pc + 3) ls rest)) : W p l e R s m args below meth c H locs cells slots Q (F0 m pc ls (.int (zI b) :: .int (zI a) :: rest)) := z_icmp_ge S tgt d ht ha hb (fun q => absurd q h) (fun _ => kf)
theorem z_icmp_gt (S : CallFix p m c cc nL s args lw_g own) {off : Int} (tgt : Nat) (d : decode cc pc = .ok (.if_icmp .gt off, 3)) (ht : (pc : Int) + off = (tgt : Int)) {a b : Int} (ha : rg a) (hb : rg b) (kt : b < a → W p l e R s m args below meth c H locs cells slots Q (F0 m tgt ls rest)) (kf : ¬ (b < a) → W p l e R s m args below meth c H locs cells slots Q (F0 m (pc + 3) ls rest)) : W p l e R s m args below meth c H locs cells slots Q (F0 m pc ls (.int (zI b) :: .int (zI a) :: rest)) := lv_icmp_gt S.1 S.2.1 d ht (fun q => kt ((zI_lt hb ha).mp q)) (fun q => kf (fun z => q ((zI_lt hb ha).mpr z)))
theorem z_icmp_gt_T (S : CallFix p m c cc nL s args lw_g own) {off : Int} (tgt : Nat) (d : decode cc pc = .ok (.if_icmp .gt off, 3)) (ht : (pc : Int) + off = (tgt : Int)) {a b : Int} (ha : rg a) (hb : rg b) (h : b < a) (kt : W p l e R s m args below meth c H locs cells slots Q (F0 m tgt ls rest)) : W p l e R s m args below meth c H locs cells slots Q (F0 m pc ls (.int (zI b) :: .int (zI a) :: rest)) := z_icmp_gt S tgt d ht ha hb (fun _ => kt) (fun q => absurd h q)
theorem z_icmp_gt_F (S : CallFix p m c cc nL s args lw_g own) {off : Int} (tgt : Nat) (d : decode cc pc = .ok (.if_icmp .gt off, 3)) (ht : (pc : Int) + off = (tgt : Int)) {a b : Int} (ha : rg a) (hb : rg b) (h : ¬ (b < a)) (kf : W p l e R s m args below meth c H locs cells slots Q (F0 m (pc + 3) ls rest)) : W p l e R s m args below meth c H locs cells slots Q (F0 m pc ls (.int (zI b) :: .int (zI a) :: rest)) := z_icmp_gt S tgt d ht ha hb (fun q => absurd q h) (fun _ => kf)
theorem z_icmp_le (S : CallFix p m c cc nL s args lw_g own) {off : Int} (tgt : Nat) (d : decode cc pc = .ok (.if_icmp .le off, 3)) (ht : (pc : Int) + off = (tgt : Int)) {a b : Int} (ha : rg a) (hb : rg b) (kt : a ≤ b → W p l e R s m args below meth c H locs cells slots Q (F0 m tgt ls rest)) (kf : ¬ (a ≤ b) → W p l e R s m args below meth c H locs cells slots Q (F0 m (pc + 3) ls rest)) : W p l e R s m args below meth c H locs cells slots Q (F0 m pc ls (.int (zI b) :: .int (zI a) :: rest)) := lv_icmp_le S.1 S.2.1 d ht (fun q => kt ((zI_le ha hb).mp q)) (fun q => kf (fun z => q ((zI_le ha hb).mpr z)))
theorem z_icmp_le_T (S : CallFix p m c cc nL s args lw_g own) {off : Int} (tgt : Nat) (d : decode cc pc = .ok (.if_icmp .le off, 3)) (ht : (pc : Int) + off = (tgt : Int)) {a b : Int} (ha : rg a) (hb : rg b) (h : a ≤ b) (kt : W p l e R s m args below meth c H locs cells slots Q (F0 m tgt ls rest)) : W p l e R s m args below meth c H locs cells slots Q (F0 m pc ls (.int (zI b) :: .int (zI a) :: rest)) := z_icmp_le S tgt d ht ha hb (fun _ => kt) (fun q => absurd h q)
theorem z_icmp_le_F (S : CallFix p m c cc nL s args lw_g own) {off : Int} (tgt : Nat) (d : decode cc pc = .ok (.if_icmp .le off, 3)) (ht : (pc : Int) + off = (tgt : Int)) {a b : Int} (ha : rg a) (hb : rg b) (h : ¬ (a ≤ b)) (kf : W p l e R s m args below meth c H locs cells slots Q (F0 m (pc + 3) ls rest)) : W p l e R s m args below meth c H locs cells slots Q (F0 m pc ls (.int (zI b) :: .int (zI a) :: rest)) := z_icmp_le S tgt d ht ha hb (fun q => absurd q h) (fun _ => kf)
theorem z_if_eq (S : CallFix p m c cc nL s args lw_g own) {off : Int} (tgt : Nat) (d : decode cc pc = .ok (.ifCond .eq off, 3)) (ht : (pc : Int) + off = (tgt : Int)) {a : Int} (ha : rg a) (kt : a = 0 → W p l e R s m args below meth c H locs cells slots Q (F0 m tgt ls rest)) (kf : ¬ (a = 0) → W p l e R s m args below meth c H locs cells slots Q (F0 m (pc + 3) ls rest)) : W p l e R s m args below meth c H locs cells slots Q (F0 m pc ls (.int (zI a) :: rest)) := lv_if_eq S.1 S.2.1 d ht (fun q => kt ((zI_eq ha z0).mp q)) (fun q => kf (fun z => q ((zI_eq ha z0).mpr z)))
theorem z_if_eq_T (S : CallFix p m c cc nL s args lw_g own) {off : Int} (tgt : Nat) (d : decode cc pc = .ok (.ifCond .eq off, 3)) (ht : (pc : Int) + off = (tgt : Int)) {a : Int} (ha : rg a) (h : a = 0) (kt : W p l e R s m args below meth c H locs cells slots Q (F0 m tgt ls rest)) : W p l e R s m args below meth c H locs cells slots Q (F0 m pc ls (.int (zI a) :: rest)) := z_if_eq S tgt d ht ha (fun _ => kt) (fun q => absurd h q)
theorem z_if_eq_F (S : CallFix p m c cc nL s args lw_g own) {off : Int} (tgt : Nat) (d : decode cc pc = .ok (.ifCond .eq off, 3)) (ht : (pc : Int) + off = (tgt : Int)) {a : Int} (ha : rg a) (h : ¬ (a = 0)) (kf : W p l e R s m args below meth c H locs cells slots Q (F0 m (pc + 3) ls rest)) : W p l e R s m args below meth c H locs cells slots Q (F0 m pc ls (.int (zI a) :: rest)) := z_if_eq S tgt d ht ha (fun q => absurd q h) (fun _ => kf)
theorem z_if_ne (S : CallFix p m c cc nL s args lw_g own) {off : Int} (tgt : Nat) (d : decode cc pc = .ok (.ifCond .ne off, 3)) (ht : (pc : Int) + off = (tgt : Int)) {a : Int} (ha : rg a) (kt : ¬ a = 0 → W p l e R s m args below meth c H locs cells slots Q (F0 m tgt ls rest)) (kf : ¬ (¬ a = 0) → W p l e R s m args below meth c H locs cells slots Q (F0 m (pc + 3) ls rest)) : W p l e R s m args below meth c H locs cells slots Q (F0 m pc ls (.int (zI a) :: rest)) := lv_if_ne S.1 S.2.1 d ht (fun q => kt ((not_congr (zI_eq ha z0)).mp q)) (fun q => kf (fun z => z ((zI_eq ha z0).mp q)))
theorem z_if_ne_T (S : CallFix p m c cc nL s args lw_g own) {off : Int} (tgt : Nat) (d : decode cc pc = .ok (.ifCond .ne off, 3)) (ht : (pc : Int) + off = (tgt : Int)) {a : Int} (ha : rg a) (h : ¬ a = 0) (kt : W p l e R s m args below meth c H locs cells slots Q (F0 m tgt ls rest)) : W p l e R s m args below meth c H locs cells slots Q (F0 m pc ls (.int (zI a) :: rest)) := z_if_ne S tgt d ht ha (fun _ => kt) (fun q => absurd h q)
theorem z_if_ne_F (S : CallFix p m c cc nL s args lw_g own) {off : Int} (tgt : Nat) (d : decode cc pc = .ok (.ifCond .ne off, 3)) (ht : (pc : Int) + off = (tgt : Int)) {a : Int} (ha : rg a) (h : ¬ (¬ a = 0)) (kf : W p l e R s m args below meth c H locs cells slots Q (F0 m (pc + 3) ls rest)) : W p l e R s m args below meth c H locs cells slots Q (F0 m pc ls (.int (zI a) :: rest)) := z_if_ne S tgt d ht ha (fun q => absurd q h) (fun _ => kf)
theorem z_if_lt (S : CallFix p m c cc nL s args lw_g own) {off : Int} (tgt : Nat) (d : decode cc pc = .ok (.ifCond .lt off, 3)) (ht : (pc : Int) + off = (tgt : Int)) {a : Int} (ha : rg a) (kt : a < 0 → W p l e R s m args below meth c H locs cells slots Q (F0 m tgt ls rest)) (kf : ¬ (a < 0) → W p l e R s m args below meth c H locs cells slots Q (F0 m (pc + 3) ls rest)) : W p l e R s m args below meth c H locs cells slots Q (F0 m pc ls (.int (zI a) :: rest)) := lv_if_lt S.1 S.2.1 d ht (fun q => kt ((zI_lt ha z0).mp q)) (fun q => kf (fun z => q ((zI_lt ha z0).mpr z)))
theorem z_if_lt_T (S : CallFix p m c cc nL s args lw_g own) {off : Int} (tgt : Nat) (d : decode cc pc = .ok (.ifCond .lt off, 3)) (ht : (pc : Int) + off = (tgt : Int)) {a : Int} (ha : rg a) (h : a < 0) (kt : W p l e R s m args below meth c H locs cells slots Q (F0 m tgt ls rest)) : W p l e R s m args below meth c H locs cells slots Q (F0 m pc ls (.int (zI a) :: rest)) := z_if_lt S tgt d ht ha (fun _ => kt) (fun q => absurd h q)
theorem z_if_lt_F (S : CallFix p m c cc nL s args lw_g own) {off : Int} (tgt : Nat) (d : decode cc pc = .ok (.ifCond .lt off, 3)) (ht : (pc : Int) + off = (tgt : Int)) {a : Int} (ha : rg a) (h : ¬ (a < 0)) (kf : W p l e R s m args below meth c H locs cells slots Q (F0 m (pc + 3) ls rest)) : W p l e R s m args below meth c H locs cells slots Q (F0 m pc ls (.int (zI a) :: rest)) := z_if_lt S tgt d ht ha (fun q => absurd q h) (fun _ => kf)
theorem z_if_ge (S : CallFix p m c cc nL s args lw_g own) {off : Int} (tgt : Nat) (d : decode cc pc = .ok (.ifCond .ge off, 3)) (ht : (pc : Int) + off = (tgt : Int)) {a : Int} (ha : rg a) (kt : 0 ≤ a → W p l e R s m args below meth c H locs cells slots Q (F0 m tgt ls rest)) (kf : ¬ (0 ≤ a) → W p l e R s m args below meth c H locs cells slots Q (F0 m (pc + 3) ls rest)) : W p l e R s m args below meth c H locs cells slots Q (F0 m pc ls (.int (zI a) :: rest)) := lv_if_ge S.1 S.2.1 d ht (fun q => kt ((zI_le z0 ha).mp q)) (fun q => kf (fun z => q ((zI_le z0 ha).mpr z)))
theorem z_if_ge_T (S : CallFix p m c cc nL s args lw_g own) {off : Int} (tgt : Nat) (d : decode cc pc = .ok (.ifCond .ge off, 3)) (ht : (pc : Int) + off = (tgt : Int)) {a : Int} (ha : rg a) (h : 0 ≤ a) (kt : W p l e R s m args below meth c H locs cells slots Q (F0 m tgt ls rest)) : W p l e R s m args below meth c H locs cells slots Q (F0 m pc ls (.int (zI a) :: rest)) := z_if_ge S tgt d ht ha (fun _ => kt) (fun q => absurd h q)
theorem z_if_ge_F (S : CallFix p m c cc nL s args lw_g own) {off : Int} (tgt : Nat) (d : decode cc pc = .ok (.ifCond .ge off, 3)) (ht : (pc : Int) + off = (tgt : Int)) {a : Int} (ha : rg a) (h : ¬ (0 ≤ a)) (kf : W p l e R s m args below meth c H locs cells slots Q (F0 m (pc + 3) ls rest)) : W p l e R s m args below meth c H locs cells slots Q (F0 m pc ls (.int (zI a) :: rest)) := z_if_ge S tgt d ht ha (fun q => absurd q h) (fun _ => kf)
theorem z_if_gt (S : CallFix p m c cc nL s args lw_g own) {off : Int} (tgt : Nat) (d : decode cc pc = .ok (.ifCond .gt off, 3)) (ht : (pc : Int) + off = (tgt : Int)) {a : Int} (ha : rg a) (kt : 0 < a → W p l e R s m args below meth c H locs cells slots Q (F0 m tgt ls rest)) (kf : ¬ (0 < a) → W p l e R s m args below meth c H locs cells slots Q (F0 m (pc + 3) ls rest)) : W p l e R s m args below meth c H locs cells slots Q (F0 m pc ls (.int (zI a) :: rest)) := lv_if_gt S.1 S.2.1 d ht (fun q => kt ((zI_lt z0 ha).mp q)) (fun q => kf (fun z => q ((zI_lt z0 ha).mpr z)))
theorem z_if_gt_T (S : CallFix p m c cc nL s args lw_g own) {off : Int} (tgt : Nat) (d : decode cc pc = .ok (.ifCond .gt off, 3)) (ht : (pc : Int) + off = (tgt : Int)) {a : Int} (ha : rg a) (h : 0 < a) (kt : W p l e R s m args below meth c H locs cells slots Q (F0 m tgt ls rest)) : W p l e R s m args below meth c H locs cells slots Q (F0 m pc ls (.int (zI a) :: rest)) := z_if_gt S tgt d ht ha (fun _ => kt) (fun q => absurd h q)
theorem z_if_gt_F (S : CallFix p m c cc nL s args lw_g own) {off : Int} (tgt : Nat) (d : decode cc pc = .ok (.ifCond .gt off, 3)) (ht : (pc : Int) + off = (tgt : Int)) {a : Int} (ha : rg a) (h : ¬ (0 < a)) (kf : W p l e R s m args below meth c H locs cells slots Q (F0 m (pc + 3) ls rest)) : W p l e R s m args below meth c H locs cells slots Q (F0 m pc ls (.int (zI a) :: rest)) := z_if_gt S tgt d ht ha (fun q => absurd q h) (fun _ => kf)
theorem z_if_le (S : CallFix p m c cc nL s args lw_g own) {off : Int} (tgt : Nat) (d : decode cc pc = .ok (.ifCond .le off, 3)) (ht : (pc : Int) + off = (tgt : Int)) {a : Int} (ha : rg a) (kt : a ≤ 0 → W p l e R s m args below meth c H locs cells slots Q (F0 m tgt ls rest)) (kf : ¬ (a ≤ 0) → W p l e R s m args below meth c H locs cells slots Q (F0 m (pc + 3) ls rest)) : W p l e R s m args below meth c H locs cells slots Q (F0 m pc ls (.int (zI a) :: rest)) := lv_if_le S.1 S.2.1 d ht (fun q => kt ((zI_le ha z0).mp q)) (fun q => kf (fun z => q ((zI_le ha z0).mpr z)))
theorem z_if_le_T (S : CallFix p m c cc nL s args lw_g own) {off : Int} (tgt : Nat) (d : decode cc pc = .ok (.ifCond .le off, 3)) (ht : (pc : Int) + off = (tgt : Int)) {a : Int} (ha : rg a) (h : a ≤ 0) (kt : W p l e R s m args below meth c H locs cells slots Q (F0 m tgt ls rest)) : W p l e R s m args below meth c H locs cells slots Q (F0 m pc ls (.int (zI a) :: rest)) := z_if_le S tgt d ht ha (fun _ => kt) (fun q => absurd h q)
theorem z_if_le_F (S : CallFix p m c cc nL s args lw_g own) {off : Int} (tgt : Nat) (d : decode cc pc = .ok (.ifCond .le off, 3)) (ht : (pc : Int) + off = (tgt : Int)) {a : Int} (ha : rg a) (h : ¬ (a ≤ 0)) (kf : W p l e R s m args below meth c H locs cells slots Q (F0 m (pc + 3) ls rest)) : W p l e R s m args below meth c H locs cells slots Q (F0 m pc ls (.int (zI a) :: rest)) := z_if_le S tgt d ht ha (fun q => absurd q h) (fun _ => kf)
theorem z_bif_eq (S : CallFix p m c cc nL s args lw_g own) {off : Int} (tgt : Nat) (d : decode cc pc = .ok (.ifCond .eq off, 3)) (ht : (pc : Int) + off = (tgt : Int)) {b : Bool} (kt : b = false → W p l e R s m args below meth c H locs cells slots Q (F0 m tgt ls rest)) (kf : b = true → W p l e R s m args below meth c H locs cells slots Q (F0 m (pc + 3) ls rest)) : W p l e R s m args below meth c H locs cells slots Q (F0 m pc ls (.int (bI b) :: rest)) := lv_if_eq S.1 S.2.1 d ht (fun q => kt ((bI_eq0 b).mp q)) (fun q => kf (by cases b; exact absurd rfl q; rfl))
theorem z_bif_ne (S : CallFix p m c cc nL s args lw_g own) {off : Int} (tgt : Nat) (d : decode cc pc = .ok (.ifCond .ne off, 3)) (ht : (pc : Int) + off = (tgt : Int)) {b : Bool} (kt : b = true → W p l e R s m args below meth c H locs cells slots Q (F0 m tgt ls rest)) (kf : b = false → W p l e R s m args below meth c H locs cells slots Q (F0 m (pc + 3) ls rest)) : W p l e R s m args below meth c H locs cells slots Q (F0 m pc ls (.int (bI b) :: rest)) := lv_if_ne S.1 S.2.1 d ht (fun q => kt (by cases b; exact absurd rfl q; rfl)) (fun q => kf ((bI_eq0 b).mp q))
theorem z_get (S : CallFix p m c cc nL s args lw_g own) (hG : zKn G s) {a ci : Nat} {fs : List Value} (hat : va_at G.1 vwCl (a, .inr (ci, fs)) H) {C : String} {T : u_T} {N index : Nat} (hC : zCl ci C T N) (k : Nat) (hk : k < N) (hl : Cond.fieldLink own index C (T k).2.1 (T k).2.2.1 ∈ lw_g) (hs : (T k).1 = C) {v : Value} (hv : fs[k]? = some v) (d : decode cc pc = .ok (.getfield index, 3)) (kk : W p l e R s m args below meth c H locs cells slots Q (F0 m (pc + 3) ls (v :: rest))) : W p l e R s m args below meth c H locs cells slots Q (F0 m pc ls (.ref a :: rest)) :=
  va_get (ws := [(a, .inr (ci, fs))]) S.1 S.2.1 S.2.2.2.2 hC.2 S.2.2.2.1 hG (va_one hat) 0 rfl hC.1 k hk (S.2.2.2.2 _ hl) (fun x h => by rw [hs] at h; exact h) hv d kk
theorem z_iald (S : CallFix p m c cc nL s args lw_g own) (hG : zKn G s) {a N : Nat} {g : Int → Int32} (hat : va_at G.1 vwCl (a, .inl (G.2 0, N, .inl (zA g))) H) {i : Int} (hi : 0 ≤ i ∧ i < N) (hN : N < 2147483648) (d : decode cc pc = .ok (.iaload, 1)) (kk : W p l e R s m args below meth c H locs cells slots Q (F0 m (pc + 1) ls (.int (g i) :: rest))) : W p l e R s m args below meth c H locs cells slots Q (F0 m pc ls (.int (zI i) :: .ref a :: rest)) :=
  va_iald (ws := [(a, .inl (G.2 0, N, .inl (zA g)))]) S.1 S.2.1 hG (va_one hat) 0 0 rfl rfl (zI_in hi hN) d (by rw [zA_at (by omega)]; exact kk)
theorem z_ialdB (S : CallFix p m c cc nL s args lw_g own) (hG : zKn G s) {a N : Nat} {g : Int → Int} (hat : va_at G.1 vwCl (a, .inl (G.2 0, N, .inl (zB g))) H) {i : Int} (hi : 0 ≤ i ∧ i < N) (hN : N < 2147483648) (d : decode cc pc = .ok (.iaload, 1)) (kk : W p l e R s m args below meth c H locs cells slots Q (F0 m (pc + 1) ls (.int (zI (g i)) :: rest))) : W p l e R s m args below meth c H locs cells slots Q (F0 m pc ls (.int (zI i) :: .ref a :: rest)) :=
  va_iald (ws := [(a, .inl (G.2 0, N, .inl (zB g)))]) S.1 S.2.1 hG (va_one hat) 0 0 rfl rfl (zI_in hi hN) d (by rw [zB_at (by omega)]; exact kk)
theorem z_aaldR (S : CallFix p m c cc nL s args lw_g own) (hG : zKn G s) {a N : Nat} {g : Int → Option Nat} (hat : va_at G.1 vwCl (a, .inl (G.2 1, N, .inr (.inr (.inr (.inr (zC g)))))) H) {i : Int} (hi : 0 ≤ i ∧ i < N) (hN : N < 2147483648) (d : decode cc pc = .ok (.aaload, 1)) (kk : W p l e R s m args below meth c H locs cells slots Q (F0 m (pc + 1) ls (va_rf (g i) :: rest))) : W p l e R s m args below meth c H locs cells slots Q (F0 m pc ls (.int (zI i) :: .ref a :: rest)) :=
  va_aldq (ws := [(a, .inl (G.2 1, N, .inr (.inr (.inr (.inr (zC g))))))]) S.1 S.2.1 hG (va_one hat) 0 1 rfl rfl (zI_in hi hN) d (by rw [zC_at (by omega)]; exact kk)
theorem z_aaldO (S : CallFix p m c cc nL s args lw_g own) (hG : zKn G s) {a N : Nat} {g : Int → Option Nat} (hat : va_at G.1 vwCl (a, .inl (G.2 2, N, .inr (.inr (.inr (.inr (zC g)))))) H) {i : Int} (hi : 0 ≤ i ∧ i < N) (hN : N < 2147483648) (d : decode cc pc = .ok (.aaload, 1)) (kk : W p l e R s m args below meth c H locs cells slots Q (F0 m (pc + 1) ls (va_rf (g i) :: rest))) : W p l e R s m args below meth c H locs cells slots Q (F0 m pc ls (.int (zI i) :: .ref a :: rest)) :=
  va_aldq (ws := [(a, .inl (G.2 2, N, .inr (.inr (.inr (.inr (zC g))))))]) S.1 S.2.1 hG (va_one hat) 0 2 rfl rfl (zI_in hi hN) d (by rw [zC_at (by omega)]; exact kk)
theorem z_alenI (S : CallFix p m c cc nL s args lw_g own) (hG : zKn G s) {a N : Nat} {f : Nat → Int32} (hat : va_at G.1 vwCl (a, .inl (G.2 0, N, .inl f)) H) (d : decode cc pc = .ok (.arraylength, 1)) (kk : W p l e R s m args below meth c H locs cells slots Q (F0 m (pc + 1) ls (.int (zI N) :: rest))) : W p l e R s m args below meth c H locs cells slots Q (F0 m pc ls (.ref a :: rest)) :=
  va_alen (ws := [(a, .inl (G.2 0, N, .inl f))]) S.1 S.2.1 hG (va_one hat) 0 0 rfl rfl (by exact zI_nI N) d kk
theorem z_alenR (S : CallFix p m c cc nL s args lw_g own) (hG : zKn G s) {a N : Nat} {f : Nat → Option Nat} (hat : va_at G.1 vwCl (a, .inl (G.2 1, N, .inr (.inr (.inr (.inr f))))) H) (d : decode cc pc = .ok (.arraylength, 1)) (kk : W p l e R s m args below meth c H locs cells slots Q (F0 m (pc + 1) ls (.int (zI N) :: rest))) : W p l e R s m args below meth c H locs cells slots Q (F0 m pc ls (.ref a :: rest)) :=
  va_alen (ws := [(a, .inl (G.2 1, N, .inr (.inr (.inr (.inr f)))))]) S.1 S.2.1 hG (va_one hat) 0 1 rfl rfl (by exact zI_nI N) d kk
theorem z_alenO (S : CallFix p m c cc nL s args lw_g own) (hG : zKn G s) {a N : Nat} {f : Nat → Option Nat} (hat : va_at G.1 vwCl (a, .inl (G.2 2, N, .inr (.inr (.inr (.inr f))))) H) (d : decode cc pc = .ok (.arraylength, 1)) (kk : W p l e R s m args below meth c H locs cells slots Q (F0 m (pc + 1) ls (.int (zI N) :: rest))) : W p l e R s m args below meth c H locs cells slots Q (F0 m pc ls (.ref a :: rest)) :=
  va_alen (ws := [(a, .inl (G.2 2, N, .inr (.inr (.inr (.inr f)))))]) S.1 S.2.1 hG (va_one hat) 0 2 rfl rfl (by exact zI_nI N) d kk
theorem z_castI (S : CallFix p m c cc nL s args lw_g own) (hG : zKn G s) {a N index : Nat} {f : Nat → Int32} (hat : va_at G.1 vwCl (a, .inl (G.2 0, N, .inl f)) H) (hl : Cond.classLink own index "[I" ∈ lw_g) (d : decode cc pc = .ok (.checkcast index, 3)) (kk : W p l e R s m args below meth c H locs cells slots Q (F0 m (pc + 3) ls (.ref a :: rest))) : W p l e R s m args below meth c H locs cells slots Q (F0 m pc ls (.ref a :: rest)) :=
  va_castA (ws := [(a, .inl (G.2 0, N, .inl f))]) S.1 S.2.1 S.2.2.2.1 (S.2.2.2.2 _ hl) (va_one hat) 0 rfl (zG_I hG) d kk
theorem z_ifnonnull_r (S : CallFix p m c cc nL s args lw_g own) {x : Nat} {off : Int} (tgt : Nat) (d : decode cc pc = .ok (.ifnonnull off, 3)) (ht : (pc : Int) + off = (tgt : Int)) (k : W p l e R s m args below meth c H locs cells slots Q (F0 m tgt ls rest)) : W p l e R s m args below meth c H locs cells slots Q (F0 m pc ls (.ref x :: rest)) := lv_ifnonnull S.1 S.2.1 d ht k
theorem z_ifnonnull_n (S : CallFix p m c cc nL s args lw_g own) {off : Int} (tgt : Nat) (d : decode cc pc = .ok (.ifnonnull off, 3)) (ht : (pc : Int) + off = (tgt : Int)) (k : W p l e R s m args below meth c H locs cells slots Q (F0 m (pc + 3) ls rest)) : W p l e R s m args below meth c H locs cells slots Q (F0 m pc ls (.null :: rest)) := lv_ifnonnullN S.1 S.2.1 d k
theorem z_ifnull_r (S : CallFix p m c cc nL s args lw_g own) {x : Nat} {off : Int} (tgt : Nat) (d : decode cc pc = .ok (.ifnull off, 3)) (ht : (pc : Int) + off = (tgt : Int)) (k : W p l e R s m args below meth c H locs cells slots Q (F0 m (pc + 3) ls rest)) : W p l e R s m args below meth c H locs cells slots Q (F0 m pc ls (.ref x :: rest)) := lv_ifnull S.1 S.2.1 d k
theorem z_ifnull_n (S : CallFix p m c cc nL s args lw_g own) {off : Int} (tgt : Nat) (d : decode cc pc = .ok (.ifnull off, 3)) (ht : (pc : Int) + off = (tgt : Int)) (k : W p l e R s m args below meth c H locs cells slots Q (F0 m tgt ls rest)) : W p l e R s m args below meth c H locs cells slots Q (F0 m pc ls (.null :: rest)) := lv_ifnullN S.1 S.2.1 d ht k
theorem z_cb (S : CallFix p m c cc nL s args lw_g own) {y : MethodName} {bytes : ByteArray} {maxL na index : Nat} {ret : Option FieldType} {rm : Room} (hY : zOK y bytes maxL ret na) (hl : Cond.methodLink own index y ∈ lw_g) (hR : zR R rm maxL) : CallB R s args own index y bytes maxL ret (wq y bytes maxL ret) rm 0 0 na :=
  callB_of na S.2.2.2.2 (zgood_wq hY.1) rfl hR.1 hR.2.1 (S.2.2.2.2 _ hY.2.1) (S.2.2.2.2 _ hl) hY.2.2 ⟨hR.2.2.1, hR.2.2.2⟩
theorem z_blind {av : List Value} {P : Heap → Prop} : FrameBlind (va_Pc av (zK G P)) := fun _ U g mk h => ⟨h.1, h.2.1, va_K.moved (u := U) (U := U.calling g mk _) (Vm.Alike.refl U.vm) h.2.2⟩
theorem z_cend {v : Option Value} {a : Array Value} {st0 : List Value} (hr : CallRun p l e R s m args below meth c H locs cells slots 0 0 (F0 m pc ls st0) rest (zQ v a) zF) (kk : W p l e R s m args below meth c H locs cells slots Q (F0 m (pc + 3) ls (v.toList ++ rest))) : W p l e R s m args below meth c H locs cells slots Q (F0 m pc ls st0) := by
  intro T hT X
  obtain ⟨v', st₀, t, T', L, h0, X', hL, e1, ⟨hv, hh⟩, st⟩ := hr T hT X
  cases hv
  obtain ⟨t2, a1, b1⟩ := kk T' (by rw [e1, hh, h0]) (Stand.forget X' (fun q h => (hL q h).elim))
  exact ⟨t2, st t2 a1, b1⟩
theorem z_callV (S : CallFix p m c cc nL s args lw_g own) (hG : zKn G s) {y : MethodName} {bytes : ByteArray} {maxL na index : Nat} {ret : Option FieldType} {rm : Room} {P : Heap → Prop} {v : Option Value} {As st : List Value} {b ci N : Nat} {fs : List Value} {C : String} {T : u_T} (hM : Met l y (wq y bytes maxL ret) rm (va_Pc (.ref b :: As) (zK G P)) (zQ v) 0 0 zF) (hY : zOV y bytes maxL ret na) (hat : va_at G.1 vwCl (b, .inr (ci, fs)) H) (hC : zCl ci C T N) (hc : y.cls = C) (hl : Cond.methodLink own index y ∈ lw_g) (hP : P H) (hR : zR R rm maxL) (hcs : cells ≤ R.cells ∧ slots ≤ R.slots) (hn : As.length = na) (hrest : (rest.map fun v => v.category).sum ≤ 8) (hlz : ls.size = nL) (hst : st = As.reverse ++ .ref b :: rest) (d : decode cc pc = .ok (.invokevirtual index, 3)) (kk : W p l e R s m args below meth c H locs cells slots Q (F0 m (pc + 3) ls (v.toList ++ rest))) : W p l e R s m args below meth c H locs cells slots Q (F0 m pc ls st) := by
  subst hc
  exact z_cend (W.runV S hM (C := y.cls) ⟨z_cb S hY.1 hl hR, S.2.2.2.2 _ hY.2.1, S.2.2.2.2 _ hY.2.2⟩ ⟨z_blind, va_recv hG (va_one hat) hC.1 (q0 := 0) rfl, fun U hU hW => ⟨rfl, by rw [hU]; exact hP, va_K.moved hW.alike hG⟩⟩ rfl hn hlz hst (lv_room hrest) d hcs) kk
theorem z_callS (S : CallFix p m c cc nL s args lw_g own) (hG : zKn G s) {y : MethodName} {bytes : ByteArray} {maxL na index : Nat} {ret : Option FieldType} {rm : Room} {P : Heap → Prop} {v : Option Value} {As st : List Value} (hM : Met l y (wq y bytes maxL ret) rm (va_Pc As (zK G P)) (zQ v) 0 0 zF) (hY : zOS y bytes maxL ret na) (hl : Cond.methodLink own index y ∈ lw_g) (hP : P H) (hR : zR R rm maxL) (hcs : cells ≤ R.cells ∧ slots ≤ R.slots) (hn : As.length = na) (hrest : (rest.map fun v => v.category).sum ≤ 8) (hlz : ls.size = nL) (hst : st = As.reverse ++ rest) (d : decode cc pc = .ok (.invokestatic index, 3)) (kk : W p l e R s m args below meth c H locs cells slots Q (F0 m (pc + 3) ls (v.toList ++ rest))) : W p l e R s m args below meth c H locs cells slots Q (F0 m pc ls st) :=
  z_cend (W.runS S hM ⟨z_cb S hY.1 hl hR, S.2.2.2.2 _ hY.2⟩ ⟨z_blind, fun U hU hW => ⟨rfl, by rw [hU]; exact hP, va_K.moved hW.alike hG⟩⟩ rfl hn hlz hst (lv_room hrest) d hcs) kk
theorem z_max (S : CallFix p m c cc nL s args lw_g own) {index : Nat} {x y : Int32} (hl : Cond.methodLink own index Lib.Math.max.name ∈ lw_g) (h1 : Cond.static Lib.Math.max.name ∈ lw_g) (h2 : Cond.initialized "java/lang/Math" ∈ lw_g) (h3 : Cond.code Lib.Math.max.name Lib.Math.max.code 2 (some .int) ∈ lw_g) (hf : 1 ≤ R.frames) (hlo : (rest.map fun v => v.category).sum + 13 ≤ R.locals) (hcs : cells ≤ R.cells ∧ slots ≤ R.slots) (hlz : ls.size = nL) (d : decode cc pc = .ok (.invokestatic index, 3)) (kk : W p l e R s m args below meth c H locs cells slots Q (F0 m (pc + 3) ls (.int (if x < y then y else x) :: rest))) : W p l e R s m args below meth c H locs cells slots Q (F0 m pc ls (.int y :: .int x :: rest)) :=
  va_mmax S.1 S.2.1 (S.2.2.1.trans hlz.symm) S.2.2.2.1 (S.2.2.2.2 _ hl) (S.2.2.2.2 _ h1) (S.2.2.2.2 _ h2) (S.2.2.2.2 _ h3) hf hlo hcs.1 hcs.2 d kk
theorem z_callVs (S : CallFix p m c cc nL s args lw_g own) (hG : zKn G s) {y : MethodName} {bytes : ByteArray} {maxL na index : Nat} {ret : Option FieldType} {rm : Room} {P : Heap → Prop} {x : Value} {As st : List Value} {b ci N : Nat} {fs : List Value} {C : String} {T : u_T} (hM : Met l y (wq y bytes maxL ret) rm (va_Pc (.ref b :: As) (zK G P)) (zQ (some x)) 0 0 zF) (hY : zOV y bytes maxL ret na) (hat : va_at G.1 vwCl (b, .inr (ci, fs)) H) (hC : zCl ci C T N) (hc : y.cls = C) (hl : Cond.methodLink own index y ∈ lw_g) (hP : P H) (hR : zR R rm maxL) (hcs : cells ≤ R.cells ∧ slots ≤ R.slots) (hn : As.length = na) (hrest : (rest.map fun v => v.category).sum ≤ 8) (hlz : ls.size = nL) (hst : st = As.reverse ++ .ref b :: rest) (d : decode cc pc = .ok (.invokevirtual index, 3)) (kk : W p l e R s m args below meth c H locs cells slots Q (F0 m (pc + 3) ls (x :: rest))) : W p l e R s m args below meth c H locs cells slots Q (F0 m pc ls st) := z_callV S hG hM hY hat hC hc hl hP hR hcs hn hrest hlz hst d kk
theorem z_callSs (S : CallFix p m c cc nL s args lw_g own) (hG : zKn G s) {y : MethodName} {bytes : ByteArray} {maxL na index : Nat} {ret : Option FieldType} {rm : Room} {P : Heap → Prop} {x : Value} {As st : List Value} (hM : Met l y (wq y bytes maxL ret) rm (va_Pc As (zK G P)) (zQ (some x)) 0 0 zF) (hY : zOS y bytes maxL ret na) (hl : Cond.methodLink own index y ∈ lw_g) (hP : P H) (hR : zR R rm maxL) (hcs : cells ≤ R.cells ∧ slots ≤ R.slots) (hn : As.length = na) (hrest : (rest.map fun v => v.category).sum ≤ 8) (hlz : ls.size = nL) (hst : st = As.reverse ++ rest) (d : decode cc pc = .ok (.invokestatic index, 3)) (kk : W p l e R s m args below meth c H locs cells slots Q (F0 m (pc + 3) ls (x :: rest))) : W p l e R s m args below meth c H locs cells slots Q (F0 m pc ls st) := z_callS S hG hM hY hl hP hR hcs hn hrest hlz hst d kk
end ZR
/-- entry of a method that only reads, by what it returns: 'ret' is its end -/
theorem z_enter {l : Launch} {y : MethodName} {cc : ByteArray} {maxL : Nat} {rt : Option FieldType} {rm : Room} {G : zG} {P : Heap → Prop} {v : Option Value} {av : List Value} (hy : plainName y.cls = true) (hav : (lg_sl av).length ≤ maxL)
    (body : ∀ (p : Program) (e : Env) (s : State) (m : MethodId) (below : List Frame) (meth : Method) (c : Code), CallFix p m c cc maxL s av.toArray lw_g y.cls → meth.sig.returnType = rt → meth.locks = false → zKn G s → P s.heap → ∀ ls, lv_has ls maxL (lv_args 0 av) →
      W p l e rm s m av.toArray below meth c s.heap [] 0 0 (MQ below (zQ v) av.toArray s 0 0 zF) (F0 m 0 ls [])) : Met l y (wq y cc maxL rt) rm (va_Pc av (zK G P)) (zQ v) 0 0 zF := by
  refine Met.ofW (cc := cc) (maxL := maxL) (ret := rt) hy rfl ?_
  intro p e s m args below meth c s₁ B hml hv
  obtain ⟨rfl, hP, hG⟩ := hv
  have hl := lv_entry av (n := maxL) hav
  rw [lg_entry_eq]
  exact body p e s m below meth c ⟨B.exec, B.bytes, hml, findClass_of_methodNamed B.named, fun w hw => atoms_spec B.pre w (List.mem_cons_of_mem _ hw)⟩ B.returns B.notSynchronized hG hP _ hl
theorem z_nil {free : Addr → Prop} : ∀ q ∈ ([] : List Loc), free q.base := fun q h => by cases h
theorem z_enterI {l : Launch} {y : MethodName} {cc : ByteArray} {maxL : Nat} {rm : Room} {G : zG} {P : Heap → Prop} {E : Int32} {av : List Value} (hy : plainName y.cls = true) (hav : (lg_sl av).length ≤ maxL)
    (body : ∀ (p : Program) (e : Env) (s : State) (m : MethodId) (below : List Frame) (meth : Method) (c : Code) (Q : State → Prop), CallFix p m c cc maxL s av.toArray lw_g y.cls → zKn G s → P s.heap →
      (∀ (pc : Nat) (ls : Array Slot) (x : Int32), decode cc pc = .ok (.ireturn, 1) → x = E → W p l e rm s m av.toArray below meth c s.heap [] 0 0 Q (F0 m pc ls [.int x])) → ∀ ls, lv_has ls maxL (lv_args 0 av) →
      W p l e rm s m av.toArray below meth c s.heap [] 0 0 Q (F0 m 0 ls [])) : Met l y (wq y cc maxL (some .int)) rm (va_Pc av (zK G P)) (zQ (some (.int E))) 0 0 zF :=
  z_enter hy hav fun p e s m below meth c S hr hlk hG hP ls hl => body p e s m below meth c _ S hG hP (fun pc ls x d hx => by subst hx; exact W.iret S.1 S.2.1 hr (fun t ht _ => ⟨rfl, ht⟩) z_nil d hlk) ls hl
theorem z_enterB {l : Launch} {y : MethodName} {cc : ByteArray} {maxL : Nat} {rm : Room} {G : zG} {P : Heap → Prop} {E : Bool} {av : List Value} (hy : plainName y.cls = true) (hav : (lg_sl av).length ≤ maxL)
    (body : ∀ (p : Program) (e : Env) (s : State) (m : MethodId) (below : List Frame) (meth : Method) (c : Code) (Q : State → Prop), CallFix p m c cc maxL s av.toArray lw_g y.cls → zKn G s → P s.heap →
      (∀ (pc : Nat) (ls : Array Slot) (x : Int32), decode cc pc = .ok (.ireturn, 1) → x = bI E → W p l e rm s m av.toArray below meth c s.heap [] 0 0 Q (F0 m pc ls [.int x])) → ∀ ls, lv_has ls maxL (lv_args 0 av) →
      W p l e rm s m av.toArray below meth c s.heap [] 0 0 Q (F0 m 0 ls [])) : Met l y (wq y cc maxL (some .boolean)) rm (va_Pc av (zK G P)) (zQ (some (.int (bI E)))) 0 0 zF :=
  z_enter hy hav fun p e s m below meth c S hr hlk hG hP ls hl => body p e s m below meth c _ S hG hP (fun pc ls x d hx => by subst hx; exact W.zret S.1 S.2.1 hr (bI_nar E) (fun t ht _ => ⟨rfl, ht⟩) z_nil d hlk) ls hl
theorem z_enterA {l : Launch} {y : MethodName} {cc : ByteArray} {maxL : Nat} {rm : Room} {G : zG} {P : Heap → Prop} {C : String} {v : Value} {av : List Value} (hy : plainName y.cls = true) (hav : (lg_sl av).length ≤ maxL)
    (body : ∀ (p : Program) (e : Env) (s : State) (m : MethodId) (below : List Frame) (meth : Method) (c : Code) (Q : State → Prop), CallFix p m c cc maxL s av.toArray lw_g y.cls → zKn G s → P s.heap →
      (∀ (pc : Nat) (ls : Array Slot), decode cc pc = .ok (.areturn, 1) → (v = .null ∨ ∃ a, v = .ref a) → W p l e rm s m av.toArray below meth c s.heap [] 0 0 Q (F0 m pc ls [v])) → ∀ ls, lv_has ls maxL (lv_args 0 av) →
      W p l e rm s m av.toArray below meth c s.heap [] 0 0 Q (F0 m 0 ls [])) : Met l y (wq y cc maxL (some (.object C))) rm (va_Pc av (zK G P)) (zQ (some v)) 0 0 zF :=
  z_enter hy hav fun p e s m below meth c S hr hlk hG hP ls hl => body p e s m below meth c _ S hG hP (fun pc ls d hv => W.aret S.1 S.2.1 hr (Or.inl ⟨_, rfl⟩) hv (fun t ht _ => ⟨rfl, ht⟩) z_nil d hlk) ls hl
theorem z_enterL {l : Launch} {y : MethodName} {cc : ByteArray} {maxL : Nat} {rm : Room} {G : zG} {P : Heap → Prop} {E : Int64} {av : List Value} (hy : plainName y.cls = true) (hav : (lg_sl av).length ≤ maxL)
    (body : ∀ (p : Program) (e : Env) (s : State) (m : MethodId) (below : List Frame) (meth : Method) (c : Code) (Q : State → Prop), CallFix p m c cc maxL s av.toArray lw_g y.cls → zKn G s → P s.heap →
      (∀ (pc : Nat) (ls : Array Slot) (x : Int64), decode cc pc = .ok (.lreturn, 1) → x = E → W p l e rm s m av.toArray below meth c s.heap [] 0 0 Q (F0 m pc ls [.long x])) → ∀ ls, lv_has ls maxL (lv_args 0 av) →
      W p l e rm s m av.toArray below meth c s.heap [] 0 0 Q (F0 m 0 ls [])) : Met l y (wq y cc maxL (some .long)) rm (va_Pc av (zK G P)) (zQ (some (.long E))) 0 0 zF :=
  z_enter hy hav fun p e s m below meth c S hr hlk hG hP ls hl => body p e s m below meth c _ S hG hP (fun pc ls x d hx => by subst hx; exact W.lret S.1 S.2.1 hr (fun t ht _ => ⟨rfl, ht⟩) z_nil d hlk) ls hl
theorem z_enterD {l : Launch} {y : MethodName} {cc : ByteArray} {maxL : Nat} {rm : Room} {G : zG} {P : Heap → Prop} {E : UInt64} {av : List Value} (hy : plainName y.cls = true) (hav : (lg_sl av).length ≤ maxL)
    (body : ∀ (p : Program) (e : Env) (s : State) (m : MethodId) (below : List Frame) (meth : Method) (c : Code) (Q : State → Prop), CallFix p m c cc maxL s av.toArray lw_g y.cls → zKn G s → P s.heap →
      (∀ (pc : Nat) (ls : Array Slot) (x : UInt64), decode cc pc = .ok (.dreturn, 1) → x = E → W p l e rm s m av.toArray below meth c s.heap [] 0 0 Q (F0 m pc ls [.double x])) → ∀ ls, lv_has ls maxL (lv_args 0 av) →
      W p l e rm s m av.toArray below meth c s.heap [] 0 0 Q (F0 m 0 ls [])) : Met l y (wq y cc maxL (some .double)) rm (va_Pc av (zK G P)) (zQ (some (.double E))) 0 0 zF :=
  z_enter hy hav fun p e s m below meth c S hr hlk hG hP ls hl => body p e s m below meth c _ S hG hP (fun pc ls x d hx => by subst hx; exact W.dret S.1 S.2.1 hr (fun t ht _ => ⟨rfl, ht⟩) z_nil d hlk) ls hl
theorem zc_J0 : zCl 0 RJ0 TJ0 4 := ⟨rfl, by decide +kernel⟩
theorem zc_J4 : zCl 1 RJ4 TJ4 4 := ⟨rfl, by decide +kernel⟩
theorem zc_Jx35411 : zCl 2 RJx35411 TJx35411 4 := ⟨rfl, by decide +kernel⟩
theorem zc_Jx4a65c : zCl 3 RJx4a65c TJx4a65c 3 := ⟨rfl, by decide +kernel⟩
theorem zc_X0 : zCl 4 RX0 TX0 4 := ⟨rfl, by decide +kernel⟩
theorem zc_X1 : zCl 5 RX1 TX1 5 := ⟨rfl, by decide +kernel⟩
theorem zc_X2 : zCl 6 RX2 TX2 8 := ⟨rfl, by decide +kernel⟩
theorem zc_X3 : zCl 7 RX3 TX3 2 := ⟨rfl, by decide +kernel⟩
theorem zc_X4 : zCl 8 RX4 TX4 8 := ⟨rfl, by decide +kernel⟩
end
section
/-! ===== what a state is, as numbers ===== -/
def St : Type := Int × Int × Int32 × (Int → Int32) × (Int → Int) × Int × (Int → Int) × (Int → Int) × (Int → Int) × (Int → Int) × Int × (Int → Int → Int32)
def St.tk (σ : St) : Int := σ.1
def St.lim (σ : St) : Int := σ.2.1
def St.rf (σ : St) : Int32 := σ.2.2.1
def St.B (σ : St) : Int → Int32 := σ.2.2.2.1
def St.Dt (σ : St) : Int → Int := σ.2.2.2.2.1
def St.rn (σ : St) : Int := σ.2.2.2.2.2.1
def St.F (σ : St) : Int → Int := σ.2.2.2.2.2.2.1
def St.L (σ : St) : Int → Int := σ.2.2.2.2.2.2.2.1
def St.S (σ : St) : Int → Int := σ.2.2.2.2.2.2.2.2.1
def St.K (σ : St) : Int → Int := σ.2.2.2.2.2.2.2.2.2.1
def St.kn (σ : St) : Int := σ.2.2.2.2.2.2.2.2.2.2.1
def St.KP (σ : St) : Int → Int → Int32 := σ.2.2.2.2.2.2.2.2.2.2.2
def rgIn (σ : St) (j e : Int) : Bool := decide (j < σ.rn) && (decide (σ.F j ≤ e) && decide (e < σ.F j + σ.L j))
def rgOf (σ : St) (e : Int) : Int := if rgIn σ 0 e = true then 0 else if rgIn σ 1 e = true then 1 else if rgIn σ 2 e = true then 2 else if rgIn σ 3 e = true then 3 else -1
def cyc (k len : Int) : Int := if k = 2 then 2 * len - 2 else len
def shiftR (k len sp w : Int) : Int := if k = 1 then (if w / sp % cyc k len = 0 then 0 else len - w / sp % cyc k len) else if w / sp % cyc k len < len then w / sp % cyc k len else cyc k len - w / sp % cyc k len
def srcR (f len sh e : Int) : Int := if e - f - sh < 0 then f + (e - f - sh) + len else f + (e - f - sh)
def src (σ : St) (e w : Int) : Int := if rgOf σ e = -1 then e else srcR (σ.F (rgOf σ e)) (σ.L (rgOf σ e)) (shiftR (σ.K (rgOf σ e)) (σ.L (rgOf σ e)) (σ.S (rgOf σ e)) w) e
def shw (σ : St) (e w : Int) : Int32 := σ.B (src σ e w)
def rnd (σ : St) (j : Int) : Int := σ.S j * cyc (σ.K j) (σ.L j)
def rndE (σ : St) (e : Int) : Int := if rgOf σ e = -1 then 1 else rnd σ (rgOf σ e)
/-- the ranges are such as can be told -/
def okR (σ : St) : Prop := (0 ≤ σ.rn ∧ σ.rn ≤ 4) ∧ ∀ j : Int, 0 ≤ j → j < σ.rn → (0 ≤ σ.F j ∧ 2 ≤ σ.L j ∧ σ.F j + σ.L j ≤ 16) ∧ (1 ≤ σ.S j ∧ σ.S j ≤ 9) ∧ (0 ≤ σ.K j ∧ σ.K j ≤ 2)
theorem rgIn_iff {σ : St} {j e : Int} : rgIn σ j e = true ↔ j < σ.rn ∧ σ.F j ≤ e ∧ e < σ.F j + σ.L j := by simp [rgIn]
theorem rgOf_cases (σ : St) (e : Int) : (rgOf σ e = -1 ∧ rgIn σ 0 e = false ∧ rgIn σ 1 e = false ∧ rgIn σ 2 e = false ∧ rgIn σ 3 e = false) ∨ (0 ≤ rgOf σ e ∧ rgOf σ e ≤ 3 ∧ rgIn σ (rgOf σ e) e = true) := by
  unfold rgOf
  cases h0 : rgIn σ 0 e
  · cases h1 : rgIn σ 1 e
    · cases h2 : rgIn σ 2 e
      · cases h3 : rgIn σ 3 e
        · exact Or.inl ⟨by simp, rfl, rfl, rfl, rfl⟩
        · right; simp [h3]
      · right; simp [h2]
    · right; simp [h1]
  · right; simp [h0]
theorem rgOf_in {σ : St} {e : Int} (h : ¬ rgOf σ e = -1) : 0 ≤ rgOf σ e ∧ rgOf σ e ≤ 3 ∧ rgOf σ e < σ.rn ∧ σ.F (rgOf σ e) ≤ e ∧ e < σ.F (rgOf σ e) + σ.L (rgOf σ e) := by
  rcases rgOf_cases σ e with h1 | h1
  · exact absurd h1.1 h
  · have := rgIn_iff.mp h1.2.2
    exact ⟨h1.1, h1.2.1, this.1, this.2.1, this.2.2⟩
theorem cyc_b {k len : Int} (h : 2 ≤ len ∧ len ≤ 16) : 2 ≤ cyc k len ∧ len ≤ cyc k len ∧ cyc k len ≤ 30 := by
  unfold cyc; split <;> omega
theorem shiftR_b {k len sp w : Int} (hk : 0 ≤ k ∧ k ≤ 2) (h : 2 ≤ len ∧ len ≤ 16) (hs : 1 ≤ sp) (hw : 0 ≤ w) : 0 ≤ shiftR k len sp w ∧ shiftR k len sp w < len := by
  have hc := cyc_b (k := k) h
  have h0 : 0 ≤ w / sp := Int.ediv_nonneg hw (by omega)
  have h1 := Int.emod_nonneg (w / sp) (show cyc k len ≠ 0 by omega)
  have h2 := Int.emod_lt_of_pos (w / sp) (show 0 < cyc k len by omega)
  unfold shiftR
  generalize w / sp % cyc k len = t at h1 h2
  by_cases k1 : k = 1
  · rw [if_pos k1]
    have : cyc k len = len := by unfold cyc; rw [if_neg (by omega)]
    split <;> omega
  · rw [if_neg k1]
    by_cases k2 : k = 2
    · have : cyc k len = 2 * len - 2 := by unfold cyc; rw [if_pos k2]
      split <;> omega
    · have : cyc k len = len := by unfold cyc; rw [if_neg k2]
      split <;> omega
theorem srcR_b {f len sh e : Int} (h1 : f ≤ e ∧ e < f + len) (h2 : 0 ≤ sh ∧ sh < len) : f ≤ srcR f len sh e ∧ srcR f len sh e < f + len := by
  unfold srcR; split <;> omega
theorem src_b {σ : St} (hO : okR σ) {e w : Int} (he : 0 ≤ e ∧ e < 16) (hw : 0 ≤ w) : 0 ≤ src σ e w ∧ src σ e w < 16 := by
  unfold src
  by_cases h : rgOf σ e = -1
  · rw [if_pos h]; exact he
  · rw [if_neg h]
    have h1 := rgOf_in h
    have h2 := hO.2 _ h1.1 h1.2.2.1
    have h3 := srcR_b (f := σ.F (rgOf σ e)) (len := σ.L (rgOf σ e)) (e := e) ⟨h1.2.2.2.1, h1.2.2.2.2⟩ (shiftR_b (w := w) h2.2.2 ⟨h2.1.2.1, by omega⟩ h2.2.1.1 hw)
    omega
theorem rnd_b {σ : St} (hO : okR σ) {j : Int} (h0 : 0 ≤ j) (hj : j < σ.rn) : 2 ≤ rnd σ j ∧ rnd σ j ≤ 270 := by
  have h := hO.2 j h0 hj
  have hc := cyc_b (k := σ.K j) (len := σ.L j) ⟨h.1.2.1, by omega⟩
  unfold rnd
  generalize cyc (σ.K j) (σ.L j) = q at hc
  have h1 : 1 * q ≤ σ.S j * q := Int.mul_le_mul_of_nonneg_right h.2.1.1 (by omega)
  have h2 : σ.S j * q ≤ 9 * q := Int.mul_le_mul_of_nonneg_right h.2.1.2 (by omega)
  omega
theorem rndE_b {σ : St} (hO : okR σ) (e : Int) : 1 ≤ rndE σ e ∧ rndE σ e ≤ 270 := by
  unfold rndE
  by_cases h : rgOf σ e = -1
  · rw [if_pos h]; omega
  · rw [if_neg h]
    have h1 := rgOf_in h
    have := rnd_b hO h1.1 h1.2.2.1
    omega
/-! searches and counts over the numbers from 0 on -/
def allF (f : Int → Bool) : Nat → Bool
  | 0 => true
  | n + 1 => allF f n && f n
def allI (f : Int → Bool) (k : Int) : Bool := allF f k.toNat
theorem allF_iff {f : Int → Bool} : ∀ {n : Nat}, allF f n = true ↔ ∀ t : Int, 0 ≤ t → t < n → f t = true
  | 0 => ⟨fun _ t h0 h1 => absurd h1 (by omega), fun _ => rfl⟩
  | n + 1 => by
    rw [allF, Bool.and_eq_true, allF_iff]
    refine ⟨fun h t h0 h1 => ?_, fun h => ⟨fun t h0 h1 => h t h0 (by omega), h n (by omega) (by omega)⟩⟩
    by_cases q : t = n
    · rw [q]; exact h.2
    · exact h.1 t h0 (by omega)
theorem allI_iff {f : Int → Bool} {k : Int} : allI f k = true ↔ ∀ t : Int, 0 ≤ t → t < k → f t = true := by
  unfold allI; rw [allF_iff]
  exact ⟨fun h t h0 h1 => h t h0 (by omega), fun h t h0 h1 => h t h0 (by omega)⟩
theorem allI_no {f : Int → Bool} {k t : Int} (h0 : 0 ≤ t) (h1 : t < k) (h : f t = false) : allI f k = false := by
  cases q : allI f k
  · rfl
  · exact absurd (allI_iff.mp q t h0 h1) (by rw [h]; decide)
def cntF (f : Int → Bool) : Nat → Int
  | 0 => 0
  | n + 1 => cntF f n + (if f n = true then 1 else 0)
def cntI (f : Int → Bool) (k : Int) : Int := cntF f k.toNat
theorem cntI_0 {f : Int → Bool} : cntI f 0 = 0 := rfl
theorem cntI_s {f : Int → Bool} {k : Int} (h : 0 ≤ k) : cntI f (k + 1) = cntI f k + (if f k = true then 1 else 0) := by
  unfold cntI
  rw [show (k + 1).toNat = k.toNat + 1 by omega, cntF, Int.toNat_of_nonneg h]
theorem cntI_t {f : Int → Bool} {k : Int} (h : 0 ≤ k) (q : f k = true) : cntI f (k + 1) = cntI f k + 1 := by rw [cntI_s h, if_pos q]
theorem cntI_f {f : Int → Bool} {k : Int} (h : 0 ≤ k) (q : f k = false) : cntI f (k + 1) = cntI f k := by rw [cntI_s h, if_neg (by rw [q]; decide)]; omega
theorem cntF_b (f : Int → Bool) : ∀ n : Nat, 0 ≤ cntF f n ∧ cntF f n ≤ n
  | 0 => ⟨Int.le_refl _, Int.le_refl _⟩
  | n + 1 => by have h := cntF_b f n; rw [cntF]; split <;> omega
theorem cntI_b (f : Int → Bool) {k : Int} (h : 0 ≤ k) : 0 ≤ cntI f k ∧ cntI f k ≤ k := by
  have := cntF_b f k.toNat; unfold cntI; omega
/-- the first number below k with f, or -1 -/
def fstF (f : Int → Bool) : Nat → Int
  | 0 => -1
  | n + 1 => if 0 ≤ fstF f n then fstF f n else if f n = true then n else -1
def fstI (f : Int → Bool) (k : Int) : Int := fstF f k.toNat
theorem fstF_none {f : Int → Bool} : ∀ {n : Nat}, (∀ t : Int, 0 ≤ t → t < n → f t = false) → fstF f n = -1
  | 0, _ => rfl
  | n + 1, h => by
    rw [fstF, fstF_none (fun t h0 h1 => h t h0 (by omega)), if_neg (by omega), if_neg (by rw [h n (by omega) (by omega)]; decide)]
theorem fstF_some {f : Int → Bool} {k : Int} (h0 : 0 ≤ k) (hb : ∀ t : Int, 0 ≤ t → t < k → f t = false) (hf : f k = true) : ∀ {n : Nat}, k < n → fstF f n = k
  | 0, h => absurd h (by omega)
  | n + 1, h => by
    by_cases q : k < n
    · rw [fstF, fstF_some h0 hb hf q, if_pos h0]
    · have hk : k = n := by omega
      subst hk
      rw [fstF, fstF_none hb, if_neg (by omega), if_pos hf]
theorem fstI_none {f : Int → Bool} {k : Int} (h : ∀ t : Int, 0 ≤ t → t < k → f t = false) : fstI f k = -1 := fstF_none (fun t h0 h1 => h t h0 (by omega))
theorem fstI_some {f : Int → Bool} {k n : Int} (h0 : 0 ≤ k) (hn : k < n) (hb : ∀ t : Int, 0 ≤ t → t < k → f t = false) (hf : f k = true) : fstI f n = k := fstF_some h0 hb hf (by omega)
theorem lt_stp {p : Int → Prop} {k : Int} (h : ∀ t : Int, 0 ≤ t → t < k → p t) (hk : p k) : ∀ t : Int, 0 ≤ t → t < k + 1 → p t := fun t h0 h1 => by
  by_cases q : t = k
  · rw [q]; exact hk
  · exact h t h0 (by omega)
theorem lt_st0 {p : Int → Prop} : ∀ t : Int, 0 ≤ t → t < 0 → p t := fun t h0 h1 => absurd h1 (by omega)
/-! what entries do -/
def chgB (σ : St) (e f : Int) (t : Int) : Bool := decide (shw σ e (f + t + 1) ≠ shw σ e (f + t))
def chg (σ : St) (e f n : Int) : Int := cntI (chgB σ e f) n
def twnB (σ : St) (x y : Int) (t : Int) : Bool := decide (shw σ x t = shw σ y t)
/-- as the class asks -/
def twnC (σ : St) (x y : Int) : Bool := allI (twnB σ x y) (rndE σ x + rndE σ y)
def smlC (σ : St) (e : Int) : Int := if fstI (fun o => twnC σ o e) e = -1 then e else fstI (fun o => twnC σ o e) e
def bit1 (k : Int) : Int32 := zI 1 <<< (zI k &&& 31)
def bstF (p : Int → Bool) : Nat → Int32
  | 0 => 0
  | n + 1 => if p n = true then bstF p n ||| bit1 n else bstF p n
def bstI (p : Int → Bool) (k : Int) : Int32 := bstF p k.toNat
theorem bstI_s {p : Int → Bool} {k : Int} (h : 0 ≤ k) : bstI p (k + 1) = if p k = true then bstI p k ||| bit1 k else bstI p k := by
  unfold bstI
  rw [show (k + 1).toNat = k.toNat + 1 by omega, bstF, Int.toNat_of_nonneg h]
def stlB (σ : St) (e o : Int) : Bool := !(decide (¬ rgOf σ e = -1) && (decide (σ.F (rgOf σ e) ≤ o) && decide (o < σ.F (rgOf σ e) + σ.L (rgOf σ e))) && decide (¬ σ.B o = σ.B e))
def stl (σ : St) (e : Int) : Bool := allI (stlB σ e) 16
def gI (a b : Int) : Int := ((Nat.gcd a.toNat b.toNat : Nat) : Int)
theorem gI_0 {a : Int} (h : 0 ≤ a) : gI a 0 = a := by unfold gI; rw [show (0 : Int).toNat = 0 from rfl, Nat.gcd_zero_right, Int.toNat_of_nonneg h]
theorem gI_s {a b : Int} (ha : 0 ≤ a) (hb : 0 < b) : gI b (a % b) = gI a b := by
  unfold gI
  rw [show (a % b).toNat = a.toNat % b.toNat from by
    apply Int.ofNat.inj
    show (((a % b).toNat : Nat) : Int) = ((a.toNat % b.toNat : Nat) : Int)
    rw [Int.toNat_of_nonneg (Int.emod_nonneg a (by omega)), Int.natCast_emod, Int.toNat_of_nonneg ha, Int.toNat_of_nonneg (by omega)], Nat.gcd_comm b.toNat, ← Nat.gcd_rec, Nat.gcd_comm]
theorem gI_b {a b : Int} (ha : 0 < a) (hb : 0 ≤ b) : 1 ≤ gI a b ∧ gI a b ≤ a := by
  unfold gI
  have h1 := Nat.gcd_pos_of_pos_left b.toNat (show 0 < a.toNat by omega)
  have h2 := Nat.gcd_le_left b.toNat (show 0 < a.toNat by omega)
  omega
def lcI (a b : Int) : Int := a / gI a b * b
theorem lcI_b {a b : Int} (ha : 1 ≤ a) (hb : 1 ≤ b) : 1 ≤ lcI a b ∧ lcI a b ≤ a * b := by
  have hg := gI_b (a := a) (b := b) (by omega) (by omega)
  have h0 : gI a b * 1 ≤ a := by omega
  have h1 : 1 ≤ a / gI a b := by
    have := Int.le_ediv_of_mul_le (show 0 < gI a b by omega) (show 1 * gI a b ≤ a by omega)
    omega
  have h2 : a / gI a b ≤ a := Int.ediv_le_self _ (by omega)
  unfold lcI
  have h3 : 1 * b ≤ a / gI a b * b := Int.mul_le_mul_of_nonneg_right h1 (by omega)
  have h4 : a / gI a b * b ≤ a * b := Int.mul_le_mul_of_nonneg_right h2 (by omega)
  omega
/-- one step of the search for the divisor: the product halves -/
theorem euc_half {a b : Int} (hb : 0 < b) (h : b ≤ a) : b * (a % b) * 2 ≤ a * b := by
  have h1 := Int.emod_nonneg a (show b ≠ 0 by omega)
  have h2 := Int.emod_lt_of_pos a hb
  have h3 : a % b * 2 ≤ a := by
    have h4 := Int.mul_ediv_add_emod a b
    have h5 : 1 ≤ a / b := by
      have := Int.le_ediv_of_mul_le hb (show 1 * b ≤ a by omega)
      omega
    have h6 : b * 1 ≤ b * (a / b) := Int.mul_le_mul_of_nonneg_left h5 (by omega)
    omega
  have h7 : b * (a % b * 2) ≤ b * a := Int.mul_le_mul_of_nonneg_left h3 (by omega)
  rw [Int.mul_assoc, Int.mul_comm a b]; exact h7
theorem emod_le {a b : Int} (ha : 0 ≤ a) (hb : 0 < b) : a % b ≤ a := by
  have h1 := Int.mul_ediv_add_emod a b
  have h2 : 0 ≤ b * (a / b) := Int.mul_nonneg (by omega) (Int.ediv_nonneg ha (by omega))
  omega
def eucP (x y k u v : Int) : Prop := (k = 0 ∧ u = x ∧ v = y) ∨ (1 ≤ k ∧ v ≤ u ∧ u * v * 2 ^ (k - 1).toNat ≤ 4294967296)
theorem euc_step {x y k u v : Int} (hu : 1 ≤ u) (hv : 0 < v) (hxy : x * y ≤ 4294967296) (h : eucP x y k u v) : eucP x y (k + 1) v (u % v) := by
  have hm1 := Int.emod_lt_of_pos u hv
  have hm2 := emod_le (a := u) (b := v) (by omega) hv
  right
  rcases h with ⟨q1, q2, q3⟩ | ⟨q1, q2, q3⟩
  · refine ⟨by omega, by omega, ?_⟩
    rw [q1, show ((0 : Int) + 1 - 1).toNat = 0 from rfl, Int.pow_zero, Int.mul_one]
    have := Int.mul_le_mul_of_nonneg_left hm2 (show 0 ≤ v by omega)
    rw [Int.mul_comm v u, q2, q3] at this
    rw [q2, q3]
    omega
  · refine ⟨by omega, by omega, ?_⟩
    rw [show (k + 1 - 1).toNat = (k - 1).toNat + 1 by omega, Int.pow_succ, Int.mul_comm (2 ^ (k - 1).toNat) 2, ← Int.mul_assoc]
    have h1 := euc_half (a := u) (b := v) (by omega) q2
    have h2 := Int.mul_le_mul_of_nonneg_right h1 (show (0 : Int) ≤ 2 ^ (k - 1).toNat from Int.le_of_lt (Int.pow_pos (by omega)))
    omega
theorem euc_end {x y k u v : Int} (hu : 1 ≤ u) (hv : 0 ≤ v) (hk : k = 100) (h : eucP x y k u v) : v = 0 := by
  rcases h with ⟨q1, q2, q3⟩ | ⟨q1, q2, q3⟩
  · omega
  · by_cases q : v = 0
    · exact q
    · exfalso
      subst hk
      have h1 : 1 * 1 ≤ u * v := Int.mul_le_mul (by omega) (by omega) (by omega) (by omega)
      have h2 := Int.mul_le_mul_of_nonneg_right h1 (show (0 : Int) ≤ 2 ^ ((100 : Int) - 1).toNat from Int.le_of_lt (Int.pow_pos (by omega)))
      have h3 : (4294967296 : Int) < 1 * 1 * 2 ^ ((100 : Int) - 1).toNat := by decide
      omega
def prdF (σ : St) : Nat → Int
  | 0 => 1
  | n + 1 => lcI (prdF σ n) (rnd σ n)
def prdI (σ : St) (k : Int) : Int := prdF σ k.toNat
def per (σ : St) : Int := prdI σ σ.rn
theorem prdI_s {σ : St} {k : Int} (h : 0 ≤ k) : prdI σ (k + 1) = lcI (prdI σ k) (rnd σ k) := by
  unfold prdI
  rw [show (k + 1).toNat = k.toNat + 1 by omega, prdF, Int.toNat_of_nonneg h]
/-- no entry is in two ranges -/
def okD (σ : St) : Prop := ∀ i j : Int, 0 ≤ i → i < j → j < σ.rn → σ.F i + σ.L i ≤ σ.F j ∨ σ.F j + σ.L j ≤ σ.F i
theorem four_t : (List.range 14).all (fun a => (List.range 14).all (fun b => (List.range 14).all (fun c => (List.range 14).all (fun d => !(decide (1 ≤ a) && decide (1 ≤ b) && decide (1 ≤ c) && decide (1 ≤ d) && decide (a + b + c + d ≤ 12)) || decide (a * b * c * d ≤ 81))))) = true := by decide +kernel
theorem four_b {a b c d : Nat} (ha : 1 ≤ a) (hb : 1 ≤ b) (hc : 1 ≤ c) (hd : 1 ≤ d) (h : a + b + c + d ≤ 12) : a * b * c * d ≤ 81 := by
  have h1 := List.all_eq_true.mp (List.all_eq_true.mp (List.all_eq_true.mp (List.all_eq_true.mp four_t a (List.mem_range.mpr (by omega))) b (List.mem_range.mpr (by omega))) c (List.mem_range.mpr (by omega))) d (List.mem_range.mpr (by omega))
  rw [decide_eq_true ha, decide_eq_true hb, decide_eq_true hc, decide_eq_true hd, decide_eq_true h] at h1
  exact of_decide_eq_true (by simpa using h1)
theorem cyc_le {k len : Int} (h : 2 ≤ len) : cyc k len ≤ 2 * (len - 1) := by unfold cyc; split <;> omega
theorem rnd_le {σ : St} (hO : okR σ) {j : Int} (h0 : 0 ≤ j) (hj : j < σ.rn) : rnd σ j ≤ 18 * (σ.L j - 1) := by
  have h := hO.2 j h0 hj
  have hc := cyc_le (k := σ.K j) (len := σ.L j) h.1.2.1
  have hb := cyc_b (k := σ.K j) (len := σ.L j) ⟨h.1.2.1, by omega⟩
  unfold rnd
  have h2 : σ.S j * cyc (σ.K j) (σ.L j) ≤ 9 * cyc (σ.K j) (σ.L j) := Int.mul_le_mul_of_nonneg_right h.2.1.2 (by omega)
  omega
theorem prd_3 {σ : St} (hO : okR σ) : ∀ k : Int, 0 ≤ k → k ≤ σ.rn → k ≤ 3 → 1 ≤ prdI σ k ∧ prdI σ k ≤ 19683000 ∧ (k ≤ 2 → prdI σ k ≤ 72900) ∧ (k ≤ 1 → prdI σ k ≤ 270) := by
  have h0 : prdI σ 0 = 1 := rfl
  intro k hk0 hkn hk3
  have st : ∀ j : Int, 0 ≤ j → j < σ.rn → ∀ B : Int, 1 ≤ prdI σ j → prdI σ j ≤ B → 1 ≤ prdI σ (j + 1) ∧ prdI σ (j + 1) ≤ B * 270 := by
    intro j j0 jn B b1 b2
    rw [prdI_s j0]
    have hr := rnd_b hO j0 jn
    have hl := lcI_b (a := prdI σ j) (b := rnd σ j) b1 (by omega)
    have m1 : prdI σ j * rnd σ j ≤ B * rnd σ j := Int.mul_le_mul_of_nonneg_right b2 (by omega)
    have m2 : B * rnd σ j ≤ B * 270 := Int.mul_le_mul_of_nonneg_left hr.2 (by omega)
    omega
  rcases (show k = 0 ∨ k = 1 ∨ k = 2 ∨ k = 3 by omega) with rfl | rfl | rfl | rfl
  · rw [h0]; omega
  · have a := st 0 (by omega) (by omega) 1 (by omega) (by omega)
    rw [show (0 : Int) + 1 = 1 from rfl] at a; omega
  · have a := st 0 (by omega) (by omega) 1 (by omega) (by omega)
    rw [show (0 : Int) + 1 = 1 from rfl] at a
    have b := st 1 (by omega) (by omega) 270 (by omega) (by omega)
    rw [show (1 : Int) + 1 = 2 from rfl] at b; omega
  · have a := st 0 (by omega) (by omega) 1 (by omega) (by omega)
    rw [show (0 : Int) + 1 = 1 from rfl] at a
    have b := st 1 (by omega) (by omega) 270 (by omega) (by omega)
    rw [show (1 : Int) + 1 = 2 from rfl] at b
    have c := st 2 (by omega) (by omega) 72900 (by omega) (by omega)
    rw [show (2 : Int) + 1 = 3 from rfl] at c; omega
theorem prd_m {σ : St} (hO : okR σ) {j : Int} (j0 : 0 ≤ j) (jn : j < σ.rn) (h : 1 ≤ prdI σ j) : 1 ≤ prdI σ (j + 1) ∧ prdI σ (j + 1) ≤ prdI σ j * rnd σ j := by
  rw [prdI_s j0]
  exact lcI_b h (by have := rnd_b hO j0 jn; omega)
theorem prd_4 {σ : St} (hO : okR σ) (hD : okD σ) (h4 : σ.rn = 4) : prdI σ 3 * rnd σ 3 ≤ 8503056 := by
  have l0 := hO.2 0 (by omega) (by omega)
  have l1 := hO.2 1 (by omega) (by omega)
  have l2 := hO.2 2 (by omega) (by omega)
  have l3 := hO.2 3 (by omega) (by omega)
  have d01 := hD 0 1 (by omega) (by omega) (by omega)
  have d02 := hD 0 2 (by omega) (by omega) (by omega)
  have d03 := hD 0 3 (by omega) (by omega) (by omega)
  have d12 := hD 1 2 (by omega) (by omega) (by omega)
  have d13 := hD 1 3 (by omega) (by omega) (by omega)
  have d23 := hD 2 3 (by omega) (by omega) (by omega)
  have hs : σ.L 0 + σ.L 1 + σ.L 2 + σ.L 3 ≤ 16 := by omega
  have r0 := rnd_le hO (j := 0) (by omega) (by omega)
  have r1 := rnd_le hO (j := 1) (by omega) (by omega)
  have r2 := rnd_le hO (j := 2) (by omega) (by omega)
  have r3 := rnd_le hO (j := 3) (by omega) (by omega)
  have b0 := rnd_b hO (j := 0) (by omega) (by omega)
  have b1 := rnd_b hO (j := 1) (by omega) (by omega)
  have b2 := rnd_b hO (j := 2) (by omega) (by omega)
  have b3 := rnd_b hO (j := 3) (by omega) (by omega)
  have p1 := prd_m hO (j := 0) (by omega) (by omega) (show 1 ≤ prdI σ 0 from Int.le_refl _)
  have p2 := prd_m hO (j := 1) (by omega) (by omega) (by exact p1.1)
  have p3 := prd_m hO (j := 2) (by omega) (by omega) (by exact p2.1)
  rw [show prdI σ 0 = 1 from rfl] at p1
  rw [show (0 : Int) + 1 = 1 from rfl] at p1
  rw [show (1 : Int) + 1 = 2 from rfl] at p2
  rw [show (2 : Int) + 1 = 3 from rfl] at p3
  generalize prdI σ 1 = P1 at *
  generalize prdI σ 2 = P2 at *
  generalize prdI σ 3 = P3 at *
  generalize rnd σ 0 = R0 at *
  generalize rnd σ 1 = R1 at *
  generalize rnd σ 2 = R2 at *
  generalize rnd σ 3 = R3 at *
  obtain ⟨x0, e0⟩ : ∃ x : Nat, σ.L 0 - 1 = x := ⟨(σ.L 0 - 1).toNat, by omega⟩
  obtain ⟨x1, e1⟩ : ∃ x : Nat, σ.L 1 - 1 = x := ⟨(σ.L 1 - 1).toNat, by omega⟩
  obtain ⟨x2, e2⟩ : ∃ x : Nat, σ.L 2 - 1 = x := ⟨(σ.L 2 - 1).toNat, by omega⟩
  obtain ⟨x3, e3⟩ : ∃ x : Nat, σ.L 3 - 1 = x := ⟨(σ.L 3 - 1).toNat, by omega⟩
  rw [e0] at r0; rw [e1] at r1; rw [e2] at r2; rw [e3] at r3
  have hx := four_b (a := x0) (b := x1) (c := x2) (d := x3) (by omega) (by omega) (by omega) (by omega) (by omega)
  have hx' : ((x0 : Int) * x1 * x2 * x3) ≤ 81 := by exact_mod_cast hx
  have m : ∀ {a b c d : Int}, 0 ≤ b → 0 ≤ c → a ≤ c → b ≤ d → a * b ≤ c * d := fun {a b c d} hb hc h1 h2 => Int.mul_le_mul h1 h2 hb hc
  have q1 : P1 ≤ 18 * x0 := by omega
  have q2 : P2 ≤ (18 * x0) * (18 * x1) := Int.le_trans p2.2 (m (by omega) (by omega) q1 r1)
  have n2 : (0 : Int) ≤ (18 * x0) * (18 * x1) := Int.mul_nonneg (by omega) (by omega)
  have q3 : P3 ≤ (18 * x0) * (18 * x1) * (18 * x2) := Int.le_trans p3.2 (m (by omega) n2 q2 r2)
  have n3 : (0 : Int) ≤ (18 * x0) * (18 * x1) * (18 * x2) := Int.mul_nonneg n2 (by omega)
  have q4 : P3 * R3 ≤ (18 * x0) * (18 * x1) * (18 * x2) * (18 * x3) := m (by omega) n3 q3 r3
  have e : ((18 : Int) * x0) * (18 * x1) * (18 * x2) * (18 * x3) = 104976 * ((x0 : Int) * x1 * x2 * x3) := by
    simp only [Int.mul_assoc, Int.mul_left_comm, Int.mul_comm]
    simp only [← Int.mul_assoc]
    omega
  omega
theorem per_b {σ : St} (hO : okR σ) (hD : okD σ) : ∀ k : Int, 0 ≤ k → k ≤ σ.rn → 1 ≤ prdI σ k ∧ prdI σ k ≤ 19683000 := by
  intro k h0 hk
  by_cases q : k ≤ 3
  · have := prd_3 hO k h0 hk q; omega
  · have h4 : σ.rn = 4 := by have := hO.1; omega
    have hk4 : k = 3 + 1 := by have := hO.1; omega
    have h3 := prd_3 hO 3 (by omega) (by omega) (by omega)
    have := prd_m hO (j := 3) (by omega) (by omega) h3.1
    have := prd_4 hO hD h4
    rw [hk4]; omega
theorem per_xy {σ : St} (hO : okR σ) (hD : okD σ) {k : Int} (h0 : 0 ≤ k) (hk : k < σ.rn) : prdI σ k * rnd σ k ≤ 19683000 := by
  by_cases q : k = 3
  · rw [q]; have := prd_4 hO hD (by have := hO.1; omega); omega
  · have h3 := prd_3 hO k h0 (by omega) (by have := hO.1; omega)
    have hr := rnd_b hO h0 hk
    have h4 := h3.2.2.1 (by have := hO.1; omega)
    have m1 : prdI σ k * rnd σ k ≤ 72900 * rnd σ k := Int.mul_le_mul_of_nonneg_right h4 (by omega)
    omega
theorem rgOf_b (σ : St) (e : Int) : -1 ≤ rgOf σ e ∧ rgOf σ e ≤ 3 := by
  rcases rgOf_cases σ e with h | h <;> omega
def fndB (σ : St) (e : Int) (C : Int32) (f t : Int) : Bool := decide (shw σ e (f + t) = C)
def fnd (σ : St) (e : Int) (C : Int32) (f : Int) : Int := if fstI (fndB σ e C f) (rndE σ e) = -1 then -1 else f + fstI (fndB σ e C f) (rndE σ e)
def metB (σ : St) (x : Int) (C : Int32) (y : Int) (D : Int32) (f t : Int) : Bool := decide (shw σ x (f + t) = C) && decide (shw σ y (f + t) = D)
def mt (σ : St) (x : Int) (C : Int32) (y : Int) (D : Int32) (f : Int) : Int := fstI (metB σ x C y D f) (lcI (rndE σ x) (rndE σ y))
def crB (σ : St) (w e : Int) : Bool := decide (shw σ e (w + per σ) = shw σ e w)
def sbB (σ : St) (w e : Int) : Bool := !(stl σ e) || decide (shw σ e w = σ.B e)
def taB (σ : St) (w e o : Int) : Bool := !(twnC σ e o) || decide (shw σ e w = shw σ o w)
def raB (σ : St) (e : Int) : Bool := decide (cntI (fun j => rgIn σ j e) 4 ≤ 1)
def frB (σ : St) (f t e : Int) : Bool := !(decide (f ≤ e) && decide (e ≤ t) && decide (¬ rgOf σ e = -1))
/-! the class's cells: a 0 the object, a 1 its palette, 2 base, 3 rangeOf, 4 ranges, 5 dots, 6 uses, 7 kept, 8 + j the ranges -/
def rgA (σ : St) (a : Nat → Nat) (j : Int) : Option Nat := if 0 ≤ j ∧ j < σ.rn then some (a (8 + j.toNat)) else none
def cRng (q : Nat) (f len sp k : Int) : Nat × va_E := (q, .inr (5, [.int (zI f), .int (zI len), .int (zI sp), .int (zI k), .int (zI (cyc k len))]))
def hRng (G : zG) (q : Nat) (f len sp k : Int) (H : Heap) : Prop := va_at G.1 vwCl (cRng q f len sp k) H
def hPal (G : zG) (σ : St) (a : Nat → Nat) (H : Heap) : Prop :=
  va_at G.1 vwCl (a 1, .inr (4, [.ref (a 2), .ref (a 3), .ref (a 4), .int (zI σ.rn)])) H ∧
  va_at G.1 vwCl (a 2, .inl (G.2 0, 16, .inl (zA σ.B))) H ∧
  va_at G.1 vwCl (a 3, .inl (G.2 0, 16, .inl (zB (rgOf σ)))) H ∧
  va_at G.1 vwCl (a 4, .inl (G.2 1, 4, .inr (.inr (.inr (.inr (zC (rgA σ a))))))) H ∧
  (∀ j : Int, 0 ≤ j → j < σ.rn → hRng G (a (8 + j.toNat)) (σ.F j) (σ.L j) (σ.S j) (σ.K j) H) ∧ okR σ
def factR (f len sp k wh w : Int) : Int32 := if wh = 0 then zI f else if wh = 1 then zI len else if wh = 2 then zI sp else if wh = 3 then zI k else if wh = 4 then zI (shiftR k len sp w) else zI (sp * cyc k len)
def rF (σ : St) (j wh : Int) : Int32 := factR (σ.F j) (σ.L j) (σ.S j) (σ.K j) wh σ.tk
/-- a checksum goes on over n values -/
def mixF (g : Int → Int64 → Int64) (d : Int64) : Nat → Int64
  | 0 => d
  | n + 1 => g n (mixF g d n)
def mixI (g : Int → Int64 → Int64) (d : Int64) (k : Int) : Int64 := mixF g d k.toNat
theorem mixI_s {g : Int → Int64 → Int64} {d : Int64} {k : Int} (h : 0 ≤ k) : mixI g d (k + 1) = g k (mixI g d k) := by
  unfold mixI; rw [show (k + 1).toNat = k.toNat + 1 by omega, mixF, Int.toNat_of_nonneg h]
def mix1 (g : Int → Int32) : Int → Int64 → Int64 := fun i d => d * 31 + (g i).toInt64
/-! ===== the reference's cells: b 0 the object, 1 bases, 2 dots, 3 the list of ranges, 4 the list of kept ones, 5 and 6 their rows, 8 + j the ranges, 16 + j the kept ones ===== -/
def r4 (f len sp k : Int) (i : Int) : Int := if i = 0 then f else if i = 1 then len else if i = 2 then sp else k
def hR4 (G : zG) (q : Nat) (f len sp k : Int) (H : Heap) : Prop := va_at G.1 vwCl (q, .inl (G.2 0, 4, .inl (zB (r4 f len sp k)))) H
def hAL (G : zG) (q ed : Nat) (mc : Int32) (n : Int) (H : Heap) : Prop := va_at G.1 vwCl (q, .inr (3, [.int mc, .ref ed, .int (zI n)])) H
def hEd (G : zG) (ed : Nat) (els : Int → Option Nat) (H : Heap) : Prop := va_at G.1 vwCl (ed, .inl (G.2 2, 10, .inr (.inr (.inr (.inr (zC els)))))) H
def elR (σ : St) (b : Nat → Nat) (j : Int) : Option Nat := if 0 ≤ j ∧ j < σ.rn then some (b (8 + j.toNat)) else none
def elK (σ : St) (b : Nat → Nat) (j : Int) : Option Nat := if 0 ≤ j ∧ j < σ.kn then some (b (16 + j.toNat)) else none
/-- what stands in the lists and the rows, for readers; th, mc: numbers that no reader asks for -/
def hMod (G : zG) (σ : St) (b : Nat → Nat) (th m1 m2 : Int32) (H : Heap) : Prop :=
  va_at G.1 vwCl (b 0, .inr (8, [.int th, .int (zI σ.tk), .int σ.rf, .int (zI σ.lim), .ref (b 1), .ref (b 2), .ref (b 3), .ref (b 4)])) H ∧
  va_at G.1 vwCl (b 1, .inl (G.2 0, 16, .inl (zA σ.B))) H ∧
  va_at G.1 vwCl (b 2, .inl (G.2 0, 32, .inl (zB σ.Dt))) H ∧
  hAL G (b 3) (b 5) m1 σ.rn H ∧ hAL G (b 4) (b 6) m2 σ.kn H ∧
  (0 < σ.rn → hEd G (b 5) (elR σ b) H) ∧ (0 < σ.kn → hEd G (b 6) (elK σ b) H) ∧
  (∀ j : Int, 0 ≤ j → j < σ.rn → hR4 G (b (8 + j.toNat)) (σ.F j) (σ.L j) (σ.S j) (σ.K j) H) ∧
  (∀ j : Int, 0 ≤ j → j < σ.kn → va_at G.1 vwCl (b (16 + j.toNat), .inl (G.2 0, 32, .inl (zA (σ.KP j)))) H) ∧ okR σ
theorem rgOf_first {σ : St} (hr : σ.rn ≤ 4) {e k : Int} (h0 : 0 ≤ k) (hk : k < σ.rn) (hb : ∀ t : Int, 0 ≤ t → t < k → rgIn σ t e = false) (h : rgIn σ k e = true) : rgOf σ e = k := by
  unfold rgOf
  rcases (show k = 0 ∨ k = 1 ∨ k = 2 ∨ k = 3 by omega) with rfl | rfl | rfl | rfl
  · rw [if_pos h]
  · rw [if_neg (by rw [hb 0 (by omega) (by omega)]; decide), if_pos h]
  · rw [if_neg (by rw [hb 0 (by omega) (by omega)]; decide), if_neg (by rw [hb 1 (by omega) (by omega)]; decide), if_pos h]
  · rw [if_neg (by rw [hb 0 (by omega) (by omega)]; decide), if_neg (by rw [hb 1 (by omega) (by omega)]; decide), if_neg (by rw [hb 2 (by omega) (by omega)]; decide), if_pos h]
theorem rgOf_none {σ : St} {e : Int} (hb : ∀ t : Int, 0 ≤ t → t < σ.rn → rgIn σ t e = false) : rgOf σ e = -1 := by
  have h : ∀ t : Int, 0 ≤ t → rgIn σ t e = false := fun t h0 => by
    by_cases q : t < σ.rn
    · exact hb t h0 q
    · simp [rgIn, q]
  unfold rgOf
  rw [if_neg (by rw [h 0 (by omega)]; decide), if_neg (by rw [h 1 (by omega)]; decide), if_neg (by rw [h 2 (by omega)]; decide), if_neg (by rw [h 3 (by omega)]; decide)]
theorem srcR_mod {f len sh e : Int} (h1 : f ≤ e ∧ e < f + len) (h2 : 0 ≤ sh ∧ sh < len) : f + (e - f - sh + len) % len = srcR f len sh e := by
  unfold srcR
  by_cases q : e - f - sh < 0
  · rw [if_pos q, Int.emod_eq_of_lt (by omega) (by omega)]; omega
  · rw [if_neg q, Int.add_emod_right, Int.emod_eq_of_lt (by omega) (by omega)]
def stlM (σ : St) (e : Int) : Bool := allI (fun t => decide (shw σ e t = shw σ e 0)) (rndE σ e)
def twnM (σ : St) (x y : Int) : Bool := allI (twnB σ x y) (lcI (rndE σ x) (rndE σ y))
/-! the class itself -/
def usz (σ : St) (e : Int) : Int := cntI (fun d => decide (σ.Dt d = e)) 32
def kpz (σ : St) (i : Int) : Int32 := σ.KP (i / 32) (i % 32)
def okB (σ : St) : Prop := ∀ e : Int, 0 ≤ e → e < 16 → ∃ b : Int, (0 ≤ b ∧ b < 64) ∧ σ.B e = zI b
def okC (σ : St) : Prop := (0 ≤ σ.tk ∧ σ.tk ≤ 99999) ∧ (∀ d : Int, 0 ≤ d → d < 32 → 0 ≤ σ.Dt d ∧ σ.Dt d < 16) ∧ (0 ≤ σ.lim ∧ σ.lim ≤ 32) ∧ (0 ≤ σ.kn ∧ σ.kn ≤ 5) ∧ okD σ ∧ okB σ
def hCyc (G : zG) (σ : St) (a : Nat → Nat) (H : Heap) : Prop :=
  va_at G.1 vwCl (a 0, .inr (6, [.ref (a 1), .ref (a 5), .ref (a 6), .ref (a 7), .int (zI σ.kn), .int (zI σ.tk), .int (zI σ.lim), .int σ.rf])) H ∧
  va_at G.1 vwCl (a 5, .inl (G.2 0, 32, .inl (zB σ.Dt))) H ∧
  va_at G.1 vwCl (a 6, .inl (G.2 0, 16, .inl (zB (usz σ)))) H ∧
  va_at G.1 vwCl (a 7, .inl (G.2 0, 160, .inl (zA (kpz σ)))) H ∧ hPal G σ a H ∧ okC σ
theorem usz_b (σ : St) (e : Int) : 0 ≤ usz σ e ∧ usz σ e ≤ 32 := cntI_b _ (by omega)
def lgt (C : Int32) : Int32 := zI 2 * (C / zI 16) + zI 3 * (C / zI 4 - C / zI 4 / zI 4 * zI 4) + (C - C / zI 4 * zI 4)
def orF (p : Int → Bool) (g : Int → Int32) : Nat → Int32
  | 0 => 0
  | n + 1 => if p n = true then orF p g n ||| g n else orF p g n
def orI (p : Int → Bool) (g : Int → Int32) (k : Int) : Int32 := orF p g k.toNat
theorem orI_s {p : Int → Bool} {g : Int → Int32} {k : Int} (h : 0 ≤ k) : orI p g (k + 1) = if p k = true then orI p g k ||| g k else orI p g k := by
  unfold orI; rw [show (k + 1).toNat = k.toNat + 1 by omega, orF, Int.toNat_of_nonneg h]
def orLF (p : Int → Bool) (g : Int → Int64) : Nat → Int64
  | 0 => 0
  | n + 1 => if p n = true then orLF p g n ||| g n else orLF p g n
def orL (p : Int → Bool) (g : Int → Int64) (k : Int) : Int64 := orLF p g k.toNat
theorem orL_s {p : Int → Bool} {g : Int → Int64} {k : Int} (h : 0 ≤ k) : orL p g (k + 1) = if p k = true then orL p g k ||| g k else orL p g k := by
  unfold orL; rw [show (k + 1).toNat = k.toNat + 1 by omega, orLF, Int.toNat_of_nonneg h]
def smF (g : Int → Int32) : Nat → Int32
  | 0 => 0
  | n + 1 => smF g n + g n
def smI (g : Int → Int32) (k : Int) : Int32 := smF g k.toNat
theorem smI_s {g : Int → Int32} {k : Int} (h : 0 ≤ k) : smI g (k + 1) = smI g k + g k := by
  unfold smI; rw [show (k + 1).toNat = k.toNat + 1 by omega, smF, Int.toNat_of_nonneg h]
def szF (g : Int → Int) : Nat → Int
  | 0 => 0
  | n + 1 => szF g n + g n
def szI (g : Int → Int) (k : Int) : Int := szF g k.toNat
theorem szI_s {g : Int → Int} {k : Int} (h : 0 ≤ k) : szI g (k + 1) = szI g k + g k := by
  unfold szI; rw [show (k + 1).toNat = k.toNat + 1 by omega, szF, Int.toNat_of_nonneg h]
theorem szF_b {g : Int → Int} {B : Int} (h : ∀ t : Int, 0 ≤ g t ∧ g t ≤ B) : ∀ n : Nat, 0 ≤ szF g n ∧ szF g n ≤ n * B
  | 0 => ⟨Int.le_refl _, by rw [show szF g 0 = 0 from rfl]; omega⟩
  | n + 1 => by
    have h1 := szF_b h n
    have h2 := h n
    rw [szF, show (((n + 1 : Nat) : Int)) * B = n * B + B by rw [Int.natCast_add, Int.add_mul]; omega]
    omega
theorem szI_b {g : Int → Int} {B k : Int} (h : ∀ t : Int, 0 ≤ g t ∧ g t ≤ B) (hk : 0 ≤ k) : 0 ≤ szI g k ∧ szI g k ≤ k * B := by
  have := szF_b h k.toNat
  rw [Int.toNat_of_nonneg hk] at this
  exact this
def mxF (g : Int → Int32) : Nat → Int32
  | 0 => 0
  | n + 1 => if mxF g n < g n then g n else mxF g n
def mxI (g : Int → Int32) (k : Int) : Int32 := mxF g k.toNat
theorem mxI_s {g : Int → Int32} {k : Int} (h : 0 ≤ k) : mxI g (k + 1) = if mxI g k < g k then g k else mxI g k := by
  unfold mxI; rw [show (k + 1).toNat = k.toNat + 1 by omega, mxF, Int.toNat_of_nonneg h]
def usB (σ : St) (e : Int) : Bool := decide (0 < usz σ e)
def ueC (σ : St) : Int := cntI (usB σ) 16
def ksC (σ : St) : Int32 := orI (usB σ) (fun e => bit1 (smlC σ e)) 16
def liC (σ : St) (w : Int) : Int32 := smI (fun e => zI (usz σ e) * lgt (shw σ e w)) 16
def rwL (σ : St) (r : Int) : Int32 := smI (fun q => lgt (shw σ (σ.Dt (r * 8 + q)) σ.tk)) 8
def mrL (σ : St) : Int32 := mxI (rwL σ) 4
def flG (σ : St) (e : Int) : Int := if 10 < chg σ e σ.tk 30 then usz σ e else 0
def flC (σ : St) : Int := szI (flG σ) 16
theorem flG_b (σ : St) (e : Int) : 0 ≤ flG σ e ∧ flG σ e ≤ 32 := by
  have := usz_b σ e; unfold flG; split <;> omega
theorem flC_b (σ : St) : 0 ≤ flC σ ∧ flC σ ≤ 512 := by
  have := szI_b (flG_b σ) (show (0 : Int) ≤ 16 by omega); unfold flC; omega
def bitL (C : Int32) : Int64 := 1 <<< (C.toInt64 &&& 63)
def csC (σ : St) : Int64 := orL (usB σ) (fun e => bitL (shw σ e σ.tk)) 16
def skB (σ : St) (n w d : Int) : Bool := decide (shw σ (σ.Dt d) w = σ.KP n d)
def sk (σ : St) (n w : Int) : Bool := allI (skB σ n w) 32
def whn (σ : St) (n : Int) : Int := fstI (fun t => sk σ n (σ.tk + t)) 401
def ltF (σ : St) : Nat → Int × Int32
  | 0 => (σ.tk, liC σ σ.tk)
  | n + 1 => if (ltF σ n).2 < liC σ (σ.tk + (n + 1)) then (σ.tk + (n + 1), liC σ (σ.tk + (n + 1))) else ltF σ n
def ltC (σ : St) (n : Int) : Int := (ltF σ (n - 1).toNat).1
def dF (σ : St) (d wh : Int) : Int32 := if wh = 0 then zI (σ.Dt d) else if wh = 1 then shw σ (σ.Dt d) σ.tk else if wh = 2 then lgt (shw σ (σ.Dt d) σ.tk) else zI (chg σ (σ.Dt d) σ.tk 30)
def eF (σ : St) (e wh : Int) : Int32 := if wh = 0 then σ.B e else if wh = 1 then shw σ e σ.tk else if wh = 2 then zI (rgOf σ e) else if wh = 3 then bI (stl σ e) else if wh = 4 then bstI (fun o => twnC σ o e) 16 else zI (usz σ e)
/-! the reference's ways -/
def smM (σ : St) (e : Int) : Int := fstI (fun o => twnM σ e o) 16
def enM (σ : St) : Int32 := orI (fun _ => true) (fun d => bit1 (σ.Dt d)) 32
def inB (σ : St) (e : Int) : Bool := decide (enM σ >>> (zI e &&& 31) &&& zI 1 = zI 1)
def ksM (σ : St) : Int32 := orI (inB σ) (fun e => bit1 (smM σ e)) 16
def fkB (σ : St) (d : Int) : Bool := decide (10 < chg σ (σ.Dt d) σ.tk 30)
def flM (σ : St) : Int := cntI (fkB σ) 32
def rwM (σ : St) (r : Int) : Int32 := smI (fun q => lgt (shw σ (σ.Dt (8 * r + q)) σ.tk)) 8
def mrM (σ : St) : Int32 := mxI (rwM σ) 4
def csM (σ : St) : Int64 := orL (fun _ => true) (fun d => bitL (shw σ (σ.Dt d) σ.tk)) 32
def eM (σ : St) (e wh : Int) : Int32 := if wh = 0 then σ.B e else if wh = 1 then shw σ e σ.tk else if wh = 2 then zI (rgOf σ e) else if wh = 3 then bI (stlM σ e) else if wh = 4 then bstI (fun o => twnM σ e o) 16 else zI (usz σ e)
def tkM (σ : St) (f u : Int) : Bool := !(allI (fun i => decide (rgOf σ (f + i) = -1)) (u - f + 1))
theorem bst_zero {p : Int → Bool} {k : Int} (h : 0 ≤ k) (q : p k = false) : bstI p (k + 1) = bstI p k ||| zI 0 := by
  rw [bstI_s h, if_neg (by rw [q]; decide), show zI 0 = 0 from rfl, Int32.or_zero]
end
section
theorem dX1_holds_0 : decode cX1_holds 0 = .ok (.iload_n 1, 1) := by decide +kernel
theorem dX1_holds_1 : decode cX1_holds 1 = .ok (.aload_n 0, 1) := by decide +kernel
theorem dX1_holds_2 : decode cX1_holds 2 = .ok (.getfield 9, 3) := by decide +kernel
theorem dX1_holds_5 : decode cX1_holds 5 = .ok (.if_icmp .lt 20, 3) := by decide +kernel
theorem dX1_holds_8 : decode cX1_holds 8 = .ok (.iload_n 1, 1) := by decide +kernel
theorem dX1_holds_9 : decode cX1_holds 9 = .ok (.aload_n 0, 1) := by decide +kernel
theorem dX1_holds_10 : decode cX1_holds 10 = .ok (.getfield 9, 3) := by decide +kernel
theorem dX1_holds_13 : decode cX1_holds 13 = .ok (.aload_n 0, 1) := by decide +kernel
theorem dX1_holds_14 : decode cX1_holds 14 = .ok (.getfield 15, 3) := by decide +kernel
theorem dX1_holds_17 : decode cX1_holds 17 = .ok (.iadd, 1) := by decide +kernel
theorem dX1_holds_18 : decode cX1_holds 18 = .ok (.if_icmp .ge 7, 3) := by decide +kernel
theorem dX1_holds_21 : decode cX1_holds 21 = .ok (.iconst 1, 1) := by decide +kernel
theorem dX1_holds_22 : decode cX1_holds 22 = .ok (.goto 4, 3) := by decide +kernel
theorem dX1_holds_25 : decode cX1_holds 25 = .ok (.iconst 0, 1) := by decide +kernel
theorem dX1_holds_26 : decode cX1_holds 26 = .ok (.ireturn, 1) := by decide +kernel
theorem q3_3 : (Jvm.Cond.fieldLink "Cyclepaint$Range" (9 : Nat) "Cyclepaint$Range" "first" "I") ∈ lw_g := zg_of (zin3 (List.mem_of_getElem? (i := 3) rfl)) rfl
theorem q3_4 : (Jvm.Cond.fieldLink "Cyclepaint$Range" (15 : Nat) "Cyclepaint$Range" "length" "I") ∈ lw_g := zg_of (zin3 (List.mem_of_getElem? (i := 4) rfl)) rfl
theorem q1_191 : (Jvm.Cond.code ({ cls := "Cyclepaint$Range", name := "holds", desc := "(I)Z" } : Jvm.MethodName) prog_3_method_3_code (2 : Nat) (Option.some Jvm.ClassFile.FieldType.boolean)) ∈ lw_g := zg_of (zin1 (List.mem_of_getElem? (i := 191) rfl)) rfl
theorem q1_14 : (Jvm.Cond.initialized "Cyclepaint$Range") ∈ lw_g := zg_of (zin1 (List.mem_of_getElem? (i := 14) rfl)) rfl
theorem q1_189 : (Jvm.Cond.instanceMethod ({ cls := "Cyclepaint$Range", name := "holds", desc := "(I)Z" } : Jvm.MethodName)) ∈ lw_g := zg_of (zin1 (List.mem_of_getElem? (i := 189) rfl)) rfl
theorem q1_190 : (Jvm.Cond.selects "Cyclepaint$Range" ({ cls := "Cyclepaint$Range", name := "holds", desc := "(I)Z" } : Jvm.MethodName) ({ cls := "Cyclepaint$Range", name := "holds", desc := "(I)Z" } : Jvm.MethodName)) ∈ lw_g := zg_of (zin1 (List.mem_of_getElem? (i := 190) rfl)) rfl
theorem ok_X1_holds : zOV yX1_holds cX1_holds 2 ((Option.some Jvm.ClassFile.FieldType.boolean)) 1 := ⟨⟨q1_191, q1_14, by decide, by decide, by decide +kernel⟩, q1_189, q1_190⟩
set_option maxHeartbeats 4000000 in
set_option maxRecDepth 100000 in
theorem c_X1_holds (l : Launch) (G : zG) (q : Nat) (f len sp k : Int) (e : Int) (hr : (0 ≤ f ∧ f ≤ 16 ∧ 0 ≤ len ∧ len ≤ 16) ∧ rg e) : Met l yX1_holds (wq yX1_holds cX1_holds 2 ((Option.some Jvm.ClassFile.FieldType.boolean))) (rmR 0 0) (va_Pc [.ref (q), .int (zI (e))] (zK G (hRng G q f len sp k))) (zQ (some (.int (bI (decide (f ≤ e) && decide (e < f + len)))))) 0 0 zF := by
  refine z_enterB (by decide +kernel) (Nat.le_of_ble_eq_true rfl) ?_
  intro p env s m below meth cod Q S hG hP ret ls hl
  have hl : lv_has ls 2 [(0, .ref (q)), (1, .int (zI (e)))] := hl
  refine z_iload_n S dX1_holds_0 hl 1 rfl rfl ?_
  refine z_aload_n S dX1_holds_1 hl 0 rfl rfl ?_
  refine z_get S hG hP zc_X1 0 (by decide) q3_3 rfl rfl dX1_holds_2 ?_
  refine z_icmp_lt S 25 dX1_holds_5 (by decide) (by omega) (by omega) (fun c_5 => ?_) (fun c_5 => ?_)
  · skip
    refine z_iconst S dX1_holds_25 ?_
    exact ret _ _ _ dX1_holds_26 (by rw [show (decide (f ≤ e) && decide (e < f + len)) = false from by simp; omega]; rfl)
  · skip
    refine z_iload_n S dX1_holds_8 hl 1 rfl rfl ?_
    refine z_aload_n S dX1_holds_9 hl 0 rfl rfl ?_
    refine z_get S hG hP zc_X1 0 (by decide) q3_3 rfl rfl dX1_holds_10 ?_
    refine z_aload_n S dX1_holds_13 hl 0 rfl rfl ?_
    refine z_get S hG hP zc_X1 1 (by decide) q3_4 rfl rfl dX1_holds_14 ?_
    refine z_iadd S dX1_holds_17 ?_
    refine z_icmp_ge S 25 dX1_holds_18 (by decide) (by omega) (by omega) (fun c_18 => ?_) (fun c_18 => ?_)
    · skip
      refine z_iconst S dX1_holds_25 ?_
      exact ret _ _ _ dX1_holds_26 (by rw [show (decide (f ≤ e) && decide (e < f + len)) = false from by simp; omega]; rfl)
    · skip
      refine z_iconst S dX1_holds_21 ?_
      refine z_goto S 26 dX1_holds_22 (by decide) ?_
      exact ret _ _ _ dX1_holds_26 (by rw [show (decide (f ≤ e) && decide (e < f + len)) = true from by simp; omega]; rfl)
theorem dX1_round_0 : decode cX1_round 0 = .ok (.aload_n 0, 1) := by decide +kernel
theorem dX1_round_1 : decode cX1_round 1 = .ok (.getfield 22, 3) := by decide +kernel
theorem dX1_round_4 : decode cX1_round 4 = .ok (.aload_n 0, 1) := by decide +kernel
theorem dX1_round_5 : decode cX1_round 5 = .ok (.getfield 28, 3) := by decide +kernel
theorem dX1_round_8 : decode cX1_round 8 = .ok (.imul, 1) := by decide +kernel
theorem dX1_round_9 : decode cX1_round 9 = .ok (.ireturn, 1) := by decide +kernel
theorem q3_5 : (Jvm.Cond.fieldLink "Cyclepaint$Range" (22 : Nat) "Cyclepaint$Range" "speed" "I") ∈ lw_g := zg_of (zin3 (List.mem_of_getElem? (i := 5) rfl)) rfl
theorem q3_7 : (Jvm.Cond.fieldLink "Cyclepaint$Range" (28 : Nat) "Cyclepaint$Range" "cycle" "I") ∈ lw_g := zg_of (zin3 (List.mem_of_getElem? (i := 7) rfl)) rfl
theorem q1_112 : (Jvm.Cond.code ({ cls := "Cyclepaint$Range", name := "round", desc := "()I" } : Jvm.MethodName) prog_3_method_4_code (1 : Nat) (Option.some Jvm.ClassFile.FieldType.int)) ∈ lw_g := zg_of (zin1 (List.mem_of_getElem? (i := 112) rfl)) rfl
theorem q1_110 : (Jvm.Cond.instanceMethod ({ cls := "Cyclepaint$Range", name := "round", desc := "()I" } : Jvm.MethodName)) ∈ lw_g := zg_of (zin1 (List.mem_of_getElem? (i := 110) rfl)) rfl
theorem q1_111 : (Jvm.Cond.selects "Cyclepaint$Range" ({ cls := "Cyclepaint$Range", name := "round", desc := "()I" } : Jvm.MethodName) ({ cls := "Cyclepaint$Range", name := "round", desc := "()I" } : Jvm.MethodName)) ∈ lw_g := zg_of (zin1 (List.mem_of_getElem? (i := 111) rfl)) rfl
theorem ok_X1_round : zOV yX1_round cX1_round 1 ((Option.some Jvm.ClassFile.FieldType.int)) 0 := ⟨⟨q1_112, q1_14, by decide, by decide, by decide +kernel⟩, q1_110, q1_111⟩
set_option maxHeartbeats 4000000 in
set_option maxRecDepth 100000 in
theorem c_X1_round (l : Launch) (G : zG) (q : Nat) (f len sp k : Int) : Met l yX1_round (wq yX1_round cX1_round 1 ((Option.some Jvm.ClassFile.FieldType.int))) (rmR 0 0) (va_Pc [.ref (q)] (zK G (hRng G q f len sp k))) (zQ (some (.int ((zI (sp * cyc k len)))))) 0 0 zF := by
  refine z_enterI (by decide +kernel) (Nat.le_of_ble_eq_true rfl) ?_
  intro p env s m below meth cod Q S hG hP ret ls hl
  have hl : lv_has ls 1 [(0, .ref (q))] := hl
  refine z_aload_n S dX1_round_0 hl 0 rfl rfl ?_
  refine z_get S hG hP zc_X1 2 (by decide) q3_5 rfl rfl dX1_round_1 ?_
  refine z_aload_n S dX1_round_4 hl 0 rfl rfl ?_
  refine z_get S hG hP zc_X1 4 (by decide) q3_7 rfl rfl dX1_round_5 ?_
  refine z_imul S dX1_round_8 ?_
  exact ret _ _ _ dX1_round_9 (rfl)
theorem dX1_shift_0 : decode cX1_shift 0 = .ok (.aload_n 0, 1) := by decide +kernel
theorem dX1_shift_1 : decode cX1_shift 1 = .ok (.getfield 22, 3) := by decide +kernel
theorem dX1_shift_4 : decode cX1_shift 4 = .ok (.iconst 1, 1) := by decide +kernel
theorem dX1_shift_5 : decode cX1_shift 5 = .ok (.if_icmp .lt 11, 3) := by decide +kernel
theorem dX1_shift_8 : decode cX1_shift 8 = .ok (.aload_n 0, 1) := by decide +kernel
theorem dX1_shift_9 : decode cX1_shift 9 = .ok (.getfield 28, 3) := by decide +kernel
theorem dX1_shift_12 : decode cX1_shift 12 = .ok (.iconst 1, 1) := by decide +kernel
theorem dX1_shift_13 : decode cX1_shift 13 = .ok (.if_icmp .ge 5, 3) := by decide +kernel
theorem dX1_shift_16 : decode cX1_shift 16 = .ok (.iconst 0, 1) := by decide +kernel
theorem dX1_shift_17 : decode cX1_shift 17 = .ok (.ireturn, 1) := by decide +kernel
theorem dX1_shift_18 : decode cX1_shift 18 = .ok (.iload_n 1, 1) := by decide +kernel
theorem dX1_shift_19 : decode cX1_shift 19 = .ok (.aload_n 0, 1) := by decide +kernel
theorem dX1_shift_20 : decode cX1_shift 20 = .ok (.getfield 22, 3) := by decide +kernel
theorem dX1_shift_23 : decode cX1_shift 23 = .ok (.idiv, 1) := by decide +kernel
theorem dX1_shift_24 : decode cX1_shift 24 = .ok (.aload_n 0, 1) := by decide +kernel
theorem dX1_shift_25 : decode cX1_shift 25 = .ok (.getfield 28, 3) := by decide +kernel
theorem dX1_shift_28 : decode cX1_shift 28 = .ok (.irem, 1) := by decide +kernel
theorem dX1_shift_29 : decode cX1_shift 29 = .ok (.istore_n 2, 1) := by decide +kernel
theorem dX1_shift_30 : decode cX1_shift 30 = .ok (.aload_n 0, 1) := by decide +kernel
theorem dX1_shift_31 : decode cX1_shift 31 = .ok (.getfield 25, 3) := by decide +kernel
theorem dX1_shift_34 : decode cX1_shift 34 = .ok (.iconst 1, 1) := by decide +kernel
theorem dX1_shift_35 : decode cX1_shift 35 = .ok (.if_icmp .ne 18, 3) := by decide +kernel
theorem dX1_shift_38 : decode cX1_shift 38 = .ok (.iload_n 2, 1) := by decide +kernel
theorem dX1_shift_39 : decode cX1_shift 39 = .ok (.ifCond .ne 7, 3) := by decide +kernel
theorem dX1_shift_42 : decode cX1_shift 42 = .ok (.iconst 0, 1) := by decide +kernel
theorem dX1_shift_43 : decode cX1_shift 43 = .ok (.goto 9, 3) := by decide +kernel
theorem dX1_shift_46 : decode cX1_shift 46 = .ok (.aload_n 0, 1) := by decide +kernel
theorem dX1_shift_47 : decode cX1_shift 47 = .ok (.getfield 15, 3) := by decide +kernel
theorem dX1_shift_50 : decode cX1_shift 50 = .ok (.iload_n 2, 1) := by decide +kernel
theorem dX1_shift_51 : decode cX1_shift 51 = .ok (.isub, 1) := by decide +kernel
theorem dX1_shift_52 : decode cX1_shift 52 = .ok (.ireturn, 1) := by decide +kernel
theorem dX1_shift_53 : decode cX1_shift 53 = .ok (.iload_n 2, 1) := by decide +kernel
theorem dX1_shift_54 : decode cX1_shift 54 = .ok (.aload_n 0, 1) := by decide +kernel
theorem dX1_shift_55 : decode cX1_shift 55 = .ok (.getfield 15, 3) := by decide +kernel
theorem dX1_shift_58 : decode cX1_shift 58 = .ok (.if_icmp .ge 7, 3) := by decide +kernel
theorem dX1_shift_61 : decode cX1_shift 61 = .ok (.iload_n 2, 1) := by decide +kernel
theorem dX1_shift_62 : decode cX1_shift 62 = .ok (.goto 9, 3) := by decide +kernel
theorem dX1_shift_65 : decode cX1_shift 65 = .ok (.aload_n 0, 1) := by decide +kernel
theorem dX1_shift_66 : decode cX1_shift 66 = .ok (.getfield 28, 3) := by decide +kernel
theorem dX1_shift_69 : decode cX1_shift 69 = .ok (.iload_n 2, 1) := by decide +kernel
theorem dX1_shift_70 : decode cX1_shift 70 = .ok (.isub, 1) := by decide +kernel
theorem dX1_shift_71 : decode cX1_shift 71 = .ok (.ireturn, 1) := by decide +kernel
theorem q3_6 : (Jvm.Cond.fieldLink "Cyclepaint$Range" (25 : Nat) "Cyclepaint$Range" "kind" "I") ∈ lw_g := zg_of (zin3 (List.mem_of_getElem? (i := 6) rfl)) rfl
theorem q1_120 : (Jvm.Cond.code ({ cls := "Cyclepaint$Range", name := "shift", desc := "(I)I" } : Jvm.MethodName) prog_3_method_5_code (3 : Nat) (Option.some Jvm.ClassFile.FieldType.int)) ∈ lw_g := zg_of (zin1 (List.mem_of_getElem? (i := 120) rfl)) rfl
theorem q1_118 : (Jvm.Cond.instanceMethod ({ cls := "Cyclepaint$Range", name := "shift", desc := "(I)I" } : Jvm.MethodName)) ∈ lw_g := zg_of (zin1 (List.mem_of_getElem? (i := 118) rfl)) rfl
theorem q1_119 : (Jvm.Cond.selects "Cyclepaint$Range" ({ cls := "Cyclepaint$Range", name := "shift", desc := "(I)I" } : Jvm.MethodName) ({ cls := "Cyclepaint$Range", name := "shift", desc := "(I)I" } : Jvm.MethodName)) ∈ lw_g := zg_of (zin1 (List.mem_of_getElem? (i := 119) rfl)) rfl
theorem ok_X1_shift : zOV yX1_shift cX1_shift 3 ((Option.some Jvm.ClassFile.FieldType.int)) 1 := ⟨⟨q1_120, q1_14, by decide, by decide, by decide +kernel⟩, q1_118, q1_119⟩
set_option maxHeartbeats 4000000 in
set_option maxRecDepth 100000 in
theorem c_X1_shift (l : Launch) (G : zG) (q : Nat) (f len sp k : Int) (w : Int) (hr : (0 ≤ w ∧ w < 2147483648) ∧ (1 ≤ sp ∧ sp ≤ 9) ∧ (2 ≤ len ∧ len ≤ 16) ∧ 0 ≤ k ∧ k ≤ 2) : Met l yX1_shift (wq yX1_shift cX1_shift 3 ((Option.some Jvm.ClassFile.FieldType.int))) (rmR 0 0) (va_Pc [.ref (q), .int (zI (w))] (zK G (hRng G q f len sp k))) (zQ (some (.int ((zI (shiftR k len sp w)))))) 0 0 zF := by
  refine z_enterI (by decide +kernel) (Nat.le_of_ble_eq_true rfl) ?_
  intro p env s m below meth cod Q S hG hP ret ls hl
  have hl : lv_has ls 3 [(0, .ref (q)), (1, .int (zI (w)))] := hl
  refine z_aload_n S dX1_shift_0 hl 0 rfl rfl ?_
  refine z_get S hG hP zc_X1 2 (by decide) q3_5 rfl rfl dX1_shift_1 ?_
  refine z_iconst S dX1_shift_4 ?_
  refine z_icmp_lt_F S 16 dX1_shift_5 (by decide) (by omega) (by omega) (by omega) ?_
  refine z_aload_n S dX1_shift_8 hl 0 rfl rfl ?_
  refine z_get S hG hP zc_X1 4 (by decide) q3_7 rfl rfl dX1_shift_9 ?_
  refine z_iconst S dX1_shift_12 ?_
  have hcy := cyc_b (k := k) (len := len) hr.2.2.1
  refine z_icmp_ge_T S 18 dX1_shift_13 (by decide) (by omega) (by omega) (by omega) ?_
  refine z_iload_n S dX1_shift_18 hl 1 rfl rfl ?_
  refine z_aload_n S dX1_shift_19 hl 0 rfl rfl ?_
  refine z_get S hG hP zc_X1 2 (by decide) q3_5 rfl rfl dX1_shift_20 ?_
  have hd0 : 0 ≤ w / sp := Int.ediv_nonneg hr.1.1 (by omega)
  have hd1 : w / sp ≤ w := Int.ediv_le_self sp hr.1.1
  have hm0 := Int.emod_nonneg (w / sp) (show cyc k len ≠ 0 by omega)
  have hm1 := Int.emod_lt_of_pos (w / sp) (show 0 < cyc k len by omega)
  refine z_idiv S dX1_shift_23 (by omega) (by omega) ?_
  refine z_aload_n S dX1_shift_24 hl 0 rfl rfl ?_
  refine z_get S hG hP zc_X1 4 (by decide) q3_7 rfl rfl dX1_shift_25 ?_
  refine z_irem S dX1_shift_28 (by omega) (by omega) ?_
  refine z_istore_n (lv' := [(2, .int (zI (((w) / (sp)) % (cyc (k) (len))))), (0, .ref (q)), (1, .int (zI (w)))]) S dX1_shift_29 hl rfl (by decide) rfl (fun ls hl => ?_)
  refine z_aload_n S dX1_shift_30 hl 1 rfl rfl ?_
  refine z_get S hG hP zc_X1 3 (by decide) q3_6 rfl rfl dX1_shift_31 ?_
  refine z_iconst S dX1_shift_34 ?_
  refine z_icmp_ne S 53 dX1_shift_35 (by decide) (by omega) (by omega) (fun c_35 => ?_) (fun c_35 => ?_)
  · skip
    refine z_iload_n S dX1_shift_53 hl 0 rfl rfl ?_
    refine z_aload_n S dX1_shift_54 hl 1 rfl rfl ?_
    refine z_get S hG hP zc_X1 1 (by decide) q3_4 rfl rfl dX1_shift_55 ?_
    refine z_icmp_ge S 65 dX1_shift_58 (by decide) (by omega) (by omega) (fun c_58 => ?_) (fun c_58 => ?_)
    · skip
      refine z_aload_n S dX1_shift_65 hl 1 rfl rfl ?_
      refine z_get S hG hP zc_X1 4 (by decide) q3_7 rfl rfl dX1_shift_66 ?_
      refine z_iload_n S dX1_shift_69 hl 0 rfl rfl ?_
      refine z_isub S dX1_shift_70 ?_
      exact ret _ _ _ dX1_shift_71 (by unfold shiftR; rw [if_neg (by omega), if_neg (by omega)])
    · skip
      refine z_iload_n S dX1_shift_61 hl 0 rfl rfl ?_
      refine z_goto S 71 dX1_shift_62 (by decide) ?_
      exact ret _ _ _ dX1_shift_71 (by unfold shiftR; rw [if_neg (by omega), if_pos (by omega)])
  · skip
    refine z_iload_n S dX1_shift_38 hl 0 rfl rfl ?_
    refine z_if_ne S 46 dX1_shift_39 (by decide) (by omega) (fun c_39 => ?_) (fun c_39 => ?_)
    · skip
      refine z_aload_n S dX1_shift_46 hl 1 rfl rfl ?_
      refine z_get S hG hP zc_X1 1 (by decide) q3_4 rfl rfl dX1_shift_47 ?_
      refine z_iload_n S dX1_shift_50 hl 0 rfl rfl ?_
      refine z_isub S dX1_shift_51 ?_
      exact ret _ _ _ dX1_shift_52 (by unfold shiftR; rw [if_pos (by omega), if_neg (by omega)])
    · skip
      refine z_iconst S dX1_shift_42 ?_
      refine z_goto S 52 dX1_shift_43 (by decide) ?_
      exact ret _ _ _ dX1_shift_52 (by unfold shiftR; rw [if_pos (by omega), if_pos (by omega)])
theorem dX1_source_0 : decode cX1_source 0 = .ok (.iload_n 1, 1) := by decide +kernel
theorem dX1_source_1 : decode cX1_source 1 = .ok (.aload_n 0, 1) := by decide +kernel
theorem dX1_source_2 : decode cX1_source 2 = .ok (.getfield 9, 3) := by decide +kernel
theorem dX1_source_5 : decode cX1_source 5 = .ok (.isub, 1) := by decide +kernel
theorem dX1_source_6 : decode cX1_source 6 = .ok (.iload_n 2, 1) := by decide +kernel
theorem dX1_source_7 : decode cX1_source 7 = .ok (.isub, 1) := by decide +kernel
theorem dX1_source_8 : decode cX1_source 8 = .ok (.istore_n 3, 1) := by decide +kernel
theorem dX1_source_9 : decode cX1_source 9 = .ok (.iload_n 3, 1) := by decide +kernel
theorem dX1_source_10 : decode cX1_source 10 = .ok (.ifCond .ge 17, 3) := by decide +kernel
theorem dX1_source_13 : decode cX1_source 13 = .ok (.aload_n 0, 1) := by decide +kernel
theorem dX1_source_14 : decode cX1_source 14 = .ok (.getfield 9, 3) := by decide +kernel
theorem dX1_source_17 : decode cX1_source 17 = .ok (.iload_n 3, 1) := by decide +kernel
theorem dX1_source_18 : decode cX1_source 18 = .ok (.iadd, 1) := by decide +kernel
theorem dX1_source_19 : decode cX1_source 19 = .ok (.aload_n 0, 1) := by decide +kernel
theorem dX1_source_20 : decode cX1_source 20 = .ok (.getfield 15, 3) := by decide +kernel
theorem dX1_source_23 : decode cX1_source 23 = .ok (.iadd, 1) := by decide +kernel
theorem dX1_source_24 : decode cX1_source 24 = .ok (.goto 9, 3) := by decide +kernel
theorem dX1_source_27 : decode cX1_source 27 = .ok (.aload_n 0, 1) := by decide +kernel
theorem dX1_source_28 : decode cX1_source 28 = .ok (.getfield 9, 3) := by decide +kernel
theorem dX1_source_31 : decode cX1_source 31 = .ok (.iload_n 3, 1) := by decide +kernel
theorem dX1_source_32 : decode cX1_source 32 = .ok (.iadd, 1) := by decide +kernel
theorem dX1_source_33 : decode cX1_source 33 = .ok (.ireturn, 1) := by decide +kernel
theorem q1_124 : (Jvm.Cond.code ({ cls := "Cyclepaint$Range", name := "source", desc := "(II)I" } : Jvm.MethodName) prog_3_method_6_code (4 : Nat) (Option.some Jvm.ClassFile.FieldType.int)) ∈ lw_g := zg_of (zin1 (List.mem_of_getElem? (i := 124) rfl)) rfl
theorem q1_122 : (Jvm.Cond.instanceMethod ({ cls := "Cyclepaint$Range", name := "source", desc := "(II)I" } : Jvm.MethodName)) ∈ lw_g := zg_of (zin1 (List.mem_of_getElem? (i := 122) rfl)) rfl
theorem q1_123 : (Jvm.Cond.selects "Cyclepaint$Range" ({ cls := "Cyclepaint$Range", name := "source", desc := "(II)I" } : Jvm.MethodName) ({ cls := "Cyclepaint$Range", name := "source", desc := "(II)I" } : Jvm.MethodName)) ∈ lw_g := zg_of (zin1 (List.mem_of_getElem? (i := 123) rfl)) rfl
theorem ok_X1_source : zOV yX1_source cX1_source 4 ((Option.some Jvm.ClassFile.FieldType.int)) 2 := ⟨⟨q1_124, q1_14, by decide, by decide, by decide +kernel⟩, q1_122, q1_123⟩
set_option maxHeartbeats 4000000 in
set_option maxRecDepth 100000 in
theorem c_X1_source (l : Launch) (G : zG) (q : Nat) (f len sp k : Int) (e sh : Int) (hr : (0 ≤ f ∧ f ≤ 16 ∧ 0 ≤ len ∧ len ≤ 16) ∧ (0 ≤ e ∧ e ≤ 16) ∧ 0 ≤ sh ∧ sh ≤ 16) : Met l yX1_source (wq yX1_source cX1_source 4 ((Option.some Jvm.ClassFile.FieldType.int))) (rmR 0 0) (va_Pc [.ref (q), .int (zI (e)), .int (zI (sh))] (zK G (hRng G q f len sp k))) (zQ (some (.int ((zI (srcR f len sh e)))))) 0 0 zF := by
  refine z_enterI (by decide +kernel) (Nat.le_of_ble_eq_true rfl) ?_
  intro p env s m below meth cod Q S hG hP ret ls hl
  have hl : lv_has ls 4 [(0, .ref (q)), (1, .int (zI (e))), (2, .int (zI (sh)))] := hl
  refine z_iload_n S dX1_source_0 hl 1 rfl rfl ?_
  refine z_aload_n S dX1_source_1 hl 0 rfl rfl ?_
  refine z_get S hG hP zc_X1 0 (by decide) q3_3 rfl rfl dX1_source_2 ?_
  refine z_isub S dX1_source_5 ?_
  refine z_iload_n S dX1_source_6 hl 2 rfl rfl ?_
  refine z_isub S dX1_source_7 ?_
  refine z_istore_n (lv' := [(3, .int (zI (((e) - (f)) - (sh)))), (0, .ref (q)), (1, .int (zI (e))), (2, .int (zI (sh)))]) S dX1_source_8 hl rfl (by decide) rfl (fun ls hl => ?_)
  refine z_iload_n S dX1_source_9 hl 0 rfl rfl ?_
  refine z_if_ge S 27 dX1_source_10 (by decide) (by omega) (fun c_10 => ?_) (fun c_10 => ?_)
  · skip
    refine z_aload_n S dX1_source_27 hl 1 rfl rfl ?_
    refine z_get S hG hP zc_X1 0 (by decide) q3_3 rfl rfl dX1_source_28 ?_
    refine z_iload_n S dX1_source_31 hl 0 rfl rfl ?_
    refine z_iadd S dX1_source_32 ?_
    exact ret _ _ _ dX1_source_33 (by unfold srcR; rw [if_neg (by omega)])
  · skip
    refine z_aload_n S dX1_source_13 hl 1 rfl rfl ?_
    refine z_get S hG hP zc_X1 0 (by decide) q3_3 rfl rfl dX1_source_14 ?_
    refine z_iload_n S dX1_source_17 hl 0 rfl rfl ?_
    refine z_iadd S dX1_source_18 ?_
    refine z_aload_n S dX1_source_19 hl 1 rfl rfl ?_
    refine z_get S hG hP zc_X1 1 (by decide) q3_4 rfl rfl dX1_source_20 ?_
    refine z_iadd S dX1_source_23 ?_
    refine z_goto S 33 dX1_source_24 (by decide) ?_
    exact ret _ _ _ dX1_source_33 (by unfold srcR; rw [if_pos (by omega)])
theorem dX0_ranges_0 : decode cX0_ranges 0 = .ok (.aload_n 0, 1) := by decide +kernel
theorem dX0_ranges_1 : decode cX0_ranges 1 = .ok (.getfield 24, 3) := by decide +kernel
theorem dX0_ranges_4 : decode cX0_ranges 4 = .ok (.ireturn, 1) := by decide +kernel
theorem q1_49 : (Jvm.Cond.fieldLink "Cyclepaint$Palette" (24 : Nat) "Cyclepaint$Palette" "count" "I") ∈ lw_g := zg_of (zin1 (List.mem_of_getElem? (i := 49) rfl)) rfl
theorem q1_226 : (Jvm.Cond.code ({ cls := "Cyclepaint$Palette", name := "ranges", desc := "()I" } : Jvm.MethodName) prog_2_method_2_code (1 : Nat) (Option.some Jvm.ClassFile.FieldType.int)) ∈ lw_g := zg_of (zin1 (List.mem_of_getElem? (i := 226) rfl)) rfl
theorem q1_2 : (Jvm.Cond.initialized "Cyclepaint$Palette") ∈ lw_g := zg_of (zin1 (List.mem_of_getElem? (i := 2) rfl)) rfl
theorem q1_224 : (Jvm.Cond.instanceMethod ({ cls := "Cyclepaint$Palette", name := "ranges", desc := "()I" } : Jvm.MethodName)) ∈ lw_g := zg_of (zin1 (List.mem_of_getElem? (i := 224) rfl)) rfl
theorem q1_225 : (Jvm.Cond.selects "Cyclepaint$Palette" ({ cls := "Cyclepaint$Palette", name := "ranges", desc := "()I" } : Jvm.MethodName) ({ cls := "Cyclepaint$Palette", name := "ranges", desc := "()I" } : Jvm.MethodName)) ∈ lw_g := zg_of (zin1 (List.mem_of_getElem? (i := 225) rfl)) rfl
theorem ok_X0_ranges : zOV yX0_ranges cX0_ranges 1 ((Option.some Jvm.ClassFile.FieldType.int)) 0 := ⟨⟨q1_226, q1_2, by decide, by decide, by decide +kernel⟩, q1_224, q1_225⟩
set_option maxHeartbeats 4000000 in
set_option maxRecDepth 100000 in
theorem c_X0_ranges (l : Launch) (G : zG) (σ : St) (a : Nat → Nat) : Met l yX0_ranges (wq yX0_ranges cX0_ranges 1 ((Option.some Jvm.ClassFile.FieldType.int))) (rmR 0 0) (va_Pc [.ref (a 1)] (zK G (hPal G σ a))) (zQ (some (.int ((zI (σ.rn)))))) 0 0 zF := by
  refine z_enterI (by decide +kernel) (Nat.le_of_ble_eq_true rfl) ?_
  intro p env s m below meth cod Q S hG hP ret ls hl
  have hl : lv_has ls 1 [(0, .ref (a 1))] := hl
  refine z_aload_n S dX0_ranges_0 hl 0 rfl rfl ?_
  refine z_get S hG hP.1 zc_X0 3 (by decide) q1_49 rfl rfl dX0_ranges_1 ?_
  exact ret _ _ _ dX0_ranges_4 (rfl)
theorem dX0_rangeAt_0 : decode cX0_rangeAt 0 = .ok (.iload_n 1, 1) := by decide +kernel
theorem dX0_rangeAt_1 : decode cX0_rangeAt 1 = .ok (.ifCond .lt 21, 3) := by decide +kernel
theorem dX0_rangeAt_4 : decode cX0_rangeAt 4 = .ok (.iload_n 1, 1) := by decide +kernel
theorem dX0_rangeAt_5 : decode cX0_rangeAt 5 = .ok (.aload_n 0, 1) := by decide +kernel
theorem dX0_rangeAt_6 : decode cX0_rangeAt 6 = .ok (.getfield 20, 3) := by decide +kernel
theorem dX0_rangeAt_9 : decode cX0_rangeAt 9 = .ok (.arraylength, 1) := by decide +kernel
theorem dX0_rangeAt_10 : decode cX0_rangeAt 10 = .ok (.if_icmp .ge 12, 3) := by decide +kernel
theorem dX0_rangeAt_13 : decode cX0_rangeAt 13 = .ok (.aload_n 0, 1) := by decide +kernel
theorem dX0_rangeAt_14 : decode cX0_rangeAt 14 = .ok (.getfield 20, 3) := by decide +kernel
theorem dX0_rangeAt_17 : decode cX0_rangeAt 17 = .ok (.iload_n 1, 1) := by decide +kernel
theorem dX0_rangeAt_18 : decode cX0_rangeAt 18 = .ok (.aaload, 1) := by decide +kernel
theorem dX0_rangeAt_19 : decode cX0_rangeAt 19 = .ok (.goto 4, 3) := by decide +kernel
theorem dX0_rangeAt_22 : decode cX0_rangeAt 22 = .ok (.aconst_null, 1) := by decide +kernel
theorem dX0_rangeAt_23 : decode cX0_rangeAt 23 = .ok (.areturn, 1) := by decide +kernel
theorem q1_48 : (Jvm.Cond.fieldLink "Cyclepaint$Palette" (20 : Nat) "Cyclepaint$Palette" "ranges" "[LCyclepaint$Range;") ∈ lw_g := zg_of (zin1 (List.mem_of_getElem? (i := 48) rfl)) rfl
theorem q1_108 : (Jvm.Cond.code ({ cls := "Cyclepaint$Palette", name := "rangeAt", desc := "(I)LCyclepaint$Range;" } : Jvm.MethodName) prog_2_method_3_code (2 : Nat) (Option.some (Jvm.ClassFile.FieldType.object "Cyclepaint$Range"))) ∈ lw_g := zg_of (zin1 (List.mem_of_getElem? (i := 108) rfl)) rfl
theorem q1_106 : (Jvm.Cond.instanceMethod ({ cls := "Cyclepaint$Palette", name := "rangeAt", desc := "(I)LCyclepaint$Range;" } : Jvm.MethodName)) ∈ lw_g := zg_of (zin1 (List.mem_of_getElem? (i := 106) rfl)) rfl
theorem q1_107 : (Jvm.Cond.selects "Cyclepaint$Palette" ({ cls := "Cyclepaint$Palette", name := "rangeAt", desc := "(I)LCyclepaint$Range;" } : Jvm.MethodName) ({ cls := "Cyclepaint$Palette", name := "rangeAt", desc := "(I)LCyclepaint$Range;" } : Jvm.MethodName)) ∈ lw_g := zg_of (zin1 (List.mem_of_getElem? (i := 107) rfl)) rfl
theorem ok_X0_rangeAt : zOV yX0_rangeAt cX0_rangeAt 2 ((Option.some (Jvm.ClassFile.FieldType.object "Cyclepaint$Range"))) 1 := ⟨⟨q1_108, q1_2, by decide, by decide, by decide +kernel⟩, q1_106, q1_107⟩
set_option maxHeartbeats 4000000 in
set_option maxRecDepth 100000 in
theorem c_X0_rangeAt1 (l : Launch) (G : zG) (σ : St) (a : Nat → Nat) (k : Int) (hr : (0 ≤ k ∧ k < σ.rn) ∧ σ.rn ≤ 4) : Met l yX0_rangeAt (wq yX0_rangeAt cX0_rangeAt 2 ((Option.some (Jvm.ClassFile.FieldType.object "Cyclepaint$Range")))) (rmR 0 0) (va_Pc [.ref (a 1), .int (zI (k))] (zK G (hPal G σ a))) (zQ (some (.ref (a (8 + Int.toNat (k)))))) 0 0 zF := by
  refine z_enterA (by decide +kernel) (Nat.le_of_ble_eq_true rfl) ?_
  intro p env s m below meth cod Q S hG hP ret ls hl
  have hl : lv_has ls 2 [(0, .ref (a 1)), (1, .int (zI (k)))] := hl
  refine z_iload_n S dX0_rangeAt_0 hl 1 rfl rfl ?_
  refine z_if_lt_F S 22 dX0_rangeAt_1 (by decide) (by omega) (by omega) ?_
  refine z_iload_n S dX0_rangeAt_4 hl 1 rfl rfl ?_
  refine z_aload_n S dX0_rangeAt_5 hl 0 rfl rfl ?_
  refine z_get S hG hP.1 zc_X0 2 (by decide) q1_48 rfl rfl dX0_rangeAt_6 ?_
  refine z_alenR S hG hP.2.2.2.1 dX0_rangeAt_9 ?_
  refine z_icmp_ge_F S 22 dX0_rangeAt_10 (by decide) (by omega) (by omega) (by omega) ?_
  refine z_aload_n S dX0_rangeAt_13 hl 0 rfl rfl ?_
  refine z_get S hG hP.1 zc_X0 2 (by decide) q1_48 rfl rfl dX0_rangeAt_14 ?_
  refine z_iload_n S dX0_rangeAt_17 hl 1 rfl rfl ?_
  refine z_aaldR S hG hP.2.2.2.1 (by omega) (by decide) dX0_rangeAt_18 ?_
  rw [show rgA σ a (k) = some (a (8 + Int.toNat (k))) from if_pos (by omega)]
  refine z_goto S 23 dX0_rangeAt_19 (by decide) ?_
  exact ret _ _ dX0_rangeAt_23 (Or.inr ⟨_, rfl⟩)
set_option maxHeartbeats 4000000 in
set_option maxRecDepth 100000 in
theorem c_X0_rangeAt0 (l : Launch) (G : zG) (σ : St) (a : Nat → Nat) (k : Int) (hr : (k < 0 ∨ σ.rn ≤ k) ∧ rg k) : Met l yX0_rangeAt (wq yX0_rangeAt cX0_rangeAt 2 ((Option.some (Jvm.ClassFile.FieldType.object "Cyclepaint$Range")))) (rmR 0 0) (va_Pc [.ref (a 1), .int (zI (k))] (zK G (hPal G σ a))) (zQ (some (.null))) 0 0 zF := by
  refine z_enterA (by decide +kernel) (Nat.le_of_ble_eq_true rfl) ?_
  intro p env s m below meth cod Q S hG hP ret ls hl
  have hl : lv_has ls 2 [(0, .ref (a 1)), (1, .int (zI (k)))] := hl
  refine z_iload_n S dX0_rangeAt_0 hl 1 rfl rfl ?_
  refine z_if_lt S 22 dX0_rangeAt_1 (by decide) (by omega) (fun c_1 => ?_) (fun c_1 => ?_)
  · skip
    refine lv_null S.1 S.2.1 dX0_rangeAt_22 ?_
    exact ret _ _ dX0_rangeAt_23 (Or.inl rfl)
  · skip
    refine z_iload_n S dX0_rangeAt_4 hl 1 rfl rfl ?_
    refine z_aload_n S dX0_rangeAt_5 hl 0 rfl rfl ?_
    refine z_get S hG hP.1 zc_X0 2 (by decide) q1_48 rfl rfl dX0_rangeAt_6 ?_
    refine z_alenR S hG hP.2.2.2.1 dX0_rangeAt_9 ?_
    refine z_icmp_ge S 22 dX0_rangeAt_10 (by decide) (by omega) (by omega) (fun c_10 => ?_) (fun c_10 => ?_)
    · skip
      refine lv_null S.1 S.2.1 dX0_rangeAt_22 ?_
      exact ret _ _ dX0_rangeAt_23 (Or.inl rfl)
    · skip
      refine z_aload_n S dX0_rangeAt_13 hl 0 rfl rfl ?_
      refine z_get S hG hP.1 zc_X0 2 (by decide) q1_48 rfl rfl dX0_rangeAt_14 ?_
      refine z_iload_n S dX0_rangeAt_17 hl 1 rfl rfl ?_
      refine z_aaldR S hG hP.2.2.2.1 (by omega) (by decide) dX0_rangeAt_18 ?_
      rw [show rgA σ a (k) = none from if_neg (by omega)]
      refine z_goto S 23 dX0_rangeAt_19 (by decide) ?_
      exact ret _ _ dX0_rangeAt_23 (Or.inl rfl)
theorem dX0_rangeNumber_0 : decode cX0_rangeNumber 0 = .ok (.iload_n 1, 1) := by decide +kernel
theorem dX0_rangeNumber_1 : decode cX0_rangeNumber 1 = .ok (.ifCond .lt 21, 3) := by decide +kernel
theorem dX0_rangeNumber_4 : decode cX0_rangeNumber 4 = .ok (.iload_n 1, 1) := by decide +kernel
theorem dX0_rangeNumber_5 : decode cX0_rangeNumber 5 = .ok (.aload_n 0, 1) := by decide +kernel
theorem dX0_rangeNumber_6 : decode cX0_rangeNumber 6 = .ok (.getfield 15, 3) := by decide +kernel
theorem dX0_rangeNumber_9 : decode cX0_rangeNumber 9 = .ok (.arraylength, 1) := by decide +kernel
theorem dX0_rangeNumber_10 : decode cX0_rangeNumber 10 = .ok (.if_icmp .ge 12, 3) := by decide +kernel
theorem dX0_rangeNumber_13 : decode cX0_rangeNumber 13 = .ok (.aload_n 0, 1) := by decide +kernel
theorem dX0_rangeNumber_14 : decode cX0_rangeNumber 14 = .ok (.getfield 15, 3) := by decide +kernel
theorem dX0_rangeNumber_17 : decode cX0_rangeNumber 17 = .ok (.iload_n 1, 1) := by decide +kernel
theorem dX0_rangeNumber_18 : decode cX0_rangeNumber 18 = .ok (.iaload, 1) := by decide +kernel
theorem dX0_rangeNumber_19 : decode cX0_rangeNumber 19 = .ok (.goto 4, 3) := by decide +kernel
theorem dX0_rangeNumber_22 : decode cX0_rangeNumber 22 = .ok (.iconst (-1), 1) := by decide +kernel
theorem dX0_rangeNumber_23 : decode cX0_rangeNumber 23 = .ok (.ireturn, 1) := by decide +kernel
theorem q1_47 : (Jvm.Cond.fieldLink "Cyclepaint$Palette" (15 : Nat) "Cyclepaint$Palette" "rangeOf" "[I") ∈ lw_g := zg_of (zin1 (List.mem_of_getElem? (i := 47) rfl)) rfl
theorem q1_104 : (Jvm.Cond.code ({ cls := "Cyclepaint$Palette", name := "rangeNumber", desc := "(I)I" } : Jvm.MethodName) prog_2_method_4_code (2 : Nat) (Option.some Jvm.ClassFile.FieldType.int)) ∈ lw_g := zg_of (zin1 (List.mem_of_getElem? (i := 104) rfl)) rfl
theorem q1_102 : (Jvm.Cond.instanceMethod ({ cls := "Cyclepaint$Palette", name := "rangeNumber", desc := "(I)I" } : Jvm.MethodName)) ∈ lw_g := zg_of (zin1 (List.mem_of_getElem? (i := 102) rfl)) rfl
theorem q1_103 : (Jvm.Cond.selects "Cyclepaint$Palette" ({ cls := "Cyclepaint$Palette", name := "rangeNumber", desc := "(I)I" } : Jvm.MethodName) ({ cls := "Cyclepaint$Palette", name := "rangeNumber", desc := "(I)I" } : Jvm.MethodName)) ∈ lw_g := zg_of (zin1 (List.mem_of_getElem? (i := 103) rfl)) rfl
theorem ok_X0_rangeNumber : zOV yX0_rangeNumber cX0_rangeNumber 2 ((Option.some Jvm.ClassFile.FieldType.int)) 1 := ⟨⟨q1_104, q1_2, by decide, by decide, by decide +kernel⟩, q1_102, q1_103⟩
set_option maxHeartbeats 4000000 in
set_option maxRecDepth 100000 in
theorem c_X0_rangeNumber (l : Launch) (G : zG) (σ : St) (a : Nat → Nat) (e : Int) (he : 0 ≤ e ∧ e < 16) : Met l yX0_rangeNumber (wq yX0_rangeNumber cX0_rangeNumber 2 ((Option.some Jvm.ClassFile.FieldType.int))) (rmR 0 0) (va_Pc [.ref (a 1), .int (zI (e))] (zK G (hPal G σ a))) (zQ (some (.int ((zI (rgOf σ e)))))) 0 0 zF := by
  refine z_enterI (by decide +kernel) (Nat.le_of_ble_eq_true rfl) ?_
  intro p env s m below meth cod Q S hG hP ret ls hl
  have hl : lv_has ls 2 [(0, .ref (a 1)), (1, .int (zI (e)))] := hl
  refine z_iload_n S dX0_rangeNumber_0 hl 1 rfl rfl ?_
  refine z_if_lt_F S 22 dX0_rangeNumber_1 (by decide) (by omega) (by omega) ?_
  refine z_iload_n S dX0_rangeNumber_4 hl 1 rfl rfl ?_
  refine z_aload_n S dX0_rangeNumber_5 hl 0 rfl rfl ?_
  refine z_get S hG hP.1 zc_X0 1 (by decide) q1_47 rfl rfl dX0_rangeNumber_6 ?_
  refine z_alenI S hG hP.2.2.1 dX0_rangeNumber_9 ?_
  refine z_icmp_ge_F S 22 dX0_rangeNumber_10 (by decide) (by omega) (by omega) (by omega) ?_
  refine z_aload_n S dX0_rangeNumber_13 hl 0 rfl rfl ?_
  refine z_get S hG hP.1 zc_X0 1 (by decide) q1_47 rfl rfl dX0_rangeNumber_14 ?_
  refine z_iload_n S dX0_rangeNumber_17 hl 1 rfl rfl ?_
  refine z_ialdB S hG hP.2.2.1 (by omega) (by decide) dX0_rangeNumber_18 ?_
  refine z_goto S 23 dX0_rangeNumber_19 (by decide) ?_
  exact ret _ _ _ dX0_rangeNumber_23 (rfl)
theorem dX0_baseOf_0 : decode cX0_baseOf 0 = .ok (.iload_n 1, 1) := by decide +kernel
theorem dX0_baseOf_1 : decode cX0_baseOf 1 = .ok (.ifCond .lt 21, 3) := by decide +kernel
theorem dX0_baseOf_4 : decode cX0_baseOf 4 = .ok (.iload_n 1, 1) := by decide +kernel
theorem dX0_baseOf_5 : decode cX0_baseOf 5 = .ok (.aload_n 0, 1) := by decide +kernel
theorem dX0_baseOf_6 : decode cX0_baseOf 6 = .ok (.getfield 9, 3) := by decide +kernel
theorem dX0_baseOf_9 : decode cX0_baseOf 9 = .ok (.arraylength, 1) := by decide +kernel
theorem dX0_baseOf_10 : decode cX0_baseOf 10 = .ok (.if_icmp .ge 12, 3) := by decide +kernel
theorem dX0_baseOf_13 : decode cX0_baseOf 13 = .ok (.aload_n 0, 1) := by decide +kernel
theorem dX0_baseOf_14 : decode cX0_baseOf 14 = .ok (.getfield 9, 3) := by decide +kernel
theorem dX0_baseOf_17 : decode cX0_baseOf 17 = .ok (.iload_n 1, 1) := by decide +kernel
theorem dX0_baseOf_18 : decode cX0_baseOf 18 = .ok (.iaload, 1) := by decide +kernel
theorem dX0_baseOf_19 : decode cX0_baseOf 19 = .ok (.goto 4, 3) := by decide +kernel
theorem dX0_baseOf_22 : decode cX0_baseOf 22 = .ok (.iconst 0, 1) := by decide +kernel
theorem dX0_baseOf_23 : decode cX0_baseOf 23 = .ok (.ireturn, 1) := by decide +kernel
theorem q1_46 : (Jvm.Cond.fieldLink "Cyclepaint$Palette" (9 : Nat) "Cyclepaint$Palette" "base" "[I") ∈ lw_g := zg_of (zin1 (List.mem_of_getElem? (i := 46) rfl)) rfl
theorem q1_128 : (Jvm.Cond.code ({ cls := "Cyclepaint$Palette", name := "baseOf", desc := "(I)I" } : Jvm.MethodName) prog_2_method_5_code (2 : Nat) (Option.some Jvm.ClassFile.FieldType.int)) ∈ lw_g := zg_of (zin1 (List.mem_of_getElem? (i := 128) rfl)) rfl
theorem q1_126 : (Jvm.Cond.instanceMethod ({ cls := "Cyclepaint$Palette", name := "baseOf", desc := "(I)I" } : Jvm.MethodName)) ∈ lw_g := zg_of (zin1 (List.mem_of_getElem? (i := 126) rfl)) rfl
theorem q1_127 : (Jvm.Cond.selects "Cyclepaint$Palette" ({ cls := "Cyclepaint$Palette", name := "baseOf", desc := "(I)I" } : Jvm.MethodName) ({ cls := "Cyclepaint$Palette", name := "baseOf", desc := "(I)I" } : Jvm.MethodName)) ∈ lw_g := zg_of (zin1 (List.mem_of_getElem? (i := 127) rfl)) rfl
theorem ok_X0_baseOf : zOV yX0_baseOf cX0_baseOf 2 ((Option.some Jvm.ClassFile.FieldType.int)) 1 := ⟨⟨q1_128, q1_2, by decide, by decide, by decide +kernel⟩, q1_126, q1_127⟩
set_option maxHeartbeats 4000000 in
set_option maxRecDepth 100000 in
theorem c_X0_baseOf (l : Launch) (G : zG) (σ : St) (a : Nat → Nat) (e : Int) (he : 0 ≤ e ∧ e < 16) : Met l yX0_baseOf (wq yX0_baseOf cX0_baseOf 2 ((Option.some Jvm.ClassFile.FieldType.int))) (rmR 0 0) (va_Pc [.ref (a 1), .int (zI (e))] (zK G (hPal G σ a))) (zQ (some (.int ((σ.B e))))) 0 0 zF := by
  refine z_enterI (by decide +kernel) (Nat.le_of_ble_eq_true rfl) ?_
  intro p env s m below meth cod Q S hG hP ret ls hl
  have hl : lv_has ls 2 [(0, .ref (a 1)), (1, .int (zI (e)))] := hl
  refine z_iload_n S dX0_baseOf_0 hl 1 rfl rfl ?_
  refine z_if_lt_F S 22 dX0_baseOf_1 (by decide) (by omega) (by omega) ?_
  refine z_iload_n S dX0_baseOf_4 hl 1 rfl rfl ?_
  refine z_aload_n S dX0_baseOf_5 hl 0 rfl rfl ?_
  refine z_get S hG hP.1 zc_X0 0 (by decide) q1_46 rfl rfl dX0_baseOf_6 ?_
  refine z_alenI S hG hP.2.1 dX0_baseOf_9 ?_
  refine z_icmp_ge_F S 22 dX0_baseOf_10 (by decide) (by omega) (by omega) (by omega) ?_
  refine z_aload_n S dX0_baseOf_13 hl 0 rfl rfl ?_
  refine z_get S hG hP.1 zc_X0 0 (by decide) q1_46 rfl rfl dX0_baseOf_14 ?_
  refine z_iload_n S dX0_baseOf_17 hl 1 rfl rfl ?_
  refine z_iald S hG hP.2.1 (by omega) (by decide) dX0_baseOf_18 ?_
  refine z_goto S 23 dX0_baseOf_19 (by decide) ?_
  exact ret _ _ _ dX0_baseOf_23 (rfl)
theorem dX0_shows_0 : decode cX0_shows 0 = .ok (.aload_n 0, 1) := by decide +kernel
theorem dX0_shows_1 : decode cX0_shows 1 = .ok (.aload_n 0, 1) := by decide +kernel
theorem dX0_shows_2 : decode cX0_shows 2 = .ok (.iload_n 1, 1) := by decide +kernel
theorem dX0_shows_3 : decode cX0_shows 3 = .ok (.invokevirtual 39, 3) := by decide +kernel
theorem dX0_shows_6 : decode cX0_shows 6 = .ok (.invokevirtual 31, 3) := by decide +kernel
theorem dX0_shows_9 : decode cX0_shows 9 = .ok (.astore_n 3, 1) := by decide +kernel
theorem dX0_shows_10 : decode cX0_shows 10 = .ok (.aload_n 0, 1) := by decide +kernel
theorem dX0_shows_11 : decode cX0_shows 11 = .ok (.aload_n 3, 1) := by decide +kernel
theorem dX0_shows_12 : decode cX0_shows 12 = .ok (.ifnonnull 7, 3) := by decide +kernel
theorem dX0_shows_15 : decode cX0_shows 15 = .ok (.iload_n 1, 1) := by decide +kernel
theorem dX0_shows_16 : decode cX0_shows 16 = .ok (.goto 13, 3) := by decide +kernel
theorem dX0_shows_19 : decode cX0_shows 19 = .ok (.aload_n 3, 1) := by decide +kernel
theorem dX0_shows_20 : decode cX0_shows 20 = .ok (.iload_n 1, 1) := by decide +kernel
theorem dX0_shows_21 : decode cX0_shows 21 = .ok (.aload_n 3, 1) := by decide +kernel
theorem dX0_shows_22 : decode cX0_shows 22 = .ok (.iload_n 2, 1) := by decide +kernel
theorem dX0_shows_23 : decode cX0_shows 23 = .ok (.invokevirtual 43, 3) := by decide +kernel
theorem dX0_shows_26 : decode cX0_shows 26 = .ok (.invokevirtual 46, 3) := by decide +kernel
theorem dX0_shows_29 : decode cX0_shows 29 = .ok (.invokevirtual 50, 3) := by decide +kernel
theorem dX0_shows_32 : decode cX0_shows 32 = .ok (.ireturn, 1) := by decide +kernel
theorem q1_101 : (Jvm.Cond.methodLink "Cyclepaint$Palette" (39 : Nat) ({ cls := "Cyclepaint$Palette", name := "rangeNumber", desc := "(I)I" } : Jvm.MethodName)) ∈ lw_g := zg_of (zin1 (List.mem_of_getElem? (i := 101) rfl)) rfl
theorem q1_105 : (Jvm.Cond.methodLink "Cyclepaint$Palette" (31 : Nat) ({ cls := "Cyclepaint$Palette", name := "rangeAt", desc := "(I)LCyclepaint$Range;" } : Jvm.MethodName)) ∈ lw_g := zg_of (zin1 (List.mem_of_getElem? (i := 105) rfl)) rfl
theorem q1_125 : (Jvm.Cond.methodLink "Cyclepaint$Palette" (50 : Nat) ({ cls := "Cyclepaint$Palette", name := "baseOf", desc := "(I)I" } : Jvm.MethodName)) ∈ lw_g := zg_of (zin1 (List.mem_of_getElem? (i := 125) rfl)) rfl
theorem q1_117 : (Jvm.Cond.methodLink "Cyclepaint$Palette" (43 : Nat) ({ cls := "Cyclepaint$Range", name := "shift", desc := "(I)I" } : Jvm.MethodName)) ∈ lw_g := zg_of (zin1 (List.mem_of_getElem? (i := 117) rfl)) rfl
theorem q1_121 : (Jvm.Cond.methodLink "Cyclepaint$Palette" (46 : Nat) ({ cls := "Cyclepaint$Range", name := "source", desc := "(II)I" } : Jvm.MethodName)) ∈ lw_g := zg_of (zin1 (List.mem_of_getElem? (i := 121) rfl)) rfl
theorem q1_116 : (Jvm.Cond.code ({ cls := "Cyclepaint$Palette", name := "shows", desc := "(II)I" } : Jvm.MethodName) prog_2_method_11_code (4 : Nat) (Option.some Jvm.ClassFile.FieldType.int)) ∈ lw_g := zg_of (zin1 (List.mem_of_getElem? (i := 116) rfl)) rfl
theorem q1_114 : (Jvm.Cond.instanceMethod ({ cls := "Cyclepaint$Palette", name := "shows", desc := "(II)I" } : Jvm.MethodName)) ∈ lw_g := zg_of (zin1 (List.mem_of_getElem? (i := 114) rfl)) rfl
theorem q1_115 : (Jvm.Cond.selects "Cyclepaint$Palette" ({ cls := "Cyclepaint$Palette", name := "shows", desc := "(II)I" } : Jvm.MethodName) ({ cls := "Cyclepaint$Palette", name := "shows", desc := "(II)I" } : Jvm.MethodName)) ∈ lw_g := zg_of (zin1 (List.mem_of_getElem? (i := 115) rfl)) rfl
theorem ok_X0_shows : zOV yX0_shows cX0_shows 4 ((Option.some Jvm.ClassFile.FieldType.int)) 2 := ⟨⟨q1_116, q1_2, by decide, by decide, by decide +kernel⟩, q1_114, q1_115⟩
set_option maxHeartbeats 4000000 in
set_option maxRecDepth 100000 in
theorem c_X0_shows (l : Launch) (G : zG) (σ : St) (a : Nat → Nat) (e w : Int) (he : 0 ≤ e ∧ e < 16) (hw : 0 ≤ w ∧ w < 2147483648) : Met l yX0_shows (wq yX0_shows cX0_shows 4 ((Option.some Jvm.ClassFile.FieldType.int))) (rmR 1 23) (va_Pc [.ref (a 1), .int (zI (e)), .int (zI (w))] (zK G (hPal G σ a))) (zQ (some (.int ((shw σ e w))))) 0 0 zF := by
  refine z_enterI (by decide +kernel) (Nat.le_of_ble_eq_true rfl) ?_
  intro p env s m below meth cod Q S hG hP ret ls hl
  have hl : lv_has ls 4 [(0, .ref (a 1)), (1, .int (zI (e))), (2, .int (zI (w)))] := hl
  by_cases hc : rgOf σ e = -1
  · skip
    have hrn := hP.2.2.2.2.2.1
    refine z_aload_n S dX0_shows_0 hl 0 rfl rfl ?_
    refine z_aload_n S dX0_shows_1 hl 0 rfl rfl ?_
    refine z_iload_n S dX0_shows_2 hl 1 rfl rfl ?_
    refine z_callVs S hG (c_X0_rangeNumber l G σ a (e) (by omega)) ok_X0_rangeNumber hP.1 zc_X0 rfl q1_101 (hP) ⟨rfl, rfl, by decide, by decide⟩ ⟨Nat.zero_le _, Nat.zero_le _⟩ rfl (Nat.le_of_ble_eq_true rfl) hl.1 rfl dX0_shows_3 ?_
    refine z_callVs S hG (c_X0_rangeAt0 l G σ a (rgOf σ (e)) (by omega)) ok_X0_rangeAt hP.1 zc_X0 rfl q1_105 (hP) ⟨rfl, rfl, by decide, by decide⟩ ⟨Nat.zero_le _, Nat.zero_le _⟩ rfl (Nat.le_of_ble_eq_true rfl) hl.1 rfl dX0_shows_6 ?_
    refine z_astore_nN (lv' := [(3, .null), (0, .ref (a 1)), (1, .int (zI (e))), (2, .int (zI (w)))]) S dX0_shows_9 hl rfl (by decide) rfl (fun ls hl => ?_)
    refine z_aload_n S dX0_shows_10 hl 1 rfl rfl ?_
    refine z_aload_nN S dX0_shows_11 hl 0 rfl rfl ?_
    refine z_ifnonnull_n S 19 dX0_shows_12 (by decide) ?_
    refine z_iload_n S dX0_shows_15 hl 2 rfl rfl ?_
    refine z_goto S 29 dX0_shows_16 (by decide) ?_
    refine z_callVs S hG (c_X0_baseOf l G σ a (e) (by omega)) ok_X0_baseOf hP.1 zc_X0 rfl q1_125 (hP) ⟨rfl, rfl, by decide, by decide⟩ ⟨Nat.zero_le _, Nat.zero_le _⟩ rfl (Nat.le_of_ble_eq_true rfl) hl.1 rfl dX0_shows_29 ?_
    exact ret _ _ _ dX0_shows_32 (by unfold shw src; first | rw [if_pos hc] | rw [if_neg hc])
  · skip
    have hin := rgOf_in hc
    have hok := hP.2.2.2.2.2.2 (rgOf σ e) hin.1 hin.2.2.1
    have hrn := hP.2.2.2.2.2.1
    have hsh := shiftR_b (w := w) hok.2.2 ⟨hok.1.2.1, by omega⟩ hok.2.1.1 hw.1
    have hsr := srcR_b (f := σ.F (rgOf σ e)) (len := σ.L (rgOf σ e)) (e := e) ⟨hin.2.2.2.1, hin.2.2.2.2⟩ hsh
    refine z_aload_n S dX0_shows_0 hl 0 rfl rfl ?_
    refine z_aload_n S dX0_shows_1 hl 0 rfl rfl ?_
    refine z_iload_n S dX0_shows_2 hl 1 rfl rfl ?_
    refine z_callVs S hG (c_X0_rangeNumber l G σ a (e) (by omega)) ok_X0_rangeNumber hP.1 zc_X0 rfl q1_101 (hP) ⟨rfl, rfl, by decide, by decide⟩ ⟨Nat.zero_le _, Nat.zero_le _⟩ rfl (Nat.le_of_ble_eq_true rfl) hl.1 rfl dX0_shows_3 ?_
    refine z_callVs S hG (c_X0_rangeAt1 l G σ a (rgOf σ (e)) (by omega)) ok_X0_rangeAt hP.1 zc_X0 rfl q1_105 (hP) ⟨rfl, rfl, by decide, by decide⟩ ⟨Nat.zero_le _, Nat.zero_le _⟩ rfl (Nat.le_of_ble_eq_true rfl) hl.1 rfl dX0_shows_6 ?_
    refine z_astore_n (lv' := [(3, .ref (a (8 + Int.toNat (rgOf σ e)))), (0, .ref (a 1)), (1, .int (zI (e))), (2, .int (zI (w)))]) S dX0_shows_9 hl rfl (by decide) rfl (fun ls hl => ?_)
    refine z_aload_n S dX0_shows_10 hl 1 rfl rfl ?_
    refine z_aload_n S dX0_shows_11 hl 0 rfl rfl ?_
    refine z_ifnonnull_r S 19 dX0_shows_12 (by decide) ?_
    refine z_aload_n S dX0_shows_19 hl 0 rfl rfl ?_
    refine z_iload_n S dX0_shows_20 hl 2 rfl rfl ?_
    refine z_aload_n S dX0_shows_21 hl 0 rfl rfl ?_
    refine z_iload_n S dX0_shows_22 hl 3 rfl rfl ?_
    refine z_callVs S hG (c_X1_shift l G (a (8 + Int.toNat (rgOf σ e))) (σ.F (rgOf σ e)) (σ.L (rgOf σ e)) (σ.S (rgOf σ e)) (σ.K (rgOf σ e)) (w) (by omega)) ok_X1_shift (hP.2.2.2.2.1 (rgOf σ e) (by omega) (by omega)) zc_X1 rfl q1_117 (hP.2.2.2.2.1 (rgOf σ e) (by omega) (by omega)) ⟨rfl, rfl, by decide, by decide⟩ ⟨Nat.zero_le _, Nat.zero_le _⟩ rfl (Nat.le_of_ble_eq_true rfl) hl.1 rfl dX0_shows_23 ?_
    refine z_callVs S hG (c_X1_source l G (a (8 + Int.toNat (rgOf σ e))) (σ.F (rgOf σ e)) (σ.L (rgOf σ e)) (σ.S (rgOf σ e)) (σ.K (rgOf σ e)) (e) (shiftR (σ.K (rgOf σ e)) (σ.L (rgOf σ e)) (σ.S (rgOf σ e)) (w)) (by omega)) ok_X1_source (hP.2.2.2.2.1 (rgOf σ e) (by omega) (by omega)) zc_X1 rfl q1_121 (hP.2.2.2.2.1 (rgOf σ e) (by omega) (by omega)) ⟨rfl, rfl, by decide, by decide⟩ ⟨Nat.zero_le _, Nat.zero_le _⟩ rfl (Nat.le_of_ble_eq_true rfl) hl.1 rfl dX0_shows_26 ?_
    refine z_callVs S hG (c_X0_baseOf l G σ a (srcR (σ.F (rgOf σ e)) (σ.L (rgOf σ e)) (shiftR (σ.K (rgOf σ e)) (σ.L (rgOf σ e)) (σ.S (rgOf σ e)) (w)) (e)) (by omega)) ok_X0_baseOf hP.1 zc_X0 rfl q1_125 (hP) ⟨rfl, rfl, by decide, by decide⟩ ⟨Nat.zero_le _, Nat.zero_le _⟩ rfl (Nat.le_of_ble_eq_true rfl) hl.1 rfl dX0_shows_29 ?_
    exact ret _ _ _ dX0_shows_32 (by unfold shw src; first | rw [if_pos hc] | rw [if_neg hc])
theorem dX0_roundOf_0 : decode cX0_roundOf 0 = .ok (.aload_n 0, 1) := by decide +kernel
theorem dX0_roundOf_1 : decode cX0_roundOf 1 = .ok (.aload_n 0, 1) := by decide +kernel
theorem dX0_roundOf_2 : decode cX0_roundOf 2 = .ok (.iload_n 1, 1) := by decide +kernel
theorem dX0_roundOf_3 : decode cX0_roundOf 3 = .ok (.invokevirtual 39, 3) := by decide +kernel
theorem dX0_roundOf_6 : decode cX0_roundOf 6 = .ok (.invokevirtual 31, 3) := by decide +kernel
theorem dX0_roundOf_9 : decode cX0_roundOf 9 = .ok (.astore_n 2, 1) := by decide +kernel
theorem dX0_roundOf_10 : decode cX0_roundOf 10 = .ok (.aload_n 2, 1) := by decide +kernel
theorem dX0_roundOf_11 : decode cX0_roundOf 11 = .ok (.ifnonnull 7, 3) := by decide +kernel
theorem dX0_roundOf_14 : decode cX0_roundOf 14 = .ok (.iconst 1, 1) := by decide +kernel
theorem dX0_roundOf_15 : decode cX0_roundOf 15 = .ok (.goto 7, 3) := by decide +kernel
theorem dX0_roundOf_18 : decode cX0_roundOf 18 = .ok (.aload_n 2, 1) := by decide +kernel
theorem dX0_roundOf_19 : decode cX0_roundOf 19 = .ok (.invokevirtual 63, 3) := by decide +kernel
theorem dX0_roundOf_22 : decode cX0_roundOf 22 = .ok (.ireturn, 1) := by decide +kernel
theorem q1_109 : (Jvm.Cond.methodLink "Cyclepaint$Palette" (63 : Nat) ({ cls := "Cyclepaint$Range", name := "round", desc := "()I" } : Jvm.MethodName)) ∈ lw_g := zg_of (zin1 (List.mem_of_getElem? (i := 109) rfl)) rfl
theorem q1_100 : (Jvm.Cond.code ({ cls := "Cyclepaint$Palette", name := "roundOf", desc := "(I)I" } : Jvm.MethodName) prog_2_method_17_code (3 : Nat) (Option.some Jvm.ClassFile.FieldType.int)) ∈ lw_g := zg_of (zin1 (List.mem_of_getElem? (i := 100) rfl)) rfl
theorem q1_99 : (Jvm.Cond.instanceMethod ({ cls := "Cyclepaint$Palette", name := "roundOf", desc := "(I)I" } : Jvm.MethodName)) ∈ lw_g := zg_of (zin1 (List.mem_of_getElem? (i := 99) rfl)) rfl
theorem qs_0 : Cond.selects "Cyclepaint$Palette" (⟨"Cyclepaint$Palette", "roundOf", "(I)I"⟩ : MethodName) (⟨"Cyclepaint$Palette", "roundOf", "(I)I"⟩ : MethodName) ∈ lw_g := zg_of (zinS (List.mem_of_getElem? (i := 0) rfl)) rfl
theorem ok_X0_roundOf : zOV yX0_roundOf cX0_roundOf 3 ((Option.some Jvm.ClassFile.FieldType.int)) 1 := ⟨⟨q1_100, q1_2, by decide, by decide, by decide +kernel⟩, q1_99, qs_0⟩
set_option maxHeartbeats 4000000 in
set_option maxRecDepth 100000 in
theorem c_X0_roundOf (l : Launch) (G : zG) (σ : St) (a : Nat → Nat) (e : Int) (he : 0 ≤ e ∧ e < 16) : Met l yX0_roundOf (wq yX0_roundOf cX0_roundOf 3 ((Option.some Jvm.ClassFile.FieldType.int))) (rmR 1 21) (va_Pc [.ref (a 1), .int (zI (e))] (zK G (hPal G σ a))) (zQ (some (.int ((zI (rndE σ e)))))) 0 0 zF := by
  refine z_enterI (by decide +kernel) (Nat.le_of_ble_eq_true rfl) ?_
  intro p env s m below meth cod Q S hG hP ret ls hl
  have hl : lv_has ls 3 [(0, .ref (a 1)), (1, .int (zI (e)))] := hl
  by_cases hc : rgOf σ e = -1
  · skip
    have hrn := hP.2.2.2.2.2.1
    refine z_aload_n S dX0_roundOf_0 hl 0 rfl rfl ?_
    refine z_aload_n S dX0_roundOf_1 hl 0 rfl rfl ?_
    refine z_iload_n S dX0_roundOf_2 hl 1 rfl rfl ?_
    refine z_callVs S hG (c_X0_rangeNumber l G σ a (e) (by omega)) ok_X0_rangeNumber hP.1 zc_X0 rfl q1_101 (hP) ⟨rfl, rfl, by decide, by decide⟩ ⟨Nat.zero_le _, Nat.zero_le _⟩ rfl (Nat.le_of_ble_eq_true rfl) hl.1 rfl dX0_roundOf_3 ?_
    refine z_callVs S hG (c_X0_rangeAt0 l G σ a (rgOf σ (e)) (by omega)) ok_X0_rangeAt hP.1 zc_X0 rfl q1_105 (hP) ⟨rfl, rfl, by decide, by decide⟩ ⟨Nat.zero_le _, Nat.zero_le _⟩ rfl (Nat.le_of_ble_eq_true rfl) hl.1 rfl dX0_roundOf_6 ?_
    refine z_astore_nN (lv' := [(2, .null), (0, .ref (a 1)), (1, .int (zI (e)))]) S dX0_roundOf_9 hl rfl (by decide) rfl (fun ls hl => ?_)
    refine z_aload_nN S dX0_roundOf_10 hl 0 rfl rfl ?_
    refine z_ifnonnull_n S 18 dX0_roundOf_11 (by decide) ?_
    refine z_iconst S dX0_roundOf_14 ?_
    refine z_goto S 22 dX0_roundOf_15 (by decide) ?_
    exact ret _ _ _ dX0_roundOf_22 (by unfold rndE; first | rw [if_pos hc] | (rw [if_neg hc]; rfl))
  · skip
    have hin := rgOf_in hc
    have hok := hP.2.2.2.2.2.2 (rgOf σ e) hin.1 hin.2.2.1
    have hrn := hP.2.2.2.2.2.1
    refine z_aload_n S dX0_roundOf_0 hl 0 rfl rfl ?_
    refine z_aload_n S dX0_roundOf_1 hl 0 rfl rfl ?_
    refine z_iload_n S dX0_roundOf_2 hl 1 rfl rfl ?_
    refine z_callVs S hG (c_X0_rangeNumber l G σ a (e) (by omega)) ok_X0_rangeNumber hP.1 zc_X0 rfl q1_101 (hP) ⟨rfl, rfl, by decide, by decide⟩ ⟨Nat.zero_le _, Nat.zero_le _⟩ rfl (Nat.le_of_ble_eq_true rfl) hl.1 rfl dX0_roundOf_3 ?_
    refine z_callVs S hG (c_X0_rangeAt1 l G σ a (rgOf σ (e)) (by omega)) ok_X0_rangeAt hP.1 zc_X0 rfl q1_105 (hP) ⟨rfl, rfl, by decide, by decide⟩ ⟨Nat.zero_le _, Nat.zero_le _⟩ rfl (Nat.le_of_ble_eq_true rfl) hl.1 rfl dX0_roundOf_6 ?_
    refine z_astore_n (lv' := [(2, .ref (a (8 + Int.toNat (rgOf σ e)))), (0, .ref (a 1)), (1, .int (zI (e)))]) S dX0_roundOf_9 hl rfl (by decide) rfl (fun ls hl => ?_)
    refine z_aload_n S dX0_roundOf_10 hl 0 rfl rfl ?_
    refine z_ifnonnull_r S 18 dX0_roundOf_11 (by decide) ?_
    refine z_aload_n S dX0_roundOf_18 hl 0 rfl rfl ?_
    refine z_callVs S hG (c_X1_round l G (a (8 + Int.toNat (rgOf σ e))) (σ.F (rgOf σ e)) (σ.L (rgOf σ e)) (σ.S (rgOf σ e)) (σ.K (rgOf σ e)) ) ok_X1_round (hP.2.2.2.2.1 (rgOf σ e) (by omega) (by omega)) zc_X1 rfl q1_109 (hP.2.2.2.2.1 (rgOf σ e) (by omega) (by omega)) ⟨rfl, rfl, by decide, by decide⟩ ⟨Nat.zero_le _, Nat.zero_le _⟩ rfl (Nat.le_of_ble_eq_true rfl) hl.1 rfl dX0_roundOf_19 ?_
    exact ret _ _ _ dX0_roundOf_22 (by unfold rndE; first | rw [if_pos hc] | (rw [if_neg hc]; rfl))
theorem dX0_changes_0 : decode cX0_changes 0 = .ok (.iconst 0, 1) := by decide +kernel
theorem dX0_changes_1 : decode cX0_changes 1 = .ok (.istore 4, 2) := by decide +kernel
theorem dX0_changes_3 : decode cX0_changes 3 = .ok (.aload_n 0, 1) := by decide +kernel
theorem dX0_changes_4 : decode cX0_changes 4 = .ok (.iload_n 1, 1) := by decide +kernel
theorem dX0_changes_5 : decode cX0_changes 5 = .ok (.iload_n 2, 1) := by decide +kernel
theorem dX0_changes_6 : decode cX0_changes 6 = .ok (.invokevirtual 53, 3) := by decide +kernel
theorem dX0_changes_9 : decode cX0_changes 9 = .ok (.istore 5, 2) := by decide +kernel
theorem dX0_changes_11 : decode cX0_changes 11 = .ok (.iconst 1, 1) := by decide +kernel
theorem dX0_changes_12 : decode cX0_changes 12 = .ok (.istore 6, 2) := by decide +kernel
theorem dX0_changes_14 : decode cX0_changes 14 = .ok (.iload 6, 2) := by decide +kernel
theorem dX0_changes_16 : decode cX0_changes 16 = .ok (.iload_n 3, 1) := by decide +kernel
theorem dX0_changes_17 : decode cX0_changes 17 = .ok (.if_icmp .gt 34, 3) := by decide +kernel
theorem dX0_changes_20 : decode cX0_changes 20 = .ok (.aload_n 0, 1) := by decide +kernel
theorem dX0_changes_21 : decode cX0_changes 21 = .ok (.iload_n 1, 1) := by decide +kernel
theorem dX0_changes_22 : decode cX0_changes 22 = .ok (.iload_n 2, 1) := by decide +kernel
theorem dX0_changes_23 : decode cX0_changes 23 = .ok (.iload 6, 2) := by decide +kernel
theorem dX0_changes_25 : decode cX0_changes 25 = .ok (.iadd, 1) := by decide +kernel
theorem dX0_changes_26 : decode cX0_changes 26 = .ok (.invokevirtual 53, 3) := by decide +kernel
theorem dX0_changes_29 : decode cX0_changes 29 = .ok (.istore 7, 2) := by decide +kernel
theorem dX0_changes_31 : decode cX0_changes 31 = .ok (.iload 7, 2) := by decide +kernel
theorem dX0_changes_33 : decode cX0_changes 33 = .ok (.iload 5, 2) := by decide +kernel
theorem dX0_changes_35 : decode cX0_changes 35 = .ok (.if_icmp .eq 6, 3) := by decide +kernel
theorem dX0_changes_38 : decode cX0_changes 38 = .ok (.iinc 4 1, 3) := by decide +kernel
theorem dX0_changes_41 : decode cX0_changes 41 = .ok (.iload 7, 2) := by decide +kernel
theorem dX0_changes_43 : decode cX0_changes 43 = .ok (.istore 5, 2) := by decide +kernel
theorem dX0_changes_45 : decode cX0_changes 45 = .ok (.iinc 6 1, 3) := by decide +kernel
theorem dX0_changes_48 : decode cX0_changes 48 = .ok (.goto (-34), 3) := by decide +kernel
theorem dX0_changes_51 : decode cX0_changes 51 = .ok (.iload 4, 2) := by decide +kernel
theorem dX0_changes_53 : decode cX0_changes 53 = .ok (.ireturn, 1) := by decide +kernel
theorem q1_113 : (Jvm.Cond.methodLink "Cyclepaint$Palette" (53 : Nat) ({ cls := "Cyclepaint$Palette", name := "shows", desc := "(II)I" } : Jvm.MethodName)) ∈ lw_g := zg_of (zin1 (List.mem_of_getElem? (i := 113) rfl)) rfl
theorem q2_5 : (Jvm.Cond.code ({ cls := "Cyclepaint$Palette", name := "changes", desc := "(III)I" } : Jvm.MethodName) prog_2_method_12_code (8 : Nat) (Option.some Jvm.ClassFile.FieldType.int)) ∈ lw_g := zg_of (zin2 (List.mem_of_getElem? (i := 5) rfl)) rfl
theorem q2_3 : (Jvm.Cond.instanceMethod ({ cls := "Cyclepaint$Palette", name := "changes", desc := "(III)I" } : Jvm.MethodName)) ∈ lw_g := zg_of (zin2 (List.mem_of_getElem? (i := 3) rfl)) rfl
theorem q2_4 : (Jvm.Cond.selects "Cyclepaint$Palette" ({ cls := "Cyclepaint$Palette", name := "changes", desc := "(III)I" } : Jvm.MethodName) ({ cls := "Cyclepaint$Palette", name := "changes", desc := "(III)I" } : Jvm.MethodName)) ∈ lw_g := zg_of (zin2 (List.mem_of_getElem? (i := 4) rfl)) rfl
theorem ok_X0_changes : zOV yX0_changes cX0_changes 8 ((Option.some Jvm.ClassFile.FieldType.int)) 3 := ⟨⟨q2_5, q1_2, by decide, by decide, by decide +kernel⟩, q2_3, q2_4⟩
set_option maxHeartbeats 4000000 in
set_option maxRecDepth 100000 in
theorem c_X0_changes (l : Launch) (G : zG) (σ : St) (a : Nat → Nat) (e f n : Int) (he : 0 ≤ e ∧ e < 16) (hf : 0 ≤ f ∧ f ≤ 1000000) (hn : 1 ≤ n ∧ n ≤ 200) : Met l yX0_changes (wq yX0_changes cX0_changes 8 ((Option.some Jvm.ClassFile.FieldType.int))) (rmR 2 46) (va_Pc [.ref (a 1), .int (zI (e)), .int (zI (f)), .int (zI (n))] (zK G (hPal G σ a))) (zQ (some (.int ((zI (chg σ e f n)))))) 0 0 zF := by
  refine z_enterI (by decide +kernel) (Nat.le_of_ble_eq_true rfl) ?_
  intro p env s m below meth cod Q S hG hP ret ls hl
  have hl : lv_has ls 8 [(0, .ref (a 1)), (1, .int (zI (e))), (2, .int (zI (f))), (3, .int (zI (n)))] := hl
  refine z_iconst S dX0_changes_0 ?_
  refine z_istore (lv' := [(4, .int (zI (0))), (0, .ref (a 1)), (1, .int (zI (e))), (2, .int (zI (f))), (3, .int (zI (n)))]) S dX0_changes_1 hl (by decide) rfl (fun ls hl => ?_)
  refine z_aload_n S dX0_changes_3 hl 1 rfl rfl ?_
  refine z_iload_n S dX0_changes_4 hl 2 rfl rfl ?_
  refine z_iload_n S dX0_changes_5 hl 3 rfl rfl ?_
  refine z_callVs S hG (c_X0_shows l G σ a (e) (f) (by omega) (by omega)) ok_X0_shows hP.1 zc_X0 rfl q1_113 (hP) ⟨rfl, rfl, by decide, by decide⟩ ⟨Nat.zero_le _, Nat.zero_le _⟩ rfl (Nat.le_of_ble_eq_true rfl) hl.1 rfl dX0_changes_6 ?_
  refine z_istore (lv' := [(5, .int (shw σ (e) (f))), (4, .int (zI (0))), (0, .ref (a 1)), (1, .int (zI (e))), (2, .int (zI (f))), (3, .int (zI (n)))]) S dX0_changes_9 hl (by decide) rfl (fun ls hl => ?_)
  refine z_iconst S dX0_changes_11 ?_
  refine z_istore (lv' := [(6, .int (zI (1))), (5, .int (shw σ (e) (f))), (4, .int (zI (0))), (0, .ref (a 1)), (1, .int (zI (e))), (2, .int (zI (f))), (3, .int (zI (n)))]) S dX0_changes_12 hl (by decide) rfl (fun ls hl => ?_)
  have loop_14 : ∀ (nn : Nat) (k : Int) (ch : Int) (b : Int32), (1 ≤ k ∧ k ≤ n + 1) → (ch = chg σ e f (k - 1)) → (b = shw σ e (f + (k - 1))) → ((n + 1 - k).toNat) < nn → ∀ ls, lv_has ls 8 [(6, .int (zI (k))), (5, .int (b)), (4, .int (zI (ch))), (0, .ref (a 1)), (1, .int (zI (e))), (2, .int (zI (f))), (3, .int (zI (n)))] → W p l env (rmR 2 46) s m ([.ref (a 1), .int (zI (e)), .int (zI (f)), .int (zI (n))] : List Value).toArray below meth cod s.heap [] 0 0 Q (F0 m 14 ls []) := by
    intro nn
    induction nn with
    | zero => intro _ _ _ _ _ _ h; exact absurd h (Nat.not_lt_zero _)
    | succ nn ih_14 =>
      intro k ch b hk hch hb hm_14 ls hl
      have hcb := cntI_b (chgB σ e f) (k := k - 1) (by omega)
      refine z_iload S dX0_changes_14 hl 0 rfl ?_
      refine z_iload_n S dX0_changes_16 hl 6 rfl rfl ?_
      refine z_icmp_gt S 51 dX0_changes_17 (by decide) (by omega) (by omega) (fun c_17 => ?_) (fun c_17 => ?_)
      · skip
        refine z_iload S dX0_changes_51 hl 2 rfl ?_
        exact ret _ _ _ dX0_changes_53 (by rw [hch, show k - 1 = n by omega])
      · skip
        refine z_aload_n S dX0_changes_20 hl 3 rfl rfl ?_
        refine z_iload_n S dX0_changes_21 hl 4 rfl rfl ?_
        refine z_iload_n S dX0_changes_22 hl 5 rfl rfl ?_
        refine z_iload S dX0_changes_23 hl 0 rfl ?_
        refine z_iadd S dX0_changes_25 ?_
        refine z_callVs S hG (c_X0_shows l G σ a (e) ((f) + (k)) (by omega) (by omega)) ok_X0_shows hP.1 zc_X0 rfl q1_113 (hP) ⟨rfl, rfl, by decide, by decide⟩ ⟨Nat.zero_le _, Nat.zero_le _⟩ rfl (Nat.le_of_ble_eq_true rfl) hl.1 rfl dX0_changes_26 ?_
        refine z_istore (lv' := [(7, .int (shw σ (e) ((f) + (k)))), (6, .int (zI (k))), (5, .int (b)), (4, .int (zI (ch))), (0, .ref (a 1)), (1, .int (zI (e))), (2, .int (zI (f))), (3, .int (zI (n)))]) S dX0_changes_29 hl (by decide) rfl (fun ls hl => ?_)
        refine z_iload S dX0_changes_31 hl 0 rfl ?_
        refine z_iload S dX0_changes_33 hl 2 rfl ?_
        refine lv_icmp_eq (tgt := 41) S.1 S.2.1 dX0_changes_35 (by decide) (fun c_35 => ?_) (fun c_35 => ?_)
        · skip
          refine z_iload S dX0_changes_41 hl 0 rfl ?_
          refine z_istore (lv' := [(5, .int (shw σ (e) ((f) + (k)))), (7, .int (shw σ (e) ((f) + (k)))), (6, .int (zI (k))), (4, .int (zI (ch))), (0, .ref (a 1)), (1, .int (zI (e))), (2, .int (zI (f))), (3, .int (zI (n)))]) S dX0_changes_43 hl (by decide) rfl (fun ls hl => ?_)
          refine z_iinc (lv' := [(6, .int (zI (k + 1))), (5, .int (shw σ (e) ((f) + (k)))), (7, .int (shw σ (e) ((f) + (k)))), (4, .int (zI (ch))), (0, .ref (a 1)), (1, .int (zI (e))), (2, .int (zI (f))), (3, .int (zI (n)))]) S dX0_changes_45 hl 2 rfl (by decide) rfl (fun ls hl => ?_)
          refine z_goto S 14 dX0_changes_48 (by decide) ?_
          exact ih_14 (k + 1) (ch) (shw σ (e) ((f) + (k))) (by omega) (by rw [show (k + 1 - 1) = (k - 1) + 1 by omega]; unfold chg; rw [cntI_f (by omega) (by unfold chgB; rw [show f + (k - 1) + 1 = f + k by omega, ← hb]; simp [c_35])]; exact hch) (by congr 1; omega) (by omega) ls (lv_sub hl [0, 1, 3, 4, 5, 6, 7] rfl)
        · skip
          refine z_iinc (lv' := [(4, .int (zI (ch + 1))), (7, .int (shw σ (e) ((f) + (k)))), (6, .int (zI (k))), (5, .int (b)), (0, .ref (a 1)), (1, .int (zI (e))), (2, .int (zI (f))), (3, .int (zI (n)))]) S dX0_changes_38 hl 3 rfl (by decide) rfl (fun ls hl => ?_)
          refine z_iload S dX0_changes_41 hl 1 rfl ?_
          refine z_istore (lv' := [(5, .int (shw σ (e) ((f) + (k)))), (4, .int (zI (ch + 1))), (7, .int (shw σ (e) ((f) + (k)))), (6, .int (zI (k))), (0, .ref (a 1)), (1, .int (zI (e))), (2, .int (zI (f))), (3, .int (zI (n)))]) S dX0_changes_43 hl (by decide) rfl (fun ls hl => ?_)
          refine z_iinc (lv' := [(6, .int (zI (k + 1))), (5, .int (shw σ (e) ((f) + (k)))), (4, .int (zI (ch + 1))), (7, .int (shw σ (e) ((f) + (k)))), (0, .ref (a 1)), (1, .int (zI (e))), (2, .int (zI (f))), (3, .int (zI (n)))]) S dX0_changes_45 hl 3 rfl (by decide) rfl (fun ls hl => ?_)
          refine z_goto S 14 dX0_changes_48 (by decide) ?_
          exact ih_14 (k + 1) (ch + 1) (shw σ (e) ((f) + (k))) (by omega) (by rw [show (k + 1 - 1) = (k - 1) + 1 by omega]; unfold chg; rw [cntI_t (by omega) (by unfold chgB; rw [show f + (k - 1) + 1 = f + k by omega, ← hb]; simp [c_35]), hch]; rfl) (by congr 1; omega) (by omega) ls (lv_sub hl [0, 1, 2, 4, 5, 6, 7] rfl)
  exact loop_14 _ (1) (0) (shw σ (e) (f)) (by omega) (rfl) (by congr 1; omega) (Nat.lt_succ_self _) ls (lv_sub hl [0, 1, 2, 3, 4, 5, 6] rfl)
theorem dX0_isStill_0 : decode cX0_isStill 0 = .ok (.aload_n 0, 1) := by decide +kernel
theorem dX0_isStill_1 : decode cX0_isStill 1 = .ok (.aload_n 0, 1) := by decide +kernel
theorem dX0_isStill_2 : decode cX0_isStill 2 = .ok (.iload_n 1, 1) := by decide +kernel
theorem dX0_isStill_3 : decode cX0_isStill 3 = .ok (.invokevirtual 39, 3) := by decide +kernel
theorem dX0_isStill_6 : decode cX0_isStill 6 = .ok (.invokevirtual 31, 3) := by decide +kernel
theorem dX0_isStill_9 : decode cX0_isStill 9 = .ok (.astore_n 2, 1) := by decide +kernel
theorem dX0_isStill_10 : decode cX0_isStill 10 = .ok (.iconst 0, 1) := by decide +kernel
theorem dX0_isStill_11 : decode cX0_isStill 11 = .ok (.istore_n 3, 1) := by decide +kernel
theorem dX0_isStill_12 : decode cX0_isStill 12 = .ok (.iload_n 3, 1) := by decide +kernel
theorem dX0_isStill_13 : decode cX0_isStill 13 = .ok (.bipush 16, 2) := by decide +kernel
theorem dX0_isStill_15 : decode cX0_isStill 15 = .ok (.if_icmp .ge 37, 3) := by decide +kernel
theorem dX0_isStill_18 : decode cX0_isStill 18 = .ok (.aload_n 2, 1) := by decide +kernel
theorem dX0_isStill_19 : decode cX0_isStill 19 = .ok (.ifnull 27, 3) := by decide +kernel
theorem dX0_isStill_22 : decode cX0_isStill 22 = .ok (.aload_n 2, 1) := by decide +kernel
theorem dX0_isStill_23 : decode cX0_isStill 23 = .ok (.iload_n 3, 1) := by decide +kernel
theorem dX0_isStill_24 : decode cX0_isStill 24 = .ok (.invokevirtual 35, 3) := by decide +kernel
theorem dX0_isStill_27 : decode cX0_isStill 27 = .ok (.ifCond .eq 19, 3) := by decide +kernel
theorem dX0_isStill_30 : decode cX0_isStill 30 = .ok (.aload_n 0, 1) := by decide +kernel
theorem dX0_isStill_31 : decode cX0_isStill 31 = .ok (.getfield 9, 3) := by decide +kernel
theorem dX0_isStill_34 : decode cX0_isStill 34 = .ok (.iload_n 3, 1) := by decide +kernel
theorem dX0_isStill_35 : decode cX0_isStill 35 = .ok (.iaload, 1) := by decide +kernel
theorem dX0_isStill_36 : decode cX0_isStill 36 = .ok (.aload_n 0, 1) := by decide +kernel
theorem dX0_isStill_37 : decode cX0_isStill 37 = .ok (.iload_n 1, 1) := by decide +kernel
theorem dX0_isStill_38 : decode cX0_isStill 38 = .ok (.invokevirtual 50, 3) := by decide +kernel
theorem dX0_isStill_41 : decode cX0_isStill 41 = .ok (.if_icmp .eq 5, 3) := by decide +kernel
theorem dX0_isStill_44 : decode cX0_isStill 44 = .ok (.iconst 0, 1) := by decide +kernel
theorem dX0_isStill_45 : decode cX0_isStill 45 = .ok (.ireturn, 1) := by decide +kernel
theorem dX0_isStill_46 : decode cX0_isStill 46 = .ok (.iinc 3 1, 3) := by decide +kernel
theorem dX0_isStill_49 : decode cX0_isStill 49 = .ok (.goto (-37), 3) := by decide +kernel
theorem dX0_isStill_52 : decode cX0_isStill 52 = .ok (.iconst 1, 1) := by decide +kernel
theorem dX0_isStill_53 : decode cX0_isStill 53 = .ok (.ireturn, 1) := by decide +kernel
theorem q1_188 : (Jvm.Cond.methodLink "Cyclepaint$Palette" (35 : Nat) ({ cls := "Cyclepaint$Range", name := "holds", desc := "(I)Z" } : Jvm.MethodName)) ∈ lw_g := zg_of (zin1 (List.mem_of_getElem? (i := 188) rfl)) rfl
theorem q1_187 : (Jvm.Cond.code ({ cls := "Cyclepaint$Palette", name := "isStill", desc := "(I)Z" } : Jvm.MethodName) prog_2_method_13_code (4 : Nat) (Option.some Jvm.ClassFile.FieldType.boolean)) ∈ lw_g := zg_of (zin1 (List.mem_of_getElem? (i := 187) rfl)) rfl
theorem q1_185 : (Jvm.Cond.instanceMethod ({ cls := "Cyclepaint$Palette", name := "isStill", desc := "(I)Z" } : Jvm.MethodName)) ∈ lw_g := zg_of (zin1 (List.mem_of_getElem? (i := 185) rfl)) rfl
theorem q1_186 : (Jvm.Cond.selects "Cyclepaint$Palette" ({ cls := "Cyclepaint$Palette", name := "isStill", desc := "(I)Z" } : Jvm.MethodName) ({ cls := "Cyclepaint$Palette", name := "isStill", desc := "(I)Z" } : Jvm.MethodName)) ∈ lw_g := zg_of (zin1 (List.mem_of_getElem? (i := 186) rfl)) rfl
theorem ok_X0_isStill : zOV yX0_isStill cX0_isStill 4 ((Option.some Jvm.ClassFile.FieldType.boolean)) 1 := ⟨⟨q1_187, q1_2, by decide, by decide, by decide +kernel⟩, q1_185, q1_186⟩
set_option maxHeartbeats 4000000 in
set_option maxRecDepth 100000 in
theorem c_X0_isStill (l : Launch) (G : zG) (σ : St) (a : Nat → Nat) (e : Int) (he : 0 ≤ e ∧ e < 16) : Met l yX0_isStill (wq yX0_isStill cX0_isStill 4 ((Option.some Jvm.ClassFile.FieldType.boolean))) (rmR 1 21) (va_Pc [.ref (a 1), .int (zI (e))] (zK G (hPal G σ a))) (zQ (some (.int (bI (stl σ e))))) 0 0 zF := by
  refine z_enterB (by decide +kernel) (Nat.le_of_ble_eq_true rfl) ?_
  intro p env s m below meth cod Q S hG hP ret ls hl
  have hl : lv_has ls 4 [(0, .ref (a 1)), (1, .int (zI (e)))] := hl
  by_cases hc : rgOf σ e = -1
  · skip
    have hrn := hP.2.2.2.2.2.1
    refine z_aload_n S dX0_isStill_0 hl 0 rfl rfl ?_
    refine z_aload_n S dX0_isStill_1 hl 0 rfl rfl ?_
    refine z_iload_n S dX0_isStill_2 hl 1 rfl rfl ?_
    refine z_callVs S hG (c_X0_rangeNumber l G σ a (e) (by omega)) ok_X0_rangeNumber hP.1 zc_X0 rfl q1_101 (hP) ⟨rfl, rfl, by decide, by decide⟩ ⟨Nat.zero_le _, Nat.zero_le _⟩ rfl (Nat.le_of_ble_eq_true rfl) hl.1 rfl dX0_isStill_3 ?_
    refine z_callVs S hG (c_X0_rangeAt0 l G σ a (rgOf σ (e)) (by omega)) ok_X0_rangeAt hP.1 zc_X0 rfl q1_105 (hP) ⟨rfl, rfl, by decide, by decide⟩ ⟨Nat.zero_le _, Nat.zero_le _⟩ rfl (Nat.le_of_ble_eq_true rfl) hl.1 rfl dX0_isStill_6 ?_
    refine z_astore_nN (lv' := [(2, .null), (0, .ref (a 1)), (1, .int (zI (e)))]) S dX0_isStill_9 hl rfl (by decide) rfl (fun ls hl => ?_)
    refine z_iconst S dX0_isStill_10 ?_
    refine z_istore_n (lv' := [(3, .int (zI (0))), (2, .null), (0, .ref (a 1)), (1, .int (zI (e)))]) S dX0_isStill_11 hl rfl (by decide) rfl (fun ls hl => ?_)
    have loop_12 : ∀ (nn : Nat) (k : Int), (0 ≤ k ∧ k ≤ 16) → (∀ t : Int, 0 ≤ t → t < k → stlB σ e t = true) → ((16 - k).toNat) < nn → ∀ ls, lv_has ls 4 [(3, .int (zI (k))), (2, .null), (0, .ref (a 1)), (1, .int (zI (e)))] → W p l env (rmR 1 21) s m ([.ref (a 1), .int (zI (e))] : List Value).toArray below meth cod s.heap [] 0 0 Q (F0 m 12 ls []) := by
      intro nn
      induction nn with
      | zero => intro _ _ _ h; exact absurd h (Nat.not_lt_zero _)
      | succ nn ih_12 =>
        intro k hk hI hm_12 ls hl
        refine z_iload_n S dX0_isStill_12 hl 0 rfl rfl ?_
        refine z_bipush S dX0_isStill_13 rfl ?_
        refine z_icmp_ge S 52 dX0_isStill_15 (by decide) (by omega) (by omega) (fun c_15 => ?_) (fun c_15 => ?_)
        · skip
          refine z_iconst S dX0_isStill_52 ?_
          exact ret _ _ _ dX0_isStill_53 (by rw [show stl σ e = true from allI_iff.mpr (fun t h0 h1 => hI t h0 (by omega))]; rfl)
        · skip
          refine z_aload_nN S dX0_isStill_18 hl 1 rfl rfl ?_
          refine z_ifnull_n S 46 dX0_isStill_19 (by decide) ?_
          refine z_iinc (lv' := [(3, .int (zI (k + 1))), (2, .null), (0, .ref (a 1)), (1, .int (zI (e)))]) S dX0_isStill_46 hl 0 rfl (by decide) rfl (fun ls hl => ?_)
          refine z_goto S 12 dX0_isStill_49 (by decide) ?_
          exact ih_12 (k + 1) (by omega) (lt_stp hI (by simp [stlB, hc])) (by omega) ls (lv_sub hl [0, 1, 2, 3] rfl)
    exact loop_12 _ (0) (by omega) (lt_st0) (Nat.lt_succ_self _) ls (lv_sub hl [0, 1, 2, 3] rfl)
  · skip
    have hin := rgOf_in hc
    have hok := hP.2.2.2.2.2.2 (rgOf σ e) hin.1 hin.2.2.1
    have hrn := hP.2.2.2.2.2.1
    refine z_aload_n S dX0_isStill_0 hl 0 rfl rfl ?_
    refine z_aload_n S dX0_isStill_1 hl 0 rfl rfl ?_
    refine z_iload_n S dX0_isStill_2 hl 1 rfl rfl ?_
    refine z_callVs S hG (c_X0_rangeNumber l G σ a (e) (by omega)) ok_X0_rangeNumber hP.1 zc_X0 rfl q1_101 (hP) ⟨rfl, rfl, by decide, by decide⟩ ⟨Nat.zero_le _, Nat.zero_le _⟩ rfl (Nat.le_of_ble_eq_true rfl) hl.1 rfl dX0_isStill_3 ?_
    refine z_callVs S hG (c_X0_rangeAt1 l G σ a (rgOf σ (e)) (by omega)) ok_X0_rangeAt hP.1 zc_X0 rfl q1_105 (hP) ⟨rfl, rfl, by decide, by decide⟩ ⟨Nat.zero_le _, Nat.zero_le _⟩ rfl (Nat.le_of_ble_eq_true rfl) hl.1 rfl dX0_isStill_6 ?_
    refine z_astore_n (lv' := [(2, .ref (a (8 + Int.toNat (rgOf σ e)))), (0, .ref (a 1)), (1, .int (zI (e)))]) S dX0_isStill_9 hl rfl (by decide) rfl (fun ls hl => ?_)
    refine z_iconst S dX0_isStill_10 ?_
    refine z_istore_n (lv' := [(3, .int (zI (0))), (2, .ref (a (8 + Int.toNat (rgOf σ e)))), (0, .ref (a 1)), (1, .int (zI (e)))]) S dX0_isStill_11 hl rfl (by decide) rfl (fun ls hl => ?_)
    have loop_12 : ∀ (nn : Nat) (k : Int), (0 ≤ k ∧ k ≤ 16) → (∀ t : Int, 0 ≤ t → t < k → stlB σ e t = true) → ((16 - k).toNat) < nn → ∀ ls, lv_has ls 4 [(3, .int (zI (k))), (2, .ref (a (8 + Int.toNat (rgOf σ e)))), (0, .ref (a 1)), (1, .int (zI (e)))] → W p l env (rmR 1 21) s m ([.ref (a 1), .int (zI (e))] : List Value).toArray below meth cod s.heap [] 0 0 Q (F0 m 12 ls []) := by
      intro nn
      induction nn with
      | zero => intro _ _ _ h; exact absurd h (Nat.not_lt_zero _)
      | succ nn ih_12 =>
        intro k hk hI hm_12 ls hl
        refine z_iload_n S dX0_isStill_12 hl 0 rfl rfl ?_
        refine z_bipush S dX0_isStill_13 rfl ?_
        refine z_icmp_ge S 52 dX0_isStill_15 (by decide) (by omega) (by omega) (fun c_15 => ?_) (fun c_15 => ?_)
        · skip
          refine z_iconst S dX0_isStill_52 ?_
          exact ret _ _ _ dX0_isStill_53 (by rw [show stl σ e = true from allI_iff.mpr (fun t h0 h1 => hI t h0 (by omega))]; rfl)
        · skip
          refine z_aload_n S dX0_isStill_18 hl 1 rfl rfl ?_
          refine z_ifnull_r S 46 dX0_isStill_19 (by decide) ?_
          refine z_aload_n S dX0_isStill_22 hl 1 rfl rfl ?_
          refine z_iload_n S dX0_isStill_23 hl 0 rfl rfl ?_
          refine z_callVs S hG (c_X1_holds l G (a (8 + Int.toNat (rgOf σ e))) (σ.F (rgOf σ e)) (σ.L (rgOf σ e)) (σ.S (rgOf σ e)) (σ.K (rgOf σ e)) (k) (by omega)) ok_X1_holds (hP.2.2.2.2.1 (rgOf σ e) (by omega) (by omega)) zc_X1 rfl q1_188 (hP.2.2.2.2.1 (rgOf σ e) (by omega) (by omega)) ⟨rfl, rfl, by decide, by decide⟩ ⟨Nat.zero_le _, Nat.zero_le _⟩ rfl (Nat.le_of_ble_eq_true rfl) hl.1 rfl dX0_isStill_24 ?_
          refine z_bif_eq S 46 dX0_isStill_27 (by decide) (fun c_27 => ?_) (fun c_27 => ?_)
          · skip
            refine z_iinc (lv' := [(3, .int (zI (k + 1))), (2, .ref (a (8 + Int.toNat (rgOf σ e)))), (0, .ref (a 1)), (1, .int (zI (e)))]) S dX0_isStill_46 hl 0 rfl (by decide) rfl (fun ls hl => ?_)
            refine z_goto S 12 dX0_isStill_49 (by decide) ?_
            exact ih_12 (k + 1) (by omega) (lt_stp hI (by unfold stlB; rw [c_27]; simp)) (by omega) ls (lv_sub hl [0, 1, 2, 3] rfl)
          · skip
            refine z_aload_n S dX0_isStill_30 hl 2 rfl rfl ?_
            refine z_get S hG hP.1 zc_X0 0 (by decide) q1_46 rfl rfl dX0_isStill_31 ?_
            refine z_iload_n S dX0_isStill_34 hl 0 rfl rfl ?_
            refine z_iald S hG hP.2.1 (by omega) (by decide) dX0_isStill_35 ?_
            refine z_aload_n S dX0_isStill_36 hl 2 rfl rfl ?_
            refine z_iload_n S dX0_isStill_37 hl 3 rfl rfl ?_
            refine z_callVs S hG (c_X0_baseOf l G σ a (e) (by omega)) ok_X0_baseOf hP.1 zc_X0 rfl q1_125 (hP) ⟨rfl, rfl, by decide, by decide⟩ ⟨Nat.zero_le _, Nat.zero_le _⟩ rfl (Nat.le_of_ble_eq_true rfl) hl.1 rfl dX0_isStill_38 ?_
            refine lv_icmp_eq (tgt := 46) S.1 S.2.1 dX0_isStill_41 (by decide) (fun c_41 => ?_) (fun c_41 => ?_)
            · skip
              refine z_iinc (lv' := [(3, .int (zI (k + 1))), (2, .ref (a (8 + Int.toNat (rgOf σ e)))), (0, .ref (a 1)), (1, .int (zI (e)))]) S dX0_isStill_46 hl 0 rfl (by decide) rfl (fun ls hl => ?_)
              refine z_goto S 12 dX0_isStill_49 (by decide) ?_
              exact ih_12 (k + 1) (by omega) (lt_stp hI (by unfold stlB; simp [c_41])) (by omega) ls (lv_sub hl [0, 1, 2, 3] rfl)
            · skip
              refine z_iconst S dX0_isStill_44 ?_
              exact ret _ _ _ dX0_isStill_45 (by rw [show stl σ e = false from allI_no hk.1 (show k < 16 by omega) (by unfold stlB; rw [c_27]; simp [hc, c_41])]; rfl)
    exact loop_12 _ (0) (by omega) (lt_st0) (Nat.lt_succ_self _) ls (lv_sub hl [0, 1, 2, 3] rfl)
theorem dX0_areTwins_0 : decode cX0_areTwins 0 = .ok (.aload_n 0, 1) := by decide +kernel
theorem dX0_areTwins_1 : decode cX0_areTwins 1 = .ok (.iload_n 1, 1) := by decide +kernel
theorem dX0_areTwins_2 : decode cX0_areTwins 2 = .ok (.invokevirtual 56, 3) := by decide +kernel
theorem dX0_areTwins_5 : decode cX0_areTwins 5 = .ok (.aload_n 0, 1) := by decide +kernel
theorem dX0_areTwins_6 : decode cX0_areTwins 6 = .ok (.iload_n 2, 1) := by decide +kernel
theorem dX0_areTwins_7 : decode cX0_areTwins 7 = .ok (.invokevirtual 56, 3) := by decide +kernel
theorem dX0_areTwins_10 : decode cX0_areTwins 10 = .ok (.iadd, 1) := by decide +kernel
theorem dX0_areTwins_11 : decode cX0_areTwins 11 = .ok (.istore_n 3, 1) := by decide +kernel
theorem dX0_areTwins_12 : decode cX0_areTwins 12 = .ok (.iconst 0, 1) := by decide +kernel
theorem dX0_areTwins_13 : decode cX0_areTwins 13 = .ok (.istore 4, 2) := by decide +kernel
theorem dX0_areTwins_15 : decode cX0_areTwins 15 = .ok (.iload 4, 2) := by decide +kernel
theorem dX0_areTwins_17 : decode cX0_areTwins 17 = .ok (.iload_n 3, 1) := by decide +kernel
theorem dX0_areTwins_18 : decode cX0_areTwins 18 = .ok (.if_icmp .ge 28, 3) := by decide +kernel
theorem dX0_areTwins_21 : decode cX0_areTwins 21 = .ok (.aload_n 0, 1) := by decide +kernel
theorem dX0_areTwins_22 : decode cX0_areTwins 22 = .ok (.iload_n 1, 1) := by decide +kernel
theorem dX0_areTwins_23 : decode cX0_areTwins 23 = .ok (.iload 4, 2) := by decide +kernel
theorem dX0_areTwins_25 : decode cX0_areTwins 25 = .ok (.invokevirtual 53, 3) := by decide +kernel
theorem dX0_areTwins_28 : decode cX0_areTwins 28 = .ok (.aload_n 0, 1) := by decide +kernel
theorem dX0_areTwins_29 : decode cX0_areTwins 29 = .ok (.iload_n 2, 1) := by decide +kernel
theorem dX0_areTwins_30 : decode cX0_areTwins 30 = .ok (.iload 4, 2) := by decide +kernel
theorem dX0_areTwins_32 : decode cX0_areTwins 32 = .ok (.invokevirtual 53, 3) := by decide +kernel
theorem dX0_areTwins_35 : decode cX0_areTwins 35 = .ok (.if_icmp .eq 5, 3) := by decide +kernel
theorem dX0_areTwins_38 : decode cX0_areTwins 38 = .ok (.iconst 0, 1) := by decide +kernel
theorem dX0_areTwins_39 : decode cX0_areTwins 39 = .ok (.ireturn, 1) := by decide +kernel
theorem dX0_areTwins_40 : decode cX0_areTwins 40 = .ok (.iinc 4 1, 3) := by decide +kernel
theorem dX0_areTwins_43 : decode cX0_areTwins 43 = .ok (.goto (-28), 3) := by decide +kernel
theorem dX0_areTwins_46 : decode cX0_areTwins 46 = .ok (.iconst 1, 1) := by decide +kernel
theorem dX0_areTwins_47 : decode cX0_areTwins 47 = .ok (.ireturn, 1) := by decide +kernel
theorem q1_97 : (Jvm.Cond.methodLink "Cyclepaint$Palette" (56 : Nat) ({ cls := "Cyclepaint$Palette", name := "roundOf", desc := "(I)I" } : Jvm.MethodName)) ∈ lw_g := zg_of (zin1 (List.mem_of_getElem? (i := 97) rfl)) rfl
theorem q1_96 : (Jvm.Cond.code ({ cls := "Cyclepaint$Palette", name := "areTwins", desc := "(II)Z" } : Jvm.MethodName) prog_2_method_14_code (5 : Nat) (Option.some Jvm.ClassFile.FieldType.boolean)) ∈ lw_g := zg_of (zin1 (List.mem_of_getElem? (i := 96) rfl)) rfl
theorem q1_94 : (Jvm.Cond.instanceMethod ({ cls := "Cyclepaint$Palette", name := "areTwins", desc := "(II)Z" } : Jvm.MethodName)) ∈ lw_g := zg_of (zin1 (List.mem_of_getElem? (i := 94) rfl)) rfl
theorem q1_95 : (Jvm.Cond.selects "Cyclepaint$Palette" ({ cls := "Cyclepaint$Palette", name := "areTwins", desc := "(II)Z" } : Jvm.MethodName) ({ cls := "Cyclepaint$Palette", name := "areTwins", desc := "(II)Z" } : Jvm.MethodName)) ∈ lw_g := zg_of (zin1 (List.mem_of_getElem? (i := 95) rfl)) rfl
theorem ok_X0_areTwins : zOV yX0_areTwins cX0_areTwins 5 ((Option.some Jvm.ClassFile.FieldType.boolean)) 2 := ⟨⟨q1_96, q1_2, by decide, by decide, by decide +kernel⟩, q1_94, q1_95⟩
set_option maxHeartbeats 4000000 in
set_option maxRecDepth 100000 in
theorem c_X0_areTwins (l : Launch) (G : zG) (σ : St) (a : Nat → Nat) (x y : Int) (hx : 0 ≤ x ∧ x < 16) (hy : 0 ≤ y ∧ y < 16) : Met l yX0_areTwins (wq yX0_areTwins cX0_areTwins 5 ((Option.some Jvm.ClassFile.FieldType.boolean))) (rmR 2 46) (va_Pc [.ref (a 1), .int (zI (x)), .int (zI (y))] (zK G (hPal G σ a))) (zQ (some (.int (bI (twnC σ x y))))) 0 0 zF := by
  refine z_enterB (by decide +kernel) (Nat.le_of_ble_eq_true rfl) ?_
  intro p env s m below meth cod Q S hG hP ret ls hl
  have hl : lv_has ls 5 [(0, .ref (a 1)), (1, .int (zI (x))), (2, .int (zI (y)))] := hl
  have hO := hP.2.2.2.2.2
  have hb1 := rndE_b hO x
  have hb2 := rndE_b hO y
  refine z_aload_n S dX0_areTwins_0 hl 0 rfl rfl ?_
  refine z_iload_n S dX0_areTwins_1 hl 1 rfl rfl ?_
  refine z_callVs S hG (c_X0_roundOf l G σ a (x) (by omega)) ok_X0_roundOf hP.1 zc_X0 rfl q1_97 (hP) ⟨rfl, rfl, by decide, by decide⟩ ⟨Nat.zero_le _, Nat.zero_le _⟩ rfl (Nat.le_of_ble_eq_true rfl) hl.1 rfl dX0_areTwins_2 ?_
  refine z_aload_n S dX0_areTwins_5 hl 0 rfl rfl ?_
  refine z_iload_n S dX0_areTwins_6 hl 2 rfl rfl ?_
  refine z_callVs S hG (c_X0_roundOf l G σ a (y) (by omega)) ok_X0_roundOf hP.1 zc_X0 rfl q1_97 (hP) ⟨rfl, rfl, by decide, by decide⟩ ⟨Nat.zero_le _, Nat.zero_le _⟩ rfl (Nat.le_of_ble_eq_true rfl) hl.1 rfl dX0_areTwins_7 ?_
  refine z_iadd S dX0_areTwins_10 ?_
  refine z_istore_n (lv' := [(3, .int (zI ((rndE σ (x)) + (rndE σ (y))))), (0, .ref (a 1)), (1, .int (zI (x))), (2, .int (zI (y)))]) S dX0_areTwins_11 hl rfl (by decide) rfl (fun ls hl => ?_)
  refine z_iconst S dX0_areTwins_12 ?_
  refine z_istore (lv' := [(4, .int (zI (0))), (3, .int (zI ((rndE σ (x)) + (rndE σ (y))))), (0, .ref (a 1)), (1, .int (zI (x))), (2, .int (zI (y)))]) S dX0_areTwins_13 hl (by decide) rfl (fun ls hl => ?_)
  have loop_15 : ∀ (nn : Nat) (k : Int), (0 ≤ k ∧ k ≤ (rndE σ x + rndE σ y)) → (∀ t : Int, 0 ≤ t → t < k → twnB σ x y t = true) → (((rndE σ x + rndE σ y) - k).toNat) < nn → ∀ ls, lv_has ls 5 [(4, .int (zI (k))), (3, .int (zI ((rndE σ (x)) + (rndE σ (y))))), (0, .ref (a 1)), (1, .int (zI (x))), (2, .int (zI (y)))] → W p l env (rmR 2 46) s m ([.ref (a 1), .int (zI (x)), .int (zI (y))] : List Value).toArray below meth cod s.heap [] 0 0 Q (F0 m 15 ls []) := by
    intro nn
    induction nn with
    | zero => intro _ _ _ h; exact absurd h (Nat.not_lt_zero _)
    | succ nn ih_15 =>
      intro k hk hI hm_15 ls hl
      refine z_iload S dX0_areTwins_15 hl 0 rfl ?_
      refine z_iload_n S dX0_areTwins_17 hl 1 rfl rfl ?_
      refine z_icmp_ge S 46 dX0_areTwins_18 (by decide) (by omega) (by omega) (fun c_18 => ?_) (fun c_18 => ?_)
      · skip
        refine z_iconst S dX0_areTwins_46 ?_
        exact ret _ _ _ dX0_areTwins_47 (by rw [show twnC σ x y = true from allI_iff.mpr (fun t h0 h1 => hI t h0 (by omega))]; rfl)
      · skip
        have c_18x : k < rndE σ x + rndE σ y := by omega
        refine z_aload_n S dX0_areTwins_21 hl 2 rfl rfl ?_
        refine z_iload_n S dX0_areTwins_22 hl 3 rfl rfl ?_
        refine z_iload S dX0_areTwins_23 hl 0 rfl ?_
        refine z_callVs S hG (c_X0_shows l G σ a (x) (k) (by omega) (by omega)) ok_X0_shows hP.1 zc_X0 rfl q1_113 (hP) ⟨rfl, rfl, by decide, by decide⟩ ⟨Nat.zero_le _, Nat.zero_le _⟩ rfl (Nat.le_of_ble_eq_true rfl) hl.1 rfl dX0_areTwins_25 ?_
        refine z_aload_n S dX0_areTwins_28 hl 2 rfl rfl ?_
        refine z_iload_n S dX0_areTwins_29 hl 4 rfl rfl ?_
        refine z_iload S dX0_areTwins_30 hl 0 rfl ?_
        refine z_callVs S hG (c_X0_shows l G σ a (y) (k) (by omega) (by omega)) ok_X0_shows hP.1 zc_X0 rfl q1_113 (hP) ⟨rfl, rfl, by decide, by decide⟩ ⟨Nat.zero_le _, Nat.zero_le _⟩ rfl (Nat.le_of_ble_eq_true rfl) hl.1 rfl dX0_areTwins_32 ?_
        refine lv_icmp_eq (tgt := 40) S.1 S.2.1 dX0_areTwins_35 (by decide) (fun c_35 => ?_) (fun c_35 => ?_)
        · skip
          refine z_iinc (lv' := [(4, .int (zI (k + 1))), (3, .int (zI ((rndE σ (x)) + (rndE σ (y))))), (0, .ref (a 1)), (1, .int (zI (x))), (2, .int (zI (y)))]) S dX0_areTwins_40 hl 0 rfl (by decide) rfl (fun ls hl => ?_)
          refine z_goto S 15 dX0_areTwins_43 (by decide) ?_
          exact ih_15 (k + 1) (by omega) (lt_stp hI (by unfold twnB; rw [c_35]; simp)) (by omega) ls (lv_sub hl [0, 1, 2, 3, 4] rfl)
        · skip
          refine z_iconst S dX0_areTwins_38 ?_
          exact ret _ _ _ dX0_areTwins_39 (by rw [show twnC σ x y = false from allI_no hk.1 c_18x (by unfold twnB; simp [c_35])]; rfl)
  exact loop_15 _ (0) (by omega) (lt_st0) (Nat.lt_succ_self _) ls (lv_sub hl [0, 1, 2, 3, 4] rfl)
theorem dX0_smallestTwin_0 : decode cX0_smallestTwin 0 = .ok (.iconst 0, 1) := by decide +kernel
theorem dX0_smallestTwin_1 : decode cX0_smallestTwin 1 = .ok (.istore_n 2, 1) := by decide +kernel
theorem dX0_smallestTwin_2 : decode cX0_smallestTwin 2 = .ok (.iload_n 2, 1) := by decide +kernel
theorem dX0_smallestTwin_3 : decode cX0_smallestTwin 3 = .ok (.iload_n 1, 1) := by decide +kernel
theorem dX0_smallestTwin_4 : decode cX0_smallestTwin 4 = .ok (.if_icmp .ge 20, 3) := by decide +kernel
theorem dX0_smallestTwin_7 : decode cX0_smallestTwin 7 = .ok (.aload_n 0, 1) := by decide +kernel
theorem dX0_smallestTwin_8 : decode cX0_smallestTwin 8 = .ok (.iload_n 2, 1) := by decide +kernel
theorem dX0_smallestTwin_9 : decode cX0_smallestTwin 9 = .ok (.iload_n 1, 1) := by decide +kernel
theorem dX0_smallestTwin_10 : decode cX0_smallestTwin 10 = .ok (.invokevirtual 59, 3) := by decide +kernel
theorem dX0_smallestTwin_13 : decode cX0_smallestTwin 13 = .ok (.ifCond .eq 5, 3) := by decide +kernel
theorem dX0_smallestTwin_16 : decode cX0_smallestTwin 16 = .ok (.iload_n 2, 1) := by decide +kernel
theorem dX0_smallestTwin_17 : decode cX0_smallestTwin 17 = .ok (.ireturn, 1) := by decide +kernel
theorem dX0_smallestTwin_18 : decode cX0_smallestTwin 18 = .ok (.iinc 2 1, 3) := by decide +kernel
theorem dX0_smallestTwin_21 : decode cX0_smallestTwin 21 = .ok (.goto (-19), 3) := by decide +kernel
theorem dX0_smallestTwin_24 : decode cX0_smallestTwin 24 = .ok (.iload_n 1, 1) := by decide +kernel
theorem dX0_smallestTwin_25 : decode cX0_smallestTwin 25 = .ok (.ireturn, 1) := by decide +kernel
theorem q1_93 : (Jvm.Cond.methodLink "Cyclepaint$Palette" (59 : Nat) ({ cls := "Cyclepaint$Palette", name := "areTwins", desc := "(II)Z" } : Jvm.MethodName)) ∈ lw_g := zg_of (zin1 (List.mem_of_getElem? (i := 93) rfl)) rfl
theorem q1_92 : (Jvm.Cond.code ({ cls := "Cyclepaint$Palette", name := "smallestTwin", desc := "(I)I" } : Jvm.MethodName) prog_2_method_15_code (3 : Nat) (Option.some Jvm.ClassFile.FieldType.int)) ∈ lw_g := zg_of (zin1 (List.mem_of_getElem? (i := 92) rfl)) rfl
theorem q1_90 : (Jvm.Cond.instanceMethod ({ cls := "Cyclepaint$Palette", name := "smallestTwin", desc := "(I)I" } : Jvm.MethodName)) ∈ lw_g := zg_of (zin1 (List.mem_of_getElem? (i := 90) rfl)) rfl
theorem q1_91 : (Jvm.Cond.selects "Cyclepaint$Palette" ({ cls := "Cyclepaint$Palette", name := "smallestTwin", desc := "(I)I" } : Jvm.MethodName) ({ cls := "Cyclepaint$Palette", name := "smallestTwin", desc := "(I)I" } : Jvm.MethodName)) ∈ lw_g := zg_of (zin1 (List.mem_of_getElem? (i := 91) rfl)) rfl
theorem ok_X0_smallestTwin : zOV yX0_smallestTwin cX0_smallestTwin 3 ((Option.some Jvm.ClassFile.FieldType.int)) 1 := ⟨⟨q1_92, q1_2, by decide, by decide, by decide +kernel⟩, q1_90, q1_91⟩
set_option maxHeartbeats 4000000 in
set_option maxRecDepth 100000 in
theorem c_X0_smallestTwin (l : Launch) (G : zG) (σ : St) (a : Nat → Nat) (e : Int) (he : 0 ≤ e ∧ e < 16) : Met l yX0_smallestTwin (wq yX0_smallestTwin cX0_smallestTwin 3 ((Option.some Jvm.ClassFile.FieldType.int))) (rmR 3 70) (va_Pc [.ref (a 1), .int (zI (e))] (zK G (hPal G σ a))) (zQ (some (.int ((zI (smlC σ e)))))) 0 0 zF := by
  refine z_enterI (by decide +kernel) (Nat.le_of_ble_eq_true rfl) ?_
  intro p env s m below meth cod Q S hG hP ret ls hl
  have hl : lv_has ls 3 [(0, .ref (a 1)), (1, .int (zI (e)))] := hl
  refine z_iconst S dX0_smallestTwin_0 ?_
  refine z_istore_n (lv' := [(2, .int (zI (0))), (0, .ref (a 1)), (1, .int (zI (e)))]) S dX0_smallestTwin_1 hl rfl (by decide) rfl (fun ls hl => ?_)
  have loop_2 : ∀ (nn : Nat) (k : Int), (0 ≤ k ∧ k ≤ e) → (∀ t : Int, 0 ≤ t → t < k → (fun o => twnC σ o e) t = false) → ((e - k).toNat) < nn → ∀ ls, lv_has ls 3 [(2, .int (zI (k))), (0, .ref (a 1)), (1, .int (zI (e)))] → W p l env (rmR 3 70) s m ([.ref (a 1), .int (zI (e))] : List Value).toArray below meth cod s.heap [] 0 0 Q (F0 m 2 ls []) := by
    intro nn
    induction nn with
    | zero => intro _ _ _ h; exact absurd h (Nat.not_lt_zero _)
    | succ nn ih_2 =>
      intro k hk hI hm_2 ls hl
      refine z_iload_n S dX0_smallestTwin_2 hl 0 rfl rfl ?_
      refine z_iload_n S dX0_smallestTwin_3 hl 2 rfl rfl ?_
      refine z_icmp_ge S 24 dX0_smallestTwin_4 (by decide) (by omega) (by omega) (fun c_4 => ?_) (fun c_4 => ?_)
      · skip
        refine z_iload_n S dX0_smallestTwin_24 hl 2 rfl rfl ?_
        exact ret _ _ _ dX0_smallestTwin_25 (by unfold smlC; rw [fstI_none (f := fun o => twnC σ o e) (fun t h0 h1 => hI t h0 (by omega)), if_pos rfl])
      · skip
        have c_4x : k < e := by omega
        refine z_aload_n S dX0_smallestTwin_7 hl 1 rfl rfl ?_
        refine z_iload_n S dX0_smallestTwin_8 hl 0 rfl rfl ?_
        refine z_iload_n S dX0_smallestTwin_9 hl 2 rfl rfl ?_
        refine z_callVs S hG (c_X0_areTwins l G σ a (k) (e) (by omega) (by omega)) ok_X0_areTwins hP.1 zc_X0 rfl q1_93 (hP) ⟨rfl, rfl, by decide, by decide⟩ ⟨Nat.zero_le _, Nat.zero_le _⟩ rfl (Nat.le_of_ble_eq_true rfl) hl.1 rfl dX0_smallestTwin_10 ?_
        refine z_bif_eq S 18 dX0_smallestTwin_13 (by decide) (fun c_13 => ?_) (fun c_13 => ?_)
        · skip
          refine z_iinc (lv' := [(2, .int (zI (k + 1))), (0, .ref (a 1)), (1, .int (zI (e)))]) S dX0_smallestTwin_18 hl 0 rfl (by decide) rfl (fun ls hl => ?_)
          refine z_goto S 2 dX0_smallestTwin_21 (by decide) ?_
          exact ih_2 (k + 1) (by omega) (lt_stp hI (c_13)) (by omega) ls (lv_sub hl [0, 1, 2] rfl)
        · skip
          refine z_iload_n S dX0_smallestTwin_16 hl 0 rfl rfl ?_
          exact ret _ _ _ dX0_smallestTwin_17 (by unfold smlC; rw [fstI_some (f := fun o => twnC σ o e) hk.1 c_4x hI c_13, if_neg (by omega)])
  exact loop_2 _ (0) (by omega) (lt_st0) (Nat.lt_succ_self _) ls (lv_sub hl [0, 1, 2] rfl)
theorem dX0_twins_0 : decode cX0_twins 0 = .ok (.iconst 0, 1) := by decide +kernel
theorem dX0_twins_1 : decode cX0_twins 1 = .ok (.istore_n 2, 1) := by decide +kernel
theorem dX0_twins_2 : decode cX0_twins 2 = .ok (.iconst 0, 1) := by decide +kernel
theorem dX0_twins_3 : decode cX0_twins 3 = .ok (.istore_n 3, 1) := by decide +kernel
theorem dX0_twins_4 : decode cX0_twins 4 = .ok (.iload_n 3, 1) := by decide +kernel
theorem dX0_twins_5 : decode cX0_twins 5 = .ok (.bipush 16, 2) := by decide +kernel
theorem dX0_twins_7 : decode cX0_twins 7 = .ok (.if_icmp .ge 24, 3) := by decide +kernel
theorem dX0_twins_10 : decode cX0_twins 10 = .ok (.aload_n 0, 1) := by decide +kernel
theorem dX0_twins_11 : decode cX0_twins 11 = .ok (.iload_n 3, 1) := by decide +kernel
theorem dX0_twins_12 : decode cX0_twins 12 = .ok (.iload_n 1, 1) := by decide +kernel
theorem dX0_twins_13 : decode cX0_twins 13 = .ok (.invokevirtual 59, 3) := by decide +kernel
theorem dX0_twins_16 : decode cX0_twins 16 = .ok (.ifCond .eq 9, 3) := by decide +kernel
theorem dX0_twins_19 : decode cX0_twins 19 = .ok (.iload_n 2, 1) := by decide +kernel
theorem dX0_twins_20 : decode cX0_twins 20 = .ok (.iconst 1, 1) := by decide +kernel
theorem dX0_twins_21 : decode cX0_twins 21 = .ok (.iload_n 3, 1) := by decide +kernel
theorem dX0_twins_22 : decode cX0_twins 22 = .ok (.ishl, 1) := by decide +kernel
theorem dX0_twins_23 : decode cX0_twins 23 = .ok (.ior, 1) := by decide +kernel
theorem dX0_twins_24 : decode cX0_twins 24 = .ok (.istore_n 2, 1) := by decide +kernel
theorem dX0_twins_25 : decode cX0_twins 25 = .ok (.iinc 3 1, 3) := by decide +kernel
theorem dX0_twins_28 : decode cX0_twins 28 = .ok (.goto (-24), 3) := by decide +kernel
theorem dX0_twins_31 : decode cX0_twins 31 = .ok (.iload_n 2, 1) := by decide +kernel
theorem dX0_twins_32 : decode cX0_twins 32 = .ok (.ireturn, 1) := by decide +kernel
theorem q2_34 : (Jvm.Cond.code ({ cls := "Cyclepaint$Palette", name := "twins", desc := "(I)I" } : Jvm.MethodName) prog_2_method_16_code (4 : Nat) (Option.some Jvm.ClassFile.FieldType.int)) ∈ lw_g := zg_of (zin2 (List.mem_of_getElem? (i := 34) rfl)) rfl
theorem q2_32 : (Jvm.Cond.instanceMethod ({ cls := "Cyclepaint$Palette", name := "twins", desc := "(I)I" } : Jvm.MethodName)) ∈ lw_g := zg_of (zin2 (List.mem_of_getElem? (i := 32) rfl)) rfl
theorem q2_33 : (Jvm.Cond.selects "Cyclepaint$Palette" ({ cls := "Cyclepaint$Palette", name := "twins", desc := "(I)I" } : Jvm.MethodName) ({ cls := "Cyclepaint$Palette", name := "twins", desc := "(I)I" } : Jvm.MethodName)) ∈ lw_g := zg_of (zin2 (List.mem_of_getElem? (i := 33) rfl)) rfl
theorem ok_X0_twins : zOV yX0_twins cX0_twins 4 ((Option.some Jvm.ClassFile.FieldType.int)) 1 := ⟨⟨q2_34, q1_2, by decide, by decide, by decide +kernel⟩, q2_32, q2_33⟩
set_option maxHeartbeats 4000000 in
set_option maxRecDepth 100000 in
theorem c_X0_twins (l : Launch) (G : zG) (σ : St) (a : Nat → Nat) (e : Int) (he : 0 ≤ e ∧ e < 16) : Met l yX0_twins (wq yX0_twins cX0_twins 4 ((Option.some Jvm.ClassFile.FieldType.int))) (rmR 3 70) (va_Pc [.ref (a 1), .int (zI (e))] (zK G (hPal G σ a))) (zQ (some (.int ((bstI (fun o => twnC σ o e) 16))))) 0 0 zF := by
  refine z_enterI (by decide +kernel) (Nat.le_of_ble_eq_true rfl) ?_
  intro p env s m below meth cod Q S hG hP ret ls hl
  have hl : lv_has ls 4 [(0, .ref (a 1)), (1, .int (zI (e)))] := hl
  refine z_iconst S dX0_twins_0 ?_
  refine z_istore_n (lv' := [(2, .int (zI (0))), (0, .ref (a 1)), (1, .int (zI (e)))]) S dX0_twins_1 hl rfl (by decide) rfl (fun ls hl => ?_)
  refine z_iconst S dX0_twins_2 ?_
  refine z_istore_n (lv' := [(3, .int (zI (0))), (2, .int (zI (0))), (0, .ref (a 1)), (1, .int (zI (e)))]) S dX0_twins_3 hl rfl (by decide) rfl (fun ls hl => ?_)
  have loop_4 : ∀ (nn : Nat) (k : Int) (b : Int32), (0 ≤ k ∧ k ≤ 16) → (b = bstI (fun o => twnC σ o e) k) → ((16 - k).toNat) < nn → ∀ ls, lv_has ls 4 [(3, .int (zI (k))), (2, .int (b)), (0, .ref (a 1)), (1, .int (zI (e)))] → W p l env (rmR 3 70) s m ([.ref (a 1), .int (zI (e))] : List Value).toArray below meth cod s.heap [] 0 0 Q (F0 m 4 ls []) := by
    intro nn
    induction nn with
    | zero => intro _ _ _ _ h; exact absurd h (Nat.not_lt_zero _)
    | succ nn ih_4 =>
      intro k b hk hb hm_4 ls hl
      refine z_iload_n S dX0_twins_4 hl 0 rfl rfl ?_
      refine z_bipush S dX0_twins_5 rfl ?_
      refine z_icmp_ge S 31 dX0_twins_7 (by decide) (by omega) (by omega) (fun c_7 => ?_) (fun c_7 => ?_)
      · skip
        refine z_iload_n S dX0_twins_31 hl 1 rfl rfl ?_
        exact ret _ _ _ dX0_twins_32 (by rw [hb, show k = 16 by omega])
      · skip
        refine z_aload_n S dX0_twins_10 hl 2 rfl rfl ?_
        refine z_iload_n S dX0_twins_11 hl 0 rfl rfl ?_
        refine z_iload_n S dX0_twins_12 hl 3 rfl rfl ?_
        refine z_callVs S hG (c_X0_areTwins l G σ a (k) (e) (by omega) (by omega)) ok_X0_areTwins hP.1 zc_X0 rfl q1_93 (hP) ⟨rfl, rfl, by decide, by decide⟩ ⟨Nat.zero_le _, Nat.zero_le _⟩ rfl (Nat.le_of_ble_eq_true rfl) hl.1 rfl dX0_twins_13 ?_
        refine z_bif_eq S 25 dX0_twins_16 (by decide) (fun c_16 => ?_) (fun c_16 => ?_)
        · skip
          refine z_iinc (lv' := [(3, .int (zI (k + 1))), (2, .int (b)), (0, .ref (a 1)), (1, .int (zI (e)))]) S dX0_twins_25 hl 0 rfl (by decide) rfl (fun ls hl => ?_)
          refine z_goto S 4 dX0_twins_28 (by decide) ?_
          exact ih_4 (k + 1) (b) (by omega) (by rw [bstI_s hk.1, if_neg (by rw [c_16]; decide)]; exact hb) (by omega) ls (lv_sub hl [0, 1, 2, 3] rfl)
        · skip
          refine z_iload_n S dX0_twins_19 hl 1 rfl rfl ?_
          refine z_iconst S dX0_twins_20 ?_
          refine z_iload_n S dX0_twins_21 hl 0 rfl rfl ?_
          refine lv_ishl S.1 S.2.1 dX0_twins_22 ?_
          refine lv_ior S.1 S.2.1 dX0_twins_23 ?_
          refine z_istore_n (lv' := [(2, .int ((b) ||| ((zI (1)) <<< ((zI (k)) &&& 31)))), (3, .int (zI (k))), (0, .ref (a 1)), (1, .int (zI (e)))]) S dX0_twins_24 hl rfl (by decide) rfl (fun ls hl => ?_)
          refine z_iinc (lv' := [(3, .int (zI (k + 1))), (2, .int ((b) ||| ((zI (1)) <<< ((zI (k)) &&& 31)))), (0, .ref (a 1)), (1, .int (zI (e)))]) S dX0_twins_25 hl 1 rfl (by decide) rfl (fun ls hl => ?_)
          refine z_goto S 4 dX0_twins_28 (by decide) ?_
          exact ih_4 (k + 1) ((b) ||| ((zI (1)) <<< ((zI (k)) &&& 31))) (by omega) (by rw [bstI_s hk.1, if_pos c_16, hb]; rfl) (by omega) ls (lv_sub hl [0, 1, 2, 3] rfl)
  exact loop_4 _ (0) ((zI (0))) (by omega) (rfl) (Nat.lt_succ_self _) ls (lv_sub hl [0, 1, 2, 3] rfl)
theorem dX0_greatestCommonDivisor_0 : decode cX0_greatestCommonDivisor 0 = .ok (.iload_n 0, 1) := by decide +kernel
theorem dX0_greatestCommonDivisor_1 : decode cX0_greatestCommonDivisor 1 = .ok (.istore_n 2, 1) := by decide +kernel
theorem dX0_greatestCommonDivisor_2 : decode cX0_greatestCommonDivisor 2 = .ok (.iload_n 1, 1) := by decide +kernel
theorem dX0_greatestCommonDivisor_3 : decode cX0_greatestCommonDivisor 3 = .ok (.istore_n 3, 1) := by decide +kernel
theorem dX0_greatestCommonDivisor_4 : decode cX0_greatestCommonDivisor 4 = .ok (.iconst 0, 1) := by decide +kernel
theorem dX0_greatestCommonDivisor_5 : decode cX0_greatestCommonDivisor 5 = .ok (.istore 4, 2) := by decide +kernel
theorem dX0_greatestCommonDivisor_7 : decode cX0_greatestCommonDivisor 7 = .ok (.iload 4, 2) := by decide +kernel
theorem dX0_greatestCommonDivisor_9 : decode cX0_greatestCommonDivisor 9 = .ok (.bipush 100, 2) := by decide +kernel
theorem dX0_greatestCommonDivisor_11 : decode cX0_greatestCommonDivisor 11 = .ok (.if_icmp .ge 23, 3) := by decide +kernel
theorem dX0_greatestCommonDivisor_14 : decode cX0_greatestCommonDivisor 14 = .ok (.iload_n 3, 1) := by decide +kernel
theorem dX0_greatestCommonDivisor_15 : decode cX0_greatestCommonDivisor 15 = .ok (.ifCond .le 19, 3) := by decide +kernel
theorem dX0_greatestCommonDivisor_18 : decode cX0_greatestCommonDivisor 18 = .ok (.iload_n 2, 1) := by decide +kernel
theorem dX0_greatestCommonDivisor_19 : decode cX0_greatestCommonDivisor 19 = .ok (.iload_n 3, 1) := by decide +kernel
theorem dX0_greatestCommonDivisor_20 : decode cX0_greatestCommonDivisor 20 = .ok (.irem, 1) := by decide +kernel
theorem dX0_greatestCommonDivisor_21 : decode cX0_greatestCommonDivisor 21 = .ok (.istore 5, 2) := by decide +kernel
theorem dX0_greatestCommonDivisor_23 : decode cX0_greatestCommonDivisor 23 = .ok (.iload_n 3, 1) := by decide +kernel
theorem dX0_greatestCommonDivisor_24 : decode cX0_greatestCommonDivisor 24 = .ok (.istore_n 2, 1) := by decide +kernel
theorem dX0_greatestCommonDivisor_25 : decode cX0_greatestCommonDivisor 25 = .ok (.iload 5, 2) := by decide +kernel
theorem dX0_greatestCommonDivisor_27 : decode cX0_greatestCommonDivisor 27 = .ok (.istore_n 3, 1) := by decide +kernel
theorem dX0_greatestCommonDivisor_28 : decode cX0_greatestCommonDivisor 28 = .ok (.iinc 4 1, 3) := by decide +kernel
theorem dX0_greatestCommonDivisor_31 : decode cX0_greatestCommonDivisor 31 = .ok (.goto (-24), 3) := by decide +kernel
theorem dX0_greatestCommonDivisor_34 : decode cX0_greatestCommonDivisor 34 = .ok (.iload_n 2, 1) := by decide +kernel
theorem dX0_greatestCommonDivisor_35 : decode cX0_greatestCommonDivisor 35 = .ok (.ireturn, 1) := by decide +kernel
theorem q1_157 : (Jvm.Cond.code ({ cls := "Cyclepaint$Palette", name := "greatestCommonDivisor", desc := "(II)I" } : Jvm.MethodName) prog_2_method_26_code (6 : Nat) (Option.some Jvm.ClassFile.FieldType.int)) ∈ lw_g := zg_of (zin1 (List.mem_of_getElem? (i := 157) rfl)) rfl
theorem q1_156 : (Jvm.Cond.static ({ cls := "Cyclepaint$Palette", name := "greatestCommonDivisor", desc := "(II)I" } : Jvm.MethodName)) ∈ lw_g := zg_of (zin1 (List.mem_of_getElem? (i := 156) rfl)) rfl
theorem ok_X0_greatestCommonDivisor : zOS yX0_greatestCommonDivisor cX0_greatestCommonDivisor 6 ((Option.some Jvm.ClassFile.FieldType.int)) 2 := ⟨⟨q1_157, q1_2, by decide, by decide, by decide +kernel⟩, q1_156⟩
set_option maxHeartbeats 4000000 in
set_option maxRecDepth 100000 in
theorem c_X0_gcd (l : Launch) (G : zG) (x y : Int) (hx : 1 ≤ x ∧ x ≤ 19683000) (hy : 1 ≤ y ∧ y ≤ 270) (hxy : x * y ≤ 4294967296) : Met l yX0_greatestCommonDivisor (wq yX0_greatestCommonDivisor cX0_greatestCommonDivisor 6 ((Option.some Jvm.ClassFile.FieldType.int))) (rmR 0 0) (va_Pc [.int (zI (x)), .int (zI (y))] (zK G (fun _ => True))) (zQ (some (.int ((zI (gI x y)))))) 0 0 zF := by
  refine z_enterI (by decide +kernel) (Nat.le_of_ble_eq_true rfl) ?_
  intro p env s m below meth cod Q S hG hP ret ls hl
  have hl : lv_has ls 6 [(0, .int (zI (x))), (1, .int (zI (y)))] := hl
  refine z_iload_n S dX0_greatestCommonDivisor_0 hl 0 rfl rfl ?_
  refine z_istore_n (lv' := [(2, .int (zI (x))), (0, .int (zI (x))), (1, .int (zI (y)))]) S dX0_greatestCommonDivisor_1 hl rfl (by decide) rfl (fun ls hl => ?_)
  refine z_iload_n S dX0_greatestCommonDivisor_2 hl 2 rfl rfl ?_
  refine z_istore_n (lv' := [(3, .int (zI (y))), (2, .int (zI (x))), (0, .int (zI (x))), (1, .int (zI (y)))]) S dX0_greatestCommonDivisor_3 hl rfl (by decide) rfl (fun ls hl => ?_)
  refine z_iconst S dX0_greatestCommonDivisor_4 ?_
  refine z_istore (lv' := [(4, .int (zI (0))), (3, .int (zI (y))), (2, .int (zI (x))), (0, .int (zI (x))), (1, .int (zI (y)))]) S dX0_greatestCommonDivisor_5 hl (by decide) rfl (fun ls hl => ?_)
  have loop_7 : ∀ (nn : Nat) (k : Int) (u : Int) (v : Int), (0 ≤ k ∧ k ≤ 100) → ((1 ≤ u ∧ u ≤ 2147483647) ∧ (0 ≤ v ∧ v ≤ 2147483647)) → (eucP x y k u v) → (gI u v = gI x y) → ((100 - k).toNat) < nn → ∀ ls, lv_has ls 6 [(4, .int (zI (k))), (3, .int (zI (v))), (2, .int (zI (u))), (0, .int (zI (x))), (1, .int (zI (y)))] → W p l env (rmR 0 0) s m ([.int (zI (x)), .int (zI (y))] : List Value).toArray below meth cod s.heap [] 0 0 Q (F0 m 7 ls []) := by
    intro nn
    induction nn with
    | zero => intro _ _ _ _ _ _ _ h; exact absurd h (Nat.not_lt_zero _)
    | succ nn ih_7 =>
      intro k u v hk hu hp hg hm_7 ls hl
      refine z_iload S dX0_greatestCommonDivisor_7 hl 0 rfl ?_
      refine z_bipush S dX0_greatestCommonDivisor_9 rfl ?_
      refine z_icmp_ge S 34 dX0_greatestCommonDivisor_11 (by decide) (by omega) (by omega) (fun c_11 => ?_) (fun c_11 => ?_)
      · skip
        refine z_iload_n S dX0_greatestCommonDivisor_34 hl 2 rfl rfl ?_
        exact ret _ _ _ dX0_greatestCommonDivisor_35 (by rw [← hg, euc_end (by omega) (by omega) (by omega) hp, gI_0 (by omega)])
      · skip
        refine z_iload_n S dX0_greatestCommonDivisor_14 hl 1 rfl rfl ?_
        refine z_if_le S 34 dX0_greatestCommonDivisor_15 (by decide) (by omega) (fun c_15 => ?_) (fun c_15 => ?_)
        · skip
          refine z_iload_n S dX0_greatestCommonDivisor_34 hl 2 rfl rfl ?_
          exact ret _ _ _ dX0_greatestCommonDivisor_35 (by rw [← hg, show v = 0 by omega, gI_0 (by omega)])
        · skip
          refine z_iload_n S dX0_greatestCommonDivisor_18 hl 2 rfl rfl ?_
          refine z_iload_n S dX0_greatestCommonDivisor_19 hl 1 rfl rfl ?_
          have hm0 := Int.emod_nonneg u (show v ≠ 0 by omega)
          have hm1 := Int.emod_lt_of_pos u (show 0 < v by omega)
          have hm2 := emod_le (b := v) (show 0 ≤ u by omega) (by omega)
          refine z_irem S dX0_greatestCommonDivisor_20 (by omega) (by omega) ?_
          refine z_istore (lv' := [(5, .int (zI ((u) % (v)))), (4, .int (zI (k))), (3, .int (zI (v))), (2, .int (zI (u))), (0, .int (zI (x))), (1, .int (zI (y)))]) S dX0_greatestCommonDivisor_21 hl (by decide) rfl (fun ls hl => ?_)
          refine z_iload_n S dX0_greatestCommonDivisor_23 hl 2 rfl rfl ?_
          refine z_istore_n (lv' := [(2, .int (zI (v))), (5, .int (zI ((u) % (v)))), (4, .int (zI (k))), (3, .int (zI (v))), (0, .int (zI (x))), (1, .int (zI (y)))]) S dX0_greatestCommonDivisor_24 hl rfl (by decide) rfl (fun ls hl => ?_)
          refine z_iload S dX0_greatestCommonDivisor_25 hl 1 rfl ?_
          refine z_istore_n (lv' := [(3, .int (zI ((u) % (v)))), (2, .int (zI (v))), (5, .int (zI ((u) % (v)))), (4, .int (zI (k))), (0, .int (zI (x))), (1, .int (zI (y)))]) S dX0_greatestCommonDivisor_27 hl rfl (by decide) rfl (fun ls hl => ?_)
          refine z_iinc (lv' := [(4, .int (zI (k + 1))), (3, .int (zI ((u) % (v)))), (2, .int (zI (v))), (5, .int (zI ((u) % (v)))), (0, .int (zI (x))), (1, .int (zI (y)))]) S dX0_greatestCommonDivisor_28 hl 3 rfl (by decide) rfl (fun ls hl => ?_)
          refine z_goto S 7 dX0_greatestCommonDivisor_31 (by decide) ?_
          exact ih_7 (k + 1) (v) ((u) % (v)) (by omega) (by omega) (euc_step (by omega) (by omega) hxy hp) (by rw [gI_s (by omega) (by omega)]; exact hg) (by omega) ls (lv_sub hl [0, 1, 2, 4, 5] rfl)
  exact loop_7 _ (0) (x) (y) (by omega) (by omega) (Or.inl ⟨rfl, rfl, rfl⟩) (rfl) (Nat.lt_succ_self _) ls (lv_sub hl [0, 1, 2, 3, 4] rfl)
theorem dX0_leastCommonMultiple_0 : decode cX0_leastCommonMultiple 0 = .ok (.iload_n 0, 1) := by decide +kernel
theorem dX0_leastCommonMultiple_1 : decode cX0_leastCommonMultiple 1 = .ok (.iload_n 1, 1) := by decide +kernel
theorem dX0_leastCommonMultiple_2 : decode cX0_leastCommonMultiple 2 = .ok (.invokestatic 76, 3) := by decide +kernel
theorem dX0_leastCommonMultiple_5 : decode cX0_leastCommonMultiple 5 = .ok (.istore_n 2, 1) := by decide +kernel
theorem dX0_leastCommonMultiple_6 : decode cX0_leastCommonMultiple 6 = .ok (.iload_n 2, 1) := by decide +kernel
theorem dX0_leastCommonMultiple_7 : decode cX0_leastCommonMultiple 7 = .ok (.iconst 1, 1) := by decide +kernel
theorem dX0_leastCommonMultiple_8 : decode cX0_leastCommonMultiple 8 = .ok (.if_icmp .ge 7, 3) := by decide +kernel
theorem dX0_leastCommonMultiple_11 : decode cX0_leastCommonMultiple 11 = .ok (.iconst 1, 1) := by decide +kernel
theorem dX0_leastCommonMultiple_12 : decode cX0_leastCommonMultiple 12 = .ok (.goto 8, 3) := by decide +kernel
theorem dX0_leastCommonMultiple_15 : decode cX0_leastCommonMultiple 15 = .ok (.iload_n 0, 1) := by decide +kernel
theorem dX0_leastCommonMultiple_16 : decode cX0_leastCommonMultiple 16 = .ok (.iload_n 2, 1) := by decide +kernel
theorem dX0_leastCommonMultiple_17 : decode cX0_leastCommonMultiple 17 = .ok (.idiv, 1) := by decide +kernel
theorem dX0_leastCommonMultiple_18 : decode cX0_leastCommonMultiple 18 = .ok (.iload_n 1, 1) := by decide +kernel
theorem dX0_leastCommonMultiple_19 : decode cX0_leastCommonMultiple 19 = .ok (.imul, 1) := by decide +kernel
theorem dX0_leastCommonMultiple_20 : decode cX0_leastCommonMultiple 20 = .ok (.ireturn, 1) := by decide +kernel
theorem q1_155 : (Jvm.Cond.methodLink "Cyclepaint$Palette" (76 : Nat) ({ cls := "Cyclepaint$Palette", name := "greatestCommonDivisor", desc := "(II)I" } : Jvm.MethodName)) ∈ lw_g := zg_of (zin1 (List.mem_of_getElem? (i := 155) rfl)) rfl
theorem q1_154 : (Jvm.Cond.code ({ cls := "Cyclepaint$Palette", name := "leastCommonMultiple", desc := "(II)I" } : Jvm.MethodName) prog_2_method_25_code (3 : Nat) (Option.some Jvm.ClassFile.FieldType.int)) ∈ lw_g := zg_of (zin1 (List.mem_of_getElem? (i := 154) rfl)) rfl
theorem q1_153 : (Jvm.Cond.static ({ cls := "Cyclepaint$Palette", name := "leastCommonMultiple", desc := "(II)I" } : Jvm.MethodName)) ∈ lw_g := zg_of (zin1 (List.mem_of_getElem? (i := 153) rfl)) rfl
theorem ok_X0_leastCommonMultiple : zOS yX0_leastCommonMultiple cX0_leastCommonMultiple 3 ((Option.some Jvm.ClassFile.FieldType.int)) 2 := ⟨⟨q1_154, q1_2, by decide, by decide, by decide +kernel⟩, q1_153⟩
set_option maxHeartbeats 4000000 in
set_option maxRecDepth 100000 in
theorem c_X0_lcm (l : Launch) (G : zG) (x y : Int) (hx : 1 ≤ x ∧ x ≤ 19683000) (hy : 1 ≤ y ∧ y ≤ 270) (hxy : x * y ≤ 4294967296) : Met l yX0_leastCommonMultiple (wq yX0_leastCommonMultiple cX0_leastCommonMultiple 3 ((Option.some Jvm.ClassFile.FieldType.int))) (rmR 1 25) (va_Pc [.int (zI (x)), .int (zI (y))] (zK G (fun _ => True))) (zQ (some (.int ((zI (lcI x y)))))) 0 0 zF := by
  refine z_enterI (by decide +kernel) (Nat.le_of_ble_eq_true rfl) ?_
  intro p env s m below meth cod Q S hG hP ret ls hl
  have hl : lv_has ls 3 [(0, .int (zI (x))), (1, .int (zI (y)))] := hl
  refine z_iload_n S dX0_leastCommonMultiple_0 hl 0 rfl rfl ?_
  refine z_iload_n S dX0_leastCommonMultiple_1 hl 1 rfl rfl ?_
  refine z_callSs S hG (c_X0_gcd l G (x) (y) (by omega) (by omega) hxy) ok_X0_greatestCommonDivisor q1_155 (trivial) ⟨rfl, rfl, by decide, by decide⟩ ⟨Nat.zero_le _, Nat.zero_le _⟩ rfl (Nat.le_of_ble_eq_true rfl) hl.1 rfl dX0_leastCommonMultiple_2 ?_
  have hg := gI_b (a := x) (b := y) (by omega) (by omega)
  refine z_istore_n (lv' := [(2, .int (zI (gI (x) (y)))), (0, .int (zI (x))), (1, .int (zI (y)))]) S dX0_leastCommonMultiple_5 hl rfl (by decide) rfl (fun ls hl => ?_)
  refine z_iload_n S dX0_leastCommonMultiple_6 hl 0 rfl rfl ?_
  refine z_iconst S dX0_leastCommonMultiple_7 ?_
  refine z_icmp_ge_T S 15 dX0_leastCommonMultiple_8 (by decide) (by omega) (by omega) (by omega) ?_
  refine z_iload_n S dX0_leastCommonMultiple_15 hl 1 rfl rfl ?_
  refine z_iload_n S dX0_leastCommonMultiple_16 hl 0 rfl rfl ?_
  refine z_idiv S dX0_leastCommonMultiple_17 (by omega) (by omega) ?_
  refine z_iload_n S dX0_leastCommonMultiple_18 hl 2 rfl rfl ?_
  refine z_imul S dX0_leastCommonMultiple_19 ?_
  exact ret _ _ _ dX0_leastCommonMultiple_20 (rfl)
theorem dX0_commonRound_0 : decode cX0_commonRound 0 = .ok (.iconst 1, 1) := by decide +kernel
theorem dX0_commonRound_1 : decode cX0_commonRound 1 = .ok (.istore_n 1, 1) := by decide +kernel
theorem dX0_commonRound_2 : decode cX0_commonRound 2 = .ok (.iconst 0, 1) := by decide +kernel
theorem dX0_commonRound_3 : decode cX0_commonRound 3 = .ok (.istore_n 2, 1) := by decide +kernel
theorem dX0_commonRound_4 : decode cX0_commonRound 4 = .ok (.iload_n 2, 1) := by decide +kernel
theorem dX0_commonRound_5 : decode cX0_commonRound 5 = .ok (.iconst 4, 1) := by decide +kernel
theorem dX0_commonRound_6 : decode cX0_commonRound 6 = .ok (.if_icmp .ge 32, 3) := by decide +kernel
theorem dX0_commonRound_9 : decode cX0_commonRound 9 = .ok (.aload_n 0, 1) := by decide +kernel
theorem dX0_commonRound_10 : decode cX0_commonRound 10 = .ok (.getfield 20, 3) := by decide +kernel
theorem dX0_commonRound_13 : decode cX0_commonRound 13 = .ok (.iload_n 2, 1) := by decide +kernel
theorem dX0_commonRound_14 : decode cX0_commonRound 14 = .ok (.aaload, 1) := by decide +kernel
theorem dX0_commonRound_15 : decode cX0_commonRound 15 = .ok (.ifnull 17, 3) := by decide +kernel
theorem dX0_commonRound_18 : decode cX0_commonRound 18 = .ok (.iload_n 1, 1) := by decide +kernel
theorem dX0_commonRound_19 : decode cX0_commonRound 19 = .ok (.aload_n 0, 1) := by decide +kernel
theorem dX0_commonRound_20 : decode cX0_commonRound 20 = .ok (.getfield 20, 3) := by decide +kernel
theorem dX0_commonRound_23 : decode cX0_commonRound 23 = .ok (.iload_n 2, 1) := by decide +kernel
theorem dX0_commonRound_24 : decode cX0_commonRound 24 = .ok (.aaload, 1) := by decide +kernel
theorem dX0_commonRound_25 : decode cX0_commonRound 25 = .ok (.invokevirtual 63, 3) := by decide +kernel
theorem dX0_commonRound_28 : decode cX0_commonRound 28 = .ok (.invokestatic 67, 3) := by decide +kernel
theorem dX0_commonRound_31 : decode cX0_commonRound 31 = .ok (.istore_n 1, 1) := by decide +kernel
theorem dX0_commonRound_32 : decode cX0_commonRound 32 = .ok (.iinc 2 1, 3) := by decide +kernel
theorem dX0_commonRound_35 : decode cX0_commonRound 35 = .ok (.goto (-31), 3) := by decide +kernel
theorem dX0_commonRound_38 : decode cX0_commonRound 38 = .ok (.iload_n 1, 1) := by decide +kernel
theorem dX0_commonRound_39 : decode cX0_commonRound 39 = .ok (.ireturn, 1) := by decide +kernel
theorem q1_152 : (Jvm.Cond.methodLink "Cyclepaint$Palette" (67 : Nat) ({ cls := "Cyclepaint$Palette", name := "leastCommonMultiple", desc := "(II)I" } : Jvm.MethodName)) ∈ lw_g := zg_of (zin1 (List.mem_of_getElem? (i := 152) rfl)) rfl
theorem q1_151 : (Jvm.Cond.code ({ cls := "Cyclepaint$Palette", name := "commonRound", desc := "()I" } : Jvm.MethodName) prog_2_method_18_code (3 : Nat) (Option.some Jvm.ClassFile.FieldType.int)) ∈ lw_g := zg_of (zin1 (List.mem_of_getElem? (i := 151) rfl)) rfl
theorem q1_149 : (Jvm.Cond.instanceMethod ({ cls := "Cyclepaint$Palette", name := "commonRound", desc := "()I" } : Jvm.MethodName)) ∈ lw_g := zg_of (zin1 (List.mem_of_getElem? (i := 149) rfl)) rfl
theorem q1_150 : (Jvm.Cond.selects "Cyclepaint$Palette" ({ cls := "Cyclepaint$Palette", name := "commonRound", desc := "()I" } : Jvm.MethodName) ({ cls := "Cyclepaint$Palette", name := "commonRound", desc := "()I" } : Jvm.MethodName)) ∈ lw_g := zg_of (zin1 (List.mem_of_getElem? (i := 150) rfl)) rfl
theorem ok_X0_commonRound : zOV yX0_commonRound cX0_commonRound 3 ((Option.some Jvm.ClassFile.FieldType.int)) 0 := ⟨⟨q1_151, q1_2, by decide, by decide, by decide +kernel⟩, q1_149, q1_150⟩
set_option maxHeartbeats 4000000 in
set_option maxRecDepth 100000 in
theorem c_X0_commonRound (l : Launch) (G : zG) (σ : St) (a : Nat → Nat) (hD : okD σ) : Met l yX0_commonRound (wq yX0_commonRound cX0_commonRound 3 ((Option.some Jvm.ClassFile.FieldType.int))) (rmR 2 47) (va_Pc [.ref (a 1)] (zK G (hPal G σ a))) (zQ (some (.int ((zI (per σ)))))) 0 0 zF := by
  refine z_enterI (by decide +kernel) (Nat.le_of_ble_eq_true rfl) ?_
  intro p env s m below meth cod Q S hG hP ret ls hl
  have hl : lv_has ls 3 [(0, .ref (a 1))] := hl
  have hO := hP.2.2.2.2.2
  have hrn := hP.2.2.2.2.2.1
  refine z_iconst S dX0_commonRound_0 ?_
  refine z_istore_n (lv' := [(1, .int (zI (1))), (0, .ref (a 1))]) S dX0_commonRound_1 hl rfl (by decide) rfl (fun ls hl => ?_)
  refine z_iconst S dX0_commonRound_2 ?_
  refine z_istore_n (lv' := [(2, .int (zI (0))), (1, .int (zI (1))), (0, .ref (a 1))]) S dX0_commonRound_3 hl rfl (by decide) rfl (fun ls hl => ?_)
  have loop_4 : ∀ (nn : Nat) (k : Int) (cm : Int), (0 ≤ k ∧ k ≤ 4) → (cm = prdI σ (if k < σ.rn then k else σ.rn)) → ((4 - k).toNat) < nn → ∀ ls, lv_has ls 3 [(2, .int (zI (k))), (1, .int (zI (cm))), (0, .ref (a 1))] → W p l env (rmR 2 47) s m ([.ref (a 1)] : List Value).toArray below meth cod s.heap [] 0 0 Q (F0 m 4 ls []) := by
    intro nn
    induction nn with
    | zero => intro _ _ _ _ h; exact absurd h (Nat.not_lt_zero _)
    | succ nn ih_4 =>
      intro k cm hk hcm hm_4 ls hl
      refine z_iload_n S dX0_commonRound_4 hl 0 rfl rfl ?_
      refine z_iconst S dX0_commonRound_5 ?_
      refine z_icmp_ge S 38 dX0_commonRound_6 (by decide) (by omega) (by omega) (fun c_6 => ?_) (fun c_6 => ?_)
      · skip
        refine z_iload_n S dX0_commonRound_38 hl 1 rfl rfl ?_
        exact ret _ _ _ dX0_commonRound_39 (by rw [hcm, if_neg (by omega)]; rfl)
      · skip
        by_cases hr : k < σ.rn
        · skip
          have hcm2 : cm = prdI σ k := by rw [hcm, if_pos hr]
          have hpb := per_b hO hD k (by omega) (by omega)
          rw [← hcm2] at hpb
          have hxy := per_xy hO hD hk.1 hr
          rw [← hcm2] at hxy
          have hrb := rnd_b hO hk.1 hr
          refine z_aload_n S dX0_commonRound_9 hl 2 rfl rfl ?_
          refine z_get S hG hP.1 zc_X0 2 (by decide) q1_48 rfl rfl dX0_commonRound_10 ?_
          refine z_iload_n S dX0_commonRound_13 hl 0 rfl rfl ?_
          refine z_aaldR S hG hP.2.2.2.1 (by omega) (by decide) dX0_commonRound_14 ?_
          rw [show rgA σ a (k) = some (a (8 + Int.toNat (k))) from if_pos (by omega)]
          refine z_ifnull_r S 32 dX0_commonRound_15 (by decide) ?_
          refine z_iload_n S dX0_commonRound_18 hl 1 rfl rfl ?_
          refine z_aload_n S dX0_commonRound_19 hl 2 rfl rfl ?_
          refine z_get S hG hP.1 zc_X0 2 (by decide) q1_48 rfl rfl dX0_commonRound_20 ?_
          refine z_iload_n S dX0_commonRound_23 hl 0 rfl rfl ?_
          refine z_aaldR S hG hP.2.2.2.1 (by omega) (by decide) dX0_commonRound_24 ?_
          rw [show rgA σ a (k) = some (a (8 + Int.toNat (k))) from if_pos (by omega)]
          refine z_callVs S hG (c_X1_round l G (a (8 + Int.toNat (k))) (σ.F (k)) (σ.L (k)) (σ.S (k)) (σ.K (k)) ) ok_X1_round (hP.2.2.2.2.1 (k) (by omega) (by omega)) zc_X1 rfl q1_109 (hP.2.2.2.2.1 (k) (by omega) (by omega)) ⟨rfl, rfl, by decide, by decide⟩ ⟨Nat.zero_le _, Nat.zero_le _⟩ rfl (Nat.le_of_ble_eq_true rfl) hl.1 rfl dX0_commonRound_25 ?_
          refine z_callSs S hG (c_X0_lcm l G (cm) (rnd σ (k)) (by omega) (by omega) (by omega)) ok_X0_leastCommonMultiple q1_152 (trivial) ⟨rfl, rfl, by decide, by decide⟩ ⟨Nat.zero_le _, Nat.zero_le _⟩ rfl (Nat.le_of_ble_eq_true rfl) hl.1 rfl dX0_commonRound_28 ?_
          refine z_istore_n (lv' := [(1, .int (zI (lcI (cm) (rnd σ (k))))), (2, .int (zI (k))), (0, .ref (a 1))]) S dX0_commonRound_31 hl rfl (by decide) rfl (fun ls hl => ?_)
          refine z_iinc (lv' := [(2, .int (zI (k + 1))), (1, .int (zI (lcI (cm) (rnd σ (k))))), (0, .ref (a 1))]) S dX0_commonRound_32 hl 1 rfl (by decide) rfl (fun ls hl => ?_)
          refine z_goto S 4 dX0_commonRound_35 (by decide) ?_
          exact ih_4 (k + 1) (lcI (cm) (rnd σ (k))) (by omega) (by rw [hcm2, ← prdI_s hk.1]; congr 1; split <;> omega) (by omega) ls (lv_sub hl [0, 1, 2] rfl)
        · skip
          refine z_aload_n S dX0_commonRound_9 hl 2 rfl rfl ?_
          refine z_get S hG hP.1 zc_X0 2 (by decide) q1_48 rfl rfl dX0_commonRound_10 ?_
          refine z_iload_n S dX0_commonRound_13 hl 0 rfl rfl ?_
          refine z_aaldR S hG hP.2.2.2.1 (by omega) (by decide) dX0_commonRound_14 ?_
          rw [show rgA σ a (k) = none from if_neg (by omega)]
          refine z_ifnull_n S 32 dX0_commonRound_15 (by decide) ?_
          refine z_iinc (lv' := [(2, .int (zI (k + 1))), (1, .int (zI (cm))), (0, .ref (a 1))]) S dX0_commonRound_32 hl 0 rfl (by decide) rfl (fun ls hl => ?_)
          refine z_goto S 4 dX0_commonRound_35 (by decide) ?_
          exact ih_4 (k + 1) (cm) (by omega) (by rw [hcm, if_neg hr, if_neg (by omega)]) (by omega) ls (lv_sub hl [0, 1, 2] rfl)
  exact loop_4 _ (0) (1) (by omega) (by rw [show (if (0 : Int) < σ.rn then (0 : Int) else σ.rn) = 0 by split <;> omega]; rfl) (Nat.lt_succ_self _) ls (lv_sub hl [0, 1, 2] rfl)
theorem dX0_firstShown_0 : decode cX0_firstShown 0 = .ok (.aload_n 0, 1) := by decide +kernel
theorem dX0_firstShown_1 : decode cX0_firstShown 1 = .ok (.iload_n 1, 1) := by decide +kernel
theorem dX0_firstShown_2 : decode cX0_firstShown 2 = .ok (.invokevirtual 56, 3) := by decide +kernel
theorem dX0_firstShown_5 : decode cX0_firstShown 5 = .ok (.istore 4, 2) := by decide +kernel
theorem dX0_firstShown_7 : decode cX0_firstShown 7 = .ok (.iconst 0, 1) := by decide +kernel
theorem dX0_firstShown_8 : decode cX0_firstShown 8 = .ok (.istore 5, 2) := by decide +kernel
theorem dX0_firstShown_10 : decode cX0_firstShown 10 = .ok (.iload 5, 2) := by decide +kernel
theorem dX0_firstShown_12 : decode cX0_firstShown 12 = .ok (.iload 4, 2) := by decide +kernel
theorem dX0_firstShown_14 : decode cX0_firstShown 14 = .ok (.if_icmp .ge 27, 3) := by decide +kernel
theorem dX0_firstShown_17 : decode cX0_firstShown 17 = .ok (.aload_n 0, 1) := by decide +kernel
theorem dX0_firstShown_18 : decode cX0_firstShown 18 = .ok (.iload_n 1, 1) := by decide +kernel
theorem dX0_firstShown_19 : decode cX0_firstShown 19 = .ok (.iload_n 3, 1) := by decide +kernel
theorem dX0_firstShown_20 : decode cX0_firstShown 20 = .ok (.iload 5, 2) := by decide +kernel
theorem dX0_firstShown_22 : decode cX0_firstShown 22 = .ok (.iadd, 1) := by decide +kernel
theorem dX0_firstShown_23 : decode cX0_firstShown 23 = .ok (.invokevirtual 53, 3) := by decide +kernel
theorem dX0_firstShown_26 : decode cX0_firstShown 26 = .ok (.iload_n 2, 1) := by decide +kernel
theorem dX0_firstShown_27 : decode cX0_firstShown 27 = .ok (.if_icmp .ne 8, 3) := by decide +kernel
theorem dX0_firstShown_30 : decode cX0_firstShown 30 = .ok (.iload_n 3, 1) := by decide +kernel
theorem dX0_firstShown_31 : decode cX0_firstShown 31 = .ok (.iload 5, 2) := by decide +kernel
theorem dX0_firstShown_33 : decode cX0_firstShown 33 = .ok (.iadd, 1) := by decide +kernel
theorem dX0_firstShown_34 : decode cX0_firstShown 34 = .ok (.ireturn, 1) := by decide +kernel
theorem dX0_firstShown_35 : decode cX0_firstShown 35 = .ok (.iinc 5 1, 3) := by decide +kernel
theorem dX0_firstShown_38 : decode cX0_firstShown 38 = .ok (.goto (-28), 3) := by decide +kernel
theorem dX0_firstShown_41 : decode cX0_firstShown 41 = .ok (.iconst (-1), 1) := by decide +kernel
theorem dX0_firstShown_42 : decode cX0_firstShown 42 = .ok (.ireturn, 1) := by decide +kernel
theorem q2_53 : (Jvm.Cond.code ({ cls := "Cyclepaint$Palette", name := "firstShown", desc := "(III)I" } : Jvm.MethodName) prog_2_method_19_code (6 : Nat) (Option.some Jvm.ClassFile.FieldType.int)) ∈ lw_g := zg_of (zin2 (List.mem_of_getElem? (i := 53) rfl)) rfl
theorem q2_51 : (Jvm.Cond.instanceMethod ({ cls := "Cyclepaint$Palette", name := "firstShown", desc := "(III)I" } : Jvm.MethodName)) ∈ lw_g := zg_of (zin2 (List.mem_of_getElem? (i := 51) rfl)) rfl
theorem q2_52 : (Jvm.Cond.selects "Cyclepaint$Palette" ({ cls := "Cyclepaint$Palette", name := "firstShown", desc := "(III)I" } : Jvm.MethodName) ({ cls := "Cyclepaint$Palette", name := "firstShown", desc := "(III)I" } : Jvm.MethodName)) ∈ lw_g := zg_of (zin2 (List.mem_of_getElem? (i := 52) rfl)) rfl
theorem ok_X0_firstShown : zOV yX0_firstShown cX0_firstShown 6 ((Option.some Jvm.ClassFile.FieldType.int)) 3 := ⟨⟨q2_53, q1_2, by decide, by decide, by decide +kernel⟩, q2_51, q2_52⟩
set_option maxHeartbeats 4000000 in
set_option maxRecDepth 100000 in
theorem c_X0_firstShown (l : Launch) (G : zG) (σ : St) (a : Nat → Nat) (e : Int) (C : Int32) (f : Int) (he : 0 ≤ e ∧ e < 16) (hf : 0 ≤ f ∧ f ≤ 1000000) : Met l yX0_firstShown (wq yX0_firstShown cX0_firstShown 6 ((Option.some Jvm.ClassFile.FieldType.int))) (rmR 2 46) (va_Pc [.ref (a 1), .int (zI (e)), .int (C), .int (zI (f))] (zK G (hPal G σ a))) (zQ (some (.int ((zI (fnd σ e C f)))))) 0 0 zF := by
  refine z_enterI (by decide +kernel) (Nat.le_of_ble_eq_true rfl) ?_
  intro p env s m below meth cod Q S hG hP ret ls hl
  have hl : lv_has ls 6 [(0, .ref (a 1)), (1, .int (zI (e))), (2, .int (C)), (3, .int (zI (f)))] := hl
  have hO := hP.2.2.2.2.2
  have hb1 := rndE_b hO e
  refine z_aload_n S dX0_firstShown_0 hl 0 rfl rfl ?_
  refine z_iload_n S dX0_firstShown_1 hl 1 rfl rfl ?_
  refine z_callVs S hG (c_X0_roundOf l G σ a (e) (by omega)) ok_X0_roundOf hP.1 zc_X0 rfl q1_97 (hP) ⟨rfl, rfl, by decide, by decide⟩ ⟨Nat.zero_le _, Nat.zero_le _⟩ rfl (Nat.le_of_ble_eq_true rfl) hl.1 rfl dX0_firstShown_2 ?_
  refine z_istore (lv' := [(4, .int (zI (rndE σ (e)))), (0, .ref (a 1)), (1, .int (zI (e))), (2, .int (C)), (3, .int (zI (f)))]) S dX0_firstShown_5 hl (by decide) rfl (fun ls hl => ?_)
  refine z_iconst S dX0_firstShown_7 ?_
  refine z_istore (lv' := [(5, .int (zI (0))), (4, .int (zI (rndE σ (e)))), (0, .ref (a 1)), (1, .int (zI (e))), (2, .int (C)), (3, .int (zI (f)))]) S dX0_firstShown_8 hl (by decide) rfl (fun ls hl => ?_)
  have loop_10 : ∀ (nn : Nat) (k : Int), (0 ≤ k ∧ k ≤ rndE σ e) → (∀ t : Int, 0 ≤ t → t < k → fndB σ e C f t = false) → ((rndE σ e - k).toNat) < nn → ∀ ls, lv_has ls 6 [(5, .int (zI (k))), (4, .int (zI (rndE σ (e)))), (0, .ref (a 1)), (1, .int (zI (e))), (2, .int (C)), (3, .int (zI (f)))] → W p l env (rmR 2 46) s m ([.ref (a 1), .int (zI (e)), .int (C), .int (zI (f))] : List Value).toArray below meth cod s.heap [] 0 0 Q (F0 m 10 ls []) := by
    intro nn
    induction nn with
    | zero => intro _ _ _ h; exact absurd h (Nat.not_lt_zero _)
    | succ nn ih_10 =>
      intro k hk hI hm_10 ls hl
      refine z_iload S dX0_firstShown_10 hl 0 rfl ?_
      refine z_iload S dX0_firstShown_12 hl 1 rfl ?_
      refine z_icmp_ge S 41 dX0_firstShown_14 (by decide) (by omega) (by omega) (fun c_14 => ?_) (fun c_14 => ?_)
      · skip
        refine z_iconst S dX0_firstShown_41 ?_
        exact ret _ _ _ dX0_firstShown_42 (by unfold fnd; rw [fstI_none (fun t h0 h1 => hI t h0 (by omega)), if_pos rfl])
      · skip
        have c_14x : k < rndE σ e := by omega
        refine z_aload_n S dX0_firstShown_17 hl 2 rfl rfl ?_
        refine z_iload_n S dX0_firstShown_18 hl 3 rfl rfl ?_
        refine z_iload_n S dX0_firstShown_19 hl 5 rfl rfl ?_
        refine z_iload S dX0_firstShown_20 hl 0 rfl ?_
        refine z_iadd S dX0_firstShown_22 ?_
        refine z_callVs S hG (c_X0_shows l G σ a (e) ((f) + (k)) (by omega) (by omega)) ok_X0_shows hP.1 zc_X0 rfl q1_113 (hP) ⟨rfl, rfl, by decide, by decide⟩ ⟨Nat.zero_le _, Nat.zero_le _⟩ rfl (Nat.le_of_ble_eq_true rfl) hl.1 rfl dX0_firstShown_23 ?_
        refine z_iload_n S dX0_firstShown_26 hl 4 rfl rfl ?_
        refine lv_icmp_ne (tgt := 35) S.1 S.2.1 dX0_firstShown_27 (by decide) (fun c_27 => ?_) (fun c_27 => ?_)
        · skip
          refine z_iinc (lv' := [(5, .int (zI (k + 1))), (4, .int (zI (rndE σ (e)))), (0, .ref (a 1)), (1, .int (zI (e))), (2, .int (C)), (3, .int (zI (f)))]) S dX0_firstShown_35 hl 0 rfl (by decide) rfl (fun ls hl => ?_)
          refine z_goto S 10 dX0_firstShown_38 (by decide) ?_
          exact ih_10 (k + 1) (by omega) (lt_stp hI (by unfold fndB; simp [c_27])) (by omega) ls (lv_sub hl [0, 1, 2, 3, 4, 5] rfl)
        · skip
          refine z_iload_n S dX0_firstShown_30 hl 5 rfl rfl ?_
          refine z_iload S dX0_firstShown_31 hl 0 rfl ?_
          refine z_iadd S dX0_firstShown_33 ?_
          exact ret _ _ _ dX0_firstShown_34 (by unfold fnd; rw [fstI_some hk.1 c_14x hI (by unfold fndB; simpa using c_27), if_neg (by omega)])
  exact loop_10 _ (0) (by omega) (lt_st0) (Nat.lt_succ_self _) ls (lv_sub hl [0, 1, 2, 3, 4, 5] rfl)
theorem dX0_firstMeeting_0 : decode cX0_firstMeeting 0 = .ok (.aload_n 0, 1) := by decide +kernel
theorem dX0_firstMeeting_1 : decode cX0_firstMeeting 1 = .ok (.iload_n 1, 1) := by decide +kernel
theorem dX0_firstMeeting_2 : decode cX0_firstMeeting 2 = .ok (.invokevirtual 56, 3) := by decide +kernel
theorem dX0_firstMeeting_5 : decode cX0_firstMeeting 5 = .ok (.aload_n 0, 1) := by decide +kernel
theorem dX0_firstMeeting_6 : decode cX0_firstMeeting 6 = .ok (.iload_n 3, 1) := by decide +kernel
theorem dX0_firstMeeting_7 : decode cX0_firstMeeting 7 = .ok (.invokevirtual 56, 3) := by decide +kernel
theorem dX0_firstMeeting_10 : decode cX0_firstMeeting 10 = .ok (.invokestatic 67, 3) := by decide +kernel
theorem dX0_firstMeeting_13 : decode cX0_firstMeeting 13 = .ok (.istore 6, 2) := by decide +kernel
theorem dX0_firstMeeting_15 : decode cX0_firstMeeting 15 = .ok (.iconst 0, 1) := by decide +kernel
theorem dX0_firstMeeting_16 : decode cX0_firstMeeting 16 = .ok (.istore 7, 2) := by decide +kernel
theorem dX0_firstMeeting_18 : decode cX0_firstMeeting 18 = .ok (.iload 7, 2) := by decide +kernel
theorem dX0_firstMeeting_20 : decode cX0_firstMeeting 20 = .ok (.iload 6, 2) := by decide +kernel
theorem dX0_firstMeeting_22 : decode cX0_firstMeeting 22 = .ok (.if_icmp .ge 41, 3) := by decide +kernel
theorem dX0_firstMeeting_25 : decode cX0_firstMeeting 25 = .ok (.aload_n 0, 1) := by decide +kernel
theorem dX0_firstMeeting_26 : decode cX0_firstMeeting 26 = .ok (.iload_n 1, 1) := by decide +kernel
theorem dX0_firstMeeting_27 : decode cX0_firstMeeting 27 = .ok (.iload 5, 2) := by decide +kernel
theorem dX0_firstMeeting_29 : decode cX0_firstMeeting 29 = .ok (.iload 7, 2) := by decide +kernel
theorem dX0_firstMeeting_31 : decode cX0_firstMeeting 31 = .ok (.iadd, 1) := by decide +kernel
theorem dX0_firstMeeting_32 : decode cX0_firstMeeting 32 = .ok (.invokevirtual 53, 3) := by decide +kernel
theorem dX0_firstMeeting_35 : decode cX0_firstMeeting 35 = .ok (.iload_n 2, 1) := by decide +kernel
theorem dX0_firstMeeting_36 : decode cX0_firstMeeting 36 = .ok (.if_icmp .ne 21, 3) := by decide +kernel
theorem dX0_firstMeeting_39 : decode cX0_firstMeeting 39 = .ok (.aload_n 0, 1) := by decide +kernel
theorem dX0_firstMeeting_40 : decode cX0_firstMeeting 40 = .ok (.iload_n 3, 1) := by decide +kernel
theorem dX0_firstMeeting_41 : decode cX0_firstMeeting 41 = .ok (.iload 5, 2) := by decide +kernel
theorem dX0_firstMeeting_43 : decode cX0_firstMeeting 43 = .ok (.iload 7, 2) := by decide +kernel
theorem dX0_firstMeeting_45 : decode cX0_firstMeeting 45 = .ok (.iadd, 1) := by decide +kernel
theorem dX0_firstMeeting_46 : decode cX0_firstMeeting 46 = .ok (.invokevirtual 53, 3) := by decide +kernel
theorem dX0_firstMeeting_49 : decode cX0_firstMeeting 49 = .ok (.iload 4, 2) := by decide +kernel
theorem dX0_firstMeeting_51 : decode cX0_firstMeeting 51 = .ok (.if_icmp .ne 6, 3) := by decide +kernel
theorem dX0_firstMeeting_54 : decode cX0_firstMeeting 54 = .ok (.iload 7, 2) := by decide +kernel
theorem dX0_firstMeeting_56 : decode cX0_firstMeeting 56 = .ok (.ireturn, 1) := by decide +kernel
theorem dX0_firstMeeting_57 : decode cX0_firstMeeting 57 = .ok (.iinc 7 1, 3) := by decide +kernel
theorem dX0_firstMeeting_60 : decode cX0_firstMeeting 60 = .ok (.goto (-42), 3) := by decide +kernel
theorem dX0_firstMeeting_63 : decode cX0_firstMeeting 63 = .ok (.iconst (-1), 1) := by decide +kernel
theorem dX0_firstMeeting_64 : decode cX0_firstMeeting 64 = .ok (.ireturn, 1) := by decide +kernel
theorem q2_57 : (Jvm.Cond.code ({ cls := "Cyclepaint$Palette", name := "firstMeeting", desc := "(IIIII)I" } : Jvm.MethodName) prog_2_method_20_code (8 : Nat) (Option.some Jvm.ClassFile.FieldType.int)) ∈ lw_g := zg_of (zin2 (List.mem_of_getElem? (i := 57) rfl)) rfl
theorem q2_55 : (Jvm.Cond.instanceMethod ({ cls := "Cyclepaint$Palette", name := "firstMeeting", desc := "(IIIII)I" } : Jvm.MethodName)) ∈ lw_g := zg_of (zin2 (List.mem_of_getElem? (i := 55) rfl)) rfl
theorem q2_56 : (Jvm.Cond.selects "Cyclepaint$Palette" ({ cls := "Cyclepaint$Palette", name := "firstMeeting", desc := "(IIIII)I" } : Jvm.MethodName) ({ cls := "Cyclepaint$Palette", name := "firstMeeting", desc := "(IIIII)I" } : Jvm.MethodName)) ∈ lw_g := zg_of (zin2 (List.mem_of_getElem? (i := 56) rfl)) rfl
theorem ok_X0_firstMeeting : zOV yX0_firstMeeting cX0_firstMeeting 8 ((Option.some Jvm.ClassFile.FieldType.int)) 5 := ⟨⟨q2_57, q1_2, by decide, by decide, by decide +kernel⟩, q2_55, q2_56⟩
set_option maxHeartbeats 4000000 in
set_option maxRecDepth 100000 in
theorem c_X0_firstMeeting (l : Launch) (G : zG) (σ : St) (a : Nat → Nat) (x : Int) (C : Int32) (y : Int) (D : Int32) (f : Int) (hx : 0 ≤ x ∧ x < 16) (hy : 0 ≤ y ∧ y < 16) (hf : 0 ≤ f ∧ f ≤ 1000000) : Met l yX0_firstMeeting (wq yX0_firstMeeting cX0_firstMeeting 8 ((Option.some Jvm.ClassFile.FieldType.int))) (rmR 2 47) (va_Pc [.ref (a 1), .int (zI (x)), .int (C), .int (zI (y)), .int (D), .int (zI (f))] (zK G (hPal G σ a))) (zQ (some (.int ((zI (mt σ x C y D f)))))) 0 0 zF := by
  refine z_enterI (by decide +kernel) (Nat.le_of_ble_eq_true rfl) ?_
  intro p env s m below meth cod Q S hG hP ret ls hl
  have hl : lv_has ls 8 [(0, .ref (a 1)), (1, .int (zI (x))), (2, .int (C)), (3, .int (zI (y))), (4, .int (D)), (5, .int (zI (f)))] := hl
  have hO := hP.2.2.2.2.2
  have hb1 := rndE_b hO x
  have hb2 := rndE_b hO y
  have hxy : rndE σ x * rndE σ y ≤ 72900 := Int.le_trans (Int.mul_le_mul hb1.2 hb2.2 (by omega) (by omega)) (by omega)
  have hlb := lcI_b (a := rndE σ x) (b := rndE σ y) hb1.1 hb2.1
  refine z_aload_n S dX0_firstMeeting_0 hl 0 rfl rfl ?_
  refine z_iload_n S dX0_firstMeeting_1 hl 1 rfl rfl ?_
  refine z_callVs S hG (c_X0_roundOf l G σ a (x) (by omega)) ok_X0_roundOf hP.1 zc_X0 rfl q1_97 (hP) ⟨rfl, rfl, by decide, by decide⟩ ⟨Nat.zero_le _, Nat.zero_le _⟩ rfl (Nat.le_of_ble_eq_true rfl) hl.1 rfl dX0_firstMeeting_2 ?_
  refine z_aload_n S dX0_firstMeeting_5 hl 0 rfl rfl ?_
  refine z_iload_n S dX0_firstMeeting_6 hl 3 rfl rfl ?_
  refine z_callVs S hG (c_X0_roundOf l G σ a (y) (by omega)) ok_X0_roundOf hP.1 zc_X0 rfl q1_97 (hP) ⟨rfl, rfl, by decide, by decide⟩ ⟨Nat.zero_le _, Nat.zero_le _⟩ rfl (Nat.le_of_ble_eq_true rfl) hl.1 rfl dX0_firstMeeting_7 ?_
  refine z_callSs S hG (c_X0_lcm l G (rndE σ (x)) (rndE σ (y)) (by omega) (by omega) (Int.le_trans hxy (by omega))) ok_X0_leastCommonMultiple q1_152 (trivial) ⟨rfl, rfl, by decide, by decide⟩ ⟨Nat.zero_le _, Nat.zero_le _⟩ rfl (Nat.le_of_ble_eq_true rfl) hl.1 rfl dX0_firstMeeting_10 ?_
  refine z_istore (lv' := [(6, .int (zI (lcI (rndE σ (x)) (rndE σ (y))))), (0, .ref (a 1)), (1, .int (zI (x))), (2, .int (C)), (3, .int (zI (y))), (4, .int (D)), (5, .int (zI (f)))]) S dX0_firstMeeting_13 hl (by decide) rfl (fun ls hl => ?_)
  refine z_iconst S dX0_firstMeeting_15 ?_
  refine z_istore (lv' := [(7, .int (zI (0))), (6, .int (zI (lcI (rndE σ (x)) (rndE σ (y))))), (0, .ref (a 1)), (1, .int (zI (x))), (2, .int (C)), (3, .int (zI (y))), (4, .int (D)), (5, .int (zI (f)))]) S dX0_firstMeeting_16 hl (by decide) rfl (fun ls hl => ?_)
  have loop_18 : ∀ (nn : Nat) (k : Int), (0 ≤ k ∧ k ≤ lcI (rndE σ x) (rndE σ y)) → (∀ t : Int, 0 ≤ t → t < k → metB σ x C y D f t = false) → ((lcI (rndE σ x) (rndE σ y) - k).toNat) < nn → ∀ ls, lv_has ls 8 [(7, .int (zI (k))), (6, .int (zI (lcI (rndE σ (x)) (rndE σ (y))))), (0, .ref (a 1)), (1, .int (zI (x))), (2, .int (C)), (3, .int (zI (y))), (4, .int (D)), (5, .int (zI (f)))] → W p l env (rmR 2 47) s m ([.ref (a 1), .int (zI (x)), .int (C), .int (zI (y)), .int (D), .int (zI (f))] : List Value).toArray below meth cod s.heap [] 0 0 Q (F0 m 18 ls []) := by
    intro nn
    induction nn with
    | zero => intro _ _ _ h; exact absurd h (Nat.not_lt_zero _)
    | succ nn ih_18 =>
      intro k hk hI hm_18 ls hl
      refine z_iload S dX0_firstMeeting_18 hl 0 rfl ?_
      refine z_iload S dX0_firstMeeting_20 hl 1 rfl ?_
      refine z_icmp_ge S 63 dX0_firstMeeting_22 (by decide) (by omega) (by omega) (fun c_22 => ?_) (fun c_22 => ?_)
      · skip
        refine z_iconst S dX0_firstMeeting_63 ?_
        exact ret _ _ _ dX0_firstMeeting_64 (by unfold mt; rw [fstI_none (fun t h0 h1 => hI t h0 (by omega))])
      · skip
        have c_22x : k < lcI (rndE σ x) (rndE σ y) := by omega
        refine z_aload_n S dX0_firstMeeting_25 hl 2 rfl rfl ?_
        refine z_iload_n S dX0_firstMeeting_26 hl 3 rfl rfl ?_
        refine z_iload S dX0_firstMeeting_27 hl 7 rfl ?_
        refine z_iload S dX0_firstMeeting_29 hl 0 rfl ?_
        refine z_iadd S dX0_firstMeeting_31 ?_
        refine z_callVs S hG (c_X0_shows l G σ a (x) ((f) + (k)) (by omega) (by omega)) ok_X0_shows hP.1 zc_X0 rfl q1_113 (hP) ⟨rfl, rfl, by decide, by decide⟩ ⟨Nat.zero_le _, Nat.zero_le _⟩ rfl (Nat.le_of_ble_eq_true rfl) hl.1 rfl dX0_firstMeeting_32 ?_
        refine z_iload_n S dX0_firstMeeting_35 hl 4 rfl rfl ?_
        refine lv_icmp_ne (tgt := 57) S.1 S.2.1 dX0_firstMeeting_36 (by decide) (fun c_36 => ?_) (fun c_36 => ?_)
        · skip
          refine z_iinc (lv' := [(7, .int (zI (k + 1))), (6, .int (zI (lcI (rndE σ (x)) (rndE σ (y))))), (0, .ref (a 1)), (1, .int (zI (x))), (2, .int (C)), (3, .int (zI (y))), (4, .int (D)), (5, .int (zI (f)))]) S dX0_firstMeeting_57 hl 0 rfl (by decide) rfl (fun ls hl => ?_)
          refine z_goto S 18 dX0_firstMeeting_60 (by decide) ?_
          exact ih_18 (k + 1) (by omega) (lt_stp hI (by unfold metB; simp [c_36])) (by omega) ls (lv_sub hl [0, 1, 2, 3, 4, 5, 6, 7] rfl)
        · skip
          refine z_aload_n S dX0_firstMeeting_39 hl 2 rfl rfl ?_
          refine z_iload_n S dX0_firstMeeting_40 hl 5 rfl rfl ?_
          refine z_iload S dX0_firstMeeting_41 hl 7 rfl ?_
          refine z_iload S dX0_firstMeeting_43 hl 0 rfl ?_
          refine z_iadd S dX0_firstMeeting_45 ?_
          refine z_callVs S hG (c_X0_shows l G σ a (y) ((f) + (k)) (by omega) (by omega)) ok_X0_shows hP.1 zc_X0 rfl q1_113 (hP) ⟨rfl, rfl, by decide, by decide⟩ ⟨Nat.zero_le _, Nat.zero_le _⟩ rfl (Nat.le_of_ble_eq_true rfl) hl.1 rfl dX0_firstMeeting_46 ?_
          refine z_iload S dX0_firstMeeting_49 hl 6 rfl ?_
          refine lv_icmp_ne (tgt := 57) S.1 S.2.1 dX0_firstMeeting_51 (by decide) (fun c_51 => ?_) (fun c_51 => ?_)
          · skip
            refine z_iinc (lv' := [(7, .int (zI (k + 1))), (6, .int (zI (lcI (rndE σ (x)) (rndE σ (y))))), (0, .ref (a 1)), (1, .int (zI (x))), (2, .int (C)), (3, .int (zI (y))), (4, .int (D)), (5, .int (zI (f)))]) S dX0_firstMeeting_57 hl 0 rfl (by decide) rfl (fun ls hl => ?_)
            refine z_goto S 18 dX0_firstMeeting_60 (by decide) ?_
            exact ih_18 (k + 1) (by omega) (lt_stp hI (by unfold metB; simp [c_51])) (by omega) ls (lv_sub hl [0, 1, 2, 3, 4, 5, 6, 7] rfl)
          · skip
            refine z_iload S dX0_firstMeeting_54 hl 0 rfl ?_
            exact ret _ _ _ dX0_firstMeeting_56 (by unfold mt; rw [fstI_some hk.1 c_22x hI (by unfold metB; simp [c_36, c_51])])
  exact loop_18 _ (0) (by omega) (lt_st0) (Nat.lt_succ_self _) ls (lv_sub hl [0, 1, 2, 3, 4, 5, 6, 7] rfl)
theorem dX0_comesRound_0 : decode cX0_comesRound 0 = .ok (.iload_n 1, 1) := by decide +kernel
theorem dX0_comesRound_1 : decode cX0_comesRound 1 = .ok (.aload_n 0, 1) := by decide +kernel
theorem dX0_comesRound_2 : decode cX0_comesRound 2 = .ok (.invokevirtual 70, 3) := by decide +kernel
theorem dX0_comesRound_5 : decode cX0_comesRound 5 = .ok (.iadd, 1) := by decide +kernel
theorem dX0_comesRound_6 : decode cX0_comesRound 6 = .ok (.istore_n 2, 1) := by decide +kernel
theorem dX0_comesRound_7 : decode cX0_comesRound 7 = .ok (.iconst 0, 1) := by decide +kernel
theorem dX0_comesRound_8 : decode cX0_comesRound 8 = .ok (.istore_n 3, 1) := by decide +kernel
theorem dX0_comesRound_9 : decode cX0_comesRound 9 = .ok (.iload_n 3, 1) := by decide +kernel
theorem dX0_comesRound_10 : decode cX0_comesRound 10 = .ok (.bipush 16, 2) := by decide +kernel
theorem dX0_comesRound_12 : decode cX0_comesRound 12 = .ok (.if_icmp .ge 26, 3) := by decide +kernel
theorem dX0_comesRound_15 : decode cX0_comesRound 15 = .ok (.aload_n 0, 1) := by decide +kernel
theorem dX0_comesRound_16 : decode cX0_comesRound 16 = .ok (.iload_n 3, 1) := by decide +kernel
theorem dX0_comesRound_17 : decode cX0_comesRound 17 = .ok (.iload_n 2, 1) := by decide +kernel
theorem dX0_comesRound_18 : decode cX0_comesRound 18 = .ok (.invokevirtual 53, 3) := by decide +kernel
theorem dX0_comesRound_21 : decode cX0_comesRound 21 = .ok (.aload_n 0, 1) := by decide +kernel
theorem dX0_comesRound_22 : decode cX0_comesRound 22 = .ok (.iload_n 3, 1) := by decide +kernel
theorem dX0_comesRound_23 : decode cX0_comesRound 23 = .ok (.iload_n 1, 1) := by decide +kernel
theorem dX0_comesRound_24 : decode cX0_comesRound 24 = .ok (.invokevirtual 53, 3) := by decide +kernel
theorem dX0_comesRound_27 : decode cX0_comesRound 27 = .ok (.if_icmp .eq 5, 3) := by decide +kernel
theorem dX0_comesRound_30 : decode cX0_comesRound 30 = .ok (.iconst 0, 1) := by decide +kernel
theorem dX0_comesRound_31 : decode cX0_comesRound 31 = .ok (.ireturn, 1) := by decide +kernel
theorem dX0_comesRound_32 : decode cX0_comesRound 32 = .ok (.iinc 3 1, 3) := by decide +kernel
theorem dX0_comesRound_35 : decode cX0_comesRound 35 = .ok (.goto (-26), 3) := by decide +kernel
theorem dX0_comesRound_38 : decode cX0_comesRound 38 = .ok (.iconst 1, 1) := by decide +kernel
theorem dX0_comesRound_39 : decode cX0_comesRound 39 = .ok (.ireturn, 1) := by decide +kernel
theorem q1_179 : (Jvm.Cond.methodLink "Cyclepaint$Palette" (70 : Nat) ({ cls := "Cyclepaint$Palette", name := "commonRound", desc := "()I" } : Jvm.MethodName)) ∈ lw_g := zg_of (zin1 (List.mem_of_getElem? (i := 179) rfl)) rfl
theorem q1_178 : (Jvm.Cond.code ({ cls := "Cyclepaint$Palette", name := "comesRound", desc := "(I)Z" } : Jvm.MethodName) prog_2_method_21_code (4 : Nat) (Option.some Jvm.ClassFile.FieldType.boolean)) ∈ lw_g := zg_of (zin1 (List.mem_of_getElem? (i := 178) rfl)) rfl
theorem q1_176 : (Jvm.Cond.instanceMethod ({ cls := "Cyclepaint$Palette", name := "comesRound", desc := "(I)Z" } : Jvm.MethodName)) ∈ lw_g := zg_of (zin1 (List.mem_of_getElem? (i := 176) rfl)) rfl
theorem q1_177 : (Jvm.Cond.selects "Cyclepaint$Palette" ({ cls := "Cyclepaint$Palette", name := "comesRound", desc := "(I)Z" } : Jvm.MethodName) ({ cls := "Cyclepaint$Palette", name := "comesRound", desc := "(I)Z" } : Jvm.MethodName)) ∈ lw_g := zg_of (zin1 (List.mem_of_getElem? (i := 177) rfl)) rfl
theorem ok_X0_comesRound : zOV yX0_comesRound cX0_comesRound 4 ((Option.some Jvm.ClassFile.FieldType.boolean)) 1 := ⟨⟨q1_178, q1_2, by decide, by decide, by decide +kernel⟩, q1_176, q1_177⟩
set_option maxHeartbeats 4000000 in
set_option maxRecDepth 100000 in
theorem c_X0_comesRound (l : Launch) (G : zG) (σ : St) (a : Nat → Nat) (w : Int) (hw : 0 ≤ w ∧ w ≤ 1000000) (hD : okD σ) : Met l yX0_comesRound (wq yX0_comesRound cX0_comesRound 4 ((Option.some Jvm.ClassFile.FieldType.boolean))) (rmR 3 69) (va_Pc [.ref (a 1), .int (zI (w))] (zK G (hPal G σ a))) (zQ (some (.int (bI (allI (crB σ w) 16))))) 0 0 zF := by
  refine z_enterB (by decide +kernel) (Nat.le_of_ble_eq_true rfl) ?_
  intro p env s m below meth cod Q S hG hP ret ls hl
  have hl : lv_has ls 4 [(0, .ref (a 1)), (1, .int (zI (w)))] := hl
  have hO := hP.2.2.2.2.2
  have hrn := hP.2.2.2.2.2.1
  have hpb := per_b hO hD σ.rn (by omega) (by omega)
  have hpe : prdI σ σ.rn = per σ := rfl
  rw [hpe] at hpb
  refine z_iload_n S dX0_comesRound_0 hl 1 rfl rfl ?_
  refine z_aload_n S dX0_comesRound_1 hl 0 rfl rfl ?_
  refine z_callVs S hG (c_X0_commonRound l G σ a hD) ok_X0_commonRound hP.1 zc_X0 rfl q1_179 (hP) ⟨rfl, rfl, by decide, by decide⟩ ⟨Nat.zero_le _, Nat.zero_le _⟩ rfl (Nat.le_of_ble_eq_true rfl) hl.1 rfl dX0_comesRound_2 ?_
  refine z_iadd S dX0_comesRound_5 ?_
  refine z_istore_n (lv' := [(2, .int (zI ((w) + (per σ)))), (0, .ref (a 1)), (1, .int (zI (w)))]) S dX0_comesRound_6 hl rfl (by decide) rfl (fun ls hl => ?_)
  refine z_iconst S dX0_comesRound_7 ?_
  refine z_istore_n (lv' := [(3, .int (zI (0))), (2, .int (zI ((w) + (per σ)))), (0, .ref (a 1)), (1, .int (zI (w)))]) S dX0_comesRound_8 hl rfl (by decide) rfl (fun ls hl => ?_)
  have loop_9 : ∀ (nn : Nat) (k : Int), (0 ≤ k ∧ k ≤ 16) → (∀ t : Int, 0 ≤ t → t < k → crB σ w t = true) → ((16 - k).toNat) < nn → ∀ ls, lv_has ls 4 [(3, .int (zI (k))), (2, .int (zI ((w) + (per σ)))), (0, .ref (a 1)), (1, .int (zI (w)))] → W p l env (rmR 3 69) s m ([.ref (a 1), .int (zI (w))] : List Value).toArray below meth cod s.heap [] 0 0 Q (F0 m 9 ls []) := by
    intro nn
    induction nn with
    | zero => intro _ _ _ h; exact absurd h (Nat.not_lt_zero _)
    | succ nn ih_9 =>
      intro k hk hI hm_9 ls hl
      refine z_iload_n S dX0_comesRound_9 hl 0 rfl rfl ?_
      refine z_bipush S dX0_comesRound_10 rfl ?_
      refine z_icmp_ge S 38 dX0_comesRound_12 (by decide) (by omega) (by omega) (fun c_12 => ?_) (fun c_12 => ?_)
      · skip
        refine z_iconst S dX0_comesRound_38 ?_
        exact ret _ _ _ dX0_comesRound_39 (by rw [show allI (crB σ w) 16 = true from allI_iff.mpr (fun t h0 h1 => hI t h0 (by omega))]; rfl)
      · skip
        refine z_aload_n S dX0_comesRound_15 hl 2 rfl rfl ?_
        refine z_iload_n S dX0_comesRound_16 hl 0 rfl rfl ?_
        refine z_iload_n S dX0_comesRound_17 hl 1 rfl rfl ?_
        refine z_callVs S hG (c_X0_shows l G σ a (k) ((w) + (per σ)) (by omega) (by omega)) ok_X0_shows hP.1 zc_X0 rfl q1_113 (hP) ⟨rfl, rfl, by decide, by decide⟩ ⟨Nat.zero_le _, Nat.zero_le _⟩ rfl (Nat.le_of_ble_eq_true rfl) hl.1 rfl dX0_comesRound_18 ?_
        refine z_aload_n S dX0_comesRound_21 hl 2 rfl rfl ?_
        refine z_iload_n S dX0_comesRound_22 hl 0 rfl rfl ?_
        refine z_iload_n S dX0_comesRound_23 hl 3 rfl rfl ?_
        refine z_callVs S hG (c_X0_shows l G σ a (k) (w) (by omega) (by omega)) ok_X0_shows hP.1 zc_X0 rfl q1_113 (hP) ⟨rfl, rfl, by decide, by decide⟩ ⟨Nat.zero_le _, Nat.zero_le _⟩ rfl (Nat.le_of_ble_eq_true rfl) hl.1 rfl dX0_comesRound_24 ?_
        refine lv_icmp_eq (tgt := 32) S.1 S.2.1 dX0_comesRound_27 (by decide) (fun c_27 => ?_) (fun c_27 => ?_)
        · skip
          refine z_iinc (lv' := [(3, .int (zI (k + 1))), (2, .int (zI ((w) + (per σ)))), (0, .ref (a 1)), (1, .int (zI (w)))]) S dX0_comesRound_32 hl 0 rfl (by decide) rfl (fun ls hl => ?_)
          refine z_goto S 9 dX0_comesRound_35 (by decide) ?_
          exact ih_9 (k + 1) (by omega) (lt_stp hI (by unfold crB; simp [c_27])) (by omega) ls (lv_sub hl [0, 1, 2, 3] rfl)
        · skip
          refine z_iconst S dX0_comesRound_30 ?_
          exact ret _ _ _ dX0_comesRound_31 (by rw [show allI (crB σ w) 16 = false from allI_no hk.1 (show k < 16 by omega) (by unfold crB; simp [c_27])]; rfl)
  exact loop_9 _ (0) (by omega) (lt_st0) (Nat.lt_succ_self _) ls (lv_sub hl [0, 1, 2, 3] rfl)
theorem dX0_areStillAtBase_0 : decode cX0_areStillAtBase 0 = .ok (.iconst 0, 1) := by decide +kernel
theorem dX0_areStillAtBase_1 : decode cX0_areStillAtBase 1 = .ok (.istore_n 2, 1) := by decide +kernel
theorem dX0_areStillAtBase_2 : decode cX0_areStillAtBase 2 = .ok (.iload_n 2, 1) := by decide +kernel
theorem dX0_areStillAtBase_3 : decode cX0_areStillAtBase 3 = .ok (.bipush 16, 2) := by decide +kernel
theorem dX0_areStillAtBase_5 : decode cX0_areStillAtBase 5 = .ok (.if_icmp .ge 34, 3) := by decide +kernel
theorem dX0_areStillAtBase_8 : decode cX0_areStillAtBase 8 = .ok (.aload_n 0, 1) := by decide +kernel
theorem dX0_areStillAtBase_9 : decode cX0_areStillAtBase 9 = .ok (.iload_n 2, 1) := by decide +kernel
theorem dX0_areStillAtBase_10 : decode cX0_areStillAtBase 10 = .ok (.invokevirtual 73, 3) := by decide +kernel
theorem dX0_areStillAtBase_13 : decode cX0_areStillAtBase 13 = .ok (.ifCond .eq 20, 3) := by decide +kernel
theorem dX0_areStillAtBase_16 : decode cX0_areStillAtBase 16 = .ok (.aload_n 0, 1) := by decide +kernel
theorem dX0_areStillAtBase_17 : decode cX0_areStillAtBase 17 = .ok (.iload_n 2, 1) := by decide +kernel
theorem dX0_areStillAtBase_18 : decode cX0_areStillAtBase 18 = .ok (.iload_n 1, 1) := by decide +kernel
theorem dX0_areStillAtBase_19 : decode cX0_areStillAtBase 19 = .ok (.invokevirtual 53, 3) := by decide +kernel
theorem dX0_areStillAtBase_22 : decode cX0_areStillAtBase 22 = .ok (.aload_n 0, 1) := by decide +kernel
theorem dX0_areStillAtBase_23 : decode cX0_areStillAtBase 23 = .ok (.getfield 9, 3) := by decide +kernel
theorem dX0_areStillAtBase_26 : decode cX0_areStillAtBase 26 = .ok (.iload_n 2, 1) := by decide +kernel
theorem dX0_areStillAtBase_27 : decode cX0_areStillAtBase 27 = .ok (.iaload, 1) := by decide +kernel
theorem dX0_areStillAtBase_28 : decode cX0_areStillAtBase 28 = .ok (.if_icmp .eq 5, 3) := by decide +kernel
theorem dX0_areStillAtBase_31 : decode cX0_areStillAtBase 31 = .ok (.iconst 0, 1) := by decide +kernel
theorem dX0_areStillAtBase_32 : decode cX0_areStillAtBase 32 = .ok (.ireturn, 1) := by decide +kernel
theorem dX0_areStillAtBase_33 : decode cX0_areStillAtBase 33 = .ok (.iinc 2 1, 3) := by decide +kernel
theorem dX0_areStillAtBase_36 : decode cX0_areStillAtBase 36 = .ok (.goto (-34), 3) := by decide +kernel
theorem dX0_areStillAtBase_39 : decode cX0_areStillAtBase 39 = .ok (.iconst 1, 1) := by decide +kernel
theorem dX0_areStillAtBase_40 : decode cX0_areStillAtBase 40 = .ok (.ireturn, 1) := by decide +kernel
theorem q1_184 : (Jvm.Cond.methodLink "Cyclepaint$Palette" (73 : Nat) ({ cls := "Cyclepaint$Palette", name := "isStill", desc := "(I)Z" } : Jvm.MethodName)) ∈ lw_g := zg_of (zin1 (List.mem_of_getElem? (i := 184) rfl)) rfl
theorem q1_183 : (Jvm.Cond.code ({ cls := "Cyclepaint$Palette", name := "areStillAtBase", desc := "(I)Z" } : Jvm.MethodName) prog_2_method_22_code (3 : Nat) (Option.some Jvm.ClassFile.FieldType.boolean)) ∈ lw_g := zg_of (zin1 (List.mem_of_getElem? (i := 183) rfl)) rfl
theorem q1_181 : (Jvm.Cond.instanceMethod ({ cls := "Cyclepaint$Palette", name := "areStillAtBase", desc := "(I)Z" } : Jvm.MethodName)) ∈ lw_g := zg_of (zin1 (List.mem_of_getElem? (i := 181) rfl)) rfl
theorem q1_182 : (Jvm.Cond.selects "Cyclepaint$Palette" ({ cls := "Cyclepaint$Palette", name := "areStillAtBase", desc := "(I)Z" } : Jvm.MethodName) ({ cls := "Cyclepaint$Palette", name := "areStillAtBase", desc := "(I)Z" } : Jvm.MethodName)) ∈ lw_g := zg_of (zin1 (List.mem_of_getElem? (i := 182) rfl)) rfl
theorem ok_X0_areStillAtBase : zOV yX0_areStillAtBase cX0_areStillAtBase 3 ((Option.some Jvm.ClassFile.FieldType.boolean)) 1 := ⟨⟨q1_183, q1_2, by decide, by decide, by decide +kernel⟩, q1_181, q1_182⟩
set_option maxHeartbeats 4000000 in
set_option maxRecDepth 100000 in
theorem c_X0_areStillAtBase (l : Launch) (G : zG) (σ : St) (a : Nat → Nat) (w : Int) (hw : 0 ≤ w ∧ w ≤ 1000000) : Met l yX0_areStillAtBase (wq yX0_areStillAtBase cX0_areStillAtBase 3 ((Option.some Jvm.ClassFile.FieldType.boolean))) (rmR 2 46) (va_Pc [.ref (a 1), .int (zI (w))] (zK G (hPal G σ a))) (zQ (some (.int (bI (allI (sbB σ w) 16))))) 0 0 zF := by
  refine z_enterB (by decide +kernel) (Nat.le_of_ble_eq_true rfl) ?_
  intro p env s m below meth cod Q S hG hP ret ls hl
  have hl : lv_has ls 3 [(0, .ref (a 1)), (1, .int (zI (w)))] := hl
  refine z_iconst S dX0_areStillAtBase_0 ?_
  refine z_istore_n (lv' := [(2, .int (zI (0))), (0, .ref (a 1)), (1, .int (zI (w)))]) S dX0_areStillAtBase_1 hl rfl (by decide) rfl (fun ls hl => ?_)
  have loop_2 : ∀ (nn : Nat) (k : Int), (0 ≤ k ∧ k ≤ 16) → (∀ t : Int, 0 ≤ t → t < k → sbB σ w t = true) → ((16 - k).toNat) < nn → ∀ ls, lv_has ls 3 [(2, .int (zI (k))), (0, .ref (a 1)), (1, .int (zI (w)))] → W p l env (rmR 2 46) s m ([.ref (a 1), .int (zI (w))] : List Value).toArray below meth cod s.heap [] 0 0 Q (F0 m 2 ls []) := by
    intro nn
    induction nn with
    | zero => intro _ _ _ h; exact absurd h (Nat.not_lt_zero _)
    | succ nn ih_2 =>
      intro k hk hI hm_2 ls hl
      refine z_iload_n S dX0_areStillAtBase_2 hl 0 rfl rfl ?_
      refine z_bipush S dX0_areStillAtBase_3 rfl ?_
      refine z_icmp_ge S 39 dX0_areStillAtBase_5 (by decide) (by omega) (by omega) (fun c_5 => ?_) (fun c_5 => ?_)
      · skip
        refine z_iconst S dX0_areStillAtBase_39 ?_
        exact ret _ _ _ dX0_areStillAtBase_40 (by rw [show allI (sbB σ w) 16 = true from allI_iff.mpr (fun t h0 h1 => hI t h0 (by omega))]; rfl)
      · skip
        refine z_aload_n S dX0_areStillAtBase_8 hl 1 rfl rfl ?_
        refine z_iload_n S dX0_areStillAtBase_9 hl 0 rfl rfl ?_
        refine z_callVs S hG (c_X0_isStill l G σ a (k) (by omega)) ok_X0_isStill hP.1 zc_X0 rfl q1_184 (hP) ⟨rfl, rfl, by decide, by decide⟩ ⟨Nat.zero_le _, Nat.zero_le _⟩ rfl (Nat.le_of_ble_eq_true rfl) hl.1 rfl dX0_areStillAtBase_10 ?_
        refine z_bif_eq S 33 dX0_areStillAtBase_13 (by decide) (fun c_13 => ?_) (fun c_13 => ?_)
        · skip
          refine z_iinc (lv' := [(2, .int (zI (k + 1))), (0, .ref (a 1)), (1, .int (zI (w)))]) S dX0_areStillAtBase_33 hl 0 rfl (by decide) rfl (fun ls hl => ?_)
          refine z_goto S 2 dX0_areStillAtBase_36 (by decide) ?_
          exact ih_2 (k + 1) (by omega) (lt_stp hI (by unfold sbB; rw [c_13]; rfl)) (by omega) ls (lv_sub hl [0, 1, 2] rfl)
        · skip
          refine z_aload_n S dX0_areStillAtBase_16 hl 1 rfl rfl ?_
          refine z_iload_n S dX0_areStillAtBase_17 hl 0 rfl rfl ?_
          refine z_iload_n S dX0_areStillAtBase_18 hl 2 rfl rfl ?_
          refine z_callVs S hG (c_X0_shows l G σ a (k) (w) (by omega) (by omega)) ok_X0_shows hP.1 zc_X0 rfl q1_113 (hP) ⟨rfl, rfl, by decide, by decide⟩ ⟨Nat.zero_le _, Nat.zero_le _⟩ rfl (Nat.le_of_ble_eq_true rfl) hl.1 rfl dX0_areStillAtBase_19 ?_
          refine z_aload_n S dX0_areStillAtBase_22 hl 1 rfl rfl ?_
          refine z_get S hG hP.1 zc_X0 0 (by decide) q1_46 rfl rfl dX0_areStillAtBase_23 ?_
          refine z_iload_n S dX0_areStillAtBase_26 hl 0 rfl rfl ?_
          refine z_iald S hG hP.2.1 (by omega) (by decide) dX0_areStillAtBase_27 ?_
          refine lv_icmp_eq (tgt := 33) S.1 S.2.1 dX0_areStillAtBase_28 (by decide) (fun c_28 => ?_) (fun c_28 => ?_)
          · skip
            refine z_iinc (lv' := [(2, .int (zI (k + 1))), (0, .ref (a 1)), (1, .int (zI (w)))]) S dX0_areStillAtBase_33 hl 0 rfl (by decide) rfl (fun ls hl => ?_)
            refine z_goto S 2 dX0_areStillAtBase_36 (by decide) ?_
            exact ih_2 (k + 1) (by omega) (lt_stp hI (by unfold sbB; simp [c_28])) (by omega) ls (lv_sub hl [0, 1, 2] rfl)
          · skip
            refine z_iconst S dX0_areStillAtBase_31 ?_
            exact ret _ _ _ dX0_areStillAtBase_32 (by rw [show allI (sbB σ w) 16 = false from allI_no hk.1 (show k < 16 by omega) (by unfold sbB; rw [c_13]; simp [c_28])]; rfl)
  exact loop_2 _ (0) (by omega) (lt_st0) (Nat.lt_succ_self _) ls (lv_sub hl [0, 1, 2] rfl)
theorem dX0_areTwinsAlike_0 : decode cX0_areTwinsAlike 0 = .ok (.iconst 0, 1) := by decide +kernel
theorem dX0_areTwinsAlike_1 : decode cX0_areTwinsAlike 1 = .ok (.istore_n 2, 1) := by decide +kernel
theorem dX0_areTwinsAlike_2 : decode cX0_areTwinsAlike 2 = .ok (.iload_n 2, 1) := by decide +kernel
theorem dX0_areTwinsAlike_3 : decode cX0_areTwinsAlike 3 = .ok (.bipush 16, 2) := by decide +kernel
theorem dX0_areTwinsAlike_5 : decode cX0_areTwinsAlike 5 = .ok (.if_icmp .ge 48, 3) := by decide +kernel
theorem dX0_areTwinsAlike_8 : decode cX0_areTwinsAlike 8 = .ok (.iconst 0, 1) := by decide +kernel
theorem dX0_areTwinsAlike_9 : decode cX0_areTwinsAlike 9 = .ok (.istore_n 3, 1) := by decide +kernel
theorem dX0_areTwinsAlike_10 : decode cX0_areTwinsAlike 10 = .ok (.iload_n 3, 1) := by decide +kernel
theorem dX0_areTwinsAlike_11 : decode cX0_areTwinsAlike 11 = .ok (.iload_n 2, 1) := by decide +kernel
theorem dX0_areTwinsAlike_12 : decode cX0_areTwinsAlike 12 = .ok (.if_icmp .ge 35, 3) := by decide +kernel
theorem dX0_areTwinsAlike_15 : decode cX0_areTwinsAlike 15 = .ok (.aload_n 0, 1) := by decide +kernel
theorem dX0_areTwinsAlike_16 : decode cX0_areTwinsAlike 16 = .ok (.iload_n 2, 1) := by decide +kernel
theorem dX0_areTwinsAlike_17 : decode cX0_areTwinsAlike 17 = .ok (.iload_n 3, 1) := by decide +kernel
theorem dX0_areTwinsAlike_18 : decode cX0_areTwinsAlike 18 = .ok (.invokevirtual 59, 3) := by decide +kernel
theorem dX0_areTwinsAlike_21 : decode cX0_areTwinsAlike 21 = .ok (.ifCond .eq 20, 3) := by decide +kernel
theorem dX0_areTwinsAlike_24 : decode cX0_areTwinsAlike 24 = .ok (.aload_n 0, 1) := by decide +kernel
theorem dX0_areTwinsAlike_25 : decode cX0_areTwinsAlike 25 = .ok (.iload_n 2, 1) := by decide +kernel
theorem dX0_areTwinsAlike_26 : decode cX0_areTwinsAlike 26 = .ok (.iload_n 1, 1) := by decide +kernel
theorem dX0_areTwinsAlike_27 : decode cX0_areTwinsAlike 27 = .ok (.invokevirtual 53, 3) := by decide +kernel
theorem dX0_areTwinsAlike_30 : decode cX0_areTwinsAlike 30 = .ok (.aload_n 0, 1) := by decide +kernel
theorem dX0_areTwinsAlike_31 : decode cX0_areTwinsAlike 31 = .ok (.iload_n 3, 1) := by decide +kernel
theorem dX0_areTwinsAlike_32 : decode cX0_areTwinsAlike 32 = .ok (.iload_n 1, 1) := by decide +kernel
theorem dX0_areTwinsAlike_33 : decode cX0_areTwinsAlike 33 = .ok (.invokevirtual 53, 3) := by decide +kernel
theorem dX0_areTwinsAlike_36 : decode cX0_areTwinsAlike 36 = .ok (.if_icmp .eq 5, 3) := by decide +kernel
theorem dX0_areTwinsAlike_39 : decode cX0_areTwinsAlike 39 = .ok (.iconst 0, 1) := by decide +kernel
theorem dX0_areTwinsAlike_40 : decode cX0_areTwinsAlike 40 = .ok (.ireturn, 1) := by decide +kernel
theorem dX0_areTwinsAlike_41 : decode cX0_areTwinsAlike 41 = .ok (.iinc 3 1, 3) := by decide +kernel
theorem dX0_areTwinsAlike_44 : decode cX0_areTwinsAlike 44 = .ok (.goto (-34), 3) := by decide +kernel
theorem dX0_areTwinsAlike_47 : decode cX0_areTwinsAlike 47 = .ok (.iinc 2 1, 3) := by decide +kernel
theorem dX0_areTwinsAlike_50 : decode cX0_areTwinsAlike 50 = .ok (.goto (-48), 3) := by decide +kernel
theorem dX0_areTwinsAlike_53 : decode cX0_areTwinsAlike 53 = .ok (.iconst 1, 1) := by decide +kernel
theorem dX0_areTwinsAlike_54 : decode cX0_areTwinsAlike 54 = .ok (.ireturn, 1) := by decide +kernel
theorem q1_195 : (Jvm.Cond.code ({ cls := "Cyclepaint$Palette", name := "areTwinsAlike", desc := "(I)Z" } : Jvm.MethodName) prog_2_method_23_code (4 : Nat) (Option.some Jvm.ClassFile.FieldType.boolean)) ∈ lw_g := zg_of (zin1 (List.mem_of_getElem? (i := 195) rfl)) rfl
theorem q1_193 : (Jvm.Cond.instanceMethod ({ cls := "Cyclepaint$Palette", name := "areTwinsAlike", desc := "(I)Z" } : Jvm.MethodName)) ∈ lw_g := zg_of (zin1 (List.mem_of_getElem? (i := 193) rfl)) rfl
theorem q1_194 : (Jvm.Cond.selects "Cyclepaint$Palette" ({ cls := "Cyclepaint$Palette", name := "areTwinsAlike", desc := "(I)Z" } : Jvm.MethodName) ({ cls := "Cyclepaint$Palette", name := "areTwinsAlike", desc := "(I)Z" } : Jvm.MethodName)) ∈ lw_g := zg_of (zin1 (List.mem_of_getElem? (i := 194) rfl)) rfl
theorem ok_X0_areTwinsAlike : zOV yX0_areTwinsAlike cX0_areTwinsAlike 4 ((Option.some Jvm.ClassFile.FieldType.boolean)) 1 := ⟨⟨q1_195, q1_2, by decide, by decide, by decide +kernel⟩, q1_193, q1_194⟩
set_option maxHeartbeats 4000000 in
set_option maxRecDepth 100000 in
theorem c_X0_areTwinsAlike (l : Launch) (G : zG) (σ : St) (a : Nat → Nat) (w : Int) (hw : 0 ≤ w ∧ w ≤ 1000000) : Met l yX0_areTwinsAlike (wq yX0_areTwinsAlike cX0_areTwinsAlike 4 ((Option.some Jvm.ClassFile.FieldType.boolean))) (rmR 3 70) (va_Pc [.ref (a 1), .int (zI (w))] (zK G (hPal G σ a))) (zQ (some (.int (bI (allI (fun e => allI (taB σ w e) e) 16))))) 0 0 zF := by
  refine z_enterB (by decide +kernel) (Nat.le_of_ble_eq_true rfl) ?_
  intro p env s m below meth cod Q S hG hP ret ls hl
  have hl : lv_has ls 4 [(0, .ref (a 1)), (1, .int (zI (w)))] := hl
  refine z_iconst S dX0_areTwinsAlike_0 ?_
  refine z_istore_n (lv' := [(2, .int (zI (0))), (0, .ref (a 1)), (1, .int (zI (w)))]) S dX0_areTwinsAlike_1 hl rfl (by decide) rfl (fun ls hl => ?_)
  have loop_2 : ∀ (nn : Nat) (k : Int), (0 ≤ k ∧ k ≤ 16) → (∀ t : Int, 0 ≤ t → t < k → (fun e => allI (taB σ w e) e) t = true) → ((16 - k).toNat) < nn → ∀ ls, lv_has ls 4 [(2, .int (zI (k))), (0, .ref (a 1)), (1, .int (zI (w)))] → W p l env (rmR 3 70) s m ([.ref (a 1), .int (zI (w))] : List Value).toArray below meth cod s.heap [] 0 0 Q (F0 m 2 ls []) := by
    intro nn
    induction nn with
    | zero => intro _ _ _ h; exact absurd h (Nat.not_lt_zero _)
    | succ nn ih_2 =>
      intro k hk hI hm_2 ls hl
      refine z_iload_n S dX0_areTwinsAlike_2 hl 0 rfl rfl ?_
      refine z_bipush S dX0_areTwinsAlike_3 rfl ?_
      refine z_icmp_ge S 53 dX0_areTwinsAlike_5 (by decide) (by omega) (by omega) (fun c_5 => ?_) (fun c_5 => ?_)
      · skip
        refine z_iconst S dX0_areTwinsAlike_53 ?_
        exact ret _ _ _ dX0_areTwinsAlike_54 (by rw [show allI (fun e => allI (taB σ w e) e) 16 = true from allI_iff.mpr (fun t h0 h1 => hI t h0 (by omega))]; rfl)
      · skip
        refine z_iconst S dX0_areTwinsAlike_8 ?_
        refine z_istore_n (lv' := [(3, .int (zI (0))), (2, .int (zI (k))), (0, .ref (a 1)), (1, .int (zI (w)))]) S dX0_areTwinsAlike_9 hl rfl (by decide) rfl (fun ls hl => ?_)
        have loop_10 : ∀ (nn : Nat) (o : Int), (0 ≤ o ∧ o ≤ k) → (∀ t : Int, 0 ≤ t → t < o → taB σ w k t = true) → ((k - o).toNat) < nn → ∀ ls, lv_has ls 4 [(3, .int (zI (o))), (2, .int (zI (k))), (0, .ref (a 1)), (1, .int (zI (w)))] → W p l env (rmR 3 70) s m ([.ref (a 1), .int (zI (w))] : List Value).toArray below meth cod s.heap [] 0 0 Q (F0 m 10 ls []) := by
          intro nn
          induction nn with
          | zero => intro _ _ _ h; exact absurd h (Nat.not_lt_zero _)
          | succ nn ih_10 =>
            intro o ho hJ hm_10 ls hl
            refine z_iload_n S dX0_areTwinsAlike_10 hl 0 rfl rfl ?_
            refine z_iload_n S dX0_areTwinsAlike_11 hl 1 rfl rfl ?_
            refine z_icmp_ge S 47 dX0_areTwinsAlike_12 (by decide) (by omega) (by omega) (fun c_12 => ?_) (fun c_12 => ?_)
            · skip
              refine z_iinc (lv' := [(2, .int (zI (k + 1))), (3, .int (zI (o))), (0, .ref (a 1)), (1, .int (zI (w)))]) S dX0_areTwinsAlike_47 hl 1 rfl (by decide) rfl (fun ls hl => ?_)
              refine z_goto S 2 dX0_areTwinsAlike_50 (by decide) ?_
              exact ih_2 (k + 1) (by omega) (lt_stp hI (allI_iff.mpr (fun t h0 h1 => hJ t h0 (by omega)))) (by omega) ls (lv_sub hl [0, 2, 3] rfl)
            · skip
              have c_12x : o < k := by omega
              refine z_aload_n S dX0_areTwinsAlike_15 hl 2 rfl rfl ?_
              refine z_iload_n S dX0_areTwinsAlike_16 hl 1 rfl rfl ?_
              refine z_iload_n S dX0_areTwinsAlike_17 hl 0 rfl rfl ?_
              refine z_callVs S hG (c_X0_areTwins l G σ a (k) (o) (by omega) (by omega)) ok_X0_areTwins hP.1 zc_X0 rfl q1_93 (hP) ⟨rfl, rfl, by decide, by decide⟩ ⟨Nat.zero_le _, Nat.zero_le _⟩ rfl (Nat.le_of_ble_eq_true rfl) hl.1 rfl dX0_areTwinsAlike_18 ?_
              refine z_bif_eq S 41 dX0_areTwinsAlike_21 (by decide) (fun c_21 => ?_) (fun c_21 => ?_)
              · skip
                refine z_iinc (lv' := [(3, .int (zI (o + 1))), (2, .int (zI (k))), (0, .ref (a 1)), (1, .int (zI (w)))]) S dX0_areTwinsAlike_41 hl 0 rfl (by decide) rfl (fun ls hl => ?_)
                refine z_goto S 10 dX0_areTwinsAlike_44 (by decide) ?_
                exact ih_10 (o + 1) (by omega) (lt_stp hJ (by unfold taB; rw [c_21]; rfl)) (by omega) ls (lv_sub hl [0, 1, 2, 3] rfl)
              · skip
                refine z_aload_n S dX0_areTwinsAlike_24 hl 2 rfl rfl ?_
                refine z_iload_n S dX0_areTwinsAlike_25 hl 1 rfl rfl ?_
                refine z_iload_n S dX0_areTwinsAlike_26 hl 3 rfl rfl ?_
                refine z_callVs S hG (c_X0_shows l G σ a (k) (w) (by omega) (by omega)) ok_X0_shows hP.1 zc_X0 rfl q1_113 (hP) ⟨rfl, rfl, by decide, by decide⟩ ⟨Nat.zero_le _, Nat.zero_le _⟩ rfl (Nat.le_of_ble_eq_true rfl) hl.1 rfl dX0_areTwinsAlike_27 ?_
                refine z_aload_n S dX0_areTwinsAlike_30 hl 2 rfl rfl ?_
                refine z_iload_n S dX0_areTwinsAlike_31 hl 0 rfl rfl ?_
                refine z_iload_n S dX0_areTwinsAlike_32 hl 3 rfl rfl ?_
                refine z_callVs S hG (c_X0_shows l G σ a (o) (w) (by omega) (by omega)) ok_X0_shows hP.1 zc_X0 rfl q1_113 (hP) ⟨rfl, rfl, by decide, by decide⟩ ⟨Nat.zero_le _, Nat.zero_le _⟩ rfl (Nat.le_of_ble_eq_true rfl) hl.1 rfl dX0_areTwinsAlike_33 ?_
                refine lv_icmp_eq (tgt := 41) S.1 S.2.1 dX0_areTwinsAlike_36 (by decide) (fun c_36 => ?_) (fun c_36 => ?_)
                · skip
                  refine z_iinc (lv' := [(3, .int (zI (o + 1))), (2, .int (zI (k))), (0, .ref (a 1)), (1, .int (zI (w)))]) S dX0_areTwinsAlike_41 hl 0 rfl (by decide) rfl (fun ls hl => ?_)
                  refine z_goto S 10 dX0_areTwinsAlike_44 (by decide) ?_
                  exact ih_10 (o + 1) (by omega) (lt_stp hJ (by unfold taB; simp [c_36])) (by omega) ls (lv_sub hl [0, 1, 2, 3] rfl)
                · skip
                  refine z_iconst S dX0_areTwinsAlike_39 ?_
                  exact ret _ _ _ dX0_areTwinsAlike_40 (by rw [show allI (fun e => allI (taB σ w e) e) 16 = false from allI_no hk.1 (show k < 16 by omega) (allI_no ho.1 c_12x (by unfold taB; rw [c_21]; simp [c_36]))]; rfl)
        exact loop_10 _ (0) (by omega) (lt_st0) (Nat.lt_succ_self _) ls (lv_sub hl [0, 1, 2, 3] rfl)
  exact loop_2 _ (0) (by omega) (lt_st0) (Nat.lt_succ_self _) ls (lv_sub hl [0, 1, 2] rfl)
theorem dX0_areRangesApart_0 : decode cX0_areRangesApart 0 = .ok (.iconst 0, 1) := by decide +kernel
theorem dX0_areRangesApart_1 : decode cX0_areRangesApart 1 = .ok (.istore_n 1, 1) := by decide +kernel
theorem dX0_areRangesApart_2 : decode cX0_areRangesApart 2 = .ok (.iload_n 1, 1) := by decide +kernel
theorem dX0_areRangesApart_3 : decode cX0_areRangesApart 3 = .ok (.bipush 16, 2) := by decide +kernel
theorem dX0_areRangesApart_5 : decode cX0_areRangesApart 5 = .ok (.if_icmp .ge 56, 3) := by decide +kernel
theorem dX0_areRangesApart_8 : decode cX0_areRangesApart 8 = .ok (.iconst 0, 1) := by decide +kernel
theorem dX0_areRangesApart_9 : decode cX0_areRangesApart 9 = .ok (.istore_n 2, 1) := by decide +kernel
theorem dX0_areRangesApart_10 : decode cX0_areRangesApart 10 = .ok (.iconst 0, 1) := by decide +kernel
theorem dX0_areRangesApart_11 : decode cX0_areRangesApart 11 = .ok (.istore_n 3, 1) := by decide +kernel
theorem dX0_areRangesApart_12 : decode cX0_areRangesApart 12 = .ok (.iload_n 3, 1) := by decide +kernel
theorem dX0_areRangesApart_13 : decode cX0_areRangesApart 13 = .ok (.iconst 4, 1) := by decide +kernel
theorem dX0_areRangesApart_14 : decode cX0_areRangesApart 14 = .ok (.if_icmp .ge 34, 3) := by decide +kernel
theorem dX0_areRangesApart_17 : decode cX0_areRangesApart 17 = .ok (.aload_n 0, 1) := by decide +kernel
theorem dX0_areRangesApart_18 : decode cX0_areRangesApart 18 = .ok (.getfield 20, 3) := by decide +kernel
theorem dX0_areRangesApart_21 : decode cX0_areRangesApart 21 = .ok (.iload_n 3, 1) := by decide +kernel
theorem dX0_areRangesApart_22 : decode cX0_areRangesApart 22 = .ok (.aaload, 1) := by decide +kernel
theorem dX0_areRangesApart_23 : decode cX0_areRangesApart 23 = .ok (.ifnull 19, 3) := by decide +kernel
theorem dX0_areRangesApart_26 : decode cX0_areRangesApart 26 = .ok (.aload_n 0, 1) := by decide +kernel
theorem dX0_areRangesApart_27 : decode cX0_areRangesApart 27 = .ok (.getfield 20, 3) := by decide +kernel
theorem dX0_areRangesApart_30 : decode cX0_areRangesApart 30 = .ok (.iload_n 3, 1) := by decide +kernel
theorem dX0_areRangesApart_31 : decode cX0_areRangesApart 31 = .ok (.aaload, 1) := by decide +kernel
theorem dX0_areRangesApart_32 : decode cX0_areRangesApart 32 = .ok (.iload_n 1, 1) := by decide +kernel
theorem dX0_areRangesApart_33 : decode cX0_areRangesApart 33 = .ok (.invokevirtual 35, 3) := by decide +kernel
theorem dX0_areRangesApart_36 : decode cX0_areRangesApart 36 = .ok (.ifCond .eq 6, 3) := by decide +kernel
theorem dX0_areRangesApart_39 : decode cX0_areRangesApart 39 = .ok (.iinc 2 1, 3) := by decide +kernel
theorem dX0_areRangesApart_42 : decode cX0_areRangesApart 42 = .ok (.iinc 3 1, 3) := by decide +kernel
theorem dX0_areRangesApart_45 : decode cX0_areRangesApart 45 = .ok (.goto (-33), 3) := by decide +kernel
theorem dX0_areRangesApart_48 : decode cX0_areRangesApart 48 = .ok (.iload_n 2, 1) := by decide +kernel
theorem dX0_areRangesApart_49 : decode cX0_areRangesApart 49 = .ok (.iconst 1, 1) := by decide +kernel
theorem dX0_areRangesApart_50 : decode cX0_areRangesApart 50 = .ok (.if_icmp .le 5, 3) := by decide +kernel
theorem dX0_areRangesApart_53 : decode cX0_areRangesApart 53 = .ok (.iconst 0, 1) := by decide +kernel
theorem dX0_areRangesApart_54 : decode cX0_areRangesApart 54 = .ok (.ireturn, 1) := by decide +kernel
theorem dX0_areRangesApart_55 : decode cX0_areRangesApart 55 = .ok (.iinc 1 1, 3) := by decide +kernel
theorem dX0_areRangesApart_58 : decode cX0_areRangesApart 58 = .ok (.goto (-56), 3) := by decide +kernel
theorem dX0_areRangesApart_61 : decode cX0_areRangesApart 61 = .ok (.iconst 1, 1) := by decide +kernel
theorem dX0_areRangesApart_62 : decode cX0_areRangesApart 62 = .ok (.ireturn, 1) := by decide +kernel
theorem q1_213 : (Jvm.Cond.code ({ cls := "Cyclepaint$Palette", name := "areRangesApart", desc := "()Z" } : Jvm.MethodName) prog_2_method_24_code (4 : Nat) (Option.some Jvm.ClassFile.FieldType.boolean)) ∈ lw_g := zg_of (zin1 (List.mem_of_getElem? (i := 213) rfl)) rfl
theorem q1_211 : (Jvm.Cond.instanceMethod ({ cls := "Cyclepaint$Palette", name := "areRangesApart", desc := "()Z" } : Jvm.MethodName)) ∈ lw_g := zg_of (zin1 (List.mem_of_getElem? (i := 211) rfl)) rfl
theorem q1_212 : (Jvm.Cond.selects "Cyclepaint$Palette" ({ cls := "Cyclepaint$Palette", name := "areRangesApart", desc := "()Z" } : Jvm.MethodName) ({ cls := "Cyclepaint$Palette", name := "areRangesApart", desc := "()Z" } : Jvm.MethodName)) ∈ lw_g := zg_of (zin1 (List.mem_of_getElem? (i := 212) rfl)) rfl
theorem ok_X0_areRangesApart : zOV yX0_areRangesApart cX0_areRangesApart 4 ((Option.some Jvm.ClassFile.FieldType.boolean)) 0 := ⟨⟨q1_213, q1_2, by decide, by decide, by decide +kernel⟩, q1_211, q1_212⟩
set_option maxHeartbeats 4000000 in
set_option maxRecDepth 100000 in
theorem c_X0_areRangesApart (l : Launch) (G : zG) (σ : St) (a : Nat → Nat) : Met l yX0_areRangesApart (wq yX0_areRangesApart cX0_areRangesApart 4 ((Option.some Jvm.ClassFile.FieldType.boolean))) (rmR 1 21) (va_Pc [.ref (a 1)] (zK G (hPal G σ a))) (zQ (some (.int (bI (allI (raB σ) 16))))) 0 0 zF := by
  refine z_enterB (by decide +kernel) (Nat.le_of_ble_eq_true rfl) ?_
  intro p env s m below meth cod Q S hG hP ret ls hl
  have hl : lv_has ls 4 [(0, .ref (a 1))] := hl
  have hO := hP.2.2.2.2.2
  have hrn := hP.2.2.2.2.2.1
  refine z_iconst S dX0_areRangesApart_0 ?_
  refine z_istore_n (lv' := [(1, .int (zI (0))), (0, .ref (a 1))]) S dX0_areRangesApart_1 hl rfl (by decide) rfl (fun ls hl => ?_)
  have loop_2 : ∀ (nn : Nat) (k : Int), (0 ≤ k ∧ k ≤ 16) → (∀ t : Int, 0 ≤ t → t < k → raB σ t = true) → ((16 - k).toNat) < nn → ∀ ls, lv_has ls 4 [(1, .int (zI (k))), (0, .ref (a 1))] → W p l env (rmR 1 21) s m ([.ref (a 1)] : List Value).toArray below meth cod s.heap [] 0 0 Q (F0 m 2 ls []) := by
    intro nn
    induction nn with
    | zero => intro _ _ _ h; exact absurd h (Nat.not_lt_zero _)
    | succ nn ih_2 =>
      intro k hk hI hm_2 ls hl
      refine z_iload_n S dX0_areRangesApart_2 hl 0 rfl rfl ?_
      refine z_bipush S dX0_areRangesApart_3 rfl ?_
      refine z_icmp_ge S 61 dX0_areRangesApart_5 (by decide) (by omega) (by omega) (fun c_5 => ?_) (fun c_5 => ?_)
      · skip
        refine z_iconst S dX0_areRangesApart_61 ?_
        exact ret _ _ _ dX0_areRangesApart_62 (by rw [show allI (raB σ) 16 = true from allI_iff.mpr (fun t h0 h1 => hI t h0 (by omega))]; rfl)
      · skip
        refine z_iconst S dX0_areRangesApart_8 ?_
        refine z_istore_n (lv' := [(2, .int (zI (0))), (1, .int (zI (k))), (0, .ref (a 1))]) S dX0_areRangesApart_9 hl rfl (by decide) rfl (fun ls hl => ?_)
        refine z_iconst S dX0_areRangesApart_10 ?_
        refine z_istore_n (lv' := [(3, .int (zI (0))), (2, .int (zI (0))), (1, .int (zI (k))), (0, .ref (a 1))]) S dX0_areRangesApart_11 hl rfl (by decide) rfl (fun ls hl => ?_)
        have loop_12 : ∀ (nn : Nat) (j : Int) (ch : Int), (0 ≤ j ∧ j ≤ 4) → (ch = cntI (fun j => rgIn σ j k) j) → ((4 - j).toNat) < nn → ∀ ls, lv_has ls 4 [(3, .int (zI (j))), (2, .int (zI (ch))), (1, .int (zI (k))), (0, .ref (a 1))] → W p l env (rmR 1 21) s m ([.ref (a 1)] : List Value).toArray below meth cod s.heap [] 0 0 Q (F0 m 12 ls []) := by
          intro nn
          induction nn with
          | zero => intro _ _ _ _ h; exact absurd h (Nat.not_lt_zero _)
          | succ nn ih_12 =>
            intro j ch hj hch hm_12 ls hl
            have hcb := cntI_b (fun j => rgIn σ j k) hj.1
            refine z_iload_n S dX0_areRangesApart_12 hl 0 rfl rfl ?_
            refine z_iconst S dX0_areRangesApart_13 ?_
            refine z_icmp_ge S 48 dX0_areRangesApart_14 (by decide) (by omega) (by omega) (fun c_14 => ?_) (fun c_14 => ?_)
            · skip
              refine z_iload_n S dX0_areRangesApart_48 hl 1 rfl rfl ?_
              refine z_iconst S dX0_areRangesApart_49 ?_
              refine z_icmp_le S 55 dX0_areRangesApart_50 (by decide) (by omega) (by omega) (fun c_50 => ?_) (fun c_50 => ?_)
              · skip
                refine z_iinc (lv' := [(1, .int (zI (k + 1))), (3, .int (zI (j))), (2, .int (zI (ch))), (0, .ref (a 1))]) S dX0_areRangesApart_55 hl 2 rfl (by decide) rfl (fun ls hl => ?_)
                refine z_goto S 2 dX0_areRangesApart_58 (by decide) ?_
                exact ih_2 (k + 1) (by omega) (lt_stp hI (by unfold raB; rw [← show ch = cntI (fun j => rgIn σ j k) 4 by rw [hch, show j = 4 by omega]]; simp; omega)) (by omega) ls (lv_sub hl [0, 3] rfl)
              · skip
                refine z_iconst S dX0_areRangesApart_53 ?_
                exact ret _ _ _ dX0_areRangesApart_54 (by rw [show allI (raB σ) 16 = false from allI_no hk.1 (show k < 16 by omega) (by unfold raB; rw [← show ch = cntI (fun j => rgIn σ j k) 4 by rw [hch, show j = 4 by omega]]; simp; omega)]; rfl)
            · skip
              by_cases hr : j < σ.rn
              · skip
                have hok := hO.2 j hj.1 hr
                refine z_aload_n S dX0_areRangesApart_17 hl 3 rfl rfl ?_
                refine z_get S hG hP.1 zc_X0 2 (by decide) q1_48 rfl rfl dX0_areRangesApart_18 ?_
                refine z_iload_n S dX0_areRangesApart_21 hl 0 rfl rfl ?_
                refine z_aaldR S hG hP.2.2.2.1 (by omega) (by decide) dX0_areRangesApart_22 ?_
                rw [show rgA σ a (j) = some (a (8 + Int.toNat (j))) from if_pos (by omega)]
                refine z_ifnull_r S 42 dX0_areRangesApart_23 (by decide) ?_
                refine z_aload_n S dX0_areRangesApart_26 hl 3 rfl rfl ?_
                refine z_get S hG hP.1 zc_X0 2 (by decide) q1_48 rfl rfl dX0_areRangesApart_27 ?_
                refine z_iload_n S dX0_areRangesApart_30 hl 0 rfl rfl ?_
                refine z_aaldR S hG hP.2.2.2.1 (by omega) (by decide) dX0_areRangesApart_31 ?_
                rw [show rgA σ a (j) = some (a (8 + Int.toNat (j))) from if_pos (by omega)]
                refine z_iload_n S dX0_areRangesApart_32 hl 2 rfl rfl ?_
                refine z_callVs S hG (c_X1_holds l G (a (8 + Int.toNat (j))) (σ.F (j)) (σ.L (j)) (σ.S (j)) (σ.K (j)) (k) (by omega)) ok_X1_holds (hP.2.2.2.2.1 (j) (by omega) (by omega)) zc_X1 rfl q1_188 (hP.2.2.2.2.1 (j) (by omega) (by omega)) ⟨rfl, rfl, by decide, by decide⟩ ⟨Nat.zero_le _, Nat.zero_le _⟩ rfl (Nat.le_of_ble_eq_true rfl) hl.1 rfl dX0_areRangesApart_33 ?_
                refine z_bif_eq S 42 dX0_areRangesApart_36 (by decide) (fun c_36 => ?_) (fun c_36 => ?_)
                · skip
                  refine z_iinc (lv' := [(3, .int (zI (j + 1))), (2, .int (zI (ch))), (1, .int (zI (k))), (0, .ref (a 1))]) S dX0_areRangesApart_42 hl 0 rfl (by decide) rfl (fun ls hl => ?_)
                  refine z_goto S 12 dX0_areRangesApart_45 (by decide) ?_
                  exact ih_12 (j + 1) (ch) (by omega) (by rw [hch]; exact (cntI_f hj.1 (by unfold rgIn; rw [c_36]; simp)).symm) (by omega) ls (lv_sub hl [0, 1, 2, 3] rfl)
                · skip
                  refine z_iinc (lv' := [(2, .int (zI (ch + 1))), (3, .int (zI (j))), (1, .int (zI (k))), (0, .ref (a 1))]) S dX0_areRangesApart_39 hl 1 rfl (by decide) rfl (fun ls hl => ?_)
                  refine z_iinc (lv' := [(3, .int (zI (j + 1))), (2, .int (zI (ch + 1))), (1, .int (zI (k))), (0, .ref (a 1))]) S dX0_areRangesApart_42 hl 1 rfl (by decide) rfl (fun ls hl => ?_)
                  refine z_goto S 12 dX0_areRangesApart_45 (by decide) ?_
                  exact ih_12 (j + 1) (ch + 1) (by omega) (by rw [hch]; exact (cntI_t hj.1 (by unfold rgIn; rw [c_36]; simp [hr])).symm) (by omega) ls (lv_sub hl [0, 1, 2, 3] rfl)
              · skip
                refine z_aload_n S dX0_areRangesApart_17 hl 3 rfl rfl ?_
                refine z_get S hG hP.1 zc_X0 2 (by decide) q1_48 rfl rfl dX0_areRangesApart_18 ?_
                refine z_iload_n S dX0_areRangesApart_21 hl 0 rfl rfl ?_
                refine z_aaldR S hG hP.2.2.2.1 (by omega) (by decide) dX0_areRangesApart_22 ?_
                rw [show rgA σ a (j) = none from if_neg (by omega)]
                refine z_ifnull_n S 42 dX0_areRangesApart_23 (by decide) ?_
                refine z_iinc (lv' := [(3, .int (zI (j + 1))), (2, .int (zI (ch))), (1, .int (zI (k))), (0, .ref (a 1))]) S dX0_areRangesApart_42 hl 0 rfl (by decide) rfl (fun ls hl => ?_)
                refine z_goto S 12 dX0_areRangesApart_45 (by decide) ?_
                exact ih_12 (j + 1) (ch) (by omega) (by rw [hch]; exact (cntI_f hj.1 (by simp [rgIn, hr])).symm) (by omega) ls (lv_sub hl [0, 1, 2, 3] rfl)
        exact loop_12 _ (0) (0) (by omega) (rfl) (Nat.lt_succ_self _) ls (lv_sub hl [0, 1, 2, 3] rfl)
  exact loop_2 _ (0) (by omega) (lt_st0) (Nat.lt_succ_self _) ls (lv_sub hl [0, 1] rfl)
theorem dX0_isFree_0 : decode cX0_isFree 0 = .ok (.iconst 0, 1) := by decide +kernel
theorem dX0_isFree_1 : decode cX0_isFree 1 = .ok (.istore_n 3, 1) := by decide +kernel
theorem dX0_isFree_2 : decode cX0_isFree 2 = .ok (.iload_n 3, 1) := by decide +kernel
theorem dX0_isFree_3 : decode cX0_isFree 3 = .ok (.bipush 16, 2) := by decide +kernel
theorem dX0_isFree_5 : decode cX0_isFree 5 = .ok (.if_icmp .ge 31, 3) := by decide +kernel
theorem dX0_isFree_8 : decode cX0_isFree 8 = .ok (.iload_n 3, 1) := by decide +kernel
theorem dX0_isFree_9 : decode cX0_isFree 9 = .ok (.iload_n 1, 1) := by decide +kernel
theorem dX0_isFree_10 : decode cX0_isFree 10 = .ok (.if_icmp .lt 20, 3) := by decide +kernel
theorem dX0_isFree_13 : decode cX0_isFree 13 = .ok (.iload_n 3, 1) := by decide +kernel
theorem dX0_isFree_14 : decode cX0_isFree 14 = .ok (.iload_n 2, 1) := by decide +kernel
theorem dX0_isFree_15 : decode cX0_isFree 15 = .ok (.if_icmp .gt 15, 3) := by decide +kernel
theorem dX0_isFree_18 : decode cX0_isFree 18 = .ok (.aload_n 0, 1) := by decide +kernel
theorem dX0_isFree_19 : decode cX0_isFree 19 = .ok (.getfield 15, 3) := by decide +kernel
theorem dX0_isFree_22 : decode cX0_isFree 22 = .ok (.iload_n 3, 1) := by decide +kernel
theorem dX0_isFree_23 : decode cX0_isFree 23 = .ok (.iaload, 1) := by decide +kernel
theorem dX0_isFree_24 : decode cX0_isFree 24 = .ok (.iconst (-1), 1) := by decide +kernel
theorem dX0_isFree_25 : decode cX0_isFree 25 = .ok (.if_icmp .eq 5, 3) := by decide +kernel
theorem dX0_isFree_28 : decode cX0_isFree 28 = .ok (.iconst 0, 1) := by decide +kernel
theorem dX0_isFree_29 : decode cX0_isFree 29 = .ok (.ireturn, 1) := by decide +kernel
theorem dX0_isFree_30 : decode cX0_isFree 30 = .ok (.iinc 3 1, 3) := by decide +kernel
theorem dX0_isFree_33 : decode cX0_isFree 33 = .ok (.goto (-31), 3) := by decide +kernel
theorem dX0_isFree_36 : decode cX0_isFree 36 = .ok (.iconst 1, 1) := by decide +kernel
theorem dX0_isFree_37 : decode cX0_isFree 37 = .ok (.ireturn, 1) := by decide +kernel
theorem q2_216 : (Jvm.Cond.code ({ cls := "Cyclepaint$Palette", name := "isFree", desc := "(II)Z" } : Jvm.MethodName) prog_2_method_7_code (4 : Nat) (Option.some Jvm.ClassFile.FieldType.boolean)) ∈ lw_g := zg_of (zin2 (List.mem_of_getElem? (i := 216) rfl)) rfl
theorem q2_214 : (Jvm.Cond.instanceMethod ({ cls := "Cyclepaint$Palette", name := "isFree", desc := "(II)Z" } : Jvm.MethodName)) ∈ lw_g := zg_of (zin2 (List.mem_of_getElem? (i := 214) rfl)) rfl
theorem q2_215 : (Jvm.Cond.selects "Cyclepaint$Palette" ({ cls := "Cyclepaint$Palette", name := "isFree", desc := "(II)Z" } : Jvm.MethodName) ({ cls := "Cyclepaint$Palette", name := "isFree", desc := "(II)Z" } : Jvm.MethodName)) ∈ lw_g := zg_of (zin2 (List.mem_of_getElem? (i := 215) rfl)) rfl
theorem ok_X0_isFree : zOV yX0_isFree cX0_isFree 4 ((Option.some Jvm.ClassFile.FieldType.boolean)) 2 := ⟨⟨q2_216, q1_2, by decide, by decide, by decide +kernel⟩, q2_214, q2_215⟩
set_option maxHeartbeats 4000000 in
set_option maxRecDepth 100000 in
theorem c_X0_isFree (l : Launch) (G : zG) (σ : St) (a : Nat → Nat) (f u : Int) (hf : 0 ≤ f ∧ f < 16) (hu : 0 ≤ u ∧ u < 16) : Met l yX0_isFree (wq yX0_isFree cX0_isFree 4 ((Option.some Jvm.ClassFile.FieldType.boolean))) (rmR 0 0) (va_Pc [.ref (a 1), .int (zI (f)), .int (zI (u))] (zK G (hPal G σ a))) (zQ (some (.int (bI (allI (frB σ f u) 16))))) 0 0 zF := by
  refine z_enterB (by decide +kernel) (Nat.le_of_ble_eq_true rfl) ?_
  intro p env s m below meth cod Q S hG hP ret ls hl
  have hl : lv_has ls 4 [(0, .ref (a 1)), (1, .int (zI (f))), (2, .int (zI (u)))] := hl
  refine z_iconst S dX0_isFree_0 ?_
  refine z_istore_n (lv' := [(3, .int (zI (0))), (0, .ref (a 1)), (1, .int (zI (f))), (2, .int (zI (u)))]) S dX0_isFree_1 hl rfl (by decide) rfl (fun ls hl => ?_)
  have loop_2 : ∀ (nn : Nat) (k : Int), (0 ≤ k ∧ k ≤ 16) → (∀ t : Int, 0 ≤ t → t < k → frB σ f u t = true) → ((16 - k).toNat) < nn → ∀ ls, lv_has ls 4 [(3, .int (zI (k))), (0, .ref (a 1)), (1, .int (zI (f))), (2, .int (zI (u)))] → W p l env (rmR 0 0) s m ([.ref (a 1), .int (zI (f)), .int (zI (u))] : List Value).toArray below meth cod s.heap [] 0 0 Q (F0 m 2 ls []) := by
    intro nn
    induction nn with
    | zero => intro _ _ _ h; exact absurd h (Nat.not_lt_zero _)
    | succ nn ih_2 =>
      intro k hk hI hm_2 ls hl
      refine z_iload_n S dX0_isFree_2 hl 0 rfl rfl ?_
      refine z_bipush S dX0_isFree_3 rfl ?_
      refine z_icmp_ge S 36 dX0_isFree_5 (by decide) (by omega) (by omega) (fun c_5 => ?_) (fun c_5 => ?_)
      · skip
        refine z_iconst S dX0_isFree_36 ?_
        exact ret _ _ _ dX0_isFree_37 (by rw [show allI (frB σ f u) 16 = true from allI_iff.mpr (fun t h0 h1 => hI t h0 (by omega))]; rfl)
      · skip
        refine z_iload_n S dX0_isFree_8 hl 0 rfl rfl ?_
        refine z_iload_n S dX0_isFree_9 hl 2 rfl rfl ?_
        refine z_icmp_lt S 30 dX0_isFree_10 (by decide) (by omega) (by omega) (fun c_10 => ?_) (fun c_10 => ?_)
        · skip
          refine z_iinc (lv' := [(3, .int (zI (k + 1))), (0, .ref (a 1)), (1, .int (zI (f))), (2, .int (zI (u)))]) S dX0_isFree_30 hl 0 rfl (by decide) rfl (fun ls hl => ?_)
          refine z_goto S 2 dX0_isFree_33 (by decide) ?_
          exact ih_2 (k + 1) (by omega) (lt_stp hI (by unfold frB; simp; omega)) (by omega) ls (lv_sub hl [0, 1, 2, 3] rfl)
        · skip
          refine z_iload_n S dX0_isFree_13 hl 0 rfl rfl ?_
          refine z_iload_n S dX0_isFree_14 hl 3 rfl rfl ?_
          refine z_icmp_gt S 30 dX0_isFree_15 (by decide) (by omega) (by omega) (fun c_15 => ?_) (fun c_15 => ?_)
          · skip
            refine z_iinc (lv' := [(3, .int (zI (k + 1))), (0, .ref (a 1)), (1, .int (zI (f))), (2, .int (zI (u)))]) S dX0_isFree_30 hl 0 rfl (by decide) rfl (fun ls hl => ?_)
            refine z_goto S 2 dX0_isFree_33 (by decide) ?_
            exact ih_2 (k + 1) (by omega) (lt_stp hI (by unfold frB; simp; omega)) (by omega) ls (lv_sub hl [0, 1, 2, 3] rfl)
          · skip
            refine z_aload_n S dX0_isFree_18 hl 1 rfl rfl ?_
            refine z_get S hG hP.1 zc_X0 1 (by decide) q1_47 rfl rfl dX0_isFree_19 ?_
            refine z_iload_n S dX0_isFree_22 hl 0 rfl rfl ?_
            refine z_ialdB S hG hP.2.2.1 (by omega) (by decide) dX0_isFree_23 ?_
            refine z_iconst S dX0_isFree_24 ?_
            have hro := rgOf_b σ k
            refine z_icmp_eq S 30 dX0_isFree_25 (by decide) (by omega) (by omega) (fun c_25 => ?_) (fun c_25 => ?_)
            · skip
              refine z_iinc (lv' := [(3, .int (zI (k + 1))), (0, .ref (a 1)), (1, .int (zI (f))), (2, .int (zI (u)))]) S dX0_isFree_30 hl 0 rfl (by decide) rfl (fun ls hl => ?_)
              refine z_goto S 2 dX0_isFree_33 (by decide) ?_
              exact ih_2 (k + 1) (by omega) (lt_stp hI (by unfold frB; simp; omega)) (by omega) ls (lv_sub hl [0, 1, 2, 3] rfl)
            · skip
              refine z_iconst S dX0_isFree_28 ?_
              exact ret _ _ _ dX0_isFree_29 (by rw [show allI (frB σ f u) 16 = false from allI_no hk.1 (show k < 16 by omega) (by unfold frB; simp; omega)]; rfl)
  exact loop_2 _ (0) (by omega) (lt_st0) (Nat.lt_succ_self _) ls (lv_sub hl [0, 1, 2, 3] rfl)
end
section
def bcR (x : Int32) : Int32 := (((((((((x) - ((((x).toUInt32 >>> ((zI (1)).toUInt32 &&& Int32.toUInt32 31)).toInt32) &&& ((1431655765 : Int32)))) &&& ((858993459 : Int32))) + (((((x) - ((((x).toUInt32 >>> ((zI (1)).toUInt32 &&& Int32.toUInt32 31)).toInt32) &&& ((1431655765 : Int32)))).toUInt32 >>> ((zI (2)).toUInt32 &&& Int32.toUInt32 31)).toInt32) &&& ((858993459 : Int32)))) + ((((((x) - ((((x).toUInt32 >>> ((zI (1)).toUInt32 &&& Int32.toUInt32 31)).toInt32) &&& ((1431655765 : Int32)))) &&& ((858993459 : Int32))) + (((((x) - ((((x).toUInt32 >>> ((zI (1)).toUInt32 &&& Int32.toUInt32 31)).toInt32) &&& ((1431655765 : Int32)))).toUInt32 >>> ((zI (2)).toUInt32 &&& Int32.toUInt32 31)).toInt32) &&& ((858993459 : Int32)))).toUInt32 >>> ((zI (4)).toUInt32 &&& Int32.toUInt32 31)).toInt32)) &&& ((252645135 : Int32))) + ((((((((x) - ((((x).toUInt32 >>> ((zI (1)).toUInt32 &&& Int32.toUInt32 31)).toInt32) &&& ((1431655765 : Int32)))) &&& ((858993459 : Int32))) + (((((x) - ((((x).toUInt32 >>> ((zI (1)).toUInt32 &&& Int32.toUInt32 31)).toInt32) &&& ((1431655765 : Int32)))).toUInt32 >>> ((zI (2)).toUInt32 &&& Int32.toUInt32 31)).toInt32) &&& ((858993459 : Int32)))) + ((((((x) - ((((x).toUInt32 >>> ((zI (1)).toUInt32 &&& Int32.toUInt32 31)).toInt32) &&& ((1431655765 : Int32)))) &&& ((858993459 : Int32))) + (((((x) - ((((x).toUInt32 >>> ((zI (1)).toUInt32 &&& Int32.toUInt32 31)).toInt32) &&& ((1431655765 : Int32)))).toUInt32 >>> ((zI (2)).toUInt32 &&& Int32.toUInt32 31)).toInt32) &&& ((858993459 : Int32)))).toUInt32 >>> ((zI (4)).toUInt32 &&& Int32.toUInt32 31)).toInt32)) &&& ((252645135 : Int32))).toUInt32 >>> ((zI (8)).toUInt32 &&& Int32.toUInt32 31)).toInt32)) + (((((((((x) - ((((x).toUInt32 >>> ((zI (1)).toUInt32 &&& Int32.toUInt32 31)).toInt32) &&& ((1431655765 : Int32)))) &&& ((858993459 : Int32))) + (((((x) - ((((x).toUInt32 >>> ((zI (1)).toUInt32 &&& Int32.toUInt32 31)).toInt32) &&& ((1431655765 : Int32)))).toUInt32 >>> ((zI (2)).toUInt32 &&& Int32.toUInt32 31)).toInt32) &&& ((858993459 : Int32)))) + ((((((x) - ((((x).toUInt32 >>> ((zI (1)).toUInt32 &&& Int32.toUInt32 31)).toInt32) &&& ((1431655765 : Int32)))) &&& ((858993459 : Int32))) + (((((x) - ((((x).toUInt32 >>> ((zI (1)).toUInt32 &&& Int32.toUInt32 31)).toInt32) &&& ((1431655765 : Int32)))).toUInt32 >>> ((zI (2)).toUInt32 &&& Int32.toUInt32 31)).toInt32) &&& ((858993459 : Int32)))).toUInt32 >>> ((zI (4)).toUInt32 &&& Int32.toUInt32 31)).toInt32)) &&& ((252645135 : Int32))) + ((((((((x) - ((((x).toUInt32 >>> ((zI (1)).toUInt32 &&& Int32.toUInt32 31)).toInt32) &&& ((1431655765 : Int32)))) &&& ((858993459 : Int32))) + (((((x) - ((((x).toUInt32 >>> ((zI (1)).toUInt32 &&& Int32.toUInt32 31)).toInt32) &&& ((1431655765 : Int32)))).toUInt32 >>> ((zI (2)).toUInt32 &&& Int32.toUInt32 31)).toInt32) &&& ((858993459 : Int32)))) + ((((((x) - ((((x).toUInt32 >>> ((zI (1)).toUInt32 &&& Int32.toUInt32 31)).toInt32) &&& ((1431655765 : Int32)))) &&& ((858993459 : Int32))) + (((((x) - ((((x).toUInt32 >>> ((zI (1)).toUInt32 &&& Int32.toUInt32 31)).toInt32) &&& ((1431655765 : Int32)))).toUInt32 >>> ((zI (2)).toUInt32 &&& Int32.toUInt32 31)).toInt32) &&& ((858993459 : Int32)))).toUInt32 >>> ((zI (4)).toUInt32 &&& Int32.toUInt32 31)).toInt32)) &&& ((252645135 : Int32))).toUInt32 >>> ((zI (8)).toUInt32 &&& Int32.toUInt32 31)).toInt32)).toUInt32 >>> ((zI (16)).toUInt32 &&& Int32.toUInt32 31)).toInt32)) &&& (zI (63)))
theorem dJ6_bitCount_0f7a4_0 : decode cJ6_bitCount_0f7a4 0 = .ok (.iload_n 0, 1) := by decide +kernel
theorem dJ6_bitCount_0f7a4_1 : decode cJ6_bitCount_0f7a4 1 = .ok (.iload_n 0, 1) := by decide +kernel
theorem dJ6_bitCount_0f7a4_2 : decode cJ6_bitCount_0f7a4 2 = .ok (.iconst 1, 1) := by decide +kernel
theorem dJ6_bitCount_0f7a4_3 : decode cJ6_bitCount_0f7a4 3 = .ok (.iushr, 1) := by decide +kernel
theorem dJ6_bitCount_0f7a4_4 : decode cJ6_bitCount_0f7a4 4 = .ok (.ldc_w 265, 3) := by decide +kernel
theorem dJ6_bitCount_0f7a4_7 : decode cJ6_bitCount_0f7a4 7 = .ok (.iand, 1) := by decide +kernel
theorem dJ6_bitCount_0f7a4_8 : decode cJ6_bitCount_0f7a4 8 = .ok (.isub, 1) := by decide +kernel
theorem dJ6_bitCount_0f7a4_9 : decode cJ6_bitCount_0f7a4 9 = .ok (.istore_n 0, 1) := by decide +kernel
theorem dJ6_bitCount_0f7a4_10 : decode cJ6_bitCount_0f7a4 10 = .ok (.iload_n 0, 1) := by decide +kernel
theorem dJ6_bitCount_0f7a4_11 : decode cJ6_bitCount_0f7a4 11 = .ok (.ldc_w 266, 3) := by decide +kernel
theorem dJ6_bitCount_0f7a4_14 : decode cJ6_bitCount_0f7a4 14 = .ok (.iand, 1) := by decide +kernel
theorem dJ6_bitCount_0f7a4_15 : decode cJ6_bitCount_0f7a4 15 = .ok (.iload_n 0, 1) := by decide +kernel
theorem dJ6_bitCount_0f7a4_16 : decode cJ6_bitCount_0f7a4 16 = .ok (.iconst 2, 1) := by decide +kernel
theorem dJ6_bitCount_0f7a4_17 : decode cJ6_bitCount_0f7a4 17 = .ok (.iushr, 1) := by decide +kernel
theorem dJ6_bitCount_0f7a4_18 : decode cJ6_bitCount_0f7a4 18 = .ok (.ldc_w 266, 3) := by decide +kernel
theorem dJ6_bitCount_0f7a4_21 : decode cJ6_bitCount_0f7a4 21 = .ok (.iand, 1) := by decide +kernel
theorem dJ6_bitCount_0f7a4_22 : decode cJ6_bitCount_0f7a4 22 = .ok (.iadd, 1) := by decide +kernel
theorem dJ6_bitCount_0f7a4_23 : decode cJ6_bitCount_0f7a4 23 = .ok (.istore_n 0, 1) := by decide +kernel
theorem dJ6_bitCount_0f7a4_24 : decode cJ6_bitCount_0f7a4 24 = .ok (.iload_n 0, 1) := by decide +kernel
theorem dJ6_bitCount_0f7a4_25 : decode cJ6_bitCount_0f7a4 25 = .ok (.iload_n 0, 1) := by decide +kernel
theorem dJ6_bitCount_0f7a4_26 : decode cJ6_bitCount_0f7a4 26 = .ok (.iconst 4, 1) := by decide +kernel
theorem dJ6_bitCount_0f7a4_27 : decode cJ6_bitCount_0f7a4 27 = .ok (.iushr, 1) := by decide +kernel
theorem dJ6_bitCount_0f7a4_28 : decode cJ6_bitCount_0f7a4 28 = .ok (.iadd, 1) := by decide +kernel
theorem dJ6_bitCount_0f7a4_29 : decode cJ6_bitCount_0f7a4 29 = .ok (.ldc_w 267, 3) := by decide +kernel
theorem dJ6_bitCount_0f7a4_32 : decode cJ6_bitCount_0f7a4 32 = .ok (.iand, 1) := by decide +kernel
theorem dJ6_bitCount_0f7a4_33 : decode cJ6_bitCount_0f7a4 33 = .ok (.istore_n 0, 1) := by decide +kernel
theorem dJ6_bitCount_0f7a4_34 : decode cJ6_bitCount_0f7a4 34 = .ok (.iload_n 0, 1) := by decide +kernel
theorem dJ6_bitCount_0f7a4_35 : decode cJ6_bitCount_0f7a4 35 = .ok (.iload_n 0, 1) := by decide +kernel
theorem dJ6_bitCount_0f7a4_36 : decode cJ6_bitCount_0f7a4 36 = .ok (.bipush 8, 2) := by decide +kernel
theorem dJ6_bitCount_0f7a4_38 : decode cJ6_bitCount_0f7a4 38 = .ok (.iushr, 1) := by decide +kernel
theorem dJ6_bitCount_0f7a4_39 : decode cJ6_bitCount_0f7a4 39 = .ok (.iadd, 1) := by decide +kernel
theorem dJ6_bitCount_0f7a4_40 : decode cJ6_bitCount_0f7a4 40 = .ok (.istore_n 0, 1) := by decide +kernel
theorem dJ6_bitCount_0f7a4_41 : decode cJ6_bitCount_0f7a4 41 = .ok (.iload_n 0, 1) := by decide +kernel
theorem dJ6_bitCount_0f7a4_42 : decode cJ6_bitCount_0f7a4 42 = .ok (.iload_n 0, 1) := by decide +kernel
theorem dJ6_bitCount_0f7a4_43 : decode cJ6_bitCount_0f7a4 43 = .ok (.bipush 16, 2) := by decide +kernel
theorem dJ6_bitCount_0f7a4_45 : decode cJ6_bitCount_0f7a4 45 = .ok (.iushr, 1) := by decide +kernel
theorem dJ6_bitCount_0f7a4_46 : decode cJ6_bitCount_0f7a4 46 = .ok (.iadd, 1) := by decide +kernel
theorem dJ6_bitCount_0f7a4_47 : decode cJ6_bitCount_0f7a4 47 = .ok (.istore_n 0, 1) := by decide +kernel
theorem dJ6_bitCount_0f7a4_48 : decode cJ6_bitCount_0f7a4 48 = .ok (.iload_n 0, 1) := by decide +kernel
theorem dJ6_bitCount_0f7a4_49 : decode cJ6_bitCount_0f7a4 49 = .ok (.bipush 63, 2) := by decide +kernel
theorem dJ6_bitCount_0f7a4_51 : decode cJ6_bitCount_0f7a4 51 = .ok (.iand, 1) := by decide +kernel
theorem dJ6_bitCount_0f7a4_52 : decode cJ6_bitCount_0f7a4 52 = .ok (.ireturn, 1) := by decide +kernel
theorem q1_203 : (Jvm.Cond.constant "java/lang/Integer" (265 : Nat) (1431655765 : Int32)) ∈ lw_g := zg_of (zin1 (List.mem_of_getElem? (i := 203) rfl)) rfl
theorem q1_204 : (Jvm.Cond.constant "java/lang/Integer" (266 : Nat) (858993459 : Int32)) ∈ lw_g := zg_of (zin1 (List.mem_of_getElem? (i := 204) rfl)) rfl
theorem q1_205 : (Jvm.Cond.constant "java/lang/Integer" (267 : Nat) (252645135 : Int32)) ∈ lw_g := zg_of (zin1 (List.mem_of_getElem? (i := 205) rfl)) rfl
theorem q1_202 : (Jvm.Cond.code ({ cls := "java/lang/Integer", name := "bitCount", desc := "(I)I" } : Jvm.MethodName) prog_17_method_49_code (1 : Nat) (Option.some Jvm.ClassFile.FieldType.int)) ∈ lw_g := zg_of (zin1 (List.mem_of_getElem? (i := 202) rfl)) rfl
theorem q1_22 : (Jvm.Cond.initialized "java/lang/Integer") ∈ lw_g := zg_of (zin1 (List.mem_of_getElem? (i := 22) rfl)) rfl
theorem q1_201 : (Jvm.Cond.static ({ cls := "java/lang/Integer", name := "bitCount", desc := "(I)I" } : Jvm.MethodName)) ∈ lw_g := zg_of (zin1 (List.mem_of_getElem? (i := 201) rfl)) rfl
theorem ok_J6_bitCount_0f7a4 : zOS yJ6_bitCount_0f7a4 cJ6_bitCount_0f7a4 1 ((Option.some Jvm.ClassFile.FieldType.int)) 1 := ⟨⟨q1_202, q1_22, by decide, by decide, by decide +kernel⟩, q1_201⟩
set_option maxHeartbeats 4000000 in
set_option maxRecDepth 100000 in
theorem c_bitCount (l : Launch) (G : zG) (x : Int32) : Met l yJ6_bitCount_0f7a4 (wq yJ6_bitCount_0f7a4 cJ6_bitCount_0f7a4 1 ((Option.some Jvm.ClassFile.FieldType.int))) (rmR 0 0) (va_Pc [.int (x)] (zK G (fun _ => True))) (zQ (some (.int ((bcR x))))) 0 0 zF := by
  refine z_enterI (by decide +kernel) (Nat.le_of_ble_eq_true rfl) ?_
  intro p env s m below meth cod Q S hG hP ret ls hl
  have hl : lv_has ls 1 [(0, .int (x))] := hl
  refine z_iload_n S dJ6_bitCount_0f7a4_0 hl 0 rfl rfl ?_
  refine z_iload_n S dJ6_bitCount_0f7a4_1 hl 0 rfl rfl ?_
  refine z_iconst S dJ6_bitCount_0f7a4_2 ?_
  refine lv_iushr S.1 S.2.1 dJ6_bitCount_0f7a4_3 rfl ?_
  refine lv_ldcw S.1 S.2.1 S.2.2.2.1 (S.2.2.2.2 _ q1_203) dJ6_bitCount_0f7a4_4 ?_
  refine lv_iand S.1 S.2.1 dJ6_bitCount_0f7a4_7 ?_
  refine lv_isub S.1 S.2.1 dJ6_bitCount_0f7a4_8 ?_
  refine z_istore_n (lv' := [(0, .int ((x) - ((((x).toUInt32 >>> ((zI (1)).toUInt32 &&& Int32.toUInt32 31)).toInt32) &&& ((1431655765 : Int32)))))]) S dJ6_bitCount_0f7a4_9 hl rfl (by decide) rfl (fun ls hl => ?_)
  refine z_iload_n S dJ6_bitCount_0f7a4_10 hl 0 rfl rfl ?_
  refine lv_ldcw S.1 S.2.1 S.2.2.2.1 (S.2.2.2.2 _ q1_204) dJ6_bitCount_0f7a4_11 ?_
  refine lv_iand S.1 S.2.1 dJ6_bitCount_0f7a4_14 ?_
  refine z_iload_n S dJ6_bitCount_0f7a4_15 hl 0 rfl rfl ?_
  refine z_iconst S dJ6_bitCount_0f7a4_16 ?_
  refine lv_iushr S.1 S.2.1 dJ6_bitCount_0f7a4_17 rfl ?_
  refine lv_ldcw S.1 S.2.1 S.2.2.2.1 (S.2.2.2.2 _ q1_204) dJ6_bitCount_0f7a4_18 ?_
  refine lv_iand S.1 S.2.1 dJ6_bitCount_0f7a4_21 ?_
  refine lv_iadd S.1 S.2.1 dJ6_bitCount_0f7a4_22 ?_
  refine z_istore_n (lv' := [(0, .int ((((x) - ((((x).toUInt32 >>> ((zI (1)).toUInt32 &&& Int32.toUInt32 31)).toInt32) &&& ((1431655765 : Int32)))) &&& ((858993459 : Int32))) + (((((x) - ((((x).toUInt32 >>> ((zI (1)).toUInt32 &&& Int32.toUInt32 31)).toInt32) &&& ((1431655765 : Int32)))).toUInt32 >>> ((zI (2)).toUInt32 &&& Int32.toUInt32 31)).toInt32) &&& ((858993459 : Int32)))))]) S dJ6_bitCount_0f7a4_23 hl rfl (by decide) rfl (fun ls hl => ?_)
  refine z_iload_n S dJ6_bitCount_0f7a4_24 hl 0 rfl rfl ?_
  refine z_iload_n S dJ6_bitCount_0f7a4_25 hl 0 rfl rfl ?_
  refine z_iconst S dJ6_bitCount_0f7a4_26 ?_
  refine lv_iushr S.1 S.2.1 dJ6_bitCount_0f7a4_27 rfl ?_
  refine lv_iadd S.1 S.2.1 dJ6_bitCount_0f7a4_28 ?_
  refine lv_ldcw S.1 S.2.1 S.2.2.2.1 (S.2.2.2.2 _ q1_205) dJ6_bitCount_0f7a4_29 ?_
  refine lv_iand S.1 S.2.1 dJ6_bitCount_0f7a4_32 ?_
  refine z_istore_n (lv' := [(0, .int ((((((x) - ((((x).toUInt32 >>> ((zI (1)).toUInt32 &&& Int32.toUInt32 31)).toInt32) &&& ((1431655765 : Int32)))) &&& ((858993459 : Int32))) + (((((x) - ((((x).toUInt32 >>> ((zI (1)).toUInt32 &&& Int32.toUInt32 31)).toInt32) &&& ((1431655765 : Int32)))).toUInt32 >>> ((zI (2)).toUInt32 &&& Int32.toUInt32 31)).toInt32) &&& ((858993459 : Int32)))) + ((((((x) - ((((x).toUInt32 >>> ((zI (1)).toUInt32 &&& Int32.toUInt32 31)).toInt32) &&& ((1431655765 : Int32)))) &&& ((858993459 : Int32))) + (((((x) - ((((x).toUInt32 >>> ((zI (1)).toUInt32 &&& Int32.toUInt32 31)).toInt32) &&& ((1431655765 : Int32)))).toUInt32 >>> ((zI (2)).toUInt32 &&& Int32.toUInt32 31)).toInt32) &&& ((858993459 : Int32)))).toUInt32 >>> ((zI (4)).toUInt32 &&& Int32.toUInt32 31)).toInt32)) &&& ((252645135 : Int32))))]) S dJ6_bitCount_0f7a4_33 hl rfl (by decide) rfl (fun ls hl => ?_)
  refine z_iload_n S dJ6_bitCount_0f7a4_34 hl 0 rfl rfl ?_
  refine z_iload_n S dJ6_bitCount_0f7a4_35 hl 0 rfl rfl ?_
  refine z_bipush S dJ6_bitCount_0f7a4_36 rfl ?_
  refine lv_iushr S.1 S.2.1 dJ6_bitCount_0f7a4_38 rfl ?_
  refine lv_iadd S.1 S.2.1 dJ6_bitCount_0f7a4_39 ?_
  refine z_istore_n (lv' := [(0, .int (((((((x) - ((((x).toUInt32 >>> ((zI (1)).toUInt32 &&& Int32.toUInt32 31)).toInt32) &&& ((1431655765 : Int32)))) &&& ((858993459 : Int32))) + (((((x) - ((((x).toUInt32 >>> ((zI (1)).toUInt32 &&& Int32.toUInt32 31)).toInt32) &&& ((1431655765 : Int32)))).toUInt32 >>> ((zI (2)).toUInt32 &&& Int32.toUInt32 31)).toInt32) &&& ((858993459 : Int32)))) + ((((((x) - ((((x).toUInt32 >>> ((zI (1)).toUInt32 &&& Int32.toUInt32 31)).toInt32) &&& ((1431655765 : Int32)))) &&& ((858993459 : Int32))) + (((((x) - ((((x).toUInt32 >>> ((zI (1)).toUInt32 &&& Int32.toUInt32 31)).toInt32) &&& ((1431655765 : Int32)))).toUInt32 >>> ((zI (2)).toUInt32 &&& Int32.toUInt32 31)).toInt32) &&& ((858993459 : Int32)))).toUInt32 >>> ((zI (4)).toUInt32 &&& Int32.toUInt32 31)).toInt32)) &&& ((252645135 : Int32))) + ((((((((x) - ((((x).toUInt32 >>> ((zI (1)).toUInt32 &&& Int32.toUInt32 31)).toInt32) &&& ((1431655765 : Int32)))) &&& ((858993459 : Int32))) + (((((x) - ((((x).toUInt32 >>> ((zI (1)).toUInt32 &&& Int32.toUInt32 31)).toInt32) &&& ((1431655765 : Int32)))).toUInt32 >>> ((zI (2)).toUInt32 &&& Int32.toUInt32 31)).toInt32) &&& ((858993459 : Int32)))) + ((((((x) - ((((x).toUInt32 >>> ((zI (1)).toUInt32 &&& Int32.toUInt32 31)).toInt32) &&& ((1431655765 : Int32)))) &&& ((858993459 : Int32))) + (((((x) - ((((x).toUInt32 >>> ((zI (1)).toUInt32 &&& Int32.toUInt32 31)).toInt32) &&& ((1431655765 : Int32)))).toUInt32 >>> ((zI (2)).toUInt32 &&& Int32.toUInt32 31)).toInt32) &&& ((858993459 : Int32)))).toUInt32 >>> ((zI (4)).toUInt32 &&& Int32.toUInt32 31)).toInt32)) &&& ((252645135 : Int32))).toUInt32 >>> ((zI (8)).toUInt32 &&& Int32.toUInt32 31)).toInt32)))]) S dJ6_bitCount_0f7a4_40 hl rfl (by decide) rfl (fun ls hl => ?_)
  refine z_iload_n S dJ6_bitCount_0f7a4_41 hl 0 rfl rfl ?_
  refine z_iload_n S dJ6_bitCount_0f7a4_42 hl 0 rfl rfl ?_
  refine z_bipush S dJ6_bitCount_0f7a4_43 rfl ?_
  refine lv_iushr S.1 S.2.1 dJ6_bitCount_0f7a4_45 rfl ?_
  refine lv_iadd S.1 S.2.1 dJ6_bitCount_0f7a4_46 ?_
  refine z_istore_n (lv' := [(0, .int ((((((((x) - ((((x).toUInt32 >>> ((zI (1)).toUInt32 &&& Int32.toUInt32 31)).toInt32) &&& ((1431655765 : Int32)))) &&& ((858993459 : Int32))) + (((((x) - ((((x).toUInt32 >>> ((zI (1)).toUInt32 &&& Int32.toUInt32 31)).toInt32) &&& ((1431655765 : Int32)))).toUInt32 >>> ((zI (2)).toUInt32 &&& Int32.toUInt32 31)).toInt32) &&& ((858993459 : Int32)))) + ((((((x) - ((((x).toUInt32 >>> ((zI (1)).toUInt32 &&& Int32.toUInt32 31)).toInt32) &&& ((1431655765 : Int32)))) &&& ((858993459 : Int32))) + (((((x) - ((((x).toUInt32 >>> ((zI (1)).toUInt32 &&& Int32.toUInt32 31)).toInt32) &&& ((1431655765 : Int32)))).toUInt32 >>> ((zI (2)).toUInt32 &&& Int32.toUInt32 31)).toInt32) &&& ((858993459 : Int32)))).toUInt32 >>> ((zI (4)).toUInt32 &&& Int32.toUInt32 31)).toInt32)) &&& ((252645135 : Int32))) + ((((((((x) - ((((x).toUInt32 >>> ((zI (1)).toUInt32 &&& Int32.toUInt32 31)).toInt32) &&& ((1431655765 : Int32)))) &&& ((858993459 : Int32))) + (((((x) - ((((x).toUInt32 >>> ((zI (1)).toUInt32 &&& Int32.toUInt32 31)).toInt32) &&& ((1431655765 : Int32)))).toUInt32 >>> ((zI (2)).toUInt32 &&& Int32.toUInt32 31)).toInt32) &&& ((858993459 : Int32)))) + ((((((x) - ((((x).toUInt32 >>> ((zI (1)).toUInt32 &&& Int32.toUInt32 31)).toInt32) &&& ((1431655765 : Int32)))) &&& ((858993459 : Int32))) + (((((x) - ((((x).toUInt32 >>> ((zI (1)).toUInt32 &&& Int32.toUInt32 31)).toInt32) &&& ((1431655765 : Int32)))).toUInt32 >>> ((zI (2)).toUInt32 &&& Int32.toUInt32 31)).toInt32) &&& ((858993459 : Int32)))).toUInt32 >>> ((zI (4)).toUInt32 &&& Int32.toUInt32 31)).toInt32)) &&& ((252645135 : Int32))).toUInt32 >>> ((zI (8)).toUInt32 &&& Int32.toUInt32 31)).toInt32)) + (((((((((x) - ((((x).toUInt32 >>> ((zI (1)).toUInt32 &&& Int32.toUInt32 31)).toInt32) &&& ((1431655765 : Int32)))) &&& ((858993459 : Int32))) + (((((x) - ((((x).toUInt32 >>> ((zI (1)).toUInt32 &&& Int32.toUInt32 31)).toInt32) &&& ((1431655765 : Int32)))).toUInt32 >>> ((zI (2)).toUInt32 &&& Int32.toUInt32 31)).toInt32) &&& ((858993459 : Int32)))) + ((((((x) - ((((x).toUInt32 >>> ((zI (1)).toUInt32 &&& Int32.toUInt32 31)).toInt32) &&& ((1431655765 : Int32)))) &&& ((858993459 : Int32))) + (((((x) - ((((x).toUInt32 >>> ((zI (1)).toUInt32 &&& Int32.toUInt32 31)).toInt32) &&& ((1431655765 : Int32)))).toUInt32 >>> ((zI (2)).toUInt32 &&& Int32.toUInt32 31)).toInt32) &&& ((858993459 : Int32)))).toUInt32 >>> ((zI (4)).toUInt32 &&& Int32.toUInt32 31)).toInt32)) &&& ((252645135 : Int32))) + ((((((((x) - ((((x).toUInt32 >>> ((zI (1)).toUInt32 &&& Int32.toUInt32 31)).toInt32) &&& ((1431655765 : Int32)))) &&& ((858993459 : Int32))) + (((((x) - ((((x).toUInt32 >>> ((zI (1)).toUInt32 &&& Int32.toUInt32 31)).toInt32) &&& ((1431655765 : Int32)))).toUInt32 >>> ((zI (2)).toUInt32 &&& Int32.toUInt32 31)).toInt32) &&& ((858993459 : Int32)))) + ((((((x) - ((((x).toUInt32 >>> ((zI (1)).toUInt32 &&& Int32.toUInt32 31)).toInt32) &&& ((1431655765 : Int32)))) &&& ((858993459 : Int32))) + (((((x) - ((((x).toUInt32 >>> ((zI (1)).toUInt32 &&& Int32.toUInt32 31)).toInt32) &&& ((1431655765 : Int32)))).toUInt32 >>> ((zI (2)).toUInt32 &&& Int32.toUInt32 31)).toInt32) &&& ((858993459 : Int32)))).toUInt32 >>> ((zI (4)).toUInt32 &&& Int32.toUInt32 31)).toInt32)) &&& ((252645135 : Int32))).toUInt32 >>> ((zI (8)).toUInt32 &&& Int32.toUInt32 31)).toInt32)).toUInt32 >>> ((zI (16)).toUInt32 &&& Int32.toUInt32 31)).toInt32)))]) S dJ6_bitCount_0f7a4_47 hl rfl (by decide) rfl (fun ls hl => ?_)
  refine z_iload_n S dJ6_bitCount_0f7a4_48 hl 0 rfl rfl ?_
  refine z_bipush S dJ6_bitCount_0f7a4_49 rfl ?_
  refine lv_iand S.1 S.2.1 dJ6_bitCount_0f7a4_51 ?_
  exact ret _ _ _ dJ6_bitCount_0f7a4_52 (rfl)
def bcL (x : Int64) : Int32 := (((((((((((x) - ((((x).toUInt64 >>> ((zI (1)).toInt64.toUInt64 &&& Int64.toUInt64 63)).toInt64) &&& (6148914691236517205))) &&& (3689348814741910323)) + (((((x) - ((((x).toUInt64 >>> ((zI (1)).toInt64.toUInt64 &&& Int64.toUInt64 63)).toInt64) &&& (6148914691236517205))).toUInt64 >>> ((zI (2)).toInt64.toUInt64 &&& Int64.toUInt64 63)).toInt64) &&& (3689348814741910323))) + ((((((x) - ((((x).toUInt64 >>> ((zI (1)).toInt64.toUInt64 &&& Int64.toUInt64 63)).toInt64) &&& (6148914691236517205))) &&& (3689348814741910323)) + (((((x) - ((((x).toUInt64 >>> ((zI (1)).toInt64.toUInt64 &&& Int64.toUInt64 63)).toInt64) &&& (6148914691236517205))).toUInt64 >>> ((zI (2)).toInt64.toUInt64 &&& Int64.toUInt64 63)).toInt64) &&& (3689348814741910323))).toUInt64 >>> ((zI (4)).toInt64.toUInt64 &&& Int64.toUInt64 63)).toInt64)) &&& (1085102592571150095)) + ((((((((x) - ((((x).toUInt64 >>> ((zI (1)).toInt64.toUInt64 &&& Int64.toUInt64 63)).toInt64) &&& (6148914691236517205))) &&& (3689348814741910323)) + (((((x) - ((((x).toUInt64 >>> ((zI (1)).toInt64.toUInt64 &&& Int64.toUInt64 63)).toInt64) &&& (6148914691236517205))).toUInt64 >>> ((zI (2)).toInt64.toUInt64 &&& Int64.toUInt64 63)).toInt64) &&& (3689348814741910323))) + ((((((x) - ((((x).toUInt64 >>> ((zI (1)).toInt64.toUInt64 &&& Int64.toUInt64 63)).toInt64) &&& (6148914691236517205))) &&& (3689348814741910323)) + (((((x) - ((((x).toUInt64 >>> ((zI (1)).toInt64.toUInt64 &&& Int64.toUInt64 63)).toInt64) &&& (6148914691236517205))).toUInt64 >>> ((zI (2)).toInt64.toUInt64 &&& Int64.toUInt64 63)).toInt64) &&& (3689348814741910323))).toUInt64 >>> ((zI (4)).toInt64.toUInt64 &&& Int64.toUInt64 63)).toInt64)) &&& (1085102592571150095)).toUInt64 >>> ((zI (8)).toInt64.toUInt64 &&& Int64.toUInt64 63)).toInt64)) + (((((((((x) - ((((x).toUInt64 >>> ((zI (1)).toInt64.toUInt64 &&& Int64.toUInt64 63)).toInt64) &&& (6148914691236517205))) &&& (3689348814741910323)) + (((((x) - ((((x).toUInt64 >>> ((zI (1)).toInt64.toUInt64 &&& Int64.toUInt64 63)).toInt64) &&& (6148914691236517205))).toUInt64 >>> ((zI (2)).toInt64.toUInt64 &&& Int64.toUInt64 63)).toInt64) &&& (3689348814741910323))) + ((((((x) - ((((x).toUInt64 >>> ((zI (1)).toInt64.toUInt64 &&& Int64.toUInt64 63)).toInt64) &&& (6148914691236517205))) &&& (3689348814741910323)) + (((((x) - ((((x).toUInt64 >>> ((zI (1)).toInt64.toUInt64 &&& Int64.toUInt64 63)).toInt64) &&& (6148914691236517205))).toUInt64 >>> ((zI (2)).toInt64.toUInt64 &&& Int64.toUInt64 63)).toInt64) &&& (3689348814741910323))).toUInt64 >>> ((zI (4)).toInt64.toUInt64 &&& Int64.toUInt64 63)).toInt64)) &&& (1085102592571150095)) + ((((((((x) - ((((x).toUInt64 >>> ((zI (1)).toInt64.toUInt64 &&& Int64.toUInt64 63)).toInt64) &&& (6148914691236517205))) &&& (3689348814741910323)) + (((((x) - ((((x).toUInt64 >>> ((zI (1)).toInt64.toUInt64 &&& Int64.toUInt64 63)).toInt64) &&& (6148914691236517205))).toUInt64 >>> ((zI (2)).toInt64.toUInt64 &&& Int64.toUInt64 63)).toInt64) &&& (3689348814741910323))) + ((((((x) - ((((x).toUInt64 >>> ((zI (1)).toInt64.toUInt64 &&& Int64.toUInt64 63)).toInt64) &&& (6148914691236517205))) &&& (3689348814741910323)) + (((((x) - ((((x).toUInt64 >>> ((zI (1)).toInt64.toUInt64 &&& Int64.toUInt64 63)).toInt64) &&& (6148914691236517205))).toUInt64 >>> ((zI (2)).toInt64.toUInt64 &&& Int64.toUInt64 63)).toInt64) &&& (3689348814741910323))).toUInt64 >>> ((zI (4)).toInt64.toUInt64 &&& Int64.toUInt64 63)).toInt64)) &&& (1085102592571150095)).toUInt64 >>> ((zI (8)).toInt64.toUInt64 &&& Int64.toUInt64 63)).toInt64)).toUInt64 >>> ((zI (16)).toInt64.toUInt64 &&& Int64.toUInt64 63)).toInt64)) + ((((((((((x) - ((((x).toUInt64 >>> ((zI (1)).toInt64.toUInt64 &&& Int64.toUInt64 63)).toInt64) &&& (6148914691236517205))) &&& (3689348814741910323)) + (((((x) - ((((x).toUInt64 >>> ((zI (1)).toInt64.toUInt64 &&& Int64.toUInt64 63)).toInt64) &&& (6148914691236517205))).toUInt64 >>> ((zI (2)).toInt64.toUInt64 &&& Int64.toUInt64 63)).toInt64) &&& (3689348814741910323))) + ((((((x) - ((((x).toUInt64 >>> ((zI (1)).toInt64.toUInt64 &&& Int64.toUInt64 63)).toInt64) &&& (6148914691236517205))) &&& (3689348814741910323)) + (((((x) - ((((x).toUInt64 >>> ((zI (1)).toInt64.toUInt64 &&& Int64.toUInt64 63)).toInt64) &&& (6148914691236517205))).toUInt64 >>> ((zI (2)).toInt64.toUInt64 &&& Int64.toUInt64 63)).toInt64) &&& (3689348814741910323))).toUInt64 >>> ((zI (4)).toInt64.toUInt64 &&& Int64.toUInt64 63)).toInt64)) &&& (1085102592571150095)) + ((((((((x) - ((((x).toUInt64 >>> ((zI (1)).toInt64.toUInt64 &&& Int64.toUInt64 63)).toInt64) &&& (6148914691236517205))) &&& (3689348814741910323)) + (((((x) - ((((x).toUInt64 >>> ((zI (1)).toInt64.toUInt64 &&& Int64.toUInt64 63)).toInt64) &&& (6148914691236517205))).toUInt64 >>> ((zI (2)).toInt64.toUInt64 &&& Int64.toUInt64 63)).toInt64) &&& (3689348814741910323))) + ((((((x) - ((((x).toUInt64 >>> ((zI (1)).toInt64.toUInt64 &&& Int64.toUInt64 63)).toInt64) &&& (6148914691236517205))) &&& (3689348814741910323)) + (((((x) - ((((x).toUInt64 >>> ((zI (1)).toInt64.toUInt64 &&& Int64.toUInt64 63)).toInt64) &&& (6148914691236517205))).toUInt64 >>> ((zI (2)).toInt64.toUInt64 &&& Int64.toUInt64 63)).toInt64) &&& (3689348814741910323))).toUInt64 >>> ((zI (4)).toInt64.toUInt64 &&& Int64.toUInt64 63)).toInt64)) &&& (1085102592571150095)).toUInt64 >>> ((zI (8)).toInt64.toUInt64 &&& Int64.toUInt64 63)).toInt64)) + (((((((((x) - ((((x).toUInt64 >>> ((zI (1)).toInt64.toUInt64 &&& Int64.toUInt64 63)).toInt64) &&& (6148914691236517205))) &&& (3689348814741910323)) + (((((x) - ((((x).toUInt64 >>> ((zI (1)).toInt64.toUInt64 &&& Int64.toUInt64 63)).toInt64) &&& (6148914691236517205))).toUInt64 >>> ((zI (2)).toInt64.toUInt64 &&& Int64.toUInt64 63)).toInt64) &&& (3689348814741910323))) + ((((((x) - ((((x).toUInt64 >>> ((zI (1)).toInt64.toUInt64 &&& Int64.toUInt64 63)).toInt64) &&& (6148914691236517205))) &&& (3689348814741910323)) + (((((x) - ((((x).toUInt64 >>> ((zI (1)).toInt64.toUInt64 &&& Int64.toUInt64 63)).toInt64) &&& (6148914691236517205))).toUInt64 >>> ((zI (2)).toInt64.toUInt64 &&& Int64.toUInt64 63)).toInt64) &&& (3689348814741910323))).toUInt64 >>> ((zI (4)).toInt64.toUInt64 &&& Int64.toUInt64 63)).toInt64)) &&& (1085102592571150095)) + ((((((((x) - ((((x).toUInt64 >>> ((zI (1)).toInt64.toUInt64 &&& Int64.toUInt64 63)).toInt64) &&& (6148914691236517205))) &&& (3689348814741910323)) + (((((x) - ((((x).toUInt64 >>> ((zI (1)).toInt64.toUInt64 &&& Int64.toUInt64 63)).toInt64) &&& (6148914691236517205))).toUInt64 >>> ((zI (2)).toInt64.toUInt64 &&& Int64.toUInt64 63)).toInt64) &&& (3689348814741910323))) + ((((((x) - ((((x).toUInt64 >>> ((zI (1)).toInt64.toUInt64 &&& Int64.toUInt64 63)).toInt64) &&& (6148914691236517205))) &&& (3689348814741910323)) + (((((x) - ((((x).toUInt64 >>> ((zI (1)).toInt64.toUInt64 &&& Int64.toUInt64 63)).toInt64) &&& (6148914691236517205))).toUInt64 >>> ((zI (2)).toInt64.toUInt64 &&& Int64.toUInt64 63)).toInt64) &&& (3689348814741910323))).toUInt64 >>> ((zI (4)).toInt64.toUInt64 &&& Int64.toUInt64 63)).toInt64)) &&& (1085102592571150095)).toUInt64 >>> ((zI (8)).toInt64.toUInt64 &&& Int64.toUInt64 63)).toInt64)).toUInt64 >>> ((zI (16)).toInt64.toUInt64 &&& Int64.toUInt64 63)).toInt64)).toUInt64 >>> ((zI (32)).toInt64.toUInt64 &&& Int64.toUInt64 63)).toInt64)).toInt32) &&& (zI (127)))
theorem dJ13_bitCount_95d88_0 : decode cJ13_bitCount_95d88 0 = .ok (.lload_n 0, 1) := by decide +kernel
theorem dJ13_bitCount_95d88_1 : decode cJ13_bitCount_95d88 1 = .ok (.lload_n 0, 1) := by decide +kernel
theorem dJ13_bitCount_95d88_2 : decode cJ13_bitCount_95d88 2 = .ok (.iconst 1, 1) := by decide +kernel
theorem dJ13_bitCount_95d88_3 : decode cJ13_bitCount_95d88 3 = .ok (.lushr, 1) := by decide +kernel
theorem dJ13_bitCount_95d88_4 : decode cJ13_bitCount_95d88 4 = .ok (.ldc2_w 314, 3) := by decide +kernel
theorem dJ13_bitCount_95d88_7 : decode cJ13_bitCount_95d88 7 = .ok (.land, 1) := by decide +kernel
theorem dJ13_bitCount_95d88_8 : decode cJ13_bitCount_95d88 8 = .ok (.lsub, 1) := by decide +kernel
theorem dJ13_bitCount_95d88_9 : decode cJ13_bitCount_95d88 9 = .ok (.lstore_n 0, 1) := by decide +kernel
theorem dJ13_bitCount_95d88_10 : decode cJ13_bitCount_95d88 10 = .ok (.lload_n 0, 1) := by decide +kernel
theorem dJ13_bitCount_95d88_11 : decode cJ13_bitCount_95d88 11 = .ok (.ldc2_w 316, 3) := by decide +kernel
theorem dJ13_bitCount_95d88_14 : decode cJ13_bitCount_95d88 14 = .ok (.land, 1) := by decide +kernel
theorem dJ13_bitCount_95d88_15 : decode cJ13_bitCount_95d88 15 = .ok (.lload_n 0, 1) := by decide +kernel
theorem dJ13_bitCount_95d88_16 : decode cJ13_bitCount_95d88 16 = .ok (.iconst 2, 1) := by decide +kernel
theorem dJ13_bitCount_95d88_17 : decode cJ13_bitCount_95d88 17 = .ok (.lushr, 1) := by decide +kernel
theorem dJ13_bitCount_95d88_18 : decode cJ13_bitCount_95d88 18 = .ok (.ldc2_w 316, 3) := by decide +kernel
theorem dJ13_bitCount_95d88_21 : decode cJ13_bitCount_95d88 21 = .ok (.land, 1) := by decide +kernel
theorem dJ13_bitCount_95d88_22 : decode cJ13_bitCount_95d88 22 = .ok (.ladd, 1) := by decide +kernel
theorem dJ13_bitCount_95d88_23 : decode cJ13_bitCount_95d88 23 = .ok (.lstore_n 0, 1) := by decide +kernel
theorem dJ13_bitCount_95d88_24 : decode cJ13_bitCount_95d88 24 = .ok (.lload_n 0, 1) := by decide +kernel
theorem dJ13_bitCount_95d88_25 : decode cJ13_bitCount_95d88 25 = .ok (.lload_n 0, 1) := by decide +kernel
theorem dJ13_bitCount_95d88_26 : decode cJ13_bitCount_95d88 26 = .ok (.iconst 4, 1) := by decide +kernel
theorem dJ13_bitCount_95d88_27 : decode cJ13_bitCount_95d88 27 = .ok (.lushr, 1) := by decide +kernel
theorem dJ13_bitCount_95d88_28 : decode cJ13_bitCount_95d88 28 = .ok (.ladd, 1) := by decide +kernel
theorem dJ13_bitCount_95d88_29 : decode cJ13_bitCount_95d88 29 = .ok (.ldc2_w 318, 3) := by decide +kernel
theorem dJ13_bitCount_95d88_32 : decode cJ13_bitCount_95d88 32 = .ok (.land, 1) := by decide +kernel
theorem dJ13_bitCount_95d88_33 : decode cJ13_bitCount_95d88 33 = .ok (.lstore_n 0, 1) := by decide +kernel
theorem dJ13_bitCount_95d88_34 : decode cJ13_bitCount_95d88 34 = .ok (.lload_n 0, 1) := by decide +kernel
theorem dJ13_bitCount_95d88_35 : decode cJ13_bitCount_95d88 35 = .ok (.lload_n 0, 1) := by decide +kernel
theorem dJ13_bitCount_95d88_36 : decode cJ13_bitCount_95d88 36 = .ok (.bipush 8, 2) := by decide +kernel
theorem dJ13_bitCount_95d88_38 : decode cJ13_bitCount_95d88 38 = .ok (.lushr, 1) := by decide +kernel
theorem dJ13_bitCount_95d88_39 : decode cJ13_bitCount_95d88 39 = .ok (.ladd, 1) := by decide +kernel
theorem dJ13_bitCount_95d88_40 : decode cJ13_bitCount_95d88 40 = .ok (.lstore_n 0, 1) := by decide +kernel
theorem dJ13_bitCount_95d88_41 : decode cJ13_bitCount_95d88 41 = .ok (.lload_n 0, 1) := by decide +kernel
theorem dJ13_bitCount_95d88_42 : decode cJ13_bitCount_95d88 42 = .ok (.lload_n 0, 1) := by decide +kernel
theorem dJ13_bitCount_95d88_43 : decode cJ13_bitCount_95d88 43 = .ok (.bipush 16, 2) := by decide +kernel
theorem dJ13_bitCount_95d88_45 : decode cJ13_bitCount_95d88 45 = .ok (.lushr, 1) := by decide +kernel
theorem dJ13_bitCount_95d88_46 : decode cJ13_bitCount_95d88 46 = .ok (.ladd, 1) := by decide +kernel
theorem dJ13_bitCount_95d88_47 : decode cJ13_bitCount_95d88 47 = .ok (.lstore_n 0, 1) := by decide +kernel
theorem dJ13_bitCount_95d88_48 : decode cJ13_bitCount_95d88 48 = .ok (.lload_n 0, 1) := by decide +kernel
theorem dJ13_bitCount_95d88_49 : decode cJ13_bitCount_95d88 49 = .ok (.lload_n 0, 1) := by decide +kernel
theorem dJ13_bitCount_95d88_50 : decode cJ13_bitCount_95d88 50 = .ok (.bipush 32, 2) := by decide +kernel
theorem dJ13_bitCount_95d88_52 : decode cJ13_bitCount_95d88 52 = .ok (.lushr, 1) := by decide +kernel
theorem dJ13_bitCount_95d88_53 : decode cJ13_bitCount_95d88 53 = .ok (.ladd, 1) := by decide +kernel
theorem dJ13_bitCount_95d88_54 : decode cJ13_bitCount_95d88 54 = .ok (.lstore_n 0, 1) := by decide +kernel
theorem dJ13_bitCount_95d88_55 : decode cJ13_bitCount_95d88 55 = .ok (.lload_n 0, 1) := by decide +kernel
theorem dJ13_bitCount_95d88_56 : decode cJ13_bitCount_95d88 56 = .ok (.l2i, 1) := by decide +kernel
theorem dJ13_bitCount_95d88_57 : decode cJ13_bitCount_95d88 57 = .ok (.bipush 127, 2) := by decide +kernel
theorem dJ13_bitCount_95d88_59 : decode cJ13_bitCount_95d88 59 = .ok (.iand, 1) := by decide +kernel
theorem dJ13_bitCount_95d88_60 : decode cJ13_bitCount_95d88 60 = .ok (.ireturn, 1) := by decide +kernel
theorem q2_17 : (Jvm.Cond.constantLong "java/lang/Long" (314 : Nat) (6148914691236517205 : Int64)) ∈ lw_g := zg_of (zin2 (List.mem_of_getElem? (i := 17) rfl)) rfl
theorem q2_18 : (Jvm.Cond.constantLong "java/lang/Long" (316 : Nat) (3689348814741910323 : Int64)) ∈ lw_g := zg_of (zin2 (List.mem_of_getElem? (i := 18) rfl)) rfl
theorem q2_19 : (Jvm.Cond.constantLong "java/lang/Long" (318 : Nat) (1085102592571150095 : Int64)) ∈ lw_g := zg_of (zin2 (List.mem_of_getElem? (i := 19) rfl)) rfl
theorem q2_16 : (Jvm.Cond.code ({ cls := "java/lang/Long", name := "bitCount", desc := "(J)I" } : Jvm.MethodName) prog_19_method_50_code (2 : Nat) (Option.some Jvm.ClassFile.FieldType.int)) ∈ lw_g := zg_of (zin2 (List.mem_of_getElem? (i := 16) rfl)) rfl
theorem q1_23 : (Jvm.Cond.initialized "java/lang/Long") ∈ lw_g := zg_of (zin1 (List.mem_of_getElem? (i := 23) rfl)) rfl
theorem q2_15 : (Jvm.Cond.static ({ cls := "java/lang/Long", name := "bitCount", desc := "(J)I" } : Jvm.MethodName)) ∈ lw_g := zg_of (zin2 (List.mem_of_getElem? (i := 15) rfl)) rfl
theorem ok_J13_bitCount_95d88 : zOS yJ13_bitCount_95d88 cJ13_bitCount_95d88 2 ((Option.some Jvm.ClassFile.FieldType.int)) 1 := ⟨⟨q2_16, q1_23, by decide, by decide, by decide +kernel⟩, q2_15⟩
set_option maxHeartbeats 4000000 in
set_option maxRecDepth 100000 in
theorem c_bitCountL (l : Launch) (G : zG) (x : Int64) : Met l yJ13_bitCount_95d88 (wq yJ13_bitCount_95d88 cJ13_bitCount_95d88 2 ((Option.some Jvm.ClassFile.FieldType.int))) (rmR 0 0) (va_Pc [.long (x)] (zK G (fun _ => True))) (zQ (some (.int ((bcL x))))) 0 0 zF := by
  refine z_enterI (by decide +kernel) (Nat.le_of_ble_eq_true rfl) ?_
  intro p env s m below meth cod Q S hG hP ret ls hl
  have hl : lv_has ls 2 [(0, .long (x))] := hl
  refine lv_lload_n S.1 S.2.1 dJ13_bitCount_95d88_0 rfl (lv_at hl 0 rfl) ?_
  refine lv_lload_n S.1 S.2.1 dJ13_bitCount_95d88_1 rfl (lv_at hl 0 rfl) ?_
  refine z_iconst S dJ13_bitCount_95d88_2 ?_
  refine lv_lushr S.1 S.2.1 dJ13_bitCount_95d88_3 rfl ?_
  refine lv_ldc2 S.1 S.2.1 S.2.2.2.1 (S.2.2.2.2 _ q2_17) dJ13_bitCount_95d88_4 ?_
  refine lv_land S.1 S.2.1 dJ13_bitCount_95d88_7 ?_
  refine lv_lsub S.1 S.2.1 dJ13_bitCount_95d88_8 ?_
  refine lv_lstore_n (lv' := [(0, .long ((x) - ((((x).toUInt64 >>> ((zI (1)).toInt64.toUInt64 &&& Int64.toUInt64 63)).toInt64) &&& (6148914691236517205))))]) S.1 S.2.1 dJ13_bitCount_95d88_9 rfl hl (by decide) rfl (fun ls hl => ?_)
  refine lv_lload_n S.1 S.2.1 dJ13_bitCount_95d88_10 rfl (lv_at hl 0 rfl) ?_
  refine lv_ldc2 S.1 S.2.1 S.2.2.2.1 (S.2.2.2.2 _ q2_18) dJ13_bitCount_95d88_11 ?_
  refine lv_land S.1 S.2.1 dJ13_bitCount_95d88_14 ?_
  refine lv_lload_n S.1 S.2.1 dJ13_bitCount_95d88_15 rfl (lv_at hl 0 rfl) ?_
  refine z_iconst S dJ13_bitCount_95d88_16 ?_
  refine lv_lushr S.1 S.2.1 dJ13_bitCount_95d88_17 rfl ?_
  refine lv_ldc2 S.1 S.2.1 S.2.2.2.1 (S.2.2.2.2 _ q2_18) dJ13_bitCount_95d88_18 ?_
  refine lv_land S.1 S.2.1 dJ13_bitCount_95d88_21 ?_
  refine lv_ladd S.1 S.2.1 dJ13_bitCount_95d88_22 ?_
  refine lv_lstore_n (lv' := [(0, .long ((((x) - ((((x).toUInt64 >>> ((zI (1)).toInt64.toUInt64 &&& Int64.toUInt64 63)).toInt64) &&& (6148914691236517205))) &&& (3689348814741910323)) + (((((x) - ((((x).toUInt64 >>> ((zI (1)).toInt64.toUInt64 &&& Int64.toUInt64 63)).toInt64) &&& (6148914691236517205))).toUInt64 >>> ((zI (2)).toInt64.toUInt64 &&& Int64.toUInt64 63)).toInt64) &&& (3689348814741910323))))]) S.1 S.2.1 dJ13_bitCount_95d88_23 rfl hl (by decide) rfl (fun ls hl => ?_)
  refine lv_lload_n S.1 S.2.1 dJ13_bitCount_95d88_24 rfl (lv_at hl 0 rfl) ?_
  refine lv_lload_n S.1 S.2.1 dJ13_bitCount_95d88_25 rfl (lv_at hl 0 rfl) ?_
  refine z_iconst S dJ13_bitCount_95d88_26 ?_
  refine lv_lushr S.1 S.2.1 dJ13_bitCount_95d88_27 rfl ?_
  refine lv_ladd S.1 S.2.1 dJ13_bitCount_95d88_28 ?_
  refine lv_ldc2 S.1 S.2.1 S.2.2.2.1 (S.2.2.2.2 _ q2_19) dJ13_bitCount_95d88_29 ?_
  refine lv_land S.1 S.2.1 dJ13_bitCount_95d88_32 ?_
  refine lv_lstore_n (lv' := [(0, .long ((((((x) - ((((x).toUInt64 >>> ((zI (1)).toInt64.toUInt64 &&& Int64.toUInt64 63)).toInt64) &&& (6148914691236517205))) &&& (3689348814741910323)) + (((((x) - ((((x).toUInt64 >>> ((zI (1)).toInt64.toUInt64 &&& Int64.toUInt64 63)).toInt64) &&& (6148914691236517205))).toUInt64 >>> ((zI (2)).toInt64.toUInt64 &&& Int64.toUInt64 63)).toInt64) &&& (3689348814741910323))) + ((((((x) - ((((x).toUInt64 >>> ((zI (1)).toInt64.toUInt64 &&& Int64.toUInt64 63)).toInt64) &&& (6148914691236517205))) &&& (3689348814741910323)) + (((((x) - ((((x).toUInt64 >>> ((zI (1)).toInt64.toUInt64 &&& Int64.toUInt64 63)).toInt64) &&& (6148914691236517205))).toUInt64 >>> ((zI (2)).toInt64.toUInt64 &&& Int64.toUInt64 63)).toInt64) &&& (3689348814741910323))).toUInt64 >>> ((zI (4)).toInt64.toUInt64 &&& Int64.toUInt64 63)).toInt64)) &&& (1085102592571150095)))]) S.1 S.2.1 dJ13_bitCount_95d88_33 rfl hl (by decide) rfl (fun ls hl => ?_)
  refine lv_lload_n S.1 S.2.1 dJ13_bitCount_95d88_34 rfl (lv_at hl 0 rfl) ?_
  refine lv_lload_n S.1 S.2.1 dJ13_bitCount_95d88_35 rfl (lv_at hl 0 rfl) ?_
  refine z_bipush S dJ13_bitCount_95d88_36 rfl ?_
  refine lv_lushr S.1 S.2.1 dJ13_bitCount_95d88_38 rfl ?_
  refine lv_ladd S.1 S.2.1 dJ13_bitCount_95d88_39 ?_
  refine lv_lstore_n (lv' := [(0, .long (((((((x) - ((((x).toUInt64 >>> ((zI (1)).toInt64.toUInt64 &&& Int64.toUInt64 63)).toInt64) &&& (6148914691236517205))) &&& (3689348814741910323)) + (((((x) - ((((x).toUInt64 >>> ((zI (1)).toInt64.toUInt64 &&& Int64.toUInt64 63)).toInt64) &&& (6148914691236517205))).toUInt64 >>> ((zI (2)).toInt64.toUInt64 &&& Int64.toUInt64 63)).toInt64) &&& (3689348814741910323))) + ((((((x) - ((((x).toUInt64 >>> ((zI (1)).toInt64.toUInt64 &&& Int64.toUInt64 63)).toInt64) &&& (6148914691236517205))) &&& (3689348814741910323)) + (((((x) - ((((x).toUInt64 >>> ((zI (1)).toInt64.toUInt64 &&& Int64.toUInt64 63)).toInt64) &&& (6148914691236517205))).toUInt64 >>> ((zI (2)).toInt64.toUInt64 &&& Int64.toUInt64 63)).toInt64) &&& (3689348814741910323))).toUInt64 >>> ((zI (4)).toInt64.toUInt64 &&& Int64.toUInt64 63)).toInt64)) &&& (1085102592571150095)) + ((((((((x) - ((((x).toUInt64 >>> ((zI (1)).toInt64.toUInt64 &&& Int64.toUInt64 63)).toInt64) &&& (6148914691236517205))) &&& (3689348814741910323)) + (((((x) - ((((x).toUInt64 >>> ((zI (1)).toInt64.toUInt64 &&& Int64.toUInt64 63)).toInt64) &&& (6148914691236517205))).toUInt64 >>> ((zI (2)).toInt64.toUInt64 &&& Int64.toUInt64 63)).toInt64) &&& (3689348814741910323))) + ((((((x) - ((((x).toUInt64 >>> ((zI (1)).toInt64.toUInt64 &&& Int64.toUInt64 63)).toInt64) &&& (6148914691236517205))) &&& (3689348814741910323)) + (((((x) - ((((x).toUInt64 >>> ((zI (1)).toInt64.toUInt64 &&& Int64.toUInt64 63)).toInt64) &&& (6148914691236517205))).toUInt64 >>> ((zI (2)).toInt64.toUInt64 &&& Int64.toUInt64 63)).toInt64) &&& (3689348814741910323))).toUInt64 >>> ((zI (4)).toInt64.toUInt64 &&& Int64.toUInt64 63)).toInt64)) &&& (1085102592571150095)).toUInt64 >>> ((zI (8)).toInt64.toUInt64 &&& Int64.toUInt64 63)).toInt64)))]) S.1 S.2.1 dJ13_bitCount_95d88_40 rfl hl (by decide) rfl (fun ls hl => ?_)
  refine lv_lload_n S.1 S.2.1 dJ13_bitCount_95d88_41 rfl (lv_at hl 0 rfl) ?_
  refine lv_lload_n S.1 S.2.1 dJ13_bitCount_95d88_42 rfl (lv_at hl 0 rfl) ?_
  refine z_bipush S dJ13_bitCount_95d88_43 rfl ?_
  refine lv_lushr S.1 S.2.1 dJ13_bitCount_95d88_45 rfl ?_
  refine lv_ladd S.1 S.2.1 dJ13_bitCount_95d88_46 ?_
  refine lv_lstore_n (lv' := [(0, .long ((((((((x) - ((((x).toUInt64 >>> ((zI (1)).toInt64.toUInt64 &&& Int64.toUInt64 63)).toInt64) &&& (6148914691236517205))) &&& (3689348814741910323)) + (((((x) - ((((x).toUInt64 >>> ((zI (1)).toInt64.toUInt64 &&& Int64.toUInt64 63)).toInt64) &&& (6148914691236517205))).toUInt64 >>> ((zI (2)).toInt64.toUInt64 &&& Int64.toUInt64 63)).toInt64) &&& (3689348814741910323))) + ((((((x) - ((((x).toUInt64 >>> ((zI (1)).toInt64.toUInt64 &&& Int64.toUInt64 63)).toInt64) &&& (6148914691236517205))) &&& (3689348814741910323)) + (((((x) - ((((x).toUInt64 >>> ((zI (1)).toInt64.toUInt64 &&& Int64.toUInt64 63)).toInt64) &&& (6148914691236517205))).toUInt64 >>> ((zI (2)).toInt64.toUInt64 &&& Int64.toUInt64 63)).toInt64) &&& (3689348814741910323))).toUInt64 >>> ((zI (4)).toInt64.toUInt64 &&& Int64.toUInt64 63)).toInt64)) &&& (1085102592571150095)) + ((((((((x) - ((((x).toUInt64 >>> ((zI (1)).toInt64.toUInt64 &&& Int64.toUInt64 63)).toInt64) &&& (6148914691236517205))) &&& (3689348814741910323)) + (((((x) - ((((x).toUInt64 >>> ((zI (1)).toInt64.toUInt64 &&& Int64.toUInt64 63)).toInt64) &&& (6148914691236517205))).toUInt64 >>> ((zI (2)).toInt64.toUInt64 &&& Int64.toUInt64 63)).toInt64) &&& (3689348814741910323))) + ((((((x) - ((((x).toUInt64 >>> ((zI (1)).toInt64.toUInt64 &&& Int64.toUInt64 63)).toInt64) &&& (6148914691236517205))) &&& (3689348814741910323)) + (((((x) - ((((x).toUInt64 >>> ((zI (1)).toInt64.toUInt64 &&& Int64.toUInt64 63)).toInt64) &&& (6148914691236517205))).toUInt64 >>> ((zI (2)).toInt64.toUInt64 &&& Int64.toUInt64 63)).toInt64) &&& (3689348814741910323))).toUInt64 >>> ((zI (4)).toInt64.toUInt64 &&& Int64.toUInt64 63)).toInt64)) &&& (1085102592571150095)).toUInt64 >>> ((zI (8)).toInt64.toUInt64 &&& Int64.toUInt64 63)).toInt64)) + (((((((((x) - ((((x).toUInt64 >>> ((zI (1)).toInt64.toUInt64 &&& Int64.toUInt64 63)).toInt64) &&& (6148914691236517205))) &&& (3689348814741910323)) + (((((x) - ((((x).toUInt64 >>> ((zI (1)).toInt64.toUInt64 &&& Int64.toUInt64 63)).toInt64) &&& (6148914691236517205))).toUInt64 >>> ((zI (2)).toInt64.toUInt64 &&& Int64.toUInt64 63)).toInt64) &&& (3689348814741910323))) + ((((((x) - ((((x).toUInt64 >>> ((zI (1)).toInt64.toUInt64 &&& Int64.toUInt64 63)).toInt64) &&& (6148914691236517205))) &&& (3689348814741910323)) + (((((x) - ((((x).toUInt64 >>> ((zI (1)).toInt64.toUInt64 &&& Int64.toUInt64 63)).toInt64) &&& (6148914691236517205))).toUInt64 >>> ((zI (2)).toInt64.toUInt64 &&& Int64.toUInt64 63)).toInt64) &&& (3689348814741910323))).toUInt64 >>> ((zI (4)).toInt64.toUInt64 &&& Int64.toUInt64 63)).toInt64)) &&& (1085102592571150095)) + ((((((((x) - ((((x).toUInt64 >>> ((zI (1)).toInt64.toUInt64 &&& Int64.toUInt64 63)).toInt64) &&& (6148914691236517205))) &&& (3689348814741910323)) + (((((x) - ((((x).toUInt64 >>> ((zI (1)).toInt64.toUInt64 &&& Int64.toUInt64 63)).toInt64) &&& (6148914691236517205))).toUInt64 >>> ((zI (2)).toInt64.toUInt64 &&& Int64.toUInt64 63)).toInt64) &&& (3689348814741910323))) + ((((((x) - ((((x).toUInt64 >>> ((zI (1)).toInt64.toUInt64 &&& Int64.toUInt64 63)).toInt64) &&& (6148914691236517205))) &&& (3689348814741910323)) + (((((x) - ((((x).toUInt64 >>> ((zI (1)).toInt64.toUInt64 &&& Int64.toUInt64 63)).toInt64) &&& (6148914691236517205))).toUInt64 >>> ((zI (2)).toInt64.toUInt64 &&& Int64.toUInt64 63)).toInt64) &&& (3689348814741910323))).toUInt64 >>> ((zI (4)).toInt64.toUInt64 &&& Int64.toUInt64 63)).toInt64)) &&& (1085102592571150095)).toUInt64 >>> ((zI (8)).toInt64.toUInt64 &&& Int64.toUInt64 63)).toInt64)).toUInt64 >>> ((zI (16)).toInt64.toUInt64 &&& Int64.toUInt64 63)).toInt64)))]) S.1 S.2.1 dJ13_bitCount_95d88_47 rfl hl (by decide) rfl (fun ls hl => ?_)
  refine lv_lload_n S.1 S.2.1 dJ13_bitCount_95d88_48 rfl (lv_at hl 0 rfl) ?_
  refine lv_lload_n S.1 S.2.1 dJ13_bitCount_95d88_49 rfl (lv_at hl 0 rfl) ?_
  refine z_bipush S dJ13_bitCount_95d88_50 rfl ?_
  refine lv_lushr S.1 S.2.1 dJ13_bitCount_95d88_52 rfl ?_
  refine lv_ladd S.1 S.2.1 dJ13_bitCount_95d88_53 ?_
  refine lv_lstore_n (lv' := [(0, .long (((((((((x) - ((((x).toUInt64 >>> ((zI (1)).toInt64.toUInt64 &&& Int64.toUInt64 63)).toInt64) &&& (6148914691236517205))) &&& (3689348814741910323)) + (((((x) - ((((x).toUInt64 >>> ((zI (1)).toInt64.toUInt64 &&& Int64.toUInt64 63)).toInt64) &&& (6148914691236517205))).toUInt64 >>> ((zI (2)).toInt64.toUInt64 &&& Int64.toUInt64 63)).toInt64) &&& (3689348814741910323))) + ((((((x) - ((((x).toUInt64 >>> ((zI (1)).toInt64.toUInt64 &&& Int64.toUInt64 63)).toInt64) &&& (6148914691236517205))) &&& (3689348814741910323)) + (((((x) - ((((x).toUInt64 >>> ((zI (1)).toInt64.toUInt64 &&& Int64.toUInt64 63)).toInt64) &&& (6148914691236517205))).toUInt64 >>> ((zI (2)).toInt64.toUInt64 &&& Int64.toUInt64 63)).toInt64) &&& (3689348814741910323))).toUInt64 >>> ((zI (4)).toInt64.toUInt64 &&& Int64.toUInt64 63)).toInt64)) &&& (1085102592571150095)) + ((((((((x) - ((((x).toUInt64 >>> ((zI (1)).toInt64.toUInt64 &&& Int64.toUInt64 63)).toInt64) &&& (6148914691236517205))) &&& (3689348814741910323)) + (((((x) - ((((x).toUInt64 >>> ((zI (1)).toInt64.toUInt64 &&& Int64.toUInt64 63)).toInt64) &&& (6148914691236517205))).toUInt64 >>> ((zI (2)).toInt64.toUInt64 &&& Int64.toUInt64 63)).toInt64) &&& (3689348814741910323))) + ((((((x) - ((((x).toUInt64 >>> ((zI (1)).toInt64.toUInt64 &&& Int64.toUInt64 63)).toInt64) &&& (6148914691236517205))) &&& (3689348814741910323)) + (((((x) - ((((x).toUInt64 >>> ((zI (1)).toInt64.toUInt64 &&& Int64.toUInt64 63)).toInt64) &&& (6148914691236517205))).toUInt64 >>> ((zI (2)).toInt64.toUInt64 &&& Int64.toUInt64 63)).toInt64) &&& (3689348814741910323))).toUInt64 >>> ((zI (4)).toInt64.toUInt64 &&& Int64.toUInt64 63)).toInt64)) &&& (1085102592571150095)).toUInt64 >>> ((zI (8)).toInt64.toUInt64 &&& Int64.toUInt64 63)).toInt64)) + (((((((((x) - ((((x).toUInt64 >>> ((zI (1)).toInt64.toUInt64 &&& Int64.toUInt64 63)).toInt64) &&& (6148914691236517205))) &&& (3689348814741910323)) + (((((x) - ((((x).toUInt64 >>> ((zI (1)).toInt64.toUInt64 &&& Int64.toUInt64 63)).toInt64) &&& (6148914691236517205))).toUInt64 >>> ((zI (2)).toInt64.toUInt64 &&& Int64.toUInt64 63)).toInt64) &&& (3689348814741910323))) + ((((((x) - ((((x).toUInt64 >>> ((zI (1)).toInt64.toUInt64 &&& Int64.toUInt64 63)).toInt64) &&& (6148914691236517205))) &&& (3689348814741910323)) + (((((x) - ((((x).toUInt64 >>> ((zI (1)).toInt64.toUInt64 &&& Int64.toUInt64 63)).toInt64) &&& (6148914691236517205))).toUInt64 >>> ((zI (2)).toInt64.toUInt64 &&& Int64.toUInt64 63)).toInt64) &&& (3689348814741910323))).toUInt64 >>> ((zI (4)).toInt64.toUInt64 &&& Int64.toUInt64 63)).toInt64)) &&& (1085102592571150095)) + ((((((((x) - ((((x).toUInt64 >>> ((zI (1)).toInt64.toUInt64 &&& Int64.toUInt64 63)).toInt64) &&& (6148914691236517205))) &&& (3689348814741910323)) + (((((x) - ((((x).toUInt64 >>> ((zI (1)).toInt64.toUInt64 &&& Int64.toUInt64 63)).toInt64) &&& (6148914691236517205))).toUInt64 >>> ((zI (2)).toInt64.toUInt64 &&& Int64.toUInt64 63)).toInt64) &&& (3689348814741910323))) + ((((((x) - ((((x).toUInt64 >>> ((zI (1)).toInt64.toUInt64 &&& Int64.toUInt64 63)).toInt64) &&& (6148914691236517205))) &&& (3689348814741910323)) + (((((x) - ((((x).toUInt64 >>> ((zI (1)).toInt64.toUInt64 &&& Int64.toUInt64 63)).toInt64) &&& (6148914691236517205))).toUInt64 >>> ((zI (2)).toInt64.toUInt64 &&& Int64.toUInt64 63)).toInt64) &&& (3689348814741910323))).toUInt64 >>> ((zI (4)).toInt64.toUInt64 &&& Int64.toUInt64 63)).toInt64)) &&& (1085102592571150095)).toUInt64 >>> ((zI (8)).toInt64.toUInt64 &&& Int64.toUInt64 63)).toInt64)).toUInt64 >>> ((zI (16)).toInt64.toUInt64 &&& Int64.toUInt64 63)).toInt64)) + ((((((((((x) - ((((x).toUInt64 >>> ((zI (1)).toInt64.toUInt64 &&& Int64.toUInt64 63)).toInt64) &&& (6148914691236517205))) &&& (3689348814741910323)) + (((((x) - ((((x).toUInt64 >>> ((zI (1)).toInt64.toUInt64 &&& Int64.toUInt64 63)).toInt64) &&& (6148914691236517205))).toUInt64 >>> ((zI (2)).toInt64.toUInt64 &&& Int64.toUInt64 63)).toInt64) &&& (3689348814741910323))) + ((((((x) - ((((x).toUInt64 >>> ((zI (1)).toInt64.toUInt64 &&& Int64.toUInt64 63)).toInt64) &&& (6148914691236517205))) &&& (3689348814741910323)) + (((((x) - ((((x).toUInt64 >>> ((zI (1)).toInt64.toUInt64 &&& Int64.toUInt64 63)).toInt64) &&& (6148914691236517205))).toUInt64 >>> ((zI (2)).toInt64.toUInt64 &&& Int64.toUInt64 63)).toInt64) &&& (3689348814741910323))).toUInt64 >>> ((zI (4)).toInt64.toUInt64 &&& Int64.toUInt64 63)).toInt64)) &&& (1085102592571150095)) + ((((((((x) - ((((x).toUInt64 >>> ((zI (1)).toInt64.toUInt64 &&& Int64.toUInt64 63)).toInt64) &&& (6148914691236517205))) &&& (3689348814741910323)) + (((((x) - ((((x).toUInt64 >>> ((zI (1)).toInt64.toUInt64 &&& Int64.toUInt64 63)).toInt64) &&& (6148914691236517205))).toUInt64 >>> ((zI (2)).toInt64.toUInt64 &&& Int64.toUInt64 63)).toInt64) &&& (3689348814741910323))) + ((((((x) - ((((x).toUInt64 >>> ((zI (1)).toInt64.toUInt64 &&& Int64.toUInt64 63)).toInt64) &&& (6148914691236517205))) &&& (3689348814741910323)) + (((((x) - ((((x).toUInt64 >>> ((zI (1)).toInt64.toUInt64 &&& Int64.toUInt64 63)).toInt64) &&& (6148914691236517205))).toUInt64 >>> ((zI (2)).toInt64.toUInt64 &&& Int64.toUInt64 63)).toInt64) &&& (3689348814741910323))).toUInt64 >>> ((zI (4)).toInt64.toUInt64 &&& Int64.toUInt64 63)).toInt64)) &&& (1085102592571150095)).toUInt64 >>> ((zI (8)).toInt64.toUInt64 &&& Int64.toUInt64 63)).toInt64)) + (((((((((x) - ((((x).toUInt64 >>> ((zI (1)).toInt64.toUInt64 &&& Int64.toUInt64 63)).toInt64) &&& (6148914691236517205))) &&& (3689348814741910323)) + (((((x) - ((((x).toUInt64 >>> ((zI (1)).toInt64.toUInt64 &&& Int64.toUInt64 63)).toInt64) &&& (6148914691236517205))).toUInt64 >>> ((zI (2)).toInt64.toUInt64 &&& Int64.toUInt64 63)).toInt64) &&& (3689348814741910323))) + ((((((x) - ((((x).toUInt64 >>> ((zI (1)).toInt64.toUInt64 &&& Int64.toUInt64 63)).toInt64) &&& (6148914691236517205))) &&& (3689348814741910323)) + (((((x) - ((((x).toUInt64 >>> ((zI (1)).toInt64.toUInt64 &&& Int64.toUInt64 63)).toInt64) &&& (6148914691236517205))).toUInt64 >>> ((zI (2)).toInt64.toUInt64 &&& Int64.toUInt64 63)).toInt64) &&& (3689348814741910323))).toUInt64 >>> ((zI (4)).toInt64.toUInt64 &&& Int64.toUInt64 63)).toInt64)) &&& (1085102592571150095)) + ((((((((x) - ((((x).toUInt64 >>> ((zI (1)).toInt64.toUInt64 &&& Int64.toUInt64 63)).toInt64) &&& (6148914691236517205))) &&& (3689348814741910323)) + (((((x) - ((((x).toUInt64 >>> ((zI (1)).toInt64.toUInt64 &&& Int64.toUInt64 63)).toInt64) &&& (6148914691236517205))).toUInt64 >>> ((zI (2)).toInt64.toUInt64 &&& Int64.toUInt64 63)).toInt64) &&& (3689348814741910323))) + ((((((x) - ((((x).toUInt64 >>> ((zI (1)).toInt64.toUInt64 &&& Int64.toUInt64 63)).toInt64) &&& (6148914691236517205))) &&& (3689348814741910323)) + (((((x) - ((((x).toUInt64 >>> ((zI (1)).toInt64.toUInt64 &&& Int64.toUInt64 63)).toInt64) &&& (6148914691236517205))).toUInt64 >>> ((zI (2)).toInt64.toUInt64 &&& Int64.toUInt64 63)).toInt64) &&& (3689348814741910323))).toUInt64 >>> ((zI (4)).toInt64.toUInt64 &&& Int64.toUInt64 63)).toInt64)) &&& (1085102592571150095)).toUInt64 >>> ((zI (8)).toInt64.toUInt64 &&& Int64.toUInt64 63)).toInt64)).toUInt64 >>> ((zI (16)).toInt64.toUInt64 &&& Int64.toUInt64 63)).toInt64)).toUInt64 >>> ((zI (32)).toInt64.toUInt64 &&& Int64.toUInt64 63)).toInt64)))]) S.1 S.2.1 dJ13_bitCount_95d88_54 rfl hl (by decide) rfl (fun ls hl => ?_)
  refine lv_lload_n S.1 S.2.1 dJ13_bitCount_95d88_55 rfl (lv_at hl 0 rfl) ?_
  refine lv_l2i S.1 S.2.1 dJ13_bitCount_95d88_56 rfl ?_
  refine z_bipush S dJ13_bitCount_95d88_57 rfl ?_
  refine lv_iand S.1 S.2.1 dJ13_bitCount_95d88_59 ?_
  exact ret _ _ _ dJ13_bitCount_95d88_60 (rfl)
theorem dX2_isEntry_0 : decode cX2_isEntry 0 = .ok (.iload_n 0, 1) := by decide +kernel
theorem dX2_isEntry_1 : decode cX2_isEntry 1 = .ok (.ifCond .lt 13, 3) := by decide +kernel
theorem dX2_isEntry_4 : decode cX2_isEntry 4 = .ok (.iload_n 0, 1) := by decide +kernel
theorem dX2_isEntry_5 : decode cX2_isEntry 5 = .ok (.bipush 16, 2) := by decide +kernel
theorem dX2_isEntry_7 : decode cX2_isEntry 7 = .ok (.if_icmp .ge 7, 3) := by decide +kernel
theorem dX2_isEntry_10 : decode cX2_isEntry 10 = .ok (.iconst 1, 1) := by decide +kernel
theorem dX2_isEntry_11 : decode cX2_isEntry 11 = .ok (.goto 4, 3) := by decide +kernel
theorem dX2_isEntry_14 : decode cX2_isEntry 14 = .ok (.iconst 0, 1) := by decide +kernel
theorem dX2_isEntry_15 : decode cX2_isEntry 15 = .ok (.ireturn, 1) := by decide +kernel
theorem q1_139 : (Jvm.Cond.code ({ cls := "Cyclepaint", name := "isEntry", desc := "(I)Z" } : Jvm.MethodName) prog_1_method_27_code (1 : Nat) (Option.some Jvm.ClassFile.FieldType.boolean)) ∈ lw_g := zg_of (zin1 (List.mem_of_getElem? (i := 139) rfl)) rfl
theorem q1_1 : (Jvm.Cond.initialized "Cyclepaint") ∈ lw_g := zg_of (zin1 (List.mem_of_getElem? (i := 1) rfl)) rfl
theorem q1_138 : (Jvm.Cond.static ({ cls := "Cyclepaint", name := "isEntry", desc := "(I)Z" } : Jvm.MethodName)) ∈ lw_g := zg_of (zin1 (List.mem_of_getElem? (i := 138) rfl)) rfl
theorem ok_X2_isEntry : zOS yX2_isEntry cX2_isEntry 1 ((Option.some Jvm.ClassFile.FieldType.boolean)) 1 := ⟨⟨q1_139, q1_1, by decide, by decide, by decide +kernel⟩, q1_138⟩
set_option maxHeartbeats 4000000 in
set_option maxRecDepth 100000 in
theorem c_X2_isEntry (l : Launch) (G : zG) (x : Int) (hr : rg x) : Met l yX2_isEntry (wq yX2_isEntry cX2_isEntry 1 ((Option.some Jvm.ClassFile.FieldType.boolean))) (rmR 0 0) (va_Pc [.int (zI (x))] (zK G (fun _ => True))) (zQ (some (.int (bI (decide (0 ≤ x) && decide (x < 16)))))) 0 0 zF := by
  refine z_enterB (by decide +kernel) (Nat.le_of_ble_eq_true rfl) ?_
  intro p env s m below meth cod Q S hG hP ret ls hl
  have hl : lv_has ls 1 [(0, .int (zI (x)))] := hl
  refine z_iload_n S dX2_isEntry_0 hl 0 rfl rfl ?_
  refine z_if_lt S 14 dX2_isEntry_1 (by decide) (by omega) (fun c_1 => ?_) (fun c_1 => ?_)
  · skip
    refine z_iconst S dX2_isEntry_14 ?_
    exact ret _ _ _ dX2_isEntry_15 (by rw [show (decide (0 ≤ x) && decide (x < 16)) = false from by simp; omega]; rfl)
  · skip
    refine z_iload_n S dX2_isEntry_4 hl 0 rfl rfl ?_
    refine z_bipush S dX2_isEntry_5 rfl ?_
    refine z_icmp_ge S 14 dX2_isEntry_7 (by decide) (by omega) (by omega) (fun c_7 => ?_) (fun c_7 => ?_)
    · skip
      refine z_iconst S dX2_isEntry_14 ?_
      exact ret _ _ _ dX2_isEntry_15 (by rw [show (decide (0 ≤ x) && decide (x < 16)) = false from by simp; omega]; rfl)
    · skip
      refine z_iconst S dX2_isEntry_10 ?_
      refine z_goto S 15 dX2_isEntry_11 (by decide) ?_
      exact ret _ _ _ dX2_isEntry_15 (by rw [show (decide (0 ≤ x) && decide (x < 16)) = true from by simp; omega]; rfl)
theorem dX2_isColour_0 : decode cX2_isColour 0 = .ok (.iload_n 0, 1) := by decide +kernel
theorem dX2_isColour_1 : decode cX2_isColour 1 = .ok (.ifCond .lt 13, 3) := by decide +kernel
theorem dX2_isColour_4 : decode cX2_isColour 4 = .ok (.iload_n 0, 1) := by decide +kernel
theorem dX2_isColour_5 : decode cX2_isColour 5 = .ok (.bipush 64, 2) := by decide +kernel
theorem dX2_isColour_7 : decode cX2_isColour 7 = .ok (.if_icmp .ge 7, 3) := by decide +kernel
theorem dX2_isColour_10 : decode cX2_isColour 10 = .ok (.iconst 1, 1) := by decide +kernel
theorem dX2_isColour_11 : decode cX2_isColour 11 = .ok (.goto 4, 3) := by decide +kernel
theorem dX2_isColour_14 : decode cX2_isColour 14 = .ok (.iconst 0, 1) := by decide +kernel
theorem dX2_isColour_15 : decode cX2_isColour 15 = .ok (.ireturn, 1) := by decide +kernel
theorem q2_165 : (Jvm.Cond.code ({ cls := "Cyclepaint", name := "isColour", desc := "(I)Z" } : Jvm.MethodName) prog_1_method_28_code (1 : Nat) (Option.some Jvm.ClassFile.FieldType.boolean)) ∈ lw_g := zg_of (zin2 (List.mem_of_getElem? (i := 165) rfl)) rfl
theorem q2_164 : (Jvm.Cond.static ({ cls := "Cyclepaint", name := "isColour", desc := "(I)Z" } : Jvm.MethodName)) ∈ lw_g := zg_of (zin2 (List.mem_of_getElem? (i := 164) rfl)) rfl
theorem ok_X2_isColour : zOS yX2_isColour cX2_isColour 1 ((Option.some Jvm.ClassFile.FieldType.boolean)) 1 := ⟨⟨q2_165, q1_1, by decide, by decide, by decide +kernel⟩, q2_164⟩
set_option maxHeartbeats 4000000 in
set_option maxRecDepth 100000 in
theorem c_X2_isColour (l : Launch) (G : zG) (x : Int) (hr : rg x) : Met l yX2_isColour (wq yX2_isColour cX2_isColour 1 ((Option.some Jvm.ClassFile.FieldType.boolean))) (rmR 0 0) (va_Pc [.int (zI (x))] (zK G (fun _ => True))) (zQ (some (.int (bI (decide (0 ≤ x) && decide (x < 64)))))) 0 0 zF := by
  refine z_enterB (by decide +kernel) (Nat.le_of_ble_eq_true rfl) ?_
  intro p env s m below meth cod Q S hG hP ret ls hl
  have hl : lv_has ls 1 [(0, .int (zI (x)))] := hl
  refine z_iload_n S dX2_isColour_0 hl 0 rfl rfl ?_
  refine z_if_lt S 14 dX2_isColour_1 (by decide) (by omega) (fun c_1 => ?_) (fun c_1 => ?_)
  · skip
    refine z_iconst S dX2_isColour_14 ?_
    exact ret _ _ _ dX2_isColour_15 (by rw [show (decide (0 ≤ x) && decide (x < 64)) = false from by simp; omega]; rfl)
  · skip
    refine z_iload_n S dX2_isColour_4 hl 0 rfl rfl ?_
    refine z_bipush S dX2_isColour_5 rfl ?_
    refine z_icmp_ge S 14 dX2_isColour_7 (by decide) (by omega) (by omega) (fun c_7 => ?_) (fun c_7 => ?_)
    · skip
      refine z_iconst S dX2_isColour_14 ?_
      exact ret _ _ _ dX2_isColour_15 (by rw [show (decide (0 ≤ x) && decide (x < 64)) = false from by simp; omega]; rfl)
    · skip
      refine z_iconst S dX2_isColour_10 ?_
      refine z_goto S 15 dX2_isColour_11 (by decide) ?_
      exact ret _ _ _ dX2_isColour_15 (by rw [show (decide (0 ≤ x) && decide (x < 64)) = true from by simp; omega]; rfl)
theorem dX2_isSpeed_0 : decode cX2_isSpeed 0 = .ok (.iload_n 0, 1) := by decide +kernel
theorem dX2_isSpeed_1 : decode cX2_isSpeed 1 = .ok (.iconst 1, 1) := by decide +kernel
theorem dX2_isSpeed_2 : decode cX2_isSpeed 2 = .ok (.if_icmp .lt 13, 3) := by decide +kernel
theorem dX2_isSpeed_5 : decode cX2_isSpeed 5 = .ok (.iload_n 0, 1) := by decide +kernel
theorem dX2_isSpeed_6 : decode cX2_isSpeed 6 = .ok (.bipush 9, 2) := by decide +kernel
theorem dX2_isSpeed_8 : decode cX2_isSpeed 8 = .ok (.if_icmp .gt 7, 3) := by decide +kernel
theorem dX2_isSpeed_11 : decode cX2_isSpeed 11 = .ok (.iconst 1, 1) := by decide +kernel
theorem dX2_isSpeed_12 : decode cX2_isSpeed 12 = .ok (.goto 4, 3) := by decide +kernel
theorem dX2_isSpeed_15 : decode cX2_isSpeed 15 = .ok (.iconst 0, 1) := by decide +kernel
theorem dX2_isSpeed_16 : decode cX2_isSpeed 16 = .ok (.ireturn, 1) := by decide +kernel
theorem q2_208 : (Jvm.Cond.code ({ cls := "Cyclepaint", name := "isSpeed", desc := "(I)Z" } : Jvm.MethodName) prog_1_method_30_code (1 : Nat) (Option.some Jvm.ClassFile.FieldType.boolean)) ∈ lw_g := zg_of (zin2 (List.mem_of_getElem? (i := 208) rfl)) rfl
theorem q2_207 : (Jvm.Cond.static ({ cls := "Cyclepaint", name := "isSpeed", desc := "(I)Z" } : Jvm.MethodName)) ∈ lw_g := zg_of (zin2 (List.mem_of_getElem? (i := 207) rfl)) rfl
theorem ok_X2_isSpeed : zOS yX2_isSpeed cX2_isSpeed 1 ((Option.some Jvm.ClassFile.FieldType.boolean)) 1 := ⟨⟨q2_208, q1_1, by decide, by decide, by decide +kernel⟩, q2_207⟩
set_option maxHeartbeats 4000000 in
set_option maxRecDepth 100000 in
theorem c_X2_isSpeed (l : Launch) (G : zG) (x : Int) (hr : rg x) : Met l yX2_isSpeed (wq yX2_isSpeed cX2_isSpeed 1 ((Option.some Jvm.ClassFile.FieldType.boolean))) (rmR 0 0) (va_Pc [.int (zI (x))] (zK G (fun _ => True))) (zQ (some (.int (bI (decide (1 ≤ x) && decide (x ≤ 9)))))) 0 0 zF := by
  refine z_enterB (by decide +kernel) (Nat.le_of_ble_eq_true rfl) ?_
  intro p env s m below meth cod Q S hG hP ret ls hl
  have hl : lv_has ls 1 [(0, .int (zI (x)))] := hl
  refine z_iload_n S dX2_isSpeed_0 hl 0 rfl rfl ?_
  refine z_iconst S dX2_isSpeed_1 ?_
  refine z_icmp_lt S 15 dX2_isSpeed_2 (by decide) (by omega) (by omega) (fun c_2 => ?_) (fun c_2 => ?_)
  · skip
    refine z_iconst S dX2_isSpeed_15 ?_
    exact ret _ _ _ dX2_isSpeed_16 (by rw [show (decide (1 ≤ x) && decide (x ≤ 9)) = false from by simp; omega]; rfl)
  · skip
    refine z_iload_n S dX2_isSpeed_5 hl 0 rfl rfl ?_
    refine z_bipush S dX2_isSpeed_6 rfl ?_
    refine z_icmp_gt S 15 dX2_isSpeed_8 (by decide) (by omega) (by omega) (fun c_8 => ?_) (fun c_8 => ?_)
    · skip
      refine z_iconst S dX2_isSpeed_15 ?_
      exact ret _ _ _ dX2_isSpeed_16 (by rw [show (decide (1 ≤ x) && decide (x ≤ 9)) = false from by simp; omega]; rfl)
    · skip
      refine z_iconst S dX2_isSpeed_11 ?_
      refine z_goto S 16 dX2_isSpeed_12 (by decide) ?_
      exact ret _ _ _ dX2_isSpeed_16 (by rw [show (decide (1 ≤ x) && decide (x ≤ 9)) = true from by simp; omega]; rfl)
theorem dX2_isKind_0 : decode cX2_isKind 0 = .ok (.iload_n 0, 1) := by decide +kernel
theorem dX2_isKind_1 : decode cX2_isKind 1 = .ok (.ifCond .lt 12, 3) := by decide +kernel
theorem dX2_isKind_4 : decode cX2_isKind 4 = .ok (.iload_n 0, 1) := by decide +kernel
theorem dX2_isKind_5 : decode cX2_isKind 5 = .ok (.iconst 2, 1) := by decide +kernel
theorem dX2_isKind_6 : decode cX2_isKind 6 = .ok (.if_icmp .gt 7, 3) := by decide +kernel
theorem dX2_isKind_9 : decode cX2_isKind 9 = .ok (.iconst 1, 1) := by decide +kernel
theorem dX2_isKind_10 : decode cX2_isKind 10 = .ok (.goto 4, 3) := by decide +kernel
theorem dX2_isKind_13 : decode cX2_isKind 13 = .ok (.iconst 0, 1) := by decide +kernel
theorem dX2_isKind_14 : decode cX2_isKind 14 = .ok (.ireturn, 1) := by decide +kernel
theorem q2_211 : (Jvm.Cond.code ({ cls := "Cyclepaint", name := "isKind", desc := "(I)Z" } : Jvm.MethodName) prog_1_method_31_code (1 : Nat) (Option.some Jvm.ClassFile.FieldType.boolean)) ∈ lw_g := zg_of (zin2 (List.mem_of_getElem? (i := 211) rfl)) rfl
theorem q2_210 : (Jvm.Cond.static ({ cls := "Cyclepaint", name := "isKind", desc := "(I)Z" } : Jvm.MethodName)) ∈ lw_g := zg_of (zin2 (List.mem_of_getElem? (i := 210) rfl)) rfl
theorem ok_X2_isKind : zOS yX2_isKind cX2_isKind 1 ((Option.some Jvm.ClassFile.FieldType.boolean)) 1 := ⟨⟨q2_211, q1_1, by decide, by decide, by decide +kernel⟩, q2_210⟩
set_option maxHeartbeats 4000000 in
set_option maxRecDepth 100000 in
theorem c_X2_isKind (l : Launch) (G : zG) (x : Int) (hr : rg x) : Met l yX2_isKind (wq yX2_isKind cX2_isKind 1 ((Option.some Jvm.ClassFile.FieldType.boolean))) (rmR 0 0) (va_Pc [.int (zI (x))] (zK G (fun _ => True))) (zQ (some (.int (bI (decide (0 ≤ x) && decide (x ≤ 2)))))) 0 0 zF := by
  refine z_enterB (by decide +kernel) (Nat.le_of_ble_eq_true rfl) ?_
  intro p env s m below meth cod Q S hG hP ret ls hl
  have hl : lv_has ls 1 [(0, .int (zI (x)))] := hl
  refine z_iload_n S dX2_isKind_0 hl 0 rfl rfl ?_
  refine z_if_lt S 13 dX2_isKind_1 (by decide) (by omega) (fun c_1 => ?_) (fun c_1 => ?_)
  · skip
    refine z_iconst S dX2_isKind_13 ?_
    exact ret _ _ _ dX2_isKind_14 (by rw [show (decide (0 ≤ x) && decide (x ≤ 2)) = false from by simp; omega]; rfl)
  · skip
    refine z_iload_n S dX2_isKind_4 hl 0 rfl rfl ?_
    refine z_iconst S dX2_isKind_5 ?_
    refine z_icmp_gt S 13 dX2_isKind_6 (by decide) (by omega) (by omega) (fun c_6 => ?_) (fun c_6 => ?_)
    · skip
      refine z_iconst S dX2_isKind_13 ?_
      exact ret _ _ _ dX2_isKind_14 (by rw [show (decide (0 ≤ x) && decide (x ≤ 2)) = false from by simp; omega]; rfl)
    · skip
      refine z_iconst S dX2_isKind_9 ?_
      refine z_goto S 14 dX2_isKind_10 (by decide) ?_
      exact ret _ _ _ dX2_isKind_14 (by rw [show (decide (0 ≤ x) && decide (x ≤ 2)) = true from by simp; omega]; rfl)
theorem dX2_isTick_0 : decode cX2_isTick 0 = .ok (.iload_n 0, 1) := by decide +kernel
theorem dX2_isTick_1 : decode cX2_isTick 1 = .ok (.ifCond .lt 13, 3) := by decide +kernel
theorem dX2_isTick_4 : decode cX2_isTick 4 = .ok (.iload_n 0, 1) := by decide +kernel
theorem dX2_isTick_5 : decode cX2_isTick 5 = .ok (.ldc 132, 2) := by decide +kernel
theorem dX2_isTick_7 : decode cX2_isTick 7 = .ok (.if_icmp .gt 7, 3) := by decide +kernel
theorem dX2_isTick_10 : decode cX2_isTick 10 = .ok (.iconst 1, 1) := by decide +kernel
theorem dX2_isTick_11 : decode cX2_isTick 11 = .ok (.goto 4, 3) := by decide +kernel
theorem dX2_isTick_14 : decode cX2_isTick 14 = .ok (.iconst 0, 1) := by decide +kernel
theorem dX2_isTick_15 : decode cX2_isTick 15 = .ok (.ireturn, 1) := by decide +kernel
theorem q3_60 : (Jvm.Cond.constant "Cyclepaint" (132 : Nat) (99999 : Int32)) ∈ lw_g := zg_of (zin3 (List.mem_of_getElem? (i := 60) rfl)) rfl
theorem q3_71 : (Jvm.Cond.code ({ cls := "Cyclepaint", name := "isTick", desc := "(I)Z" } : Jvm.MethodName) prog_1_method_32_code (1 : Nat) (Option.some Jvm.ClassFile.FieldType.boolean)) ∈ lw_g := zg_of (zin3 (List.mem_of_getElem? (i := 71) rfl)) rfl
theorem q3_70 : (Jvm.Cond.static ({ cls := "Cyclepaint", name := "isTick", desc := "(I)Z" } : Jvm.MethodName)) ∈ lw_g := zg_of (zin3 (List.mem_of_getElem? (i := 70) rfl)) rfl
theorem ok_X2_isTick : zOS yX2_isTick cX2_isTick 1 ((Option.some Jvm.ClassFile.FieldType.boolean)) 1 := ⟨⟨q3_71, q1_1, by decide, by decide, by decide +kernel⟩, q3_70⟩
set_option maxHeartbeats 4000000 in
set_option maxRecDepth 100000 in
theorem c_X2_isTick (l : Launch) (G : zG) (x : Int) (hr : rg x) : Met l yX2_isTick (wq yX2_isTick cX2_isTick 1 ((Option.some Jvm.ClassFile.FieldType.boolean))) (rmR 0 0) (va_Pc [.int (zI (x))] (zK G (fun _ => True))) (zQ (some (.int (bI (decide (0 ≤ x) && decide (x ≤ 99999)))))) 0 0 zF := by
  refine z_enterB (by decide +kernel) (Nat.le_of_ble_eq_true rfl) ?_
  intro p env s m below meth cod Q S hG hP ret ls hl
  have hl : lv_has ls 1 [(0, .int (zI (x)))] := hl
  refine z_iload_n S dX2_isTick_0 hl 0 rfl rfl ?_
  refine z_if_lt S 14 dX2_isTick_1 (by decide) (by omega) (fun c_1 => ?_) (fun c_1 => ?_)
  · skip
    refine z_iconst S dX2_isTick_14 ?_
    exact ret _ _ _ dX2_isTick_15 (by rw [show (decide (0 ≤ x) && decide (x ≤ 99999)) = false from by simp; omega]; rfl)
  · skip
    refine z_iload_n S dX2_isTick_4 hl 0 rfl rfl ?_
    refine z_ldc S (99999) q3_60 rfl dX2_isTick_5 ?_
    refine z_icmp_gt S 14 dX2_isTick_7 (by decide) (by omega) (by omega) (fun c_7 => ?_) (fun c_7 => ?_)
    · skip
      refine z_iconst S dX2_isTick_14 ?_
      exact ret _ _ _ dX2_isTick_15 (by rw [show (decide (0 ≤ x) && decide (x ≤ 99999)) = false from by simp; omega]; rfl)
    · skip
      refine z_iconst S dX2_isTick_10 ?_
      refine z_goto S 15 dX2_isTick_11 (by decide) ?_
      exact ret _ _ _ dX2_isTick_15 (by rw [show (decide (0 ≤ x) && decide (x ≤ 99999)) = true from by simp; omega]; rfl)
theorem dX2_isTickCount_0 : decode cX2_isTickCount 0 = .ok (.iload_n 0, 1) := by decide +kernel
theorem dX2_isTickCount_1 : decode cX2_isTickCount 1 = .ok (.iconst 1, 1) := by decide +kernel
theorem dX2_isTickCount_2 : decode cX2_isTickCount 2 = .ok (.if_icmp .lt 14, 3) := by decide +kernel
theorem dX2_isTickCount_5 : decode cX2_isTickCount 5 = .ok (.iload_n 0, 1) := by decide +kernel
theorem dX2_isTickCount_6 : decode cX2_isTickCount 6 = .ok (.sipush 200, 3) := by decide +kernel
theorem dX2_isTickCount_9 : decode cX2_isTickCount 9 = .ok (.if_icmp .gt 7, 3) := by decide +kernel
theorem dX2_isTickCount_12 : decode cX2_isTickCount 12 = .ok (.iconst 1, 1) := by decide +kernel
theorem dX2_isTickCount_13 : decode cX2_isTickCount 13 = .ok (.goto 4, 3) := by decide +kernel
theorem dX2_isTickCount_16 : decode cX2_isTickCount 16 = .ok (.iconst 0, 1) := by decide +kernel
theorem dX2_isTickCount_17 : decode cX2_isTickCount 17 = .ok (.ireturn, 1) := by decide +kernel
theorem q3_58 : (Jvm.Cond.code ({ cls := "Cyclepaint", name := "isTickCount", desc := "(I)Z" } : Jvm.MethodName) prog_1_method_33_code (1 : Nat) (Option.some Jvm.ClassFile.FieldType.boolean)) ∈ lw_g := zg_of (zin3 (List.mem_of_getElem? (i := 58) rfl)) rfl
theorem q3_57 : (Jvm.Cond.static ({ cls := "Cyclepaint", name := "isTickCount", desc := "(I)Z" } : Jvm.MethodName)) ∈ lw_g := zg_of (zin3 (List.mem_of_getElem? (i := 57) rfl)) rfl
theorem ok_X2_isTickCount : zOS yX2_isTickCount cX2_isTickCount 1 ((Option.some Jvm.ClassFile.FieldType.boolean)) 1 := ⟨⟨q3_58, q1_1, by decide, by decide, by decide +kernel⟩, q3_57⟩
set_option maxHeartbeats 4000000 in
set_option maxRecDepth 100000 in
theorem c_X2_isTickCount (l : Launch) (G : zG) (x : Int) (hr : rg x) : Met l yX2_isTickCount (wq yX2_isTickCount cX2_isTickCount 1 ((Option.some Jvm.ClassFile.FieldType.boolean))) (rmR 0 0) (va_Pc [.int (zI (x))] (zK G (fun _ => True))) (zQ (some (.int (bI (decide (1 ≤ x) && decide (x ≤ 200)))))) 0 0 zF := by
  refine z_enterB (by decide +kernel) (Nat.le_of_ble_eq_true rfl) ?_
  intro p env s m below meth cod Q S hG hP ret ls hl
  have hl : lv_has ls 1 [(0, .int (zI (x)))] := hl
  refine z_iload_n S dX2_isTickCount_0 hl 0 rfl rfl ?_
  refine z_iconst S dX2_isTickCount_1 ?_
  refine z_icmp_lt S 16 dX2_isTickCount_2 (by decide) (by omega) (by omega) (fun c_2 => ?_) (fun c_2 => ?_)
  · skip
    refine z_iconst S dX2_isTickCount_16 ?_
    exact ret _ _ _ dX2_isTickCount_17 (by rw [show (decide (1 ≤ x) && decide (x ≤ 200)) = false from by simp; omega]; rfl)
  · skip
    refine z_iload_n S dX2_isTickCount_5 hl 0 rfl rfl ?_
    refine z_sipush S dX2_isTickCount_6 rfl ?_
    refine z_icmp_gt S 16 dX2_isTickCount_9 (by decide) (by omega) (by omega) (fun c_9 => ?_) (fun c_9 => ?_)
    · skip
      refine z_iconst S dX2_isTickCount_16 ?_
      exact ret _ _ _ dX2_isTickCount_17 (by rw [show (decide (1 ≤ x) && decide (x ≤ 200)) = false from by simp; omega]; rfl)
    · skip
      refine z_iconst S dX2_isTickCount_12 ?_
      refine z_goto S 17 dX2_isTickCount_13 (by decide) ?_
      exact ret _ _ _ dX2_isTickCount_17 (by rw [show (decide (1 ≤ x) && decide (x ≤ 200)) = true from by simp; omega]; rfl)
theorem dX2_isDot_0 : decode cX2_isDot 0 = .ok (.iload_n 0, 1) := by decide +kernel
theorem dX2_isDot_1 : decode cX2_isDot 1 = .ok (.ifCond .lt 22, 3) := by decide +kernel
theorem dX2_isDot_4 : decode cX2_isDot 4 = .ok (.iload_n 0, 1) := by decide +kernel
theorem dX2_isDot_5 : decode cX2_isDot 5 = .ok (.iconst 4, 1) := by decide +kernel
theorem dX2_isDot_6 : decode cX2_isDot 6 = .ok (.if_icmp .ge 17, 3) := by decide +kernel
theorem dX2_isDot_9 : decode cX2_isDot 9 = .ok (.iload_n 1, 1) := by decide +kernel
theorem dX2_isDot_10 : decode cX2_isDot 10 = .ok (.ifCond .lt 13, 3) := by decide +kernel
theorem dX2_isDot_13 : decode cX2_isDot 13 = .ok (.iload_n 1, 1) := by decide +kernel
theorem dX2_isDot_14 : decode cX2_isDot 14 = .ok (.bipush 8, 2) := by decide +kernel
theorem dX2_isDot_16 : decode cX2_isDot 16 = .ok (.if_icmp .ge 7, 3) := by decide +kernel
theorem dX2_isDot_19 : decode cX2_isDot 19 = .ok (.iconst 1, 1) := by decide +kernel
theorem dX2_isDot_20 : decode cX2_isDot 20 = .ok (.goto 4, 3) := by decide +kernel
theorem dX2_isDot_23 : decode cX2_isDot 23 = .ok (.iconst 0, 1) := by decide +kernel
theorem dX2_isDot_24 : decode cX2_isDot 24 = .ok (.ireturn, 1) := by decide +kernel
theorem q2_195 : (Jvm.Cond.code ({ cls := "Cyclepaint", name := "isDot", desc := "(II)Z" } : Jvm.MethodName) prog_1_method_29_code (2 : Nat) (Option.some Jvm.ClassFile.FieldType.boolean)) ∈ lw_g := zg_of (zin2 (List.mem_of_getElem? (i := 195) rfl)) rfl
theorem q2_194 : (Jvm.Cond.static ({ cls := "Cyclepaint", name := "isDot", desc := "(II)Z" } : Jvm.MethodName)) ∈ lw_g := zg_of (zin2 (List.mem_of_getElem? (i := 194) rfl)) rfl
theorem ok_X2_isDot : zOS yX2_isDot cX2_isDot 2 ((Option.some Jvm.ClassFile.FieldType.boolean)) 2 := ⟨⟨q2_195, q1_1, by decide, by decide, by decide +kernel⟩, q2_194⟩
set_option maxHeartbeats 4000000 in
set_option maxRecDepth 100000 in
theorem c_X2_isDot (l : Launch) (G : zG) (x y : Int) (hr : rg x ∧ rg y) : Met l yX2_isDot (wq yX2_isDot cX2_isDot 2 ((Option.some Jvm.ClassFile.FieldType.boolean))) (rmR 0 0) (va_Pc [.int (zI (x)), .int (zI (y))] (zK G (fun _ => True))) (zQ (some (.int (bI (decide (0 ≤ x) && decide (x < 4) && (decide (0 ≤ y) && decide (y < 8))))))) 0 0 zF := by
  refine z_enterB (by decide +kernel) (Nat.le_of_ble_eq_true rfl) ?_
  intro p env s m below meth cod Q S hG hP ret ls hl
  have hl : lv_has ls 2 [(0, .int (zI (x))), (1, .int (zI (y)))] := hl
  refine z_iload_n S dX2_isDot_0 hl 0 rfl rfl ?_
  refine z_if_lt S 23 dX2_isDot_1 (by decide) (by omega) (fun c_1 => ?_) (fun c_1 => ?_)
  · skip
    refine z_iconst S dX2_isDot_23 ?_
    exact ret _ _ _ dX2_isDot_24 (by rw [show (decide (0 ≤ x) && decide (x < 4) && (decide (0 ≤ y) && decide (y < 8))) = false from by simp; omega]; rfl)
  · skip
    refine z_iload_n S dX2_isDot_4 hl 0 rfl rfl ?_
    refine z_iconst S dX2_isDot_5 ?_
    refine z_icmp_ge S 23 dX2_isDot_6 (by decide) (by omega) (by omega) (fun c_6 => ?_) (fun c_6 => ?_)
    · skip
      refine z_iconst S dX2_isDot_23 ?_
      exact ret _ _ _ dX2_isDot_24 (by rw [show (decide (0 ≤ x) && decide (x < 4) && (decide (0 ≤ y) && decide (y < 8))) = false from by simp; omega]; rfl)
    · skip
      refine z_iload_n S dX2_isDot_9 hl 1 rfl rfl ?_
      refine z_if_lt S 23 dX2_isDot_10 (by decide) (by omega) (fun c_10 => ?_) (fun c_10 => ?_)
      · skip
        refine z_iconst S dX2_isDot_23 ?_
        exact ret _ _ _ dX2_isDot_24 (by rw [show (decide (0 ≤ x) && decide (x < 4) && (decide (0 ≤ y) && decide (y < 8))) = false from by simp; omega]; rfl)
      · skip
        refine z_iload_n S dX2_isDot_13 hl 1 rfl rfl ?_
        refine z_bipush S dX2_isDot_14 rfl ?_
        refine z_icmp_ge S 23 dX2_isDot_16 (by decide) (by omega) (by omega) (fun c_16 => ?_) (fun c_16 => ?_)
        · skip
          refine z_iconst S dX2_isDot_23 ?_
          exact ret _ _ _ dX2_isDot_24 (by rw [show (decide (0 ≤ x) && decide (x < 4) && (decide (0 ≤ y) && decide (y < 8))) = false from by simp; omega]; rfl)
        · skip
          refine z_iconst S dX2_isDot_19 ?_
          refine z_goto S 24 dX2_isDot_20 (by decide) ?_
          exact ret _ _ _ dX2_isDot_24 (by rw [show (decide (0 ≤ x) && decide (x < 4) && (decide (0 ≤ y) && decide (y < 8))) = true from by simp; omega]; rfl)
theorem dX2_isFact_0 : decode cX2_isFact 0 = .ok (.iload_n 0, 1) := by decide +kernel
theorem dX2_isFact_1 : decode cX2_isFact 1 = .ok (.ifCond .lt 12, 3) := by decide +kernel
theorem dX2_isFact_4 : decode cX2_isFact 4 = .ok (.iload_n 0, 1) := by decide +kernel
theorem dX2_isFact_5 : decode cX2_isFact 5 = .ok (.iload_n 1, 1) := by decide +kernel
theorem dX2_isFact_6 : decode cX2_isFact 6 = .ok (.if_icmp .ge 7, 3) := by decide +kernel
theorem dX2_isFact_9 : decode cX2_isFact 9 = .ok (.iconst 1, 1) := by decide +kernel
theorem dX2_isFact_10 : decode cX2_isFact 10 = .ok (.goto 4, 3) := by decide +kernel
theorem dX2_isFact_13 : decode cX2_isFact 13 = .ok (.iconst 0, 1) := by decide +kernel
theorem dX2_isFact_14 : decode cX2_isFact 14 = .ok (.ireturn, 1) := by decide +kernel
theorem q3_98 : (Jvm.Cond.code ({ cls := "Cyclepaint", name := "isFact", desc := "(II)Z" } : Jvm.MethodName) prog_1_method_34_code (2 : Nat) (Option.some Jvm.ClassFile.FieldType.boolean)) ∈ lw_g := zg_of (zin3 (List.mem_of_getElem? (i := 98) rfl)) rfl
theorem q3_97 : (Jvm.Cond.static ({ cls := "Cyclepaint", name := "isFact", desc := "(II)Z" } : Jvm.MethodName)) ∈ lw_g := zg_of (zin3 (List.mem_of_getElem? (i := 97) rfl)) rfl
theorem ok_X2_isFact : zOS yX2_isFact cX2_isFact 2 ((Option.some Jvm.ClassFile.FieldType.boolean)) 2 := ⟨⟨q3_98, q1_1, by decide, by decide, by decide +kernel⟩, q3_97⟩
set_option maxHeartbeats 4000000 in
set_option maxRecDepth 100000 in
theorem c_X2_isFact (l : Launch) (G : zG) (x y : Int) (hr : rg x ∧ rg y) : Met l yX2_isFact (wq yX2_isFact cX2_isFact 2 ((Option.some Jvm.ClassFile.FieldType.boolean))) (rmR 0 0) (va_Pc [.int (zI (x)), .int (zI (y))] (zK G (fun _ => True))) (zQ (some (.int (bI (decide (0 ≤ x) && decide (x < y)))))) 0 0 zF := by
  refine z_enterB (by decide +kernel) (Nat.le_of_ble_eq_true rfl) ?_
  intro p env s m below meth cod Q S hG hP ret ls hl
  have hl : lv_has ls 2 [(0, .int (zI (x))), (1, .int (zI (y)))] := hl
  refine z_iload_n S dX2_isFact_0 hl 0 rfl rfl ?_
  refine z_if_lt S 13 dX2_isFact_1 (by decide) (by omega) (fun c_1 => ?_) (fun c_1 => ?_)
  · skip
    refine z_iconst S dX2_isFact_13 ?_
    exact ret _ _ _ dX2_isFact_14 (by rw [show (decide (0 ≤ x) && decide (x < y)) = false from by simp; omega]; rfl)
  · skip
    refine z_iload_n S dX2_isFact_4 hl 0 rfl rfl ?_
    refine z_iload_n S dX2_isFact_5 hl 1 rfl rfl ?_
    refine z_icmp_ge S 13 dX2_isFact_6 (by decide) (by omega) (by omega) (fun c_6 => ?_) (fun c_6 => ?_)
    · skip
      refine z_iconst S dX2_isFact_13 ?_
      exact ret _ _ _ dX2_isFact_14 (by rw [show (decide (0 ≤ x) && decide (x < y)) = false from by simp; omega]; rfl)
    · skip
      refine z_iconst S dX2_isFact_9 ?_
      refine z_goto S 14 dX2_isFact_10 (by decide) ?_
      exact ret _ _ _ dX2_isFact_14 (by rw [show (decide (0 ≤ x) && decide (x < y)) = true from by simp; omega]; rfl)
theorem dX2_lightOf_0 : decode cX2_lightOf 0 = .ok (.iconst 2, 1) := by decide +kernel
theorem dX2_lightOf_1 : decode cX2_lightOf 1 = .ok (.iload_n 0, 1) := by decide +kernel
theorem dX2_lightOf_2 : decode cX2_lightOf 2 = .ok (.bipush 16, 2) := by decide +kernel
theorem dX2_lightOf_4 : decode cX2_lightOf 4 = .ok (.idiv, 1) := by decide +kernel
theorem dX2_lightOf_5 : decode cX2_lightOf 5 = .ok (.imul, 1) := by decide +kernel
theorem dX2_lightOf_6 : decode cX2_lightOf 6 = .ok (.iconst 3, 1) := by decide +kernel
theorem dX2_lightOf_7 : decode cX2_lightOf 7 = .ok (.iload_n 0, 1) := by decide +kernel
theorem dX2_lightOf_8 : decode cX2_lightOf 8 = .ok (.iconst 4, 1) := by decide +kernel
theorem dX2_lightOf_9 : decode cX2_lightOf 9 = .ok (.idiv, 1) := by decide +kernel
theorem dX2_lightOf_10 : decode cX2_lightOf 10 = .ok (.iconst 4, 1) := by decide +kernel
theorem dX2_lightOf_11 : decode cX2_lightOf 11 = .ok (.irem, 1) := by decide +kernel
theorem dX2_lightOf_12 : decode cX2_lightOf 12 = .ok (.imul, 1) := by decide +kernel
theorem dX2_lightOf_13 : decode cX2_lightOf 13 = .ok (.iadd, 1) := by decide +kernel
theorem dX2_lightOf_14 : decode cX2_lightOf 14 = .ok (.iload_n 0, 1) := by decide +kernel
theorem dX2_lightOf_15 : decode cX2_lightOf 15 = .ok (.iconst 4, 1) := by decide +kernel
theorem dX2_lightOf_16 : decode cX2_lightOf 16 = .ok (.irem, 1) := by decide +kernel
theorem dX2_lightOf_17 : decode cX2_lightOf 17 = .ok (.iadd, 1) := by decide +kernel
theorem dX2_lightOf_18 : decode cX2_lightOf 18 = .ok (.ireturn, 1) := by decide +kernel
theorem q1_169 : (Jvm.Cond.code ({ cls := "Cyclepaint", name := "lightOf", desc := "(I)I" } : Jvm.MethodName) prog_1_method_36_code (1 : Nat) (Option.some Jvm.ClassFile.FieldType.int)) ∈ lw_g := zg_of (zin1 (List.mem_of_getElem? (i := 169) rfl)) rfl
theorem q1_168 : (Jvm.Cond.static ({ cls := "Cyclepaint", name := "lightOf", desc := "(I)I" } : Jvm.MethodName)) ∈ lw_g := zg_of (zin1 (List.mem_of_getElem? (i := 168) rfl)) rfl
theorem ok_X2_lightOf : zOS yX2_lightOf cX2_lightOf 1 ((Option.some Jvm.ClassFile.FieldType.int)) 1 := ⟨⟨q1_169, q1_1, by decide, by decide, by decide +kernel⟩, q1_168⟩
set_option maxHeartbeats 4000000 in
set_option maxRecDepth 100000 in
theorem c_X2_lightOf (l : Launch) (G : zG) (C : Int32) : Met l yX2_lightOf (wq yX2_lightOf cX2_lightOf 1 ((Option.some Jvm.ClassFile.FieldType.int))) (rmR 0 0) (va_Pc [.int (C)] (zK G (fun _ => True))) (zQ (some (.int ((lgt C))))) 0 0 zF := by
  refine z_enterI (by decide +kernel) (Nat.le_of_ble_eq_true rfl) ?_
  intro p env s m below meth cod Q S hG hP ret ls hl
  have hl : lv_has ls 1 [(0, .int (C))] := hl
  refine z_iconst S dX2_lightOf_0 ?_
  refine z_iload_n S dX2_lightOf_1 hl 0 rfl rfl ?_
  refine z_bipush S dX2_lightOf_2 rfl ?_
  refine lv_idiv S.1 S.2.1 dX2_lightOf_4 (by decide) ?_
  refine lv_imul S.1 S.2.1 dX2_lightOf_5 ?_
  refine z_iconst S dX2_lightOf_6 ?_
  refine z_iload_n S dX2_lightOf_7 hl 0 rfl rfl ?_
  refine z_iconst S dX2_lightOf_8 ?_
  refine lv_idiv S.1 S.2.1 dX2_lightOf_9 (by decide) ?_
  refine z_iconst S dX2_lightOf_10 ?_
  refine lv_irem S.1 S.2.1 dX2_lightOf_11 (by decide) ?_
  refine lv_imul S.1 S.2.1 dX2_lightOf_12 ?_
  refine lv_iadd S.1 S.2.1 dX2_lightOf_13 ?_
  refine z_iload_n S dX2_lightOf_14 hl 0 rfl rfl ?_
  refine z_iconst S dX2_lightOf_15 ?_
  refine lv_irem S.1 S.2.1 dX2_lightOf_16 (by decide) ?_
  refine lv_iadd S.1 S.2.1 dX2_lightOf_17 ?_
  exact ret _ _ _ dX2_lightOf_18 (rfl)
theorem dX2_mixed_0 : decode cX2_mixed 0 = .ok (.lload_n 0, 1) := by decide +kernel
theorem dX2_mixed_1 : decode cX2_mixed 1 = .ok (.ldc2_w 254, 3) := by decide +kernel
theorem dX2_mixed_4 : decode cX2_mixed 4 = .ok (.lmul, 1) := by decide +kernel
theorem dX2_mixed_5 : decode cX2_mixed 5 = .ok (.lload_n 2, 1) := by decide +kernel
theorem dX2_mixed_6 : decode cX2_mixed 6 = .ok (.ladd, 1) := by decide +kernel
theorem dX2_mixed_7 : decode cX2_mixed 7 = .ok (.lreturn, 1) := by decide +kernel
theorem q2_23 : (Jvm.Cond.constantLong "Cyclepaint" (254 : Nat) (31 : Int64)) ∈ lw_g := zg_of (zin2 (List.mem_of_getElem? (i := 23) rfl)) rfl
theorem q2_22 : (Jvm.Cond.code ({ cls := "Cyclepaint", name := "mixed", desc := "(JJ)J" } : Jvm.MethodName) prog_1_method_35_code (4 : Nat) (Option.some Jvm.ClassFile.FieldType.long)) ∈ lw_g := zg_of (zin2 (List.mem_of_getElem? (i := 22) rfl)) rfl
theorem q2_21 : (Jvm.Cond.static ({ cls := "Cyclepaint", name := "mixed", desc := "(JJ)J" } : Jvm.MethodName)) ∈ lw_g := zg_of (zin2 (List.mem_of_getElem? (i := 21) rfl)) rfl
theorem ok_X2_mixed : zOS yX2_mixed cX2_mixed 4 ((Option.some Jvm.ClassFile.FieldType.long)) 2 := ⟨⟨q2_22, q1_1, by decide, by decide, by decide +kernel⟩, q2_21⟩
set_option maxHeartbeats 4000000 in
set_option maxRecDepth 100000 in
theorem c_X2_mixed (l : Launch) (G : zG) (x y : Int64) : Met l yX2_mixed (wq yX2_mixed cX2_mixed 4 ((Option.some Jvm.ClassFile.FieldType.long))) (rmR 0 0) (va_Pc [.long (x), .long (y)] (zK G (fun _ => True))) (zQ (some (.long (x * 31 + y)))) 0 0 zF := by
  refine z_enterL (by decide +kernel) (Nat.le_of_ble_eq_true rfl) ?_
  intro p env s m below meth cod Q S hG hP ret ls hl
  have hl : lv_has ls 4 [(0, .long (x)), (2, .long (y))] := hl
  refine lv_lload_n S.1 S.2.1 dX2_mixed_0 rfl (lv_at hl 0 rfl) ?_
  refine lv_ldc2 S.1 S.2.1 S.2.2.2.1 (S.2.2.2.2 _ q2_23) dX2_mixed_1 ?_
  refine lv_lmul S.1 S.2.1 dX2_mixed_4 ?_
  refine lv_lload_n S.1 S.2.1 dX2_mixed_5 rfl (lv_at hl 1 rfl) ?_
  refine lv_ladd S.1 S.2.1 dX2_mixed_6 ?_
  exact ret _ _ _ dX2_mixed_7 (rfl)
theorem dX2_entryOf_0 : decode cX2_entryOf 0 = .ok (.iload_n 1, 1) := by decide +kernel
theorem dX2_entryOf_1 : decode cX2_entryOf 1 = .ok (.ifCond .lt 21, 3) := by decide +kernel
theorem dX2_entryOf_4 : decode cX2_entryOf 4 = .ok (.iload_n 1, 1) := by decide +kernel
theorem dX2_entryOf_5 : decode cX2_entryOf 5 = .ok (.aload_n 0, 1) := by decide +kernel
theorem dX2_entryOf_6 : decode cX2_entryOf 6 = .ok (.getfield 16, 3) := by decide +kernel
theorem dX2_entryOf_9 : decode cX2_entryOf 9 = .ok (.arraylength, 1) := by decide +kernel
theorem dX2_entryOf_10 : decode cX2_entryOf 10 = .ok (.if_icmp .ge 12, 3) := by decide +kernel
theorem dX2_entryOf_13 : decode cX2_entryOf 13 = .ok (.aload_n 0, 1) := by decide +kernel
theorem dX2_entryOf_14 : decode cX2_entryOf 14 = .ok (.getfield 16, 3) := by decide +kernel
theorem dX2_entryOf_17 : decode cX2_entryOf 17 = .ok (.iload_n 1, 1) := by decide +kernel
theorem dX2_entryOf_18 : decode cX2_entryOf 18 = .ok (.iaload, 1) := by decide +kernel
theorem dX2_entryOf_19 : decode cX2_entryOf 19 = .ok (.goto 4, 3) := by decide +kernel
theorem dX2_entryOf_22 : decode cX2_entryOf 22 = .ok (.iconst (-1), 1) := by decide +kernel
theorem dX2_entryOf_23 : decode cX2_entryOf 23 = .ok (.ireturn, 1) := by decide +kernel
theorem q1_61 : (Jvm.Cond.fieldLink "Cyclepaint" (16 : Nat) "Cyclepaint" "dots" "[I") ∈ lw_g := zg_of (zin1 (List.mem_of_getElem? (i := 61) rfl)) rfl
theorem q1_136 : (Jvm.Cond.code ({ cls := "Cyclepaint", name := "entryOf", desc := "(I)I" } : Jvm.MethodName) prog_1_method_38_code (2 : Nat) (Option.some Jvm.ClassFile.FieldType.int)) ∈ lw_g := zg_of (zin1 (List.mem_of_getElem? (i := 136) rfl)) rfl
theorem q1_135 : (Jvm.Cond.instanceMethod ({ cls := "Cyclepaint", name := "entryOf", desc := "(I)I" } : Jvm.MethodName)) ∈ lw_g := zg_of (zin1 (List.mem_of_getElem? (i := 135) rfl)) rfl
theorem qs_2 : Cond.selects "Cyclepaint" (⟨"Cyclepaint", "entryOf", "(I)I"⟩ : MethodName) (⟨"Cyclepaint", "entryOf", "(I)I"⟩ : MethodName) ∈ lw_g := zg_of (zinS (List.mem_of_getElem? (i := 2) rfl)) rfl
theorem ok_X2_entryOf : zOV yX2_entryOf cX2_entryOf 2 ((Option.some Jvm.ClassFile.FieldType.int)) 1 := ⟨⟨q1_136, q1_1, by decide, by decide, by decide +kernel⟩, q1_135, qs_2⟩
set_option maxHeartbeats 4000000 in
set_option maxRecDepth 100000 in
theorem c_X2_entryOf (l : Launch) (G : zG) (σ : St) (a : Nat → Nat) (d : Int) (hd : 0 ≤ d ∧ d < 32) : Met l yX2_entryOf (wq yX2_entryOf cX2_entryOf 2 ((Option.some Jvm.ClassFile.FieldType.int))) (rmR 0 0) (va_Pc [.ref (a 0), .int (zI (d))] (zK G (hCyc G σ a))) (zQ (some (.int ((zI (σ.Dt d)))))) 0 0 zF := by
  refine z_enterI (by decide +kernel) (Nat.le_of_ble_eq_true rfl) ?_
  intro p env s m below meth cod Q S hG hP ret ls hl
  have hl : lv_has ls 2 [(0, .ref (a 0)), (1, .int (zI (d)))] := hl
  refine z_iload_n S dX2_entryOf_0 hl 1 rfl rfl ?_
  refine z_if_lt_F S 22 dX2_entryOf_1 (by decide) (by omega) (by omega) ?_
  refine z_iload_n S dX2_entryOf_4 hl 1 rfl rfl ?_
  refine z_aload_n S dX2_entryOf_5 hl 0 rfl rfl ?_
  refine z_get S hG hP.1 zc_X2 1 (by decide) q1_61 rfl rfl dX2_entryOf_6 ?_
  refine z_alenI S hG hP.2.1 dX2_entryOf_9 ?_
  refine z_icmp_ge_F S 22 dX2_entryOf_10 (by decide) (by omega) (by omega) (by omega) ?_
  refine z_aload_n S dX2_entryOf_13 hl 0 rfl rfl ?_
  refine z_get S hG hP.1 zc_X2 1 (by decide) q1_61 rfl rfl dX2_entryOf_14 ?_
  refine z_iload_n S dX2_entryOf_17 hl 1 rfl rfl ?_
  refine z_ialdB S hG hP.2.1 (by omega) (by decide) dX2_entryOf_18 ?_
  refine z_goto S 23 dX2_entryOf_19 (by decide) ?_
  exact ret _ _ _ dX2_entryOf_23 (rfl)
theorem dX2_usesOf_0 : decode cX2_usesOf 0 = .ok (.iload_n 1, 1) := by decide +kernel
theorem dX2_usesOf_1 : decode cX2_usesOf 1 = .ok (.invokestatic 39, 3) := by decide +kernel
theorem dX2_usesOf_4 : decode cX2_usesOf 4 = .ok (.ifCond .eq 12, 3) := by decide +kernel
theorem dX2_usesOf_7 : decode cX2_usesOf 7 = .ok (.aload_n 0, 1) := by decide +kernel
theorem dX2_usesOf_8 : decode cX2_usesOf 8 = .ok (.getfield 20, 3) := by decide +kernel
theorem dX2_usesOf_11 : decode cX2_usesOf 11 = .ok (.iload_n 1, 1) := by decide +kernel
theorem dX2_usesOf_12 : decode cX2_usesOf 12 = .ok (.iaload, 1) := by decide +kernel
theorem dX2_usesOf_13 : decode cX2_usesOf 13 = .ok (.goto 4, 3) := by decide +kernel
theorem dX2_usesOf_16 : decode cX2_usesOf 16 = .ok (.iconst 0, 1) := by decide +kernel
theorem dX2_usesOf_17 : decode cX2_usesOf 17 = .ok (.ireturn, 1) := by decide +kernel
theorem q1_137 : (Jvm.Cond.methodLink "Cyclepaint" (39 : Nat) ({ cls := "Cyclepaint", name := "isEntry", desc := "(I)Z" } : Jvm.MethodName)) ∈ lw_g := zg_of (zin1 (List.mem_of_getElem? (i := 137) rfl)) rfl
theorem q1_62 : (Jvm.Cond.fieldLink "Cyclepaint" (20 : Nat) "Cyclepaint" "uses" "[I") ∈ lw_g := zg_of (zin1 (List.mem_of_getElem? (i := 62) rfl)) rfl
theorem q2_38 : (Jvm.Cond.code ({ cls := "Cyclepaint", name := "usesOf", desc := "(I)I" } : Jvm.MethodName) prog_1_method_39_code (2 : Nat) (Option.some Jvm.ClassFile.FieldType.int)) ∈ lw_g := zg_of (zin2 (List.mem_of_getElem? (i := 38) rfl)) rfl
theorem q2_37 : (Jvm.Cond.instanceMethod ({ cls := "Cyclepaint", name := "usesOf", desc := "(I)I" } : Jvm.MethodName)) ∈ lw_g := zg_of (zin2 (List.mem_of_getElem? (i := 37) rfl)) rfl
theorem qs_13 : Cond.selects "Cyclepaint" (⟨"Cyclepaint", "usesOf", "(I)I"⟩ : MethodName) (⟨"Cyclepaint", "usesOf", "(I)I"⟩ : MethodName) ∈ lw_g := zg_of (zinS (List.mem_of_getElem? (i := 13) rfl)) rfl
theorem ok_X2_usesOf : zOV yX2_usesOf cX2_usesOf 2 ((Option.some Jvm.ClassFile.FieldType.int)) 1 := ⟨⟨q2_38, q1_1, by decide, by decide, by decide +kernel⟩, q2_37, qs_13⟩
set_option maxHeartbeats 4000000 in
set_option maxRecDepth 100000 in
theorem c_X2_usesOf (l : Launch) (G : zG) (σ : St) (a : Nat → Nat) (e : Int) (he : 0 ≤ e ∧ e < 16) : Met l yX2_usesOf (wq yX2_usesOf cX2_usesOf 2 ((Option.some Jvm.ClassFile.FieldType.int))) (rmR 1 20) (va_Pc [.ref (a 0), .int (zI (e))] (zK G (hCyc G σ a))) (zQ (some (.int ((zI (usz σ e)))))) 0 0 zF := by
  refine z_enterI (by decide +kernel) (Nat.le_of_ble_eq_true rfl) ?_
  intro p env s m below meth cod Q S hG hP ret ls hl
  have hl : lv_has ls 2 [(0, .ref (a 0)), (1, .int (zI (e)))] := hl
  refine z_iload_n S dX2_usesOf_0 hl 1 rfl rfl ?_
  refine z_callSs S hG (c_X2_isEntry l G (e) (by omega)) ok_X2_isEntry q1_137 (trivial) ⟨rfl, rfl, by decide, by decide⟩ ⟨Nat.zero_le _, Nat.zero_le _⟩ rfl (Nat.le_of_ble_eq_true rfl) hl.1 rfl dX2_usesOf_1 ?_
  refine z_bif_eq S 16 dX2_usesOf_4 (by decide) (fun c_4 => ?_) (fun c_4 => ?_)
  · skip
    exact absurd c_4 (by simp; omega)
  · skip
    refine z_aload_n S dX2_usesOf_7 hl 0 rfl rfl ?_
    refine z_get S hG hP.1 zc_X2 2 (by decide) q1_62 rfl rfl dX2_usesOf_8 ?_
    refine z_iload_n S dX2_usesOf_11 hl 1 rfl rfl ?_
    refine z_ialdB S hG hP.2.2.1 (by omega) (by decide) dX2_usesOf_12 ?_
    refine z_goto S 17 dX2_usesOf_13 (by decide) ?_
    exact ret _ _ _ dX2_usesOf_17 (rfl)
theorem dX2_shownNow_0 : decode cX2_shownNow 0 = .ok (.aload_n 0, 1) := by decide +kernel
theorem dX2_shownNow_1 : decode cX2_shownNow 1 = .ok (.getfield 12, 3) := by decide +kernel
theorem dX2_shownNow_4 : decode cX2_shownNow 4 = .ok (.aload_n 0, 1) := by decide +kernel
theorem dX2_shownNow_5 : decode cX2_shownNow 5 = .ok (.iload_n 1, 1) := by decide +kernel
theorem dX2_shownNow_6 : decode cX2_shownNow 6 = .ok (.invokevirtual 256, 3) := by decide +kernel
theorem dX2_shownNow_9 : decode cX2_shownNow 9 = .ok (.aload_n 0, 1) := by decide +kernel
theorem dX2_shownNow_10 : decode cX2_shownNow 10 = .ok (.getfield 30, 3) := by decide +kernel
theorem dX2_shownNow_13 : decode cX2_shownNow 13 = .ok (.invokevirtual 146, 3) := by decide +kernel
theorem dX2_shownNow_16 : decode cX2_shownNow 16 = .ok (.ireturn, 1) := by decide +kernel
theorem q1_60 : (Jvm.Cond.fieldLink "Cyclepaint" (12 : Nat) "Cyclepaint" "palette" "LCyclepaint$Palette;") ∈ lw_g := zg_of (zin1 (List.mem_of_getElem? (i := 60) rfl)) rfl
theorem q1_133 : (Jvm.Cond.methodLink "Cyclepaint" (256 : Nat) ({ cls := "Cyclepaint", name := "entryOf", desc := "(I)I" } : Jvm.MethodName)) ∈ lw_g := zg_of (zin1 (List.mem_of_getElem? (i := 133) rfl)) rfl
theorem q1_65 : (Jvm.Cond.fieldLink "Cyclepaint" (30 : Nat) "Cyclepaint" "tick" "I") ∈ lw_g := zg_of (zin1 (List.mem_of_getElem? (i := 65) rfl)) rfl
theorem q1_166 : (Jvm.Cond.methodLink "Cyclepaint" (146 : Nat) ({ cls := "Cyclepaint$Palette", name := "shows", desc := "(II)I" } : Jvm.MethodName)) ∈ lw_g := zg_of (zin1 (List.mem_of_getElem? (i := 166) rfl)) rfl
theorem q1_234 : (Jvm.Cond.code ({ cls := "Cyclepaint", name := "shownNow", desc := "(I)I" } : Jvm.MethodName) prog_1_method_40_code (2 : Nat) (Option.some Jvm.ClassFile.FieldType.int)) ∈ lw_g := zg_of (zin1 (List.mem_of_getElem? (i := 234) rfl)) rfl
theorem q1_233 : (Jvm.Cond.instanceMethod ({ cls := "Cyclepaint", name := "shownNow", desc := "(I)I" } : Jvm.MethodName)) ∈ lw_g := zg_of (zin1 (List.mem_of_getElem? (i := 233) rfl)) rfl
theorem qs_8 : Cond.selects "Cyclepaint" (⟨"Cyclepaint", "shownNow", "(I)I"⟩ : MethodName) (⟨"Cyclepaint", "shownNow", "(I)I"⟩ : MethodName) ∈ lw_g := zg_of (zinS (List.mem_of_getElem? (i := 8) rfl)) rfl
theorem ok_X2_shownNow : zOV yX2_shownNow cX2_shownNow 2 ((Option.some Jvm.ClassFile.FieldType.int)) 1 := ⟨⟨q1_234, q1_1, by decide, by decide, by decide +kernel⟩, q1_233, qs_8⟩
set_option maxHeartbeats 4000000 in
set_option maxRecDepth 100000 in
theorem c_X2_shownNow (l : Launch) (G : zG) (σ : St) (a : Nat → Nat) (d : Int) (hd : 0 ≤ d ∧ d < 32) : Met l yX2_shownNow (wq yX2_shownNow cX2_shownNow 2 ((Option.some Jvm.ClassFile.FieldType.int))) (rmR 2 46) (va_Pc [.ref (a 0), .int (zI (d))] (zK G (hCyc G σ a))) (zQ (some (.int ((shw σ (σ.Dt d) σ.tk))))) 0 0 zF := by
  refine z_enterI (by decide +kernel) (Nat.le_of_ble_eq_true rfl) ?_
  intro p env s m below meth cod Q S hG hP ret ls hl
  have hl : lv_has ls 2 [(0, .ref (a 0)), (1, .int (zI (d)))] := hl
  have hC := hP.2.2.2.2.2
  have hT := hC.1
  have hdt := hC.2.1
  have hlm := hC.2.2.1
  have hkn := hC.2.2.2.1
  have hD := hC.2.2.2.2.1
  have hB := hC.2.2.2.2.2
  have hdt0 := hdt d hd.1 hd.2
  refine z_aload_n S dX2_shownNow_0 hl 0 rfl rfl ?_
  refine z_get S hG hP.1 zc_X2 0 (by decide) q1_60 rfl rfl dX2_shownNow_1 ?_
  refine z_aload_n S dX2_shownNow_4 hl 0 rfl rfl ?_
  refine z_iload_n S dX2_shownNow_5 hl 1 rfl rfl ?_
  refine z_callVs S hG (c_X2_entryOf l G σ a (d) (by omega)) ok_X2_entryOf hP.1 zc_X2 rfl q1_133 (hP) ⟨rfl, rfl, by decide, by decide⟩ ⟨Nat.zero_le _, Nat.zero_le _⟩ rfl (Nat.le_of_ble_eq_true rfl) hl.1 rfl dX2_shownNow_6 ?_
  refine z_aload_n S dX2_shownNow_9 hl 0 rfl rfl ?_
  refine z_get S hG hP.1 zc_X2 5 (by decide) q1_65 rfl rfl dX2_shownNow_10 ?_
  refine z_callVs S hG (c_X0_shows l G σ a (σ.Dt (d)) (σ.tk) (by omega) (by omega)) ok_X0_shows hP.2.2.2.2.1.1 zc_X0 rfl q1_166 (hP.2.2.2.2.1) ⟨rfl, rfl, by decide, by decide⟩ ⟨Nat.zero_le _, Nat.zero_le _⟩ rfl (Nat.le_of_ble_eq_true rfl) hl.1 rfl dX2_shownNow_13 ?_
  exact ret _ _ _ dX2_shownNow_16 (rfl)
theorem dX2_usedEntries_0 : decode cX2_usedEntries 0 = .ok (.iconst 0, 1) := by decide +kernel
theorem dX2_usedEntries_1 : decode cX2_usedEntries 1 = .ok (.istore_n 1, 1) := by decide +kernel
theorem dX2_usedEntries_2 : decode cX2_usedEntries 2 = .ok (.iconst 0, 1) := by decide +kernel
theorem dX2_usedEntries_3 : decode cX2_usedEntries 3 = .ok (.istore_n 2, 1) := by decide +kernel
theorem dX2_usedEntries_4 : decode cX2_usedEntries 4 = .ok (.iload_n 2, 1) := by decide +kernel
theorem dX2_usedEntries_5 : decode cX2_usedEntries 5 = .ok (.bipush 16, 2) := by decide +kernel
theorem dX2_usedEntries_7 : decode cX2_usedEntries 7 = .ok (.if_icmp .ge 21, 3) := by decide +kernel
theorem dX2_usedEntries_10 : decode cX2_usedEntries 10 = .ok (.aload_n 0, 1) := by decide +kernel
theorem dX2_usedEntries_11 : decode cX2_usedEntries 11 = .ok (.getfield 20, 3) := by decide +kernel
theorem dX2_usedEntries_14 : decode cX2_usedEntries 14 = .ok (.iload_n 2, 1) := by decide +kernel
theorem dX2_usedEntries_15 : decode cX2_usedEntries 15 = .ok (.iaload, 1) := by decide +kernel
theorem dX2_usedEntries_16 : decode cX2_usedEntries 16 = .ok (.ifCond .le 6, 3) := by decide +kernel
theorem dX2_usedEntries_19 : decode cX2_usedEntries 19 = .ok (.iinc 1 1, 3) := by decide +kernel
theorem dX2_usedEntries_22 : decode cX2_usedEntries 22 = .ok (.iinc 2 1, 3) := by decide +kernel
theorem dX2_usedEntries_25 : decode cX2_usedEntries 25 = .ok (.goto (-21), 3) := by decide +kernel
theorem dX2_usedEntries_28 : decode cX2_usedEntries 28 = .ok (.iload_n 1, 1) := by decide +kernel
theorem dX2_usedEntries_29 : decode cX2_usedEntries 29 = .ok (.ireturn, 1) := by decide +kernel
theorem q1_209 : (Jvm.Cond.code ({ cls := "Cyclepaint", name := "usedEntries", desc := "()I" } : Jvm.MethodName) prog_1_method_44_code (3 : Nat) (Option.some Jvm.ClassFile.FieldType.int)) ∈ lw_g := zg_of (zin1 (List.mem_of_getElem? (i := 209) rfl)) rfl
theorem q1_208 : (Jvm.Cond.instanceMethod ({ cls := "Cyclepaint", name := "usedEntries", desc := "()I" } : Jvm.MethodName)) ∈ lw_g := zg_of (zin1 (List.mem_of_getElem? (i := 208) rfl)) rfl
theorem qs_5 : Cond.selects "Cyclepaint" (⟨"Cyclepaint", "usedEntries", "()I"⟩ : MethodName) (⟨"Cyclepaint", "usedEntries", "()I"⟩ : MethodName) ∈ lw_g := zg_of (zinS (List.mem_of_getElem? (i := 5) rfl)) rfl
theorem ok_X2_usedEntries : zOV yX2_usedEntries cX2_usedEntries 3 ((Option.some Jvm.ClassFile.FieldType.int)) 0 := ⟨⟨q1_209, q1_1, by decide, by decide, by decide +kernel⟩, q1_208, qs_5⟩
set_option maxHeartbeats 4000000 in
set_option maxRecDepth 100000 in
theorem c_X2_usedEntries (l : Launch) (G : zG) (σ : St) (a : Nat → Nat) : Met l yX2_usedEntries (wq yX2_usedEntries cX2_usedEntries 3 ((Option.some Jvm.ClassFile.FieldType.int))) (rmR 0 0) (va_Pc [.ref (a 0)] (zK G (hCyc G σ a))) (zQ (some (.int ((zI (ueC σ)))))) 0 0 zF := by
  refine z_enterI (by decide +kernel) (Nat.le_of_ble_eq_true rfl) ?_
  intro p env s m below meth cod Q S hG hP ret ls hl
  have hl : lv_has ls 3 [(0, .ref (a 0))] := hl
  refine z_iconst S dX2_usedEntries_0 ?_
  refine z_istore_n (lv' := [(1, .int (zI (0))), (0, .ref (a 0))]) S dX2_usedEntries_1 hl rfl (by decide) rfl (fun ls hl => ?_)
  refine z_iconst S dX2_usedEntries_2 ?_
  refine z_istore_n (lv' := [(2, .int (zI (0))), (1, .int (zI (0))), (0, .ref (a 0))]) S dX2_usedEntries_3 hl rfl (by decide) rfl (fun ls hl => ?_)
  have loop_4 : ∀ (nn : Nat) (k : Int) (ch : Int), (0 ≤ k ∧ k ≤ 16) → (ch = cntI (usB σ) k) → ((16 - k).toNat) < nn → ∀ ls, lv_has ls 3 [(2, .int (zI (k))), (1, .int (zI (ch))), (0, .ref (a 0))] → W p l env (rmR 0 0) s m ([.ref (a 0)] : List Value).toArray below meth cod s.heap [] 0 0 Q (F0 m 4 ls []) := by
    intro nn
    induction nn with
    | zero => intro _ _ _ _ h; exact absurd h (Nat.not_lt_zero _)
    | succ nn ih_4 =>
      intro k ch hk hch hm_4 ls hl
      refine z_iload_n S dX2_usedEntries_4 hl 0 rfl rfl ?_
      refine z_bipush S dX2_usedEntries_5 rfl ?_
      refine z_icmp_ge S 28 dX2_usedEntries_7 (by decide) (by omega) (by omega) (fun c_7 => ?_) (fun c_7 => ?_)
      · skip
        refine z_iload_n S dX2_usedEntries_28 hl 1 rfl rfl ?_
        exact ret _ _ _ dX2_usedEntries_29 (by rw [hch, show k = 16 by omega]; rfl)
      · skip
        refine z_aload_n S dX2_usedEntries_10 hl 2 rfl rfl ?_
        refine z_get S hG hP.1 zc_X2 2 (by decide) q1_62 rfl rfl dX2_usedEntries_11 ?_
        refine z_iload_n S dX2_usedEntries_14 hl 0 rfl rfl ?_
        refine z_ialdB S hG hP.2.2.1 (by omega) (by decide) dX2_usedEntries_15 ?_
        have hub := usz_b σ k
        refine z_if_le S 22 dX2_usedEntries_16 (by decide) (by omega) (fun c_16 => ?_) (fun c_16 => ?_)
        · skip
          refine z_iinc (lv' := [(2, .int (zI (k + 1))), (1, .int (zI (ch))), (0, .ref (a 0))]) S dX2_usedEntries_22 hl 0 rfl (by decide) rfl (fun ls hl => ?_)
          refine z_goto S 4 dX2_usedEntries_25 (by decide) ?_
          exact ih_4 (k + 1) (ch) (by omega) (by rw [hch]; exact (cntI_f hk.1 (by unfold usB; simp; omega)).symm) (by omega) ls (lv_sub hl [0, 1, 2] rfl)
        · skip
          refine z_iinc (lv' := [(1, .int (zI (ch + 1))), (2, .int (zI (k))), (0, .ref (a 0))]) S dX2_usedEntries_19 hl 1 rfl (by decide) rfl (fun ls hl => ?_)
          refine z_iinc (lv' := [(2, .int (zI (k + 1))), (1, .int (zI (ch + 1))), (0, .ref (a 0))]) S dX2_usedEntries_22 hl 1 rfl (by decide) rfl (fun ls hl => ?_)
          refine z_goto S 4 dX2_usedEntries_25 (by decide) ?_
          exact ih_4 (k + 1) (ch + 1) (by omega) (by rw [hch]; exact (cntI_t hk.1 (by unfold usB; simp; omega)).symm) (by omega) ls (lv_sub hl [0, 1, 2] rfl)
  exact loop_4 _ (0) (0) (by omega) (rfl) (Nat.lt_succ_self _) ls (lv_sub hl [0, 1, 2] rfl)
theorem dX2_kinds_0 : decode cX2_kinds 0 = .ok (.iconst 0, 1) := by decide +kernel
theorem dX2_kinds_1 : decode cX2_kinds 1 = .ok (.istore_n 1, 1) := by decide +kernel
theorem dX2_kinds_2 : decode cX2_kinds 2 = .ok (.iconst 0, 1) := by decide +kernel
theorem dX2_kinds_3 : decode cX2_kinds 3 = .ok (.istore_n 2, 1) := by decide +kernel
theorem dX2_kinds_4 : decode cX2_kinds 4 = .ok (.iload_n 2, 1) := by decide +kernel
theorem dX2_kinds_5 : decode cX2_kinds 5 = .ok (.bipush 16, 2) := by decide +kernel
theorem dX2_kinds_7 : decode cX2_kinds 7 = .ok (.if_icmp .ge 31, 3) := by decide +kernel
theorem dX2_kinds_10 : decode cX2_kinds 10 = .ok (.aload_n 0, 1) := by decide +kernel
theorem dX2_kinds_11 : decode cX2_kinds 11 = .ok (.getfield 20, 3) := by decide +kernel
theorem dX2_kinds_14 : decode cX2_kinds 14 = .ok (.iload_n 2, 1) := by decide +kernel
theorem dX2_kinds_15 : decode cX2_kinds 15 = .ok (.iaload, 1) := by decide +kernel
theorem dX2_kinds_16 : decode cX2_kinds 16 = .ok (.ifCond .le 16, 3) := by decide +kernel
theorem dX2_kinds_19 : decode cX2_kinds 19 = .ok (.iload_n 1, 1) := by decide +kernel
theorem dX2_kinds_20 : decode cX2_kinds 20 = .ok (.iconst 1, 1) := by decide +kernel
theorem dX2_kinds_21 : decode cX2_kinds 21 = .ok (.aload_n 0, 1) := by decide +kernel
theorem dX2_kinds_22 : decode cX2_kinds 22 = .ok (.getfield 12, 3) := by decide +kernel
theorem dX2_kinds_25 : decode cX2_kinds 25 = .ok (.iload_n 2, 1) := by decide +kernel
theorem dX2_kinds_26 : decode cX2_kinds 26 = .ok (.invokevirtual 124, 3) := by decide +kernel
theorem dX2_kinds_29 : decode cX2_kinds 29 = .ok (.ishl, 1) := by decide +kernel
theorem dX2_kinds_30 : decode cX2_kinds 30 = .ok (.ior, 1) := by decide +kernel
theorem dX2_kinds_31 : decode cX2_kinds 31 = .ok (.istore_n 1, 1) := by decide +kernel
theorem dX2_kinds_32 : decode cX2_kinds 32 = .ok (.iinc 2 1, 3) := by decide +kernel
theorem dX2_kinds_35 : decode cX2_kinds 35 = .ok (.goto (-31), 3) := by decide +kernel
theorem dX2_kinds_38 : decode cX2_kinds 38 = .ok (.iload_n 1, 1) := by decide +kernel
theorem dX2_kinds_39 : decode cX2_kinds 39 = .ok (.invokestatic 283, 3) := by decide +kernel
theorem dX2_kinds_42 : decode cX2_kinds 42 = .ok (.ireturn, 1) := by decide +kernel
theorem q1_200 : (Jvm.Cond.methodLink "Cyclepaint" (283 : Nat) ({ cls := "java/lang/Integer", name := "bitCount", desc := "(I)I" } : Jvm.MethodName)) ∈ lw_g := zg_of (zin1 (List.mem_of_getElem? (i := 200) rfl)) rfl
theorem q1_89 : (Jvm.Cond.methodLink "Cyclepaint" (124 : Nat) ({ cls := "Cyclepaint$Palette", name := "smallestTwin", desc := "(I)I" } : Jvm.MethodName)) ∈ lw_g := zg_of (zin1 (List.mem_of_getElem? (i := 89) rfl)) rfl
theorem q1_199 : (Jvm.Cond.code ({ cls := "Cyclepaint", name := "kinds", desc := "()I" } : Jvm.MethodName) prog_1_method_45_code (3 : Nat) (Option.some Jvm.ClassFile.FieldType.int)) ∈ lw_g := zg_of (zin1 (List.mem_of_getElem? (i := 199) rfl)) rfl
theorem q1_198 : (Jvm.Cond.instanceMethod ({ cls := "Cyclepaint", name := "kinds", desc := "()I" } : Jvm.MethodName)) ∈ lw_g := zg_of (zin1 (List.mem_of_getElem? (i := 198) rfl)) rfl
theorem qs_4 : Cond.selects "Cyclepaint" (⟨"Cyclepaint", "kinds", "()I"⟩ : MethodName) (⟨"Cyclepaint", "kinds", "()I"⟩ : MethodName) ∈ lw_g := zg_of (zinS (List.mem_of_getElem? (i := 4) rfl)) rfl
theorem ok_X2_kinds : zOV yX2_kinds cX2_kinds 3 ((Option.some Jvm.ClassFile.FieldType.int)) 0 := ⟨⟨q1_199, q1_1, by decide, by decide, by decide +kernel⟩, q1_198, qs_4⟩
set_option maxHeartbeats 4000000 in
set_option maxRecDepth 100000 in
theorem c_X2_kinds (l : Launch) (G : zG) (σ : St) (a : Nat → Nat) : Met l yX2_kinds (wq yX2_kinds cX2_kinds 3 ((Option.some Jvm.ClassFile.FieldType.int))) (rmR 4 92) (va_Pc [.ref (a 0)] (zK G (hCyc G σ a))) (zQ (some (.int ((bcR (ksC σ)))))) 0 0 zF := by
  refine z_enterI (by decide +kernel) (Nat.le_of_ble_eq_true rfl) ?_
  intro p env s m below meth cod Q S hG hP ret ls hl
  have hl : lv_has ls 3 [(0, .ref (a 0))] := hl
  refine z_iconst S dX2_kinds_0 ?_
  refine z_istore_n (lv' := [(1, .int (zI (0))), (0, .ref (a 0))]) S dX2_kinds_1 hl rfl (by decide) rfl (fun ls hl => ?_)
  refine z_iconst S dX2_kinds_2 ?_
  refine z_istore_n (lv' := [(2, .int (zI (0))), (1, .int (zI (0))), (0, .ref (a 0))]) S dX2_kinds_3 hl rfl (by decide) rfl (fun ls hl => ?_)
  have loop_4 : ∀ (nn : Nat) (k : Int) (b : Int32), (0 ≤ k ∧ k ≤ 16) → (b = orI (usB σ) (fun e => bit1 (smlC σ e)) k) → ((16 - k).toNat) < nn → ∀ ls, lv_has ls 3 [(2, .int (zI (k))), (1, .int (b)), (0, .ref (a 0))] → W p l env (rmR 4 92) s m ([.ref (a 0)] : List Value).toArray below meth cod s.heap [] 0 0 Q (F0 m 4 ls []) := by
    intro nn
    induction nn with
    | zero => intro _ _ _ _ h; exact absurd h (Nat.not_lt_zero _)
    | succ nn ih_4 =>
      intro k b hk hb hm_4 ls hl
      refine z_iload_n S dX2_kinds_4 hl 0 rfl rfl ?_
      refine z_bipush S dX2_kinds_5 rfl ?_
      refine z_icmp_ge S 38 dX2_kinds_7 (by decide) (by omega) (by omega) (fun c_7 => ?_) (fun c_7 => ?_)
      · skip
        refine z_iload_n S dX2_kinds_38 hl 1 rfl rfl ?_
        refine z_callSs S hG (c_bitCount l G (b)) ok_J6_bitCount_0f7a4 q1_200 (trivial) ⟨rfl, rfl, by decide, by decide⟩ ⟨Nat.zero_le _, Nat.zero_le _⟩ rfl (Nat.le_of_ble_eq_true rfl) hl.1 rfl dX2_kinds_39 ?_
        exact ret _ _ _ dX2_kinds_42 (by rw [hb, show k = 16 by omega]; rfl)
      · skip
        refine z_aload_n S dX2_kinds_10 hl 2 rfl rfl ?_
        refine z_get S hG hP.1 zc_X2 2 (by decide) q1_62 rfl rfl dX2_kinds_11 ?_
        refine z_iload_n S dX2_kinds_14 hl 0 rfl rfl ?_
        refine z_ialdB S hG hP.2.2.1 (by omega) (by decide) dX2_kinds_15 ?_
        have hub := usz_b σ k
        refine z_if_le S 32 dX2_kinds_16 (by decide) (by omega) (fun c_16 => ?_) (fun c_16 => ?_)
        · skip
          refine z_iinc (lv' := [(2, .int (zI (k + 1))), (1, .int (b)), (0, .ref (a 0))]) S dX2_kinds_32 hl 0 rfl (by decide) rfl (fun ls hl => ?_)
          refine z_goto S 4 dX2_kinds_35 (by decide) ?_
          exact ih_4 (k + 1) (b) (by omega) (by rw [orI_s hk.1, if_neg (by unfold usB; simp; omega)]; exact hb) (by omega) ls (lv_sub hl [0, 1, 2] rfl)
        · skip
          refine z_iload_n S dX2_kinds_19 hl 1 rfl rfl ?_
          refine z_iconst S dX2_kinds_20 ?_
          refine z_aload_n S dX2_kinds_21 hl 2 rfl rfl ?_
          refine z_get S hG hP.1 zc_X2 0 (by decide) q1_60 rfl rfl dX2_kinds_22 ?_
          refine z_iload_n S dX2_kinds_25 hl 0 rfl rfl ?_
          refine z_callVs S hG (c_X0_smallestTwin l G σ a (k) (by omega)) ok_X0_smallestTwin hP.2.2.2.2.1.1 zc_X0 rfl q1_89 (hP.2.2.2.2.1) ⟨rfl, rfl, by decide, by decide⟩ ⟨Nat.zero_le _, Nat.zero_le _⟩ rfl (Nat.le_of_ble_eq_true rfl) hl.1 rfl dX2_kinds_26 ?_
          refine lv_ishl S.1 S.2.1 dX2_kinds_29 ?_
          refine lv_ior S.1 S.2.1 dX2_kinds_30 ?_
          refine z_istore_n (lv' := [(1, .int ((b) ||| ((zI (1)) <<< ((zI (smlC σ (k))) &&& 31)))), (2, .int (zI (k))), (0, .ref (a 0))]) S dX2_kinds_31 hl rfl (by decide) rfl (fun ls hl => ?_)
          refine z_iinc (lv' := [(2, .int (zI (k + 1))), (1, .int ((b) ||| ((zI (1)) <<< ((zI (smlC σ (k))) &&& 31)))), (0, .ref (a 0))]) S dX2_kinds_32 hl 1 rfl (by decide) rfl (fun ls hl => ?_)
          refine z_goto S 4 dX2_kinds_35 (by decide) ?_
          exact ih_4 (k + 1) ((b) ||| ((zI (1)) <<< ((zI (smlC σ (k))) &&& 31))) (by omega) (by rw [orI_s hk.1, if_pos (by unfold usB; simp; omega), hb]; rfl) (by omega) ls (lv_sub hl [0, 1, 2] rfl)
  exact loop_4 _ (0) ((zI (0))) (by omega) (rfl) (Nat.lt_succ_self _) ls (lv_sub hl [0, 1, 2] rfl)
theorem dX2_lightAt_0 : decode cX2_lightAt 0 = .ok (.iconst 0, 1) := by decide +kernel
theorem dX2_lightAt_1 : decode cX2_lightAt 1 = .ok (.istore_n 2, 1) := by decide +kernel
theorem dX2_lightAt_2 : decode cX2_lightAt 2 = .ok (.iconst 0, 1) := by decide +kernel
theorem dX2_lightAt_3 : decode cX2_lightAt 3 = .ok (.istore_n 3, 1) := by decide +kernel
theorem dX2_lightAt_4 : decode cX2_lightAt 4 = .ok (.iload_n 3, 1) := by decide +kernel
theorem dX2_lightAt_5 : decode cX2_lightAt 5 = .ok (.bipush 16, 2) := by decide +kernel
theorem dX2_lightAt_7 : decode cX2_lightAt 7 = .ok (.if_icmp .ge 40, 3) := by decide +kernel
theorem dX2_lightAt_10 : decode cX2_lightAt 10 = .ok (.aload_n 0, 1) := by decide +kernel
theorem dX2_lightAt_11 : decode cX2_lightAt 11 = .ok (.getfield 20, 3) := by decide +kernel
theorem dX2_lightAt_14 : decode cX2_lightAt 14 = .ok (.iload_n 3, 1) := by decide +kernel
theorem dX2_lightAt_15 : decode cX2_lightAt 15 = .ok (.iaload, 1) := by decide +kernel
theorem dX2_lightAt_16 : decode cX2_lightAt 16 = .ok (.ifCond .le 25, 3) := by decide +kernel
theorem dX2_lightAt_19 : decode cX2_lightAt 19 = .ok (.iload_n 2, 1) := by decide +kernel
theorem dX2_lightAt_20 : decode cX2_lightAt 20 = .ok (.aload_n 0, 1) := by decide +kernel
theorem dX2_lightAt_21 : decode cX2_lightAt 21 = .ok (.getfield 20, 3) := by decide +kernel
theorem dX2_lightAt_24 : decode cX2_lightAt 24 = .ok (.iload_n 3, 1) := by decide +kernel
theorem dX2_lightAt_25 : decode cX2_lightAt 25 = .ok (.iaload, 1) := by decide +kernel
theorem dX2_lightAt_26 : decode cX2_lightAt 26 = .ok (.aload_n 0, 1) := by decide +kernel
theorem dX2_lightAt_27 : decode cX2_lightAt 27 = .ok (.getfield 12, 3) := by decide +kernel
theorem dX2_lightAt_30 : decode cX2_lightAt 30 = .ok (.iload_n 3, 1) := by decide +kernel
theorem dX2_lightAt_31 : decode cX2_lightAt 31 = .ok (.iload_n 1, 1) := by decide +kernel
theorem dX2_lightAt_32 : decode cX2_lightAt 32 = .ok (.invokevirtual 146, 3) := by decide +kernel
theorem dX2_lightAt_35 : decode cX2_lightAt 35 = .ok (.invokestatic 259, 3) := by decide +kernel
theorem dX2_lightAt_38 : decode cX2_lightAt 38 = .ok (.imul, 1) := by decide +kernel
theorem dX2_lightAt_39 : decode cX2_lightAt 39 = .ok (.iadd, 1) := by decide +kernel
theorem dX2_lightAt_40 : decode cX2_lightAt 40 = .ok (.istore_n 2, 1) := by decide +kernel
theorem dX2_lightAt_41 : decode cX2_lightAt 41 = .ok (.iinc 3 1, 3) := by decide +kernel
theorem dX2_lightAt_44 : decode cX2_lightAt 44 = .ok (.goto (-40), 3) := by decide +kernel
theorem dX2_lightAt_47 : decode cX2_lightAt 47 = .ok (.iload_n 2, 1) := by decide +kernel
theorem dX2_lightAt_48 : decode cX2_lightAt 48 = .ok (.ireturn, 1) := by decide +kernel
theorem q1_167 : (Jvm.Cond.methodLink "Cyclepaint" (259 : Nat) ({ cls := "Cyclepaint", name := "lightOf", desc := "(I)I" } : Jvm.MethodName)) ∈ lw_g := zg_of (zin1 (List.mem_of_getElem? (i := 167) rfl)) rfl
theorem q1_165 : (Jvm.Cond.code ({ cls := "Cyclepaint", name := "lightAt", desc := "(I)I" } : Jvm.MethodName) prog_1_method_46_code (4 : Nat) (Option.some Jvm.ClassFile.FieldType.int)) ∈ lw_g := zg_of (zin1 (List.mem_of_getElem? (i := 165) rfl)) rfl
theorem q1_164 : (Jvm.Cond.instanceMethod ({ cls := "Cyclepaint", name := "lightAt", desc := "(I)I" } : Jvm.MethodName)) ∈ lw_g := zg_of (zin1 (List.mem_of_getElem? (i := 164) rfl)) rfl
theorem qs_3 : Cond.selects "Cyclepaint" (⟨"Cyclepaint", "lightAt", "(I)I"⟩ : MethodName) (⟨"Cyclepaint", "lightAt", "(I)I"⟩ : MethodName) ∈ lw_g := zg_of (zinS (List.mem_of_getElem? (i := 3) rfl)) rfl
theorem ok_X2_lightAt : zOV yX2_lightAt cX2_lightAt 4 ((Option.some Jvm.ClassFile.FieldType.int)) 1 := ⟨⟨q1_165, q1_1, by decide, by decide, by decide +kernel⟩, q1_164, qs_3⟩
set_option maxHeartbeats 4000000 in
set_option maxRecDepth 100000 in
theorem c_X2_lightAt (l : Launch) (G : zG) (σ : St) (a : Nat → Nat) (w : Int) (hw : 0 ≤ w ∧ w ≤ 1000000) : Met l yX2_lightAt (wq yX2_lightAt cX2_lightAt 4 ((Option.some Jvm.ClassFile.FieldType.int))) (rmR 2 46) (va_Pc [.ref (a 0), .int (zI (w))] (zK G (hCyc G σ a))) (zQ (some (.int ((liC σ w))))) 0 0 zF := by
  refine z_enterI (by decide +kernel) (Nat.le_of_ble_eq_true rfl) ?_
  intro p env s m below meth cod Q S hG hP ret ls hl
  have hl : lv_has ls 4 [(0, .ref (a 0)), (1, .int (zI (w)))] := hl
  refine z_iconst S dX2_lightAt_0 ?_
  refine z_istore_n (lv' := [(2, .int (zI (0))), (0, .ref (a 0)), (1, .int (zI (w)))]) S dX2_lightAt_1 hl rfl (by decide) rfl (fun ls hl => ?_)
  refine z_iconst S dX2_lightAt_2 ?_
  refine z_istore_n (lv' := [(3, .int (zI (0))), (2, .int (zI (0))), (0, .ref (a 0)), (1, .int (zI (w)))]) S dX2_lightAt_3 hl rfl (by decide) rfl (fun ls hl => ?_)
  have loop_4 : ∀ (nn : Nat) (k : Int) (b : Int32), (0 ≤ k ∧ k ≤ 16) → (b = smI (fun e => zI (usz σ e) * lgt (shw σ e w)) k) → ((16 - k).toNat) < nn → ∀ ls, lv_has ls 4 [(3, .int (zI (k))), (2, .int (b)), (0, .ref (a 0)), (1, .int (zI (w)))] → W p l env (rmR 2 46) s m ([.ref (a 0), .int (zI (w))] : List Value).toArray below meth cod s.heap [] 0 0 Q (F0 m 4 ls []) := by
    intro nn
    induction nn with
    | zero => intro _ _ _ _ h; exact absurd h (Nat.not_lt_zero _)
    | succ nn ih_4 =>
      intro k b hk hb hm_4 ls hl
      refine z_iload_n S dX2_lightAt_4 hl 0 rfl rfl ?_
      refine z_bipush S dX2_lightAt_5 rfl ?_
      refine z_icmp_ge S 47 dX2_lightAt_7 (by decide) (by omega) (by omega) (fun c_7 => ?_) (fun c_7 => ?_)
      · skip
        refine z_iload_n S dX2_lightAt_47 hl 1 rfl rfl ?_
        exact ret _ _ _ dX2_lightAt_48 (by rw [hb, show k = 16 by omega]; rfl)
      · skip
        refine z_aload_n S dX2_lightAt_10 hl 2 rfl rfl ?_
        refine z_get S hG hP.1 zc_X2 2 (by decide) q1_62 rfl rfl dX2_lightAt_11 ?_
        refine z_iload_n S dX2_lightAt_14 hl 0 rfl rfl ?_
        refine z_ialdB S hG hP.2.2.1 (by omega) (by decide) dX2_lightAt_15 ?_
        have hub := usz_b σ k
        refine z_if_le S 41 dX2_lightAt_16 (by decide) (by omega) (fun c_16 => ?_) (fun c_16 => ?_)
        · skip
          refine z_iinc (lv' := [(3, .int (zI (k + 1))), (2, .int (b)), (0, .ref (a 0)), (1, .int (zI (w)))]) S dX2_lightAt_41 hl 0 rfl (by decide) rfl (fun ls hl => ?_)
          refine z_goto S 4 dX2_lightAt_44 (by decide) ?_
          exact ih_4 (k + 1) (b) (by omega) (by rw [smI_s hk.1, show usz σ k = 0 by omega, show zI 0 = 0 from rfl, Int32.zero_mul, Int32.add_zero]; exact hb) (by omega) ls (lv_sub hl [0, 1, 2, 3] rfl)
        · skip
          refine z_iload_n S dX2_lightAt_19 hl 1 rfl rfl ?_
          refine z_aload_n S dX2_lightAt_20 hl 2 rfl rfl ?_
          refine z_get S hG hP.1 zc_X2 2 (by decide) q1_62 rfl rfl dX2_lightAt_21 ?_
          refine z_iload_n S dX2_lightAt_24 hl 0 rfl rfl ?_
          refine z_ialdB S hG hP.2.2.1 (by omega) (by decide) dX2_lightAt_25 ?_
          refine z_aload_n S dX2_lightAt_26 hl 2 rfl rfl ?_
          refine z_get S hG hP.1 zc_X2 0 (by decide) q1_60 rfl rfl dX2_lightAt_27 ?_
          refine z_iload_n S dX2_lightAt_30 hl 0 rfl rfl ?_
          refine z_iload_n S dX2_lightAt_31 hl 3 rfl rfl ?_
          refine z_callVs S hG (c_X0_shows l G σ a (k) (w) (by omega) (by omega)) ok_X0_shows hP.2.2.2.2.1.1 zc_X0 rfl q1_166 (hP.2.2.2.2.1) ⟨rfl, rfl, by decide, by decide⟩ ⟨Nat.zero_le _, Nat.zero_le _⟩ rfl (Nat.le_of_ble_eq_true rfl) hl.1 rfl dX2_lightAt_32 ?_
          refine z_callSs S hG (c_X2_lightOf l G (shw σ (k) (w))) ok_X2_lightOf q1_167 (trivial) ⟨rfl, rfl, by decide, by decide⟩ ⟨Nat.zero_le _, Nat.zero_le _⟩ rfl (Nat.le_of_ble_eq_true rfl) hl.1 rfl dX2_lightAt_35 ?_
          refine lv_imul S.1 S.2.1 dX2_lightAt_38 ?_
          refine lv_iadd S.1 S.2.1 dX2_lightAt_39 ?_
          refine z_istore_n (lv' := [(2, .int ((b) + ((zI (usz σ (k))) * (lgt (shw σ (k) (w)))))), (3, .int (zI (k))), (0, .ref (a 0)), (1, .int (zI (w)))]) S dX2_lightAt_40 hl rfl (by decide) rfl (fun ls hl => ?_)
          refine z_iinc (lv' := [(3, .int (zI (k + 1))), (2, .int ((b) + ((zI (usz σ (k))) * (lgt (shw σ (k) (w)))))), (0, .ref (a 0)), (1, .int (zI (w)))]) S dX2_lightAt_41 hl 1 rfl (by decide) rfl (fun ls hl => ?_)
          refine z_goto S 4 dX2_lightAt_44 (by decide) ?_
          exact ih_4 (k + 1) ((b) + ((zI (usz σ (k))) * (lgt (shw σ (k) (w))))) (by omega) (by rw [smI_s hk.1, hb]) (by omega) ls (lv_sub hl [0, 1, 2, 3] rfl)
  exact loop_4 _ (0) ((zI (0))) (by omega) (rfl) (Nat.lt_succ_self _) ls (lv_sub hl [0, 1, 2, 3] rfl)
theorem dX2_lightOfLightestRow_0 : decode cX2_lightOfLightestRow 0 = .ok (.iconst 0, 1) := by decide +kernel
theorem dX2_lightOfLightestRow_1 : decode cX2_lightOfLightestRow 1 = .ok (.istore_n 1, 1) := by decide +kernel
theorem dX2_lightOfLightestRow_2 : decode cX2_lightOfLightestRow 2 = .ok (.iconst 0, 1) := by decide +kernel
theorem dX2_lightOfLightestRow_3 : decode cX2_lightOfLightestRow 3 = .ok (.istore_n 2, 1) := by decide +kernel
theorem dX2_lightOfLightestRow_4 : decode cX2_lightOfLightestRow 4 = .ok (.iload_n 2, 1) := by decide +kernel
theorem dX2_lightOfLightestRow_5 : decode cX2_lightOfLightestRow 5 = .ok (.iconst 4, 1) := by decide +kernel
theorem dX2_lightOfLightestRow_6 : decode cX2_lightOfLightestRow 6 = .ok (.if_icmp .ge 50, 3) := by decide +kernel
theorem dX2_lightOfLightestRow_9 : decode cX2_lightOfLightestRow 9 = .ok (.iconst 0, 1) := by decide +kernel
theorem dX2_lightOfLightestRow_10 : decode cX2_lightOfLightestRow 10 = .ok (.istore_n 3, 1) := by decide +kernel
theorem dX2_lightOfLightestRow_11 : decode cX2_lightOfLightestRow 11 = .ok (.iconst 0, 1) := by decide +kernel
theorem dX2_lightOfLightestRow_12 : decode cX2_lightOfLightestRow 12 = .ok (.istore 4, 2) := by decide +kernel
theorem dX2_lightOfLightestRow_14 : decode cX2_lightOfLightestRow 14 = .ok (.iload 4, 2) := by decide +kernel
theorem dX2_lightOfLightestRow_16 : decode cX2_lightOfLightestRow 16 = .ok (.bipush 8, 2) := by decide +kernel
theorem dX2_lightOfLightestRow_18 : decode cX2_lightOfLightestRow 18 = .ok (.if_icmp .ge 26, 3) := by decide +kernel
theorem dX2_lightOfLightestRow_21 : decode cX2_lightOfLightestRow 21 = .ok (.iload_n 3, 1) := by decide +kernel
theorem dX2_lightOfLightestRow_22 : decode cX2_lightOfLightestRow 22 = .ok (.aload_n 0, 1) := by decide +kernel
theorem dX2_lightOfLightestRow_23 : decode cX2_lightOfLightestRow 23 = .ok (.iload_n 2, 1) := by decide +kernel
theorem dX2_lightOfLightestRow_24 : decode cX2_lightOfLightestRow 24 = .ok (.bipush 8, 2) := by decide +kernel
theorem dX2_lightOfLightestRow_26 : decode cX2_lightOfLightestRow 26 = .ok (.imul, 1) := by decide +kernel
theorem dX2_lightOfLightestRow_27 : decode cX2_lightOfLightestRow 27 = .ok (.iload 4, 2) := by decide +kernel
theorem dX2_lightOfLightestRow_29 : decode cX2_lightOfLightestRow 29 = .ok (.iadd, 1) := by decide +kernel
theorem dX2_lightOfLightestRow_30 : decode cX2_lightOfLightestRow 30 = .ok (.invokevirtual 189, 3) := by decide +kernel
theorem dX2_lightOfLightestRow_33 : decode cX2_lightOfLightestRow 33 = .ok (.invokestatic 259, 3) := by decide +kernel
theorem dX2_lightOfLightestRow_36 : decode cX2_lightOfLightestRow 36 = .ok (.iadd, 1) := by decide +kernel
theorem dX2_lightOfLightestRow_37 : decode cX2_lightOfLightestRow 37 = .ok (.istore_n 3, 1) := by decide +kernel
theorem dX2_lightOfLightestRow_38 : decode cX2_lightOfLightestRow 38 = .ok (.iinc 4 1, 3) := by decide +kernel
theorem dX2_lightOfLightestRow_41 : decode cX2_lightOfLightestRow 41 = .ok (.goto (-27), 3) := by decide +kernel
theorem dX2_lightOfLightestRow_44 : decode cX2_lightOfLightestRow 44 = .ok (.iload_n 1, 1) := by decide +kernel
theorem dX2_lightOfLightestRow_45 : decode cX2_lightOfLightestRow 45 = .ok (.iload_n 3, 1) := by decide +kernel
theorem dX2_lightOfLightestRow_46 : decode cX2_lightOfLightestRow 46 = .ok (.invokestatic 288, 3) := by decide +kernel
theorem dX2_lightOfLightestRow_49 : decode cX2_lightOfLightestRow 49 = .ok (.istore_n 1, 1) := by decide +kernel
theorem dX2_lightOfLightestRow_50 : decode cX2_lightOfLightestRow 50 = .ok (.iinc 2 1, 3) := by decide +kernel
theorem dX2_lightOfLightestRow_53 : decode cX2_lightOfLightestRow 53 = .ok (.goto (-49), 3) := by decide +kernel
theorem dX2_lightOfLightestRow_56 : decode cX2_lightOfLightestRow 56 = .ok (.iload_n 1, 1) := by decide +kernel
theorem dX2_lightOfLightestRow_57 : decode cX2_lightOfLightestRow 57 = .ok (.ireturn, 1) := by decide +kernel
theorem q1_235 : (Jvm.Cond.methodLink "Cyclepaint" (288 : Nat) ({ cls := "java/lang/Math", name := "max", desc := "(II)I" } : Jvm.MethodName)) ∈ lw_g := zg_of (zin1 (List.mem_of_getElem? (i := 235) rfl)) rfl
theorem q1_236 : (Jvm.Cond.static ({ cls := "java/lang/Math", name := "max", desc := "(II)I" } : Jvm.MethodName)) ∈ lw_g := zg_of (zin1 (List.mem_of_getElem? (i := 236) rfl)) rfl
theorem q1_18 : (Jvm.Cond.initialized "java/lang/Math") ∈ lw_g := zg_of (zin1 (List.mem_of_getElem? (i := 18) rfl)) rfl
theorem q1_237 : (Jvm.Cond.code ({ cls := "java/lang/Math", name := "max", desc := "(II)I" } : Jvm.MethodName) prog_20_method_65_code (2 : Nat) (Option.some Jvm.ClassFile.FieldType.int)) ∈ lw_g := zg_of (zin1 (List.mem_of_getElem? (i := 237) rfl)) rfl
theorem q1_231 : (Jvm.Cond.methodLink "Cyclepaint" (189 : Nat) ({ cls := "Cyclepaint", name := "shownNow", desc := "(I)I" } : Jvm.MethodName)) ∈ lw_g := zg_of (zin1 (List.mem_of_getElem? (i := 231) rfl)) rfl
theorem q1_230 : (Jvm.Cond.code ({ cls := "Cyclepaint", name := "lightOfLightestRow", desc := "()I" } : Jvm.MethodName) prog_1_method_47_code (5 : Nat) (Option.some Jvm.ClassFile.FieldType.int)) ∈ lw_g := zg_of (zin1 (List.mem_of_getElem? (i := 230) rfl)) rfl
theorem q1_229 : (Jvm.Cond.instanceMethod ({ cls := "Cyclepaint", name := "lightOfLightestRow", desc := "()I" } : Jvm.MethodName)) ∈ lw_g := zg_of (zin1 (List.mem_of_getElem? (i := 229) rfl)) rfl
theorem qs_7 : Cond.selects "Cyclepaint" (⟨"Cyclepaint", "lightOfLightestRow", "()I"⟩ : MethodName) (⟨"Cyclepaint", "lightOfLightestRow", "()I"⟩ : MethodName) ∈ lw_g := zg_of (zinS (List.mem_of_getElem? (i := 7) rfl)) rfl
theorem ok_X2_lightOfLightestRow : zOV yX2_lightOfLightestRow cX2_lightOfLightestRow 5 ((Option.some Jvm.ClassFile.FieldType.int)) 0 := ⟨⟨q1_230, q1_1, by decide, by decide, by decide +kernel⟩, q1_229, qs_7⟩
set_option maxHeartbeats 4000000 in
set_option maxRecDepth 100000 in
theorem c_X2_mostRow (l : Launch) (G : zG) (σ : St) (a : Nat → Nat) : Met l yX2_lightOfLightestRow (wq yX2_lightOfLightestRow cX2_lightOfLightestRow 5 ((Option.some Jvm.ClassFile.FieldType.int))) (rmR 3 67) (va_Pc [.ref (a 0)] (zK G (hCyc G σ a))) (zQ (some (.int ((mrL σ))))) 0 0 zF := by
  refine z_enterI (by decide +kernel) (Nat.le_of_ble_eq_true rfl) ?_
  intro p env s m below meth cod Q S hG hP ret ls hl
  have hl : lv_has ls 5 [(0, .ref (a 0))] := hl
  refine z_iconst S dX2_lightOfLightestRow_0 ?_
  refine z_istore_n (lv' := [(1, .int (zI (0))), (0, .ref (a 0))]) S dX2_lightOfLightestRow_1 hl rfl (by decide) rfl (fun ls hl => ?_)
  refine z_iconst S dX2_lightOfLightestRow_2 ?_
  refine z_istore_n (lv' := [(2, .int (zI (0))), (1, .int (zI (0))), (0, .ref (a 0))]) S dX2_lightOfLightestRow_3 hl rfl (by decide) rfl (fun ls hl => ?_)
  have loop_4 : ∀ (nn : Nat) (r : Int) (b : Int32), (0 ≤ r ∧ r ≤ 4) → (b = mxI (rwL σ) r) → ((4 - r).toNat) < nn → ∀ ls, lv_has ls 5 [(2, .int (zI (r))), (1, .int (b)), (0, .ref (a 0))] → W p l env (rmR 3 67) s m ([.ref (a 0)] : List Value).toArray below meth cod s.heap [] 0 0 Q (F0 m 4 ls []) := by
    intro nn
    induction nn with
    | zero => intro _ _ _ _ h; exact absurd h (Nat.not_lt_zero _)
    | succ nn ih_4 =>
      intro r b hr hb hm_4 ls hl
      refine z_iload_n S dX2_lightOfLightestRow_4 hl 0 rfl rfl ?_
      refine z_iconst S dX2_lightOfLightestRow_5 ?_
      refine z_icmp_ge S 56 dX2_lightOfLightestRow_6 (by decide) (by omega) (by omega) (fun c_6 => ?_) (fun c_6 => ?_)
      · skip
        refine z_iload_n S dX2_lightOfLightestRow_56 hl 1 rfl rfl ?_
        exact ret _ _ _ dX2_lightOfLightestRow_57 (by rw [hb, show r = 4 by omega]; rfl)
      · skip
        refine z_iconst S dX2_lightOfLightestRow_9 ?_
        refine z_istore_n (lv' := [(3, .int (zI (0))), (2, .int (zI (r))), (1, .int (b)), (0, .ref (a 0))]) S dX2_lightOfLightestRow_10 hl rfl (by decide) rfl (fun ls hl => ?_)
        refine z_iconst S dX2_lightOfLightestRow_11 ?_
        refine z_istore (lv' := [(4, .int (zI (0))), (3, .int (zI (0))), (2, .int (zI (r))), (1, .int (b)), (0, .ref (a 0))]) S dX2_lightOfLightestRow_12 hl (by decide) rfl (fun ls hl => ?_)
        have loop_14 : ∀ (nn : Nat) (q : Int) (g : Int32), (0 ≤ q ∧ q ≤ 8) → (g = smI (fun q => lgt (shw σ (σ.Dt (r * 8 + q)) σ.tk)) q) → ((8 - q).toNat) < nn → ∀ ls, lv_has ls 5 [(4, .int (zI (q))), (3, .int (g)), (2, .int (zI (r))), (1, .int (b)), (0, .ref (a 0))] → W p l env (rmR 3 67) s m ([.ref (a 0)] : List Value).toArray below meth cod s.heap [] 0 0 Q (F0 m 14 ls []) := by
          intro nn
          induction nn with
          | zero => intro _ _ _ _ h; exact absurd h (Nat.not_lt_zero _)
          | succ nn ih_14 =>
            intro q g hq hg hm_14 ls hl
            refine z_iload S dX2_lightOfLightestRow_14 hl 0 rfl ?_
            refine z_bipush S dX2_lightOfLightestRow_16 rfl ?_
            refine z_icmp_ge S 44 dX2_lightOfLightestRow_18 (by decide) (by omega) (by omega) (fun c_18 => ?_) (fun c_18 => ?_)
            · skip
              refine z_iload_n S dX2_lightOfLightestRow_44 hl 3 rfl rfl ?_
              refine z_iload_n S dX2_lightOfLightestRow_45 hl 1 rfl rfl ?_
              refine z_max S q1_235 q1_236 q1_18 (by exact q1_237) (by decide) (Nat.le_of_ble_eq_true rfl) ⟨Nat.zero_le _, Nat.zero_le _⟩ hl.1 dX2_lightOfLightestRow_46 ?_
              refine z_istore_n (lv' := [(1, .int (if (b) < (g) then (g) else (b))), (4, .int (zI (q))), (3, .int (g)), (2, .int (zI (r))), (0, .ref (a 0))]) S dX2_lightOfLightestRow_49 hl rfl (by decide) rfl (fun ls hl => ?_)
              refine z_iinc (lv' := [(2, .int (zI (r + 1))), (1, .int (if (b) < (g) then (g) else (b))), (4, .int (zI (q))), (3, .int (g)), (0, .ref (a 0))]) S dX2_lightOfLightestRow_50 hl 3 rfl (by decide) rfl (fun ls hl => ?_)
              refine z_goto S 4 dX2_lightOfLightestRow_53 (by decide) ?_
              exact ih_4 (r + 1) (if (b) < (g) then (g) else (b)) (by omega) (by rw [mxI_s hr.1, ← hb, show rwL σ r = g by rw [hg, show q = 8 by omega]; rfl]) (by omega) ls (lv_sub hl [0, 1, 4] rfl)
            · skip
              refine z_iload_n S dX2_lightOfLightestRow_21 hl 1 rfl rfl ?_
              refine z_aload_n S dX2_lightOfLightestRow_22 hl 4 rfl rfl ?_
              refine z_iload_n S dX2_lightOfLightestRow_23 hl 2 rfl rfl ?_
              refine z_bipush S dX2_lightOfLightestRow_24 rfl ?_
              refine z_imul S dX2_lightOfLightestRow_26 ?_
              refine z_iload S dX2_lightOfLightestRow_27 hl 0 rfl ?_
              refine z_iadd S dX2_lightOfLightestRow_29 ?_
              refine z_callVs S hG (c_X2_shownNow l G σ a (((r) * (8)) + (q)) (by omega)) ok_X2_shownNow hP.1 zc_X2 rfl q1_231 (hP) ⟨rfl, rfl, by decide, by decide⟩ ⟨Nat.zero_le _, Nat.zero_le _⟩ rfl (Nat.le_of_ble_eq_true rfl) hl.1 rfl dX2_lightOfLightestRow_30 ?_
              refine z_callSs S hG (c_X2_lightOf l G (shw σ (σ.Dt (((r) * (8)) + (q))) σ.tk)) ok_X2_lightOf q1_167 (trivial) ⟨rfl, rfl, by decide, by decide⟩ ⟨Nat.zero_le _, Nat.zero_le _⟩ rfl (Nat.le_of_ble_eq_true rfl) hl.1 rfl dX2_lightOfLightestRow_33 ?_
              refine lv_iadd S.1 S.2.1 dX2_lightOfLightestRow_36 ?_
              refine z_istore_n (lv' := [(3, .int ((g) + (lgt (shw σ (σ.Dt (((r) * (8)) + (q))) σ.tk)))), (4, .int (zI (q))), (2, .int (zI (r))), (1, .int (b)), (0, .ref (a 0))]) S dX2_lightOfLightestRow_37 hl rfl (by decide) rfl (fun ls hl => ?_)
              refine z_iinc (lv' := [(4, .int (zI (q + 1))), (3, .int ((g) + (lgt (shw σ (σ.Dt (((r) * (8)) + (q))) σ.tk)))), (2, .int (zI (r))), (1, .int (b)), (0, .ref (a 0))]) S dX2_lightOfLightestRow_38 hl 1 rfl (by decide) rfl (fun ls hl => ?_)
              refine z_goto S 14 dX2_lightOfLightestRow_41 (by decide) ?_
              exact ih_14 (q + 1) ((g) + (lgt (shw σ (σ.Dt (((r) * (8)) + (q))) σ.tk))) (by omega) (by rw [smI_s hq.1, hg]) (by omega) ls (lv_sub hl [0, 1, 2, 3, 4] rfl)
        exact loop_14 _ (0) ((zI (0))) (by omega) (rfl) (Nat.lt_succ_self _) ls (lv_sub hl [0, 1, 2, 3, 4] rfl)
  exact loop_4 _ (0) ((zI (0))) (by omega) (rfl) (Nat.lt_succ_self _) ls (lv_sub hl [0, 1, 2] rfl)
theorem dX2_flickeringDots_0 : decode cX2_flickeringDots 0 = .ok (.iconst 0, 1) := by decide +kernel
theorem dX2_flickeringDots_1 : decode cX2_flickeringDots 1 = .ok (.istore_n 1, 1) := by decide +kernel
theorem dX2_flickeringDots_2 : decode cX2_flickeringDots 2 = .ok (.iconst 0, 1) := by decide +kernel
theorem dX2_flickeringDots_3 : decode cX2_flickeringDots 3 = .ok (.istore_n 2, 1) := by decide +kernel
theorem dX2_flickeringDots_4 : decode cX2_flickeringDots 4 = .ok (.iload_n 2, 1) := by decide +kernel
theorem dX2_flickeringDots_5 : decode cX2_flickeringDots 5 = .ok (.bipush 16, 2) := by decide +kernel
theorem dX2_flickeringDots_7 : decode cX2_flickeringDots 7 = .ok (.if_icmp .ge 46, 3) := by decide +kernel
theorem dX2_flickeringDots_10 : decode cX2_flickeringDots 10 = .ok (.aload_n 0, 1) := by decide +kernel
theorem dX2_flickeringDots_11 : decode cX2_flickeringDots 11 = .ok (.getfield 20, 3) := by decide +kernel
theorem dX2_flickeringDots_14 : decode cX2_flickeringDots 14 = .ok (.iload_n 2, 1) := by decide +kernel
theorem dX2_flickeringDots_15 : decode cX2_flickeringDots 15 = .ok (.iaload, 1) := by decide +kernel
theorem dX2_flickeringDots_16 : decode cX2_flickeringDots 16 = .ok (.ifCond .le 31, 3) := by decide +kernel
theorem dX2_flickeringDots_19 : decode cX2_flickeringDots 19 = .ok (.aload_n 0, 1) := by decide +kernel
theorem dX2_flickeringDots_20 : decode cX2_flickeringDots 20 = .ok (.getfield 12, 3) := by decide +kernel
theorem dX2_flickeringDots_23 : decode cX2_flickeringDots 23 = .ok (.iload_n 2, 1) := by decide +kernel
theorem dX2_flickeringDots_24 : decode cX2_flickeringDots 24 = .ok (.aload_n 0, 1) := by decide +kernel
theorem dX2_flickeringDots_25 : decode cX2_flickeringDots 25 = .ok (.getfield 30, 3) := by decide +kernel
theorem dX2_flickeringDots_28 : decode cX2_flickeringDots 28 = .ok (.bipush 30, 2) := by decide +kernel
theorem dX2_flickeringDots_30 : decode cX2_flickeringDots 30 = .ok (.invokevirtual 135, 3) := by decide +kernel
theorem dX2_flickeringDots_33 : decode cX2_flickeringDots 33 = .ok (.bipush 10, 2) := by decide +kernel
theorem dX2_flickeringDots_35 : decode cX2_flickeringDots 35 = .ok (.if_icmp .le 12, 3) := by decide +kernel
theorem dX2_flickeringDots_38 : decode cX2_flickeringDots 38 = .ok (.iload_n 1, 1) := by decide +kernel
theorem dX2_flickeringDots_39 : decode cX2_flickeringDots 39 = .ok (.aload_n 0, 1) := by decide +kernel
theorem dX2_flickeringDots_40 : decode cX2_flickeringDots 40 = .ok (.getfield 20, 3) := by decide +kernel
theorem dX2_flickeringDots_43 : decode cX2_flickeringDots 43 = .ok (.iload_n 2, 1) := by decide +kernel
theorem dX2_flickeringDots_44 : decode cX2_flickeringDots 44 = .ok (.iaload, 1) := by decide +kernel
theorem dX2_flickeringDots_45 : decode cX2_flickeringDots 45 = .ok (.iadd, 1) := by decide +kernel
theorem dX2_flickeringDots_46 : decode cX2_flickeringDots 46 = .ok (.istore_n 1, 1) := by decide +kernel
theorem dX2_flickeringDots_47 : decode cX2_flickeringDots 47 = .ok (.iinc 2 1, 3) := by decide +kernel
theorem dX2_flickeringDots_50 : decode cX2_flickeringDots 50 = .ok (.goto (-46), 3) := by decide +kernel
theorem dX2_flickeringDots_53 : decode cX2_flickeringDots 53 = .ok (.iload_n 1, 1) := by decide +kernel
theorem dX2_flickeringDots_54 : decode cX2_flickeringDots 54 = .ok (.ireturn, 1) := by decide +kernel
theorem q2_2 : (Jvm.Cond.methodLink "Cyclepaint" (135 : Nat) ({ cls := "Cyclepaint$Palette", name := "changes", desc := "(III)I" } : Jvm.MethodName)) ∈ lw_g := zg_of (zin2 (List.mem_of_getElem? (i := 2) rfl)) rfl
theorem q2_1 : (Jvm.Cond.code ({ cls := "Cyclepaint", name := "flickeringDots", desc := "()I" } : Jvm.MethodName) prog_1_method_48_code (3 : Nat) (Option.some Jvm.ClassFile.FieldType.int)) ∈ lw_g := zg_of (zin2 (List.mem_of_getElem? (i := 1) rfl)) rfl
theorem q2_0 : (Jvm.Cond.instanceMethod ({ cls := "Cyclepaint", name := "flickeringDots", desc := "()I" } : Jvm.MethodName)) ∈ lw_g := zg_of (zin2 (List.mem_of_getElem? (i := 0) rfl)) rfl
theorem qs_9 : Cond.selects "Cyclepaint" (⟨"Cyclepaint", "flickeringDots", "()I"⟩ : MethodName) (⟨"Cyclepaint", "flickeringDots", "()I"⟩ : MethodName) ∈ lw_g := zg_of (zinS (List.mem_of_getElem? (i := 9) rfl)) rfl
theorem ok_X2_flickeringDots : zOV yX2_flickeringDots cX2_flickeringDots 3 ((Option.some Jvm.ClassFile.FieldType.int)) 0 := ⟨⟨q2_1, q1_1, by decide, by decide, by decide +kernel⟩, q2_0, qs_9⟩
set_option maxHeartbeats 4000000 in
set_option maxRecDepth 100000 in
theorem c_X2_flickering (l : Launch) (G : zG) (σ : St) (a : Nat → Nat) : Met l yX2_flickeringDots (wq yX2_flickeringDots cX2_flickeringDots 3 ((Option.some Jvm.ClassFile.FieldType.int))) (rmR 3 73) (va_Pc [.ref (a 0)] (zK G (hCyc G σ a))) (zQ (some (.int ((zI (flC σ)))))) 0 0 zF := by
  refine z_enterI (by decide +kernel) (Nat.le_of_ble_eq_true rfl) ?_
  intro p env s m below meth cod Q S hG hP ret ls hl
  have hl : lv_has ls 3 [(0, .ref (a 0))] := hl
  have hC := hP.2.2.2.2.2
  have hT := hC.1
  have hdt := hC.2.1
  have hlm := hC.2.2.1
  have hkn := hC.2.2.2.1
  have hD := hC.2.2.2.2.1
  have hB := hC.2.2.2.2.2
  refine z_iconst S dX2_flickeringDots_0 ?_
  refine z_istore_n (lv' := [(1, .int (zI (0))), (0, .ref (a 0))]) S dX2_flickeringDots_1 hl rfl (by decide) rfl (fun ls hl => ?_)
  refine z_iconst S dX2_flickeringDots_2 ?_
  refine z_istore_n (lv' := [(2, .int (zI (0))), (1, .int (zI (0))), (0, .ref (a 0))]) S dX2_flickeringDots_3 hl rfl (by decide) rfl (fun ls hl => ?_)
  have loop_4 : ∀ (nn : Nat) (k : Int) (ch : Int), (0 ≤ k ∧ k ≤ 16) → (ch = szI (flG σ) k) → ((16 - k).toNat) < nn → ∀ ls, lv_has ls 3 [(2, .int (zI (k))), (1, .int (zI (ch))), (0, .ref (a 0))] → W p l env (rmR 3 73) s m ([.ref (a 0)] : List Value).toArray below meth cod s.heap [] 0 0 Q (F0 m 4 ls []) := by
    intro nn
    induction nn with
    | zero => intro _ _ _ _ h; exact absurd h (Nat.not_lt_zero _)
    | succ nn ih_4 =>
      intro k ch hk hch hm_4 ls hl
      refine z_iload_n S dX2_flickeringDots_4 hl 0 rfl rfl ?_
      refine z_bipush S dX2_flickeringDots_5 rfl ?_
      refine z_icmp_ge S 53 dX2_flickeringDots_7 (by decide) (by omega) (by omega) (fun c_7 => ?_) (fun c_7 => ?_)
      · skip
        refine z_iload_n S dX2_flickeringDots_53 hl 1 rfl rfl ?_
        exact ret _ _ _ dX2_flickeringDots_54 (by rw [hch, show k = 16 by omega]; rfl)
      · skip
        refine z_aload_n S dX2_flickeringDots_10 hl 2 rfl rfl ?_
        refine z_get S hG hP.1 zc_X2 2 (by decide) q1_62 rfl rfl dX2_flickeringDots_11 ?_
        refine z_iload_n S dX2_flickeringDots_14 hl 0 rfl rfl ?_
        refine z_ialdB S hG hP.2.2.1 (by omega) (by decide) dX2_flickeringDots_15 ?_
        have hub := usz_b σ k
        refine z_if_le S 47 dX2_flickeringDots_16 (by decide) (by omega) (fun c_16 => ?_) (fun c_16 => ?_)
        · skip
          refine z_iinc (lv' := [(2, .int (zI (k + 1))), (1, .int (zI (ch))), (0, .ref (a 0))]) S dX2_flickeringDots_47 hl 0 rfl (by decide) rfl (fun ls hl => ?_)
          refine z_goto S 4 dX2_flickeringDots_50 (by decide) ?_
          exact ih_4 (k + 1) (ch) (by omega) (by rw [szI_s hk.1, show flG σ k = 0 by unfold flG; split <;> omega]; omega) (by omega) ls (lv_sub hl [0, 1, 2] rfl)
        · skip
          refine z_aload_n S dX2_flickeringDots_19 hl 2 rfl rfl ?_
          refine z_get S hG hP.1 zc_X2 0 (by decide) q1_60 rfl rfl dX2_flickeringDots_20 ?_
          refine z_iload_n S dX2_flickeringDots_23 hl 0 rfl rfl ?_
          refine z_aload_n S dX2_flickeringDots_24 hl 2 rfl rfl ?_
          refine z_get S hG hP.1 zc_X2 5 (by decide) q1_65 rfl rfl dX2_flickeringDots_25 ?_
          refine z_bipush S dX2_flickeringDots_28 rfl ?_
          refine z_callVs S hG (c_X0_changes l G σ a (k) (σ.tk) (30) (by omega) (by omega) (by omega)) ok_X0_changes hP.2.2.2.2.1.1 zc_X0 rfl q2_2 (hP.2.2.2.2.1) ⟨rfl, rfl, by decide, by decide⟩ ⟨Nat.zero_le _, Nat.zero_le _⟩ rfl (Nat.le_of_ble_eq_true rfl) hl.1 rfl dX2_flickeringDots_30 ?_
          refine z_bipush S dX2_flickeringDots_33 rfl ?_
          have hcb := cntI_b (chgB σ k σ.tk) (k := 30) (by omega)
          have hce : chg σ k σ.tk 30 = cntI (chgB σ k σ.tk) 30 := rfl
          refine z_icmp_le S 47 dX2_flickeringDots_35 (by decide) (by omega) (by omega) (fun c_35 => ?_) (fun c_35 => ?_)
          · skip
            refine z_iinc (lv' := [(2, .int (zI (k + 1))), (1, .int (zI (ch))), (0, .ref (a 0))]) S dX2_flickeringDots_47 hl 0 rfl (by decide) rfl (fun ls hl => ?_)
            refine z_goto S 4 dX2_flickeringDots_50 (by decide) ?_
            exact ih_4 (k + 1) (ch) (by omega) (by rw [szI_s hk.1, show flG σ k = 0 by unfold flG; split <;> omega]; omega) (by omega) ls (lv_sub hl [0, 1, 2] rfl)
          · skip
            refine z_iload_n S dX2_flickeringDots_38 hl 1 rfl rfl ?_
            refine z_aload_n S dX2_flickeringDots_39 hl 2 rfl rfl ?_
            refine z_get S hG hP.1 zc_X2 2 (by decide) q1_62 rfl rfl dX2_flickeringDots_40 ?_
            refine z_iload_n S dX2_flickeringDots_43 hl 0 rfl rfl ?_
            refine z_ialdB S hG hP.2.2.1 (by omega) (by decide) dX2_flickeringDots_44 ?_
            refine z_iadd S dX2_flickeringDots_45 ?_
            refine z_istore_n (lv' := [(1, .int (zI ((ch) + (usz σ (k))))), (2, .int (zI (k))), (0, .ref (a 0))]) S dX2_flickeringDots_46 hl rfl (by decide) rfl (fun ls hl => ?_)
            refine z_iinc (lv' := [(2, .int (zI (k + 1))), (1, .int (zI ((ch) + (usz σ (k))))), (0, .ref (a 0))]) S dX2_flickeringDots_47 hl 1 rfl (by decide) rfl (fun ls hl => ?_)
            refine z_goto S 4 dX2_flickeringDots_50 (by decide) ?_
            exact ih_4 (k + 1) ((ch) + (usz σ (k))) (by omega) (by rw [szI_s hk.1, show flG σ k = usz σ k by unfold flG; split <;> omega]; omega) (by omega) ls (lv_sub hl [0, 1, 2] rfl)
  exact loop_4 _ (0) (0) (by omega) (rfl) (Nat.lt_succ_self _) ls (lv_sub hl [0, 1, 2] rfl)
theorem dX2_isBarred_0 : decode cX2_isBarred 0 = .ok (.aload_n 0, 1) := by decide +kernel
theorem dX2_isBarred_1 : decode cX2_isBarred 1 = .ok (.invokevirtual 277, 3) := by decide +kernel
theorem dX2_isBarred_4 : decode cX2_isBarred 4 = .ok (.aload_n 0, 1) := by decide +kernel
theorem dX2_isBarred_5 : decode cX2_isBarred 5 = .ok (.getfield 33, 3) := by decide +kernel
theorem dX2_isBarred_8 : decode cX2_isBarred 8 = .ok (.if_icmp .le 7, 3) := by decide +kernel
theorem dX2_isBarred_11 : decode cX2_isBarred 11 = .ok (.iconst 1, 1) := by decide +kernel
theorem dX2_isBarred_12 : decode cX2_isBarred 12 = .ok (.goto 4, 3) := by decide +kernel
theorem dX2_isBarred_15 : decode cX2_isBarred 15 = .ok (.iconst 0, 1) := by decide +kernel
theorem dX2_isBarred_16 : decode cX2_isBarred 16 = .ok (.ireturn, 1) := by decide +kernel
theorem q1_238 : (Jvm.Cond.methodLink "Cyclepaint" (277 : Nat) ({ cls := "Cyclepaint", name := "flickeringDots", desc := "()I" } : Jvm.MethodName)) ∈ lw_g := zg_of (zin1 (List.mem_of_getElem? (i := 238) rfl)) rfl
theorem q1_66 : (Jvm.Cond.fieldLink "Cyclepaint" (33 : Nat) "Cyclepaint" "limit" "I") ∈ lw_g := zg_of (zin1 (List.mem_of_getElem? (i := 66) rfl)) rfl
theorem q2_9 : (Jvm.Cond.code ({ cls := "Cyclepaint", name := "isBarred", desc := "()Z" } : Jvm.MethodName) prog_1_method_49_code (1 : Nat) (Option.some Jvm.ClassFile.FieldType.boolean)) ∈ lw_g := zg_of (zin2 (List.mem_of_getElem? (i := 9) rfl)) rfl
theorem q2_8 : (Jvm.Cond.instanceMethod ({ cls := "Cyclepaint", name := "isBarred", desc := "()Z" } : Jvm.MethodName)) ∈ lw_g := zg_of (zin2 (List.mem_of_getElem? (i := 8) rfl)) rfl
theorem qs_10 : Cond.selects "Cyclepaint" (⟨"Cyclepaint", "isBarred", "()Z"⟩ : MethodName) (⟨"Cyclepaint", "isBarred", "()Z"⟩ : MethodName) ∈ lw_g := zg_of (zinS (List.mem_of_getElem? (i := 10) rfl)) rfl
theorem ok_X2_isBarred : zOV yX2_isBarred cX2_isBarred 1 ((Option.some Jvm.ClassFile.FieldType.boolean)) 0 := ⟨⟨q2_9, q1_1, by decide, by decide, by decide +kernel⟩, q2_8, qs_10⟩
set_option maxHeartbeats 4000000 in
set_option maxRecDepth 100000 in
theorem c_X2_isBarred (l : Launch) (G : zG) (σ : St) (a : Nat → Nat) : Met l yX2_isBarred (wq yX2_isBarred cX2_isBarred 1 ((Option.some Jvm.ClassFile.FieldType.boolean))) (rmR 4 95) (va_Pc [.ref (a 0)] (zK G (hCyc G σ a))) (zQ (some (.int (bI (decide (σ.lim < flC σ)))))) 0 0 zF := by
  refine z_enterB (by decide +kernel) (Nat.le_of_ble_eq_true rfl) ?_
  intro p env s m below meth cod Q S hG hP ret ls hl
  have hl : lv_has ls 1 [(0, .ref (a 0))] := hl
  have hC := hP.2.2.2.2.2
  have hT := hC.1
  have hdt := hC.2.1
  have hlm := hC.2.2.1
  have hkn := hC.2.2.2.1
  have hD := hC.2.2.2.2.1
  have hB := hC.2.2.2.2.2
  refine z_aload_n S dX2_isBarred_0 hl 0 rfl rfl ?_
  refine z_callVs S hG (c_X2_flickering l G σ a) ok_X2_flickeringDots hP.1 zc_X2 rfl q1_238 (hP) ⟨rfl, rfl, by decide, by decide⟩ ⟨Nat.zero_le _, Nat.zero_le _⟩ rfl (Nat.le_of_ble_eq_true rfl) hl.1 rfl dX2_isBarred_1 ?_
  refine z_aload_n S dX2_isBarred_4 hl 0 rfl rfl ?_
  refine z_get S hG hP.1 zc_X2 6 (by decide) q1_66 rfl rfl dX2_isBarred_5 ?_
  have hfb := flC_b σ
  refine z_icmp_le S 15 dX2_isBarred_8 (by decide) (by omega) (by omega) (fun c_8 => ?_) (fun c_8 => ?_)
  · skip
    refine z_iconst S dX2_isBarred_15 ?_
    exact ret _ _ _ dX2_isBarred_16 (by rw [show decide (σ.lim < flC σ) = false from by simp; omega]; rfl)
  · skip
    refine z_iconst S dX2_isBarred_11 ?_
    refine z_goto S 16 dX2_isBarred_12 (by decide) ?_
    exact ret _ _ _ dX2_isBarred_16 (by rw [show decide (σ.lim < flC σ) = true from by simp; omega]; rfl)
theorem dX2_coloursShown_0 : decode cX2_coloursShown 0 = .ok (.lconst 0, 1) := by decide +kernel
theorem dX2_coloursShown_1 : decode cX2_coloursShown 1 = .ok (.lstore_n 1, 1) := by decide +kernel
theorem dX2_coloursShown_2 : decode cX2_coloursShown 2 = .ok (.iconst 0, 1) := by decide +kernel
theorem dX2_coloursShown_3 : decode cX2_coloursShown 3 = .ok (.istore_n 3, 1) := by decide +kernel
theorem dX2_coloursShown_4 : decode cX2_coloursShown 4 = .ok (.iload_n 3, 1) := by decide +kernel
theorem dX2_coloursShown_5 : decode cX2_coloursShown 5 = .ok (.bipush 16, 2) := by decide +kernel
theorem dX2_coloursShown_7 : decode cX2_coloursShown 7 = .ok (.if_icmp .ge 35, 3) := by decide +kernel
theorem dX2_coloursShown_10 : decode cX2_coloursShown 10 = .ok (.aload_n 0, 1) := by decide +kernel
theorem dX2_coloursShown_11 : decode cX2_coloursShown 11 = .ok (.getfield 20, 3) := by decide +kernel
theorem dX2_coloursShown_14 : decode cX2_coloursShown 14 = .ok (.iload_n 3, 1) := by decide +kernel
theorem dX2_coloursShown_15 : decode cX2_coloursShown 15 = .ok (.iaload, 1) := by decide +kernel
theorem dX2_coloursShown_16 : decode cX2_coloursShown 16 = .ok (.ifCond .le 20, 3) := by decide +kernel
theorem dX2_coloursShown_19 : decode cX2_coloursShown 19 = .ok (.lload_n 1, 1) := by decide +kernel
theorem dX2_coloursShown_20 : decode cX2_coloursShown 20 = .ok (.lconst 1, 1) := by decide +kernel
theorem dX2_coloursShown_21 : decode cX2_coloursShown 21 = .ok (.aload_n 0, 1) := by decide +kernel
theorem dX2_coloursShown_22 : decode cX2_coloursShown 22 = .ok (.getfield 12, 3) := by decide +kernel
theorem dX2_coloursShown_25 : decode cX2_coloursShown 25 = .ok (.iload_n 3, 1) := by decide +kernel
theorem dX2_coloursShown_26 : decode cX2_coloursShown 26 = .ok (.aload_n 0, 1) := by decide +kernel
theorem dX2_coloursShown_27 : decode cX2_coloursShown 27 = .ok (.getfield 30, 3) := by decide +kernel
theorem dX2_coloursShown_30 : decode cX2_coloursShown 30 = .ok (.invokevirtual 146, 3) := by decide +kernel
theorem dX2_coloursShown_33 : decode cX2_coloursShown 33 = .ok (.lshl, 1) := by decide +kernel
theorem dX2_coloursShown_34 : decode cX2_coloursShown 34 = .ok (.lor, 1) := by decide +kernel
theorem dX2_coloursShown_35 : decode cX2_coloursShown 35 = .ok (.lstore_n 1, 1) := by decide +kernel
theorem dX2_coloursShown_36 : decode cX2_coloursShown 36 = .ok (.iinc 3 1, 3) := by decide +kernel
theorem dX2_coloursShown_39 : decode cX2_coloursShown 39 = .ok (.goto (-35), 3) := by decide +kernel
theorem dX2_coloursShown_42 : decode cX2_coloursShown 42 = .ok (.lload_n 1, 1) := by decide +kernel
theorem dX2_coloursShown_43 : decode cX2_coloursShown 43 = .ok (.invokestatic 293, 3) := by decide +kernel
theorem dX2_coloursShown_46 : decode cX2_coloursShown 46 = .ok (.ireturn, 1) := by decide +kernel
theorem q2_14 : (Jvm.Cond.methodLink "Cyclepaint" (293 : Nat) ({ cls := "java/lang/Long", name := "bitCount", desc := "(J)I" } : Jvm.MethodName)) ∈ lw_g := zg_of (zin2 (List.mem_of_getElem? (i := 14) rfl)) rfl
theorem q2_13 : (Jvm.Cond.code ({ cls := "Cyclepaint", name := "coloursShown", desc := "()I" } : Jvm.MethodName) prog_1_method_50_code (4 : Nat) (Option.some Jvm.ClassFile.FieldType.int)) ∈ lw_g := zg_of (zin2 (List.mem_of_getElem? (i := 13) rfl)) rfl
theorem q2_12 : (Jvm.Cond.instanceMethod ({ cls := "Cyclepaint", name := "coloursShown", desc := "()I" } : Jvm.MethodName)) ∈ lw_g := zg_of (zin2 (List.mem_of_getElem? (i := 12) rfl)) rfl
theorem qs_11 : Cond.selects "Cyclepaint" (⟨"Cyclepaint", "coloursShown", "()I"⟩ : MethodName) (⟨"Cyclepaint", "coloursShown", "()I"⟩ : MethodName) ∈ lw_g := zg_of (zinS (List.mem_of_getElem? (i := 11) rfl)) rfl
theorem ok_X2_coloursShown : zOV yX2_coloursShown cX2_coloursShown 4 ((Option.some Jvm.ClassFile.FieldType.int)) 0 := ⟨⟨q2_13, q1_1, by decide, by decide, by decide +kernel⟩, q2_12, qs_11⟩
set_option maxHeartbeats 4000000 in
set_option maxRecDepth 100000 in
theorem c_X2_coloursShown (l : Launch) (G : zG) (σ : St) (a : Nat → Nat) : Met l yX2_coloursShown (wq yX2_coloursShown cX2_coloursShown 4 ((Option.some Jvm.ClassFile.FieldType.int))) (rmR 2 46) (va_Pc [.ref (a 0)] (zK G (hCyc G σ a))) (zQ (some (.int ((bcL (csC σ)))))) 0 0 zF := by
  refine z_enterI (by decide +kernel) (Nat.le_of_ble_eq_true rfl) ?_
  intro p env s m below meth cod Q S hG hP ret ls hl
  have hl : lv_has ls 4 [(0, .ref (a 0))] := hl
  have hC := hP.2.2.2.2.2
  have hT := hC.1
  have hdt := hC.2.1
  have hlm := hC.2.2.1
  have hkn := hC.2.2.2.1
  have hD := hC.2.2.2.2.1
  have hB := hC.2.2.2.2.2
  refine lv_lconst S.1 S.2.1 dX2_coloursShown_0 rfl ?_
  refine lv_lstore_n (lv' := [(1, .long (0)), (0, .ref (a 0))]) S.1 S.2.1 dX2_coloursShown_1 rfl hl (by decide) rfl (fun ls hl => ?_)
  refine z_iconst S dX2_coloursShown_2 ?_
  refine z_istore_n (lv' := [(3, .int (zI (0))), (1, .long (0)), (0, .ref (a 0))]) S dX2_coloursShown_3 hl rfl (by decide) rfl (fun ls hl => ?_)
  have loop_4 : ∀ (nn : Nat) (k : Int) (b : Int64), (0 ≤ k ∧ k ≤ 16) → (b = orL (usB σ) (fun e => bitL (shw σ e σ.tk)) k) → ((16 - k).toNat) < nn → ∀ ls, lv_has ls 4 [(3, .int (zI (k))), (1, .long (b)), (0, .ref (a 0))] → W p l env (rmR 2 46) s m ([.ref (a 0)] : List Value).toArray below meth cod s.heap [] 0 0 Q (F0 m 4 ls []) := by
    intro nn
    induction nn with
    | zero => intro _ _ _ _ h; exact absurd h (Nat.not_lt_zero _)
    | succ nn ih_4 =>
      intro k b hk hb hm_4 ls hl
      refine z_iload_n S dX2_coloursShown_4 hl 0 rfl rfl ?_
      refine z_bipush S dX2_coloursShown_5 rfl ?_
      refine z_icmp_ge S 42 dX2_coloursShown_7 (by decide) (by omega) (by omega) (fun c_7 => ?_) (fun c_7 => ?_)
      · skip
        refine lv_lload_n S.1 S.2.1 dX2_coloursShown_42 rfl (lv_at hl 1 rfl) ?_
        refine z_callSs S hG (c_bitCountL l G (b)) ok_J13_bitCount_95d88 q2_14 (trivial) ⟨rfl, rfl, by decide, by decide⟩ ⟨Nat.zero_le _, Nat.zero_le _⟩ rfl (Nat.le_of_ble_eq_true rfl) hl.1 rfl dX2_coloursShown_43 ?_
        exact ret _ _ _ dX2_coloursShown_46 (by rw [hb, show k = 16 by omega]; rfl)
      · skip
        refine z_aload_n S dX2_coloursShown_10 hl 2 rfl rfl ?_
        refine z_get S hG hP.1 zc_X2 2 (by decide) q1_62 rfl rfl dX2_coloursShown_11 ?_
        refine z_iload_n S dX2_coloursShown_14 hl 0 rfl rfl ?_
        refine z_ialdB S hG hP.2.2.1 (by omega) (by decide) dX2_coloursShown_15 ?_
        have hub := usz_b σ k
        refine z_if_le S 36 dX2_coloursShown_16 (by decide) (by omega) (fun c_16 => ?_) (fun c_16 => ?_)
        · skip
          refine z_iinc (lv' := [(3, .int (zI (k + 1))), (1, .long (b)), (0, .ref (a 0))]) S dX2_coloursShown_36 hl 0 rfl (by decide) rfl (fun ls hl => ?_)
          refine z_goto S 4 dX2_coloursShown_39 (by decide) ?_
          exact ih_4 (k + 1) (b) (by omega) (by rw [orL_s hk.1, if_neg (by unfold usB; simp; omega)]; exact hb) (by omega) ls (lv_sub hl [0, 1, 2] rfl)
        · skip
          refine lv_lload_n S.1 S.2.1 dX2_coloursShown_19 rfl (lv_at hl 1 rfl) ?_
          refine lv_lconst S.1 S.2.1 dX2_coloursShown_20 rfl ?_
          refine z_aload_n S dX2_coloursShown_21 hl 2 rfl rfl ?_
          refine z_get S hG hP.1 zc_X2 0 (by decide) q1_60 rfl rfl dX2_coloursShown_22 ?_
          refine z_iload_n S dX2_coloursShown_25 hl 0 rfl rfl ?_
          refine z_aload_n S dX2_coloursShown_26 hl 2 rfl rfl ?_
          refine z_get S hG hP.1 zc_X2 5 (by decide) q1_65 rfl rfl dX2_coloursShown_27 ?_
          refine z_callVs S hG (c_X0_shows l G σ a (k) (σ.tk) (by omega) (by omega)) ok_X0_shows hP.2.2.2.2.1.1 zc_X0 rfl q1_166 (hP.2.2.2.2.1) ⟨rfl, rfl, by decide, by decide⟩ ⟨Nat.zero_le _, Nat.zero_le _⟩ rfl (Nat.le_of_ble_eq_true rfl) hl.1 rfl dX2_coloursShown_30 ?_
          refine lv_lshl S.1 S.2.1 dX2_coloursShown_33 rfl ?_
          refine lv_lor S.1 S.2.1 dX2_coloursShown_34 ?_
          refine lv_lstore_n (lv' := [(1, .long ((b) ||| ((1) <<< ((shw σ (k) (σ.tk)).toInt64 &&& 63)))), (3, .int (zI (k))), (0, .ref (a 0))]) S.1 S.2.1 dX2_coloursShown_35 rfl hl (by decide) rfl (fun ls hl => ?_)
          refine z_iinc (lv' := [(3, .int (zI (k + 1))), (1, .long ((b) ||| ((1) <<< ((shw σ (k) (σ.tk)).toInt64 &&& 63)))), (0, .ref (a 0))]) S dX2_coloursShown_36 hl 1 rfl (by decide) rfl (fun ls hl => ?_)
          refine z_goto S 4 dX2_coloursShown_39 (by decide) ?_
          exact ih_4 (k + 1) ((b) ||| ((1) <<< ((shw σ (k) (σ.tk)).toInt64 &&& 63))) (by omega) (by rw [orL_s hk.1, if_pos (by unfold usB; simp; omega), hb]; rfl) (by omega) ls (lv_sub hl [0, 1, 2] rfl)
  exact loop_4 _ (0) (0) (by omega) (rfl) (Nat.lt_succ_self _) ls (lv_sub hl [0, 1, 2] rfl)
theorem dX2_showsKept_0 : decode cX2_showsKept 0 = .ok (.iload_n 1, 1) := by decide +kernel
theorem dX2_showsKept_1 : decode cX2_showsKept 1 = .ok (.ifCond .lt 8, 3) := by decide +kernel
theorem dX2_showsKept_4 : decode cX2_showsKept 4 = .ok (.iload_n 1, 1) := by decide +kernel
theorem dX2_showsKept_5 : decode cX2_showsKept 5 = .ok (.iconst 5, 1) := by decide +kernel
theorem dX2_showsKept_6 : decode cX2_showsKept 6 = .ok (.if_icmp .lt 5, 3) := by decide +kernel
theorem dX2_showsKept_9 : decode cX2_showsKept 9 = .ok (.iconst 0, 1) := by decide +kernel
theorem dX2_showsKept_10 : decode cX2_showsKept 10 = .ok (.ireturn, 1) := by decide +kernel
theorem dX2_showsKept_11 : decode cX2_showsKept 11 = .ok (.iload_n 1, 1) := by decide +kernel
theorem dX2_showsKept_12 : decode cX2_showsKept 12 = .ok (.bipush 32, 2) := by decide +kernel
theorem dX2_showsKept_14 : decode cX2_showsKept 14 = .ok (.imul, 1) := by decide +kernel
theorem dX2_showsKept_15 : decode cX2_showsKept 15 = .ok (.istore_n 3, 1) := by decide +kernel
theorem dX2_showsKept_16 : decode cX2_showsKept 16 = .ok (.iconst 0, 1) := by decide +kernel
theorem dX2_showsKept_17 : decode cX2_showsKept 17 = .ok (.istore 4, 2) := by decide +kernel
theorem dX2_showsKept_19 : decode cX2_showsKept 19 = .ok (.iload 4, 2) := by decide +kernel
theorem dX2_showsKept_21 : decode cX2_showsKept 21 = .ok (.bipush 32, 2) := by decide +kernel
theorem dX2_showsKept_23 : decode cX2_showsKept 23 = .ok (.if_icmp .ge 38, 3) := by decide +kernel
theorem dX2_showsKept_26 : decode cX2_showsKept 26 = .ok (.aload_n 0, 1) := by decide +kernel
theorem dX2_showsKept_27 : decode cX2_showsKept 27 = .ok (.getfield 12, 3) := by decide +kernel
theorem dX2_showsKept_30 : decode cX2_showsKept 30 = .ok (.aload_n 0, 1) := by decide +kernel
theorem dX2_showsKept_31 : decode cX2_showsKept 31 = .ok (.getfield 16, 3) := by decide +kernel
theorem dX2_showsKept_34 : decode cX2_showsKept 34 = .ok (.iload 4, 2) := by decide +kernel
theorem dX2_showsKept_36 : decode cX2_showsKept 36 = .ok (.iaload, 1) := by decide +kernel
theorem dX2_showsKept_37 : decode cX2_showsKept 37 = .ok (.iload_n 2, 1) := by decide +kernel
theorem dX2_showsKept_38 : decode cX2_showsKept 38 = .ok (.invokevirtual 146, 3) := by decide +kernel
theorem dX2_showsKept_41 : decode cX2_showsKept 41 = .ok (.aload_n 0, 1) := by decide +kernel
theorem dX2_showsKept_42 : decode cX2_showsKept 42 = .ok (.getfield 23, 3) := by decide +kernel
theorem dX2_showsKept_45 : decode cX2_showsKept 45 = .ok (.iload_n 3, 1) := by decide +kernel
theorem dX2_showsKept_46 : decode cX2_showsKept 46 = .ok (.iload 4, 2) := by decide +kernel
theorem dX2_showsKept_48 : decode cX2_showsKept 48 = .ok (.iadd, 1) := by decide +kernel
theorem dX2_showsKept_49 : decode cX2_showsKept 49 = .ok (.iaload, 1) := by decide +kernel
theorem dX2_showsKept_50 : decode cX2_showsKept 50 = .ok (.if_icmp .eq 5, 3) := by decide +kernel
theorem dX2_showsKept_53 : decode cX2_showsKept 53 = .ok (.iconst 0, 1) := by decide +kernel
theorem dX2_showsKept_54 : decode cX2_showsKept 54 = .ok (.ireturn, 1) := by decide +kernel
theorem dX2_showsKept_55 : decode cX2_showsKept 55 = .ok (.iinc 4 1, 3) := by decide +kernel
theorem dX2_showsKept_58 : decode cX2_showsKept 58 = .ok (.goto (-39), 3) := by decide +kernel
theorem dX2_showsKept_61 : decode cX2_showsKept 61 = .ok (.iconst 1, 1) := by decide +kernel
theorem dX2_showsKept_62 : decode cX2_showsKept 62 = .ok (.ireturn, 1) := by decide +kernel
theorem q1_63 : (Jvm.Cond.fieldLink "Cyclepaint" (23 : Nat) "Cyclepaint" "kept" "[I") ∈ lw_g := zg_of (zin1 (List.mem_of_getElem? (i := 63) rfl)) rfl
theorem q2_65 : (Jvm.Cond.code ({ cls := "Cyclepaint", name := "showsKept", desc := "(II)Z" } : Jvm.MethodName) prog_1_method_52_code (5 : Nat) (Option.some Jvm.ClassFile.FieldType.boolean)) ∈ lw_g := zg_of (zin2 (List.mem_of_getElem? (i := 65) rfl)) rfl
theorem q2_64 : (Jvm.Cond.instanceMethod ({ cls := "Cyclepaint", name := "showsKept", desc := "(II)Z" } : Jvm.MethodName)) ∈ lw_g := zg_of (zin2 (List.mem_of_getElem? (i := 64) rfl)) rfl
theorem qs_16 : Cond.selects "Cyclepaint" (⟨"Cyclepaint", "showsKept", "(II)Z"⟩ : MethodName) (⟨"Cyclepaint", "showsKept", "(II)Z"⟩ : MethodName) ∈ lw_g := zg_of (zinS (List.mem_of_getElem? (i := 16) rfl)) rfl
theorem ok_X2_showsKept : zOV yX2_showsKept cX2_showsKept 5 ((Option.some Jvm.ClassFile.FieldType.boolean)) 2 := ⟨⟨q2_65, q1_1, by decide, by decide, by decide +kernel⟩, q2_64, qs_16⟩
set_option maxHeartbeats 4000000 in
set_option maxRecDepth 100000 in
theorem c_X2_showsKept (l : Launch) (G : zG) (σ : St) (a : Nat → Nat) (n w : Int) (hn : 0 ≤ n ∧ n < 5) (hw : 0 ≤ w ∧ w ≤ 1000000) : Met l yX2_showsKept (wq yX2_showsKept cX2_showsKept 5 ((Option.some Jvm.ClassFile.FieldType.boolean))) (rmR 2 46) (va_Pc [.ref (a 0), .int (zI (n)), .int (zI (w))] (zK G (hCyc G σ a))) (zQ (some (.int (bI (sk σ n w))))) 0 0 zF := by
  refine z_enterB (by decide +kernel) (Nat.le_of_ble_eq_true rfl) ?_
  intro p env s m below meth cod Q S hG hP ret ls hl
  have hl : lv_has ls 5 [(0, .ref (a 0)), (1, .int (zI (n))), (2, .int (zI (w)))] := hl
  have hC := hP.2.2.2.2.2
  have hT := hC.1
  have hdt := hC.2.1
  have hlm := hC.2.2.1
  have hkn := hC.2.2.2.1
  have hD := hC.2.2.2.2.1
  have hB := hC.2.2.2.2.2
  refine z_iload_n S dX2_showsKept_0 hl 1 rfl rfl ?_
  refine z_if_lt_F S 9 dX2_showsKept_1 (by decide) (by omega) (by omega) ?_
  refine z_iload_n S dX2_showsKept_4 hl 1 rfl rfl ?_
  refine z_iconst S dX2_showsKept_5 ?_
  refine z_icmp_lt_T S 11 dX2_showsKept_6 (by decide) (by omega) (by omega) (by omega) ?_
  refine z_iload_n S dX2_showsKept_11 hl 1 rfl rfl ?_
  refine z_bipush S dX2_showsKept_12 rfl ?_
  refine z_imul S dX2_showsKept_14 ?_
  refine z_istore_n (lv' := [(3, .int (zI ((n) * (32)))), (0, .ref (a 0)), (1, .int (zI (n))), (2, .int (zI (w)))]) S dX2_showsKept_15 hl rfl (by decide) rfl (fun ls hl => ?_)
  refine z_iconst S dX2_showsKept_16 ?_
  refine z_istore (lv' := [(4, .int (zI (0))), (3, .int (zI ((n) * (32)))), (0, .ref (a 0)), (1, .int (zI (n))), (2, .int (zI (w)))]) S dX2_showsKept_17 hl (by decide) rfl (fun ls hl => ?_)
  have loop_19 : ∀ (nn : Nat) (k : Int), (0 ≤ k ∧ k ≤ 32) → (∀ t : Int, 0 ≤ t → t < k → skB σ n w t = true) → ((32 - k).toNat) < nn → ∀ ls, lv_has ls 5 [(4, .int (zI (k))), (3, .int (zI ((n) * (32)))), (0, .ref (a 0)), (1, .int (zI (n))), (2, .int (zI (w)))] → W p l env (rmR 2 46) s m ([.ref (a 0), .int (zI (n)), .int (zI (w))] : List Value).toArray below meth cod s.heap [] 0 0 Q (F0 m 19 ls []) := by
    intro nn
    induction nn with
    | zero => intro _ _ _ h; exact absurd h (Nat.not_lt_zero _)
    | succ nn ih_19 =>
      intro k hk hI hm_19 ls hl
      refine z_iload S dX2_showsKept_19 hl 0 rfl ?_
      refine z_bipush S dX2_showsKept_21 rfl ?_
      refine z_icmp_ge S 61 dX2_showsKept_23 (by decide) (by omega) (by omega) (fun c_23 => ?_) (fun c_23 => ?_)
      · skip
        refine z_iconst S dX2_showsKept_61 ?_
        exact ret _ _ _ dX2_showsKept_62 (by rw [show sk σ n w = true from allI_iff.mpr (fun t h0 h1 => hI t h0 (by omega))]; rfl)
      · skip
        have hdt0 := hdt k hk.1 (by omega)
        refine z_aload_n S dX2_showsKept_26 hl 2 rfl rfl ?_
        refine z_get S hG hP.1 zc_X2 0 (by decide) q1_60 rfl rfl dX2_showsKept_27 ?_
        refine z_aload_n S dX2_showsKept_30 hl 2 rfl rfl ?_
        refine z_get S hG hP.1 zc_X2 1 (by decide) q1_61 rfl rfl dX2_showsKept_31 ?_
        refine z_iload S dX2_showsKept_34 hl 0 rfl ?_
        refine z_ialdB S hG hP.2.1 (by omega) (by decide) dX2_showsKept_36 ?_
        refine z_iload_n S dX2_showsKept_37 hl 4 rfl rfl ?_
        refine z_callVs S hG (c_X0_shows l G σ a (σ.Dt (k)) (w) (by omega) (by omega)) ok_X0_shows hP.2.2.2.2.1.1 zc_X0 rfl q1_166 (hP.2.2.2.2.1) ⟨rfl, rfl, by decide, by decide⟩ ⟨Nat.zero_le _, Nat.zero_le _⟩ rfl (Nat.le_of_ble_eq_true rfl) hl.1 rfl dX2_showsKept_38 ?_
        refine z_aload_n S dX2_showsKept_41 hl 2 rfl rfl ?_
        refine z_get S hG hP.1 zc_X2 3 (by decide) q1_63 rfl rfl dX2_showsKept_42 ?_
        refine z_iload_n S dX2_showsKept_45 hl 1 rfl rfl ?_
        refine z_iload S dX2_showsKept_46 hl 0 rfl ?_
        refine z_iadd S dX2_showsKept_48 ?_
        refine z_iald S hG hP.2.2.2.1 (by omega) (by decide) dX2_showsKept_49 ?_
        refine lv_icmp_eq (tgt := 55) S.1 S.2.1 dX2_showsKept_50 (by decide) (fun c_50 => ?_) (fun c_50 => ?_)
        · skip
          refine z_iinc (lv' := [(4, .int (zI (k + 1))), (3, .int (zI ((n) * (32)))), (0, .ref (a 0)), (1, .int (zI (n))), (2, .int (zI (w)))]) S dX2_showsKept_55 hl 0 rfl (by decide) rfl (fun ls hl => ?_)
          refine z_goto S 19 dX2_showsKept_58 (by decide) ?_
          exact ih_19 (k + 1) (by omega) (lt_stp hI (by unfold skB; rw [show kpz σ (n * 32 + k) = σ.KP n k from by unfold kpz; rw [show (n * 32 + k) / 32 = n by omega, show (n * 32 + k) % 32 = k by omega]] at c_50; simp [c_50])) (by omega) ls (lv_sub hl [0, 1, 2, 3, 4] rfl)
        · skip
          refine z_iconst S dX2_showsKept_53 ?_
          exact ret _ _ _ dX2_showsKept_54 (by rw [show kpz σ (n * 32 + k) = σ.KP n k from by unfold kpz; rw [show (n * 32 + k) / 32 = n by omega, show (n * 32 + k) % 32 = k by omega]] at c_50; rw [show sk σ n w = false from allI_no hk.1 (show k < 32 by omega) (by unfold skB; simp [c_50])]; rfl)
  exact loop_19 _ (0) (by omega) (lt_st0) (Nat.lt_succ_self _) ls (lv_sub hl [0, 1, 2, 3, 4] rfl)
theorem dX2_ticksUntil_0 : decode cX2_ticksUntil 0 = .ok (.iconst 0, 1) := by decide +kernel
theorem dX2_ticksUntil_1 : decode cX2_ticksUntil 1 = .ok (.istore_n 2, 1) := by decide +kernel
theorem dX2_ticksUntil_2 : decode cX2_ticksUntil 2 = .ok (.iload_n 2, 1) := by decide +kernel
theorem dX2_ticksUntil_3 : decode cX2_ticksUntil 3 = .ok (.sipush 400, 3) := by decide +kernel
theorem dX2_ticksUntil_6 : decode cX2_ticksUntil 6 = .ok (.if_icmp .gt 25, 3) := by decide +kernel
theorem dX2_ticksUntil_9 : decode cX2_ticksUntil 9 = .ok (.aload_n 0, 1) := by decide +kernel
theorem dX2_ticksUntil_10 : decode cX2_ticksUntil 10 = .ok (.iload_n 1, 1) := by decide +kernel
theorem dX2_ticksUntil_11 : decode cX2_ticksUntil 11 = .ok (.aload_n 0, 1) := by decide +kernel
theorem dX2_ticksUntil_12 : decode cX2_ticksUntil 12 = .ok (.getfield 30, 3) := by decide +kernel
theorem dX2_ticksUntil_15 : decode cX2_ticksUntil 15 = .ok (.iload_n 2, 1) := by decide +kernel
theorem dX2_ticksUntil_16 : decode cX2_ticksUntil 16 = .ok (.iadd, 1) := by decide +kernel
theorem dX2_ticksUntil_17 : decode cX2_ticksUntil 17 = .ok (.invokevirtual 298, 3) := by decide +kernel
theorem dX2_ticksUntil_20 : decode cX2_ticksUntil 20 = .ok (.ifCond .eq 5, 3) := by decide +kernel
theorem dX2_ticksUntil_23 : decode cX2_ticksUntil 23 = .ok (.iload_n 2, 1) := by decide +kernel
theorem dX2_ticksUntil_24 : decode cX2_ticksUntil 24 = .ok (.ireturn, 1) := by decide +kernel
theorem dX2_ticksUntil_25 : decode cX2_ticksUntil 25 = .ok (.iinc 2 1, 3) := by decide +kernel
theorem dX2_ticksUntil_28 : decode cX2_ticksUntil 28 = .ok (.goto (-26), 3) := by decide +kernel
theorem dX2_ticksUntil_31 : decode cX2_ticksUntil 31 = .ok (.iconst (-1), 1) := by decide +kernel
theorem dX2_ticksUntil_32 : decode cX2_ticksUntil 32 = .ok (.ireturn, 1) := by decide +kernel
theorem q2_62 : (Jvm.Cond.methodLink "Cyclepaint" (298 : Nat) ({ cls := "Cyclepaint", name := "showsKept", desc := "(II)Z" } : Jvm.MethodName)) ∈ lw_g := zg_of (zin2 (List.mem_of_getElem? (i := 62) rfl)) rfl
theorem q2_61 : (Jvm.Cond.code ({ cls := "Cyclepaint", name := "ticksUntil", desc := "(I)I" } : Jvm.MethodName) prog_1_method_51_code (3 : Nat) (Option.some Jvm.ClassFile.FieldType.int)) ∈ lw_g := zg_of (zin2 (List.mem_of_getElem? (i := 61) rfl)) rfl
theorem q2_60 : (Jvm.Cond.instanceMethod ({ cls := "Cyclepaint", name := "ticksUntil", desc := "(I)I" } : Jvm.MethodName)) ∈ lw_g := zg_of (zin2 (List.mem_of_getElem? (i := 60) rfl)) rfl
theorem qs_15 : Cond.selects "Cyclepaint" (⟨"Cyclepaint", "ticksUntil", "(I)I"⟩ : MethodName) (⟨"Cyclepaint", "ticksUntil", "(I)I"⟩ : MethodName) ∈ lw_g := zg_of (zinS (List.mem_of_getElem? (i := 15) rfl)) rfl
theorem ok_X2_ticksUntil : zOV yX2_ticksUntil cX2_ticksUntil 3 ((Option.some Jvm.ClassFile.FieldType.int)) 1 := ⟨⟨q2_61, q1_1, by decide, by decide, by decide +kernel⟩, q2_60, qs_15⟩
set_option maxHeartbeats 4000000 in
set_option maxRecDepth 100000 in
theorem c_X2_ticksUntil (l : Launch) (G : zG) (σ : St) (a : Nat → Nat) (n : Int) (hn : 0 ≤ n ∧ n < 5) : Met l yX2_ticksUntil (wq yX2_ticksUntil cX2_ticksUntil 3 ((Option.some Jvm.ClassFile.FieldType.int))) (rmR 3 70) (va_Pc [.ref (a 0), .int (zI (n))] (zK G (hCyc G σ a))) (zQ (some (.int ((zI (whn σ n)))))) 0 0 zF := by
  refine z_enterI (by decide +kernel) (Nat.le_of_ble_eq_true rfl) ?_
  intro p env s m below meth cod Q S hG hP ret ls hl
  have hl : lv_has ls 3 [(0, .ref (a 0)), (1, .int (zI (n)))] := hl
  have hC := hP.2.2.2.2.2
  have hT := hC.1
  have hdt := hC.2.1
  have hlm := hC.2.2.1
  have hkn := hC.2.2.2.1
  have hD := hC.2.2.2.2.1
  have hB := hC.2.2.2.2.2
  refine z_iconst S dX2_ticksUntil_0 ?_
  refine z_istore_n (lv' := [(2, .int (zI (0))), (0, .ref (a 0)), (1, .int (zI (n)))]) S dX2_ticksUntil_1 hl rfl (by decide) rfl (fun ls hl => ?_)
  have loop_2 : ∀ (nn : Nat) (k : Int), (0 ≤ k ∧ k ≤ 401) → (∀ t : Int, 0 ≤ t → t < k → (fun t => sk σ n (σ.tk + t)) t = false) → ((401 - k).toNat) < nn → ∀ ls, lv_has ls 3 [(2, .int (zI (k))), (0, .ref (a 0)), (1, .int (zI (n)))] → W p l env (rmR 3 70) s m ([.ref (a 0), .int (zI (n))] : List Value).toArray below meth cod s.heap [] 0 0 Q (F0 m 2 ls []) := by
    intro nn
    induction nn with
    | zero => intro _ _ _ h; exact absurd h (Nat.not_lt_zero _)
    | succ nn ih_2 =>
      intro k hk hI hm_2 ls hl
      refine z_iload_n S dX2_ticksUntil_2 hl 0 rfl rfl ?_
      refine z_sipush S dX2_ticksUntil_3 rfl ?_
      refine z_icmp_gt S 31 dX2_ticksUntil_6 (by decide) (by omega) (by omega) (fun c_6 => ?_) (fun c_6 => ?_)
      · skip
        refine z_iconst S dX2_ticksUntil_31 ?_
        exact ret _ _ _ dX2_ticksUntil_32 (by unfold whn; rw [fstI_none (f := fun t => sk σ n (σ.tk + t)) (fun t h0 h1 => hI t h0 (by omega))])
      · skip
        refine z_aload_n S dX2_ticksUntil_9 hl 1 rfl rfl ?_
        refine z_iload_n S dX2_ticksUntil_10 hl 2 rfl rfl ?_
        refine z_aload_n S dX2_ticksUntil_11 hl 1 rfl rfl ?_
        refine z_get S hG hP.1 zc_X2 5 (by decide) q1_65 rfl rfl dX2_ticksUntil_12 ?_
        refine z_iload_n S dX2_ticksUntil_15 hl 0 rfl rfl ?_
        refine z_iadd S dX2_ticksUntil_16 ?_
        refine z_callVs S hG (c_X2_showsKept l G σ a (n) ((σ.tk) + (k)) (by omega) (by omega)) ok_X2_showsKept hP.1 zc_X2 rfl q2_62 (hP) ⟨rfl, rfl, by decide, by decide⟩ ⟨Nat.zero_le _, Nat.zero_le _⟩ rfl (Nat.le_of_ble_eq_true rfl) hl.1 rfl dX2_ticksUntil_17 ?_
        refine z_bif_eq S 25 dX2_ticksUntil_20 (by decide) (fun c_20 => ?_) (fun c_20 => ?_)
        · skip
          refine z_iinc (lv' := [(2, .int (zI (k + 1))), (0, .ref (a 0)), (1, .int (zI (n)))]) S dX2_ticksUntil_25 hl 0 rfl (by decide) rfl (fun ls hl => ?_)
          refine z_goto S 2 dX2_ticksUntil_28 (by decide) ?_
          exact ih_2 (k + 1) (by omega) (lt_stp hI (c_20)) (by omega) ls (lv_sub hl [0, 1, 2] rfl)
        · skip
          refine z_iload_n S dX2_ticksUntil_23 hl 0 rfl rfl ?_
          exact ret _ _ _ dX2_ticksUntil_24 (by unfold whn; rw [fstI_some (f := fun t => sk σ n (σ.tk + t)) hk.1 (by omega) hI c_20])
  exact loop_2 _ (0) (by omega) (lt_st0) (Nat.lt_succ_self _) ls (lv_sub hl [0, 1, 2] rfl)
theorem dX2_lightestTick_0 : decode cX2_lightestTick 0 = .ok (.aload_n 0, 1) := by decide +kernel
theorem dX2_lightestTick_1 : decode cX2_lightestTick 1 = .ok (.getfield 30, 3) := by decide +kernel
theorem dX2_lightestTick_4 : decode cX2_lightestTick 4 = .ok (.istore_n 2, 1) := by decide +kernel
theorem dX2_lightestTick_5 : decode cX2_lightestTick 5 = .ok (.aload_n 0, 1) := by decide +kernel
theorem dX2_lightestTick_6 : decode cX2_lightestTick 6 = .ok (.aload_n 0, 1) := by decide +kernel
theorem dX2_lightestTick_7 : decode cX2_lightestTick 7 = .ok (.getfield 30, 3) := by decide +kernel
theorem dX2_lightestTick_10 : decode cX2_lightestTick 10 = .ok (.invokevirtual 199, 3) := by decide +kernel
theorem dX2_lightestTick_13 : decode cX2_lightestTick 13 = .ok (.istore_n 3, 1) := by decide +kernel
theorem dX2_lightestTick_14 : decode cX2_lightestTick 14 = .ok (.iconst 1, 1) := by decide +kernel
theorem dX2_lightestTick_15 : decode cX2_lightestTick 15 = .ok (.istore 4, 2) := by decide +kernel
theorem dX2_lightestTick_17 : decode cX2_lightestTick 17 = .ok (.iload 4, 2) := by decide +kernel
theorem dX2_lightestTick_19 : decode cX2_lightestTick 19 = .ok (.iload_n 1, 1) := by decide +kernel
theorem dX2_lightestTick_20 : decode cX2_lightestTick 20 = .ok (.if_icmp .ge 39, 3) := by decide +kernel
theorem dX2_lightestTick_23 : decode cX2_lightestTick 23 = .ok (.aload_n 0, 1) := by decide +kernel
theorem dX2_lightestTick_24 : decode cX2_lightestTick 24 = .ok (.aload_n 0, 1) := by decide +kernel
theorem dX2_lightestTick_25 : decode cX2_lightestTick 25 = .ok (.getfield 30, 3) := by decide +kernel
theorem dX2_lightestTick_28 : decode cX2_lightestTick 28 = .ok (.iload 4, 2) := by decide +kernel
theorem dX2_lightestTick_30 : decode cX2_lightestTick 30 = .ok (.iadd, 1) := by decide +kernel
theorem dX2_lightestTick_31 : decode cX2_lightestTick 31 = .ok (.invokevirtual 199, 3) := by decide +kernel
theorem dX2_lightestTick_34 : decode cX2_lightestTick 34 = .ok (.istore 5, 2) := by decide +kernel
theorem dX2_lightestTick_36 : decode cX2_lightestTick 36 = .ok (.iload 5, 2) := by decide +kernel
theorem dX2_lightestTick_38 : decode cX2_lightestTick 38 = .ok (.iload_n 3, 1) := by decide +kernel
theorem dX2_lightestTick_39 : decode cX2_lightestTick 39 = .ok (.if_icmp .le 14, 3) := by decide +kernel
theorem dX2_lightestTick_42 : decode cX2_lightestTick 42 = .ok (.iload 5, 2) := by decide +kernel
theorem dX2_lightestTick_44 : decode cX2_lightestTick 44 = .ok (.istore_n 3, 1) := by decide +kernel
theorem dX2_lightestTick_45 : decode cX2_lightestTick 45 = .ok (.aload_n 0, 1) := by decide +kernel
theorem dX2_lightestTick_46 : decode cX2_lightestTick 46 = .ok (.getfield 30, 3) := by decide +kernel
theorem dX2_lightestTick_49 : decode cX2_lightestTick 49 = .ok (.iload 4, 2) := by decide +kernel
theorem dX2_lightestTick_51 : decode cX2_lightestTick 51 = .ok (.iadd, 1) := by decide +kernel
theorem dX2_lightestTick_52 : decode cX2_lightestTick 52 = .ok (.istore_n 2, 1) := by decide +kernel
theorem dX2_lightestTick_53 : decode cX2_lightestTick 53 = .ok (.iinc 4 1, 3) := by decide +kernel
theorem dX2_lightestTick_56 : decode cX2_lightestTick 56 = .ok (.goto (-39), 3) := by decide +kernel
theorem dX2_lightestTick_59 : decode cX2_lightestTick 59 = .ok (.iload_n 2, 1) := by decide +kernel
theorem dX2_lightestTick_60 : decode cX2_lightestTick 60 = .ok (.ireturn, 1) := by decide +kernel
theorem q1_162 : (Jvm.Cond.methodLink "Cyclepaint" (199 : Nat) ({ cls := "Cyclepaint", name := "lightAt", desc := "(I)I" } : Jvm.MethodName)) ∈ lw_g := zg_of (zin1 (List.mem_of_getElem? (i := 162) rfl)) rfl
theorem q2_69 : (Jvm.Cond.code ({ cls := "Cyclepaint", name := "lightestTick", desc := "(I)I" } : Jvm.MethodName) prog_1_method_53_code (6 : Nat) (Option.some Jvm.ClassFile.FieldType.int)) ∈ lw_g := zg_of (zin2 (List.mem_of_getElem? (i := 69) rfl)) rfl
theorem q2_68 : (Jvm.Cond.instanceMethod ({ cls := "Cyclepaint", name := "lightestTick", desc := "(I)I" } : Jvm.MethodName)) ∈ lw_g := zg_of (zin2 (List.mem_of_getElem? (i := 68) rfl)) rfl
theorem qs_17 : Cond.selects "Cyclepaint" (⟨"Cyclepaint", "lightestTick", "(I)I"⟩ : MethodName) (⟨"Cyclepaint", "lightestTick", "(I)I"⟩ : MethodName) ∈ lw_g := zg_of (zinS (List.mem_of_getElem? (i := 17) rfl)) rfl
theorem ok_X2_lightestTick : zOV yX2_lightestTick cX2_lightestTick 6 ((Option.some Jvm.ClassFile.FieldType.int)) 1 := ⟨⟨q2_69, q1_1, by decide, by decide, by decide +kernel⟩, q2_68, qs_17⟩
set_option maxHeartbeats 4000000 in
set_option maxRecDepth 100000 in
theorem c_X2_lightestTick (l : Launch) (G : zG) (σ : St) (a : Nat → Nat) (n : Int) (hn : 1 ≤ n ∧ n ≤ 200) : Met l yX2_lightestTick (wq yX2_lightestTick cX2_lightestTick 6 ((Option.some Jvm.ClassFile.FieldType.int))) (rmR 3 69) (va_Pc [.ref (a 0), .int (zI (n))] (zK G (hCyc G σ a))) (zQ (some (.int ((zI (ltC σ n)))))) 0 0 zF := by
  refine z_enterI (by decide +kernel) (Nat.le_of_ble_eq_true rfl) ?_
  intro p env s m below meth cod Q S hG hP ret ls hl
  have hl : lv_has ls 6 [(0, .ref (a 0)), (1, .int (zI (n)))] := hl
  have hC := hP.2.2.2.2.2
  have hT := hC.1
  have hdt := hC.2.1
  have hlm := hC.2.2.1
  have hkn := hC.2.2.2.1
  have hD := hC.2.2.2.2.1
  have hB := hC.2.2.2.2.2
  refine z_aload_n S dX2_lightestTick_0 hl 0 rfl rfl ?_
  refine z_get S hG hP.1 zc_X2 5 (by decide) q1_65 rfl rfl dX2_lightestTick_1 ?_
  refine z_istore_n (lv' := [(2, .int (zI (σ.tk))), (0, .ref (a 0)), (1, .int (zI (n)))]) S dX2_lightestTick_4 hl rfl (by decide) rfl (fun ls hl => ?_)
  refine z_aload_n S dX2_lightestTick_5 hl 1 rfl rfl ?_
  refine z_aload_n S dX2_lightestTick_6 hl 1 rfl rfl ?_
  refine z_get S hG hP.1 zc_X2 5 (by decide) q1_65 rfl rfl dX2_lightestTick_7 ?_
  refine z_callVs S hG (c_X2_lightAt l G σ a (σ.tk) (by omega)) ok_X2_lightAt hP.1 zc_X2 rfl q1_162 (hP) ⟨rfl, rfl, by decide, by decide⟩ ⟨Nat.zero_le _, Nat.zero_le _⟩ rfl (Nat.le_of_ble_eq_true rfl) hl.1 rfl dX2_lightestTick_10 ?_
  refine z_istore_n (lv' := [(3, .int (liC σ (σ.tk))), (2, .int (zI (σ.tk))), (0, .ref (a 0)), (1, .int (zI (n)))]) S dX2_lightestTick_13 hl rfl (by decide) rfl (fun ls hl => ?_)
  refine z_iconst S dX2_lightestTick_14 ?_
  refine z_istore (lv' := [(4, .int (zI (1))), (3, .int (liC σ (σ.tk))), (2, .int (zI (σ.tk))), (0, .ref (a 0)), (1, .int (zI (n)))]) S dX2_lightestTick_15 hl (by decide) rfl (fun ls hl => ?_)
  have loop_17 : ∀ (nn : Nat) (k : Int) (b : Int) (mx : Int32), (1 ≤ k ∧ k ≤ n) → (b = (ltF σ (k - 1).toNat).1 ∧ mx = (ltF σ (k - 1).toNat).2) → ((n - k).toNat) < nn → ∀ ls, lv_has ls 6 [(4, .int (zI (k))), (3, .int (mx)), (2, .int (zI (b))), (0, .ref (a 0)), (1, .int (zI (n)))] → W p l env (rmR 3 69) s m ([.ref (a 0), .int (zI (n))] : List Value).toArray below meth cod s.heap [] 0 0 Q (F0 m 17 ls []) := by
    intro nn
    induction nn with
    | zero => intro _ _ _ _ _ h; exact absurd h (Nat.not_lt_zero _)
    | succ nn ih_17 =>
      intro k b mx hk hm hm_17 ls hl
      refine z_iload S dX2_lightestTick_17 hl 0 rfl ?_
      refine z_iload_n S dX2_lightestTick_19 hl 4 rfl rfl ?_
      refine z_icmp_ge S 59 dX2_lightestTick_20 (by decide) (by omega) (by omega) (fun c_20 => ?_) (fun c_20 => ?_)
      · skip
        refine z_iload_n S dX2_lightestTick_59 hl 2 rfl rfl ?_
        exact ret _ _ _ dX2_lightestTick_60 (by rw [hm.1, show k = n by omega]; rfl)
      · skip
        refine z_aload_n S dX2_lightestTick_23 hl 3 rfl rfl ?_
        refine z_aload_n S dX2_lightestTick_24 hl 3 rfl rfl ?_
        refine z_get S hG hP.1 zc_X2 5 (by decide) q1_65 rfl rfl dX2_lightestTick_25 ?_
        refine z_iload S dX2_lightestTick_28 hl 0 rfl ?_
        refine z_iadd S dX2_lightestTick_30 ?_
        refine z_callVs S hG (c_X2_lightAt l G σ a ((σ.tk) + (k)) (by omega)) ok_X2_lightAt hP.1 zc_X2 rfl q1_162 (hP) ⟨rfl, rfl, by decide, by decide⟩ ⟨Nat.zero_le _, Nat.zero_le _⟩ rfl (Nat.le_of_ble_eq_true rfl) hl.1 rfl dX2_lightestTick_31 ?_
        refine z_istore (lv' := [(5, .int (liC σ ((σ.tk) + (k)))), (4, .int (zI (k))), (3, .int (mx)), (2, .int (zI (b))), (0, .ref (a 0)), (1, .int (zI (n)))]) S dX2_lightestTick_34 hl (by decide) rfl (fun ls hl => ?_)
        refine z_iload S dX2_lightestTick_36 hl 0 rfl ?_
        refine z_iload_n S dX2_lightestTick_38 hl 2 rfl rfl ?_
        refine lv_icmp_le (tgt := 53) S.1 S.2.1 dX2_lightestTick_39 (by decide) (fun c_39 => ?_) (fun c_39 => ?_)
        · skip
          refine z_iinc (lv' := [(4, .int (zI (k + 1))), (5, .int (liC σ ((σ.tk) + (k)))), (3, .int (mx)), (2, .int (zI (b))), (0, .ref (a 0)), (1, .int (zI (n)))]) S dX2_lightestTick_53 hl 1 rfl (by decide) rfl (fun ls hl => ?_)
          refine z_goto S 17 dX2_lightestTick_56 (by decide) ?_
          exact ih_17 (k + 1) (b) (mx) (by omega) (by rw [show (k + 1 - 1).toNat = (k - 1).toNat + 1 by omega, ltF, show ((((k - 1).toNat : Nat) : Int) + 1) = k by omega, if_neg (by rw [← hm.2]; exact Int32.not_lt.mpr c_39)]; exact hm) (by omega) ls (lv_sub hl [0, 2, 3, 4, 5] rfl)
        · skip
          refine z_iload S dX2_lightestTick_42 hl 0 rfl ?_
          refine z_istore_n (lv' := [(3, .int (liC σ ((σ.tk) + (k)))), (5, .int (liC σ ((σ.tk) + (k)))), (4, .int (zI (k))), (2, .int (zI (b))), (0, .ref (a 0)), (1, .int (zI (n)))]) S dX2_lightestTick_44 hl rfl (by decide) rfl (fun ls hl => ?_)
          refine z_aload_n S dX2_lightestTick_45 hl 4 rfl rfl ?_
          refine z_get S hG hP.1 zc_X2 5 (by decide) q1_65 rfl rfl dX2_lightestTick_46 ?_
          refine z_iload S dX2_lightestTick_49 hl 2 rfl ?_
          refine z_iadd S dX2_lightestTick_51 ?_
          refine z_istore_n (lv' := [(2, .int (zI ((σ.tk) + (k)))), (3, .int (liC σ ((σ.tk) + (k)))), (5, .int (liC σ ((σ.tk) + (k)))), (4, .int (zI (k))), (0, .ref (a 0)), (1, .int (zI (n)))]) S dX2_lightestTick_52 hl rfl (by decide) rfl (fun ls hl => ?_)
          refine z_iinc (lv' := [(4, .int (zI (k + 1))), (2, .int (zI ((σ.tk) + (k)))), (3, .int (liC σ ((σ.tk) + (k)))), (5, .int (liC σ ((σ.tk) + (k)))), (0, .ref (a 0)), (1, .int (zI (n)))]) S dX2_lightestTick_53 hl 3 rfl (by decide) rfl (fun ls hl => ?_)
          refine z_goto S 17 dX2_lightestTick_56 (by decide) ?_
          exact ih_17 (k + 1) ((σ.tk) + (k)) (liC σ ((σ.tk) + (k))) (by omega) (by rw [show (k + 1 - 1).toNat = (k - 1).toNat + 1 by omega, ltF, show ((((k - 1).toNat : Nat) : Int) + 1) = k by omega, if_pos (by rw [← hm.2]; exact Int32.not_le.mp c_39)]; exact ⟨rfl, rfl⟩) (by omega) ls (lv_sub hl [0, 2, 1, 4, 5] rfl)
  exact loop_17 _ (1) (σ.tk) (liC σ (σ.tk)) (by omega) (⟨rfl, rfl⟩) (Nat.lt_succ_self _) ls (lv_sub hl [0, 1, 2, 3, 4] rfl)
theorem dX2_dotFact_0 : decode cX2_dotFact 0 = .ok (.iload_n 2, 1) := by decide +kernel
theorem dX2_dotFact_1 : decode cX2_dotFact 1 = .ok (.tableswitch 48 0 2 #[27, 33, 39], 27) := by decide +kernel
theorem dX2_dotFact_28 : decode cX2_dotFact 28 = .ok (.aload_n 0, 1) := by decide +kernel
theorem dX2_dotFact_29 : decode cX2_dotFact 29 = .ok (.iload_n 1, 1) := by decide +kernel
theorem dX2_dotFact_30 : decode cX2_dotFact 30 = .ok (.invokevirtual 256, 3) := by decide +kernel
theorem dX2_dotFact_33 : decode cX2_dotFact 33 = .ok (.ireturn, 1) := by decide +kernel
theorem dX2_dotFact_34 : decode cX2_dotFact 34 = .ok (.aload_n 0, 1) := by decide +kernel
theorem dX2_dotFact_35 : decode cX2_dotFact 35 = .ok (.iload_n 1, 1) := by decide +kernel
theorem dX2_dotFact_36 : decode cX2_dotFact 36 = .ok (.invokevirtual 189, 3) := by decide +kernel
theorem dX2_dotFact_39 : decode cX2_dotFact 39 = .ok (.ireturn, 1) := by decide +kernel
theorem dX2_dotFact_40 : decode cX2_dotFact 40 = .ok (.aload_n 0, 1) := by decide +kernel
theorem dX2_dotFact_41 : decode cX2_dotFact 41 = .ok (.iload_n 1, 1) := by decide +kernel
theorem dX2_dotFact_42 : decode cX2_dotFact 42 = .ok (.invokevirtual 189, 3) := by decide +kernel
theorem dX2_dotFact_45 : decode cX2_dotFact 45 = .ok (.invokestatic 259, 3) := by decide +kernel
theorem dX2_dotFact_48 : decode cX2_dotFact 48 = .ok (.ireturn, 1) := by decide +kernel
theorem dX2_dotFact_49 : decode cX2_dotFact 49 = .ok (.aload_n 0, 1) := by decide +kernel
theorem dX2_dotFact_50 : decode cX2_dotFact 50 = .ok (.getfield 12, 3) := by decide +kernel
theorem dX2_dotFact_53 : decode cX2_dotFact 53 = .ok (.aload_n 0, 1) := by decide +kernel
theorem dX2_dotFact_54 : decode cX2_dotFact 54 = .ok (.iload_n 1, 1) := by decide +kernel
theorem dX2_dotFact_55 : decode cX2_dotFact 55 = .ok (.invokevirtual 256, 3) := by decide +kernel
theorem dX2_dotFact_58 : decode cX2_dotFact 58 = .ok (.aload_n 0, 1) := by decide +kernel
theorem dX2_dotFact_59 : decode cX2_dotFact 59 = .ok (.getfield 30, 3) := by decide +kernel
theorem dX2_dotFact_62 : decode cX2_dotFact 62 = .ok (.bipush 30, 2) := by decide +kernel
theorem dX2_dotFact_64 : decode cX2_dotFact 64 = .ok (.invokevirtual 135, 3) := by decide +kernel
theorem dX2_dotFact_67 : decode cX2_dotFact 67 = .ok (.ireturn, 1) := by decide +kernel
theorem q2_49 : (Jvm.Cond.code ({ cls := "Cyclepaint", name := "dotFact", desc := "(II)I" } : Jvm.MethodName) prog_1_method_41_code (3 : Nat) (Option.some Jvm.ClassFile.FieldType.int)) ∈ lw_g := zg_of (zin2 (List.mem_of_getElem? (i := 49) rfl)) rfl
theorem q2_48 : (Jvm.Cond.instanceMethod ({ cls := "Cyclepaint", name := "dotFact", desc := "(II)I" } : Jvm.MethodName)) ∈ lw_g := zg_of (zin2 (List.mem_of_getElem? (i := 48) rfl)) rfl
theorem qs_14 : Cond.selects "Cyclepaint" (⟨"Cyclepaint", "dotFact", "(II)I"⟩ : MethodName) (⟨"Cyclepaint", "dotFact", "(II)I"⟩ : MethodName) ∈ lw_g := zg_of (zinS (List.mem_of_getElem? (i := 14) rfl)) rfl
theorem ok_X2_dotFact : zOV yX2_dotFact cX2_dotFact 3 ((Option.some Jvm.ClassFile.FieldType.int)) 2 := ⟨⟨q2_49, q1_1, by decide, by decide, by decide +kernel⟩, q2_48, qs_14⟩
set_option maxHeartbeats 4000000 in
set_option maxRecDepth 100000 in
theorem c_X2_dotFact (l : Launch) (G : zG) (σ : St) (a : Nat → Nat) (d wh : Int) (hd : 0 ≤ d ∧ d < 32) (hw : 0 ≤ wh ∧ wh ≤ 3) : Met l yX2_dotFact (wq yX2_dotFact cX2_dotFact 3 ((Option.some Jvm.ClassFile.FieldType.int))) (rmR 3 73) (va_Pc [.ref (a 0), .int (zI (d)), .int (zI (wh))] (zK G (hCyc G σ a))) (zQ (some (.int ((dF σ d wh))))) 0 0 zF := by
  refine z_enterI (by decide +kernel) (Nat.le_of_ble_eq_true rfl) ?_
  intro p env s m below meth cod Q S hG hP ret ls hl
  have hl : lv_has ls 3 [(0, .ref (a 0)), (1, .int (zI (d))), (2, .int (zI (wh)))] := hl
  have hC := hP.2.2.2.2.2
  have hT := hC.1
  have hdt := hC.2.1
  have hlm := hC.2.2.1
  have hkn := hC.2.2.2.1
  have hD := hC.2.2.2.2.1
  have hB := hC.2.2.2.2.2
  have hdt0 := hdt d hd.1 hd.2
  rcases (show wh = 0 ∨ wh = 1 ∨ wh = 2 ∨ wh = 3 by omega) with rfl | rfl | rfl | rfl
  · skip
    refine z_iload_n S dX2_dotFact_0 hl 2 rfl rfl ?_
    refine lv_tableIn (tgt := 28) S.1 S.2.1 dX2_dotFact_1 (by decide) (by decide) rfl (by decide) ?_
    refine z_aload_n S dX2_dotFact_28 hl 0 rfl rfl ?_
    refine z_iload_n S dX2_dotFact_29 hl 1 rfl rfl ?_
    refine z_callVs S hG (c_X2_entryOf l G σ a (d) (by omega)) ok_X2_entryOf hP.1 zc_X2 rfl q1_133 (hP) ⟨rfl, rfl, by decide, by decide⟩ ⟨Nat.zero_le _, Nat.zero_le _⟩ rfl (Nat.le_of_ble_eq_true rfl) hl.1 rfl dX2_dotFact_30 ?_
    exact ret _ _ _ dX2_dotFact_33 (by unfold dF; simp)
  · skip
    refine z_iload_n S dX2_dotFact_0 hl 2 rfl rfl ?_
    refine lv_tableIn (tgt := 34) S.1 S.2.1 dX2_dotFact_1 (by decide) (by decide) rfl (by decide) ?_
    refine z_aload_n S dX2_dotFact_34 hl 0 rfl rfl ?_
    refine z_iload_n S dX2_dotFact_35 hl 1 rfl rfl ?_
    refine z_callVs S hG (c_X2_shownNow l G σ a (d) (by omega)) ok_X2_shownNow hP.1 zc_X2 rfl q1_231 (hP) ⟨rfl, rfl, by decide, by decide⟩ ⟨Nat.zero_le _, Nat.zero_le _⟩ rfl (Nat.le_of_ble_eq_true rfl) hl.1 rfl dX2_dotFact_36 ?_
    exact ret _ _ _ dX2_dotFact_39 (by unfold dF; simp)
  · skip
    refine z_iload_n S dX2_dotFact_0 hl 2 rfl rfl ?_
    refine lv_tableIn (tgt := 40) S.1 S.2.1 dX2_dotFact_1 (by decide) (by decide) rfl (by decide) ?_
    refine z_aload_n S dX2_dotFact_40 hl 0 rfl rfl ?_
    refine z_iload_n S dX2_dotFact_41 hl 1 rfl rfl ?_
    refine z_callVs S hG (c_X2_shownNow l G σ a (d) (by omega)) ok_X2_shownNow hP.1 zc_X2 rfl q1_231 (hP) ⟨rfl, rfl, by decide, by decide⟩ ⟨Nat.zero_le _, Nat.zero_le _⟩ rfl (Nat.le_of_ble_eq_true rfl) hl.1 rfl dX2_dotFact_42 ?_
    refine z_callSs S hG (c_X2_lightOf l G (shw σ (σ.Dt (d)) σ.tk)) ok_X2_lightOf q1_167 (trivial) ⟨rfl, rfl, by decide, by decide⟩ ⟨Nat.zero_le _, Nat.zero_le _⟩ rfl (Nat.le_of_ble_eq_true rfl) hl.1 rfl dX2_dotFact_45 ?_
    exact ret _ _ _ dX2_dotFact_48 (by unfold dF; simp)
  · skip
    refine z_iload_n S dX2_dotFact_0 hl 2 rfl rfl ?_
    refine lv_tableOut (tgt := 49) S.1 S.2.1 dX2_dotFact_1 (by decide) (by decide) ?_
    refine z_aload_n S dX2_dotFact_49 hl 0 rfl rfl ?_
    refine z_get S hG hP.1 zc_X2 0 (by decide) q1_60 rfl rfl dX2_dotFact_50 ?_
    refine z_aload_n S dX2_dotFact_53 hl 0 rfl rfl ?_
    refine z_iload_n S dX2_dotFact_54 hl 1 rfl rfl ?_
    refine z_callVs S hG (c_X2_entryOf l G σ a (d) (by omega)) ok_X2_entryOf hP.1 zc_X2 rfl q1_133 (hP) ⟨rfl, rfl, by decide, by decide⟩ ⟨Nat.zero_le _, Nat.zero_le _⟩ rfl (Nat.le_of_ble_eq_true rfl) hl.1 rfl dX2_dotFact_55 ?_
    refine z_aload_n S dX2_dotFact_58 hl 0 rfl rfl ?_
    refine z_get S hG hP.1 zc_X2 5 (by decide) q1_65 rfl rfl dX2_dotFact_59 ?_
    refine z_bipush S dX2_dotFact_62 rfl ?_
    refine z_callVs S hG (c_X0_changes l G σ a (σ.Dt (d)) (σ.tk) (30) (by omega) (by omega) (by omega)) ok_X0_changes hP.2.2.2.2.1.1 zc_X0 rfl q2_2 (hP.2.2.2.2.1) ⟨rfl, rfl, by decide, by decide⟩ ⟨Nat.zero_le _, Nat.zero_le _⟩ rfl (Nat.le_of_ble_eq_true rfl) hl.1 rfl dX2_dotFact_64 ?_
    exact ret _ _ _ dX2_dotFact_67 (by unfold dF; simp)
theorem dX2_entryFact_0 : decode cX2_entryFact 0 = .ok (.iload_n 2, 1) := by decide +kernel
theorem dX2_entryFact_1 : decode cX2_entryFact 1 = .ok (.tableswitch 92 0 4 #[35, 44, 57, 66, 83], 35) := by decide +kernel
theorem dX2_entryFact_36 : decode cX2_entryFact 36 = .ok (.aload_n 0, 1) := by decide +kernel
theorem dX2_entryFact_37 : decode cX2_entryFact 37 = .ok (.getfield 12, 3) := by decide +kernel
theorem dX2_entryFact_40 : decode cX2_entryFact 40 = .ok (.iload_n 1, 1) := by decide +kernel
theorem dX2_entryFact_41 : decode cX2_entryFact 41 = .ok (.invokevirtual 58, 3) := by decide +kernel
theorem dX2_entryFact_44 : decode cX2_entryFact 44 = .ok (.ireturn, 1) := by decide +kernel
theorem dX2_entryFact_45 : decode cX2_entryFact 45 = .ok (.aload_n 0, 1) := by decide +kernel
theorem dX2_entryFact_46 : decode cX2_entryFact 46 = .ok (.getfield 12, 3) := by decide +kernel
theorem dX2_entryFact_49 : decode cX2_entryFact 49 = .ok (.iload_n 1, 1) := by decide +kernel
theorem dX2_entryFact_50 : decode cX2_entryFact 50 = .ok (.aload_n 0, 1) := by decide +kernel
theorem dX2_entryFact_51 : decode cX2_entryFact 51 = .ok (.getfield 30, 3) := by decide +kernel
theorem dX2_entryFact_54 : decode cX2_entryFact 54 = .ok (.invokevirtual 146, 3) := by decide +kernel
theorem dX2_entryFact_57 : decode cX2_entryFact 57 = .ok (.ireturn, 1) := by decide +kernel
theorem dX2_entryFact_58 : decode cX2_entryFact 58 = .ok (.aload_n 0, 1) := by decide +kernel
theorem dX2_entryFact_59 : decode cX2_entryFact 59 = .ok (.getfield 12, 3) := by decide +kernel
theorem dX2_entryFact_62 : decode cX2_entryFact 62 = .ok (.iload_n 1, 1) := by decide +kernel
theorem dX2_entryFact_63 : decode cX2_entryFact 63 = .ok (.invokevirtual 262, 3) := by decide +kernel
theorem dX2_entryFact_66 : decode cX2_entryFact 66 = .ok (.ireturn, 1) := by decide +kernel
theorem dX2_entryFact_67 : decode cX2_entryFact 67 = .ok (.aload_n 0, 1) := by decide +kernel
theorem dX2_entryFact_68 : decode cX2_entryFact 68 = .ok (.getfield 12, 3) := by decide +kernel
theorem dX2_entryFact_71 : decode cX2_entryFact 71 = .ok (.iload_n 1, 1) := by decide +kernel
theorem dX2_entryFact_72 : decode cX2_entryFact 72 = .ok (.invokevirtual 265, 3) := by decide +kernel
theorem dX2_entryFact_75 : decode cX2_entryFact 75 = .ok (.ifCond .eq 7, 3) := by decide +kernel
theorem dX2_entryFact_78 : decode cX2_entryFact 78 = .ok (.iconst 1, 1) := by decide +kernel
theorem dX2_entryFact_79 : decode cX2_entryFact 79 = .ok (.goto 4, 3) := by decide +kernel
theorem dX2_entryFact_82 : decode cX2_entryFact 82 = .ok (.iconst 0, 1) := by decide +kernel
theorem dX2_entryFact_83 : decode cX2_entryFact 83 = .ok (.ireturn, 1) := by decide +kernel
theorem dX2_entryFact_84 : decode cX2_entryFact 84 = .ok (.aload_n 0, 1) := by decide +kernel
theorem dX2_entryFact_85 : decode cX2_entryFact 85 = .ok (.getfield 12, 3) := by decide +kernel
theorem dX2_entryFact_88 : decode cX2_entryFact 88 = .ok (.iload_n 1, 1) := by decide +kernel
theorem dX2_entryFact_89 : decode cX2_entryFact 89 = .ok (.invokevirtual 268, 3) := by decide +kernel
theorem dX2_entryFact_92 : decode cX2_entryFact 92 = .ok (.ireturn, 1) := by decide +kernel
theorem dX2_entryFact_93 : decode cX2_entryFact 93 = .ok (.aload_n 0, 1) := by decide +kernel
theorem dX2_entryFact_94 : decode cX2_entryFact 94 = .ok (.iload_n 1, 1) := by decide +kernel
theorem dX2_entryFact_95 : decode cX2_entryFact 95 = .ok (.invokevirtual 271, 3) := by decide +kernel
theorem dX2_entryFact_98 : decode cX2_entryFact 98 = .ok (.ireturn, 1) := by decide +kernel
theorem q2_28 : (Jvm.Cond.methodLink "Cyclepaint" (58 : Nat) ({ cls := "Cyclepaint$Palette", name := "baseOf", desc := "(I)I" } : Jvm.MethodName)) ∈ lw_g := zg_of (zin2 (List.mem_of_getElem? (i := 28) rfl)) rfl
theorem q2_29 : (Jvm.Cond.methodLink "Cyclepaint" (262 : Nat) ({ cls := "Cyclepaint$Palette", name := "rangeNumber", desc := "(I)I" } : Jvm.MethodName)) ∈ lw_g := zg_of (zin2 (List.mem_of_getElem? (i := 29) rfl)) rfl
theorem q2_30 : (Jvm.Cond.methodLink "Cyclepaint" (265 : Nat) ({ cls := "Cyclepaint$Palette", name := "isStill", desc := "(I)Z" } : Jvm.MethodName)) ∈ lw_g := zg_of (zin2 (List.mem_of_getElem? (i := 30) rfl)) rfl
theorem q2_31 : (Jvm.Cond.methodLink "Cyclepaint" (268 : Nat) ({ cls := "Cyclepaint$Palette", name := "twins", desc := "(I)I" } : Jvm.MethodName)) ∈ lw_g := zg_of (zin2 (List.mem_of_getElem? (i := 31) rfl)) rfl
theorem q2_35 : (Jvm.Cond.methodLink "Cyclepaint" (271 : Nat) ({ cls := "Cyclepaint", name := "usesOf", desc := "(I)I" } : Jvm.MethodName)) ∈ lw_g := zg_of (zin2 (List.mem_of_getElem? (i := 35) rfl)) rfl
theorem q2_27 : (Jvm.Cond.code ({ cls := "Cyclepaint", name := "entryFact", desc := "(II)I" } : Jvm.MethodName) prog_1_method_42_code (3 : Nat) (Option.some Jvm.ClassFile.FieldType.int)) ∈ lw_g := zg_of (zin2 (List.mem_of_getElem? (i := 27) rfl)) rfl
theorem q2_26 : (Jvm.Cond.instanceMethod ({ cls := "Cyclepaint", name := "entryFact", desc := "(II)I" } : Jvm.MethodName)) ∈ lw_g := zg_of (zin2 (List.mem_of_getElem? (i := 26) rfl)) rfl
theorem qs_12 : Cond.selects "Cyclepaint" (⟨"Cyclepaint", "entryFact", "(II)I"⟩ : MethodName) (⟨"Cyclepaint", "entryFact", "(II)I"⟩ : MethodName) ∈ lw_g := zg_of (zinS (List.mem_of_getElem? (i := 12) rfl)) rfl
theorem ok_X2_entryFact : zOV yX2_entryFact cX2_entryFact 3 ((Option.some Jvm.ClassFile.FieldType.int)) 2 := ⟨⟨q2_27, q1_1, by decide, by decide, by decide +kernel⟩, q2_26, qs_12⟩
set_option maxHeartbeats 4000000 in
set_option maxRecDepth 100000 in
theorem c_X2_entryFact (l : Launch) (G : zG) (σ : St) (a : Nat → Nat) (e wh : Int) (he : 0 ≤ e ∧ e < 16) (hw : 0 ≤ wh ∧ wh ≤ 5) : Met l yX2_entryFact (wq yX2_entryFact cX2_entryFact 3 ((Option.some Jvm.ClassFile.FieldType.int))) (rmR 4 93) (va_Pc [.ref (a 0), .int (zI (e)), .int (zI (wh))] (zK G (hCyc G σ a))) (zQ (some (.int ((eF σ e wh))))) 0 0 zF := by
  refine z_enterI (by decide +kernel) (Nat.le_of_ble_eq_true rfl) ?_
  intro p env s m below meth cod Q S hG hP ret ls hl
  have hl : lv_has ls 3 [(0, .ref (a 0)), (1, .int (zI (e))), (2, .int (zI (wh)))] := hl
  have hC := hP.2.2.2.2.2
  have hT := hC.1
  have hdt := hC.2.1
  have hlm := hC.2.2.1
  have hkn := hC.2.2.2.1
  have hD := hC.2.2.2.2.1
  have hB := hC.2.2.2.2.2
  rcases (show wh = 0 ∨ wh = 1 ∨ wh = 2 ∨ wh = 3 ∨ wh = 4 ∨ wh = 5 by omega) with rfl | rfl | rfl | rfl | rfl | rfl
  · skip
    refine z_iload_n S dX2_entryFact_0 hl 2 rfl rfl ?_
    refine lv_tableIn (tgt := 36) S.1 S.2.1 dX2_entryFact_1 (by decide) (by decide) rfl (by decide) ?_
    refine z_aload_n S dX2_entryFact_36 hl 0 rfl rfl ?_
    refine z_get S hG hP.1 zc_X2 0 (by decide) q1_60 rfl rfl dX2_entryFact_37 ?_
    refine z_iload_n S dX2_entryFact_40 hl 1 rfl rfl ?_
    refine z_callVs S hG (c_X0_baseOf l G σ a (e) (by omega)) ok_X0_baseOf hP.2.2.2.2.1.1 zc_X0 rfl q2_28 (hP.2.2.2.2.1) ⟨rfl, rfl, by decide, by decide⟩ ⟨Nat.zero_le _, Nat.zero_le _⟩ rfl (Nat.le_of_ble_eq_true rfl) hl.1 rfl dX2_entryFact_41 ?_
    exact ret _ _ _ dX2_entryFact_44 (by unfold eF; simp)
  · skip
    refine z_iload_n S dX2_entryFact_0 hl 2 rfl rfl ?_
    refine lv_tableIn (tgt := 45) S.1 S.2.1 dX2_entryFact_1 (by decide) (by decide) rfl (by decide) ?_
    refine z_aload_n S dX2_entryFact_45 hl 0 rfl rfl ?_
    refine z_get S hG hP.1 zc_X2 0 (by decide) q1_60 rfl rfl dX2_entryFact_46 ?_
    refine z_iload_n S dX2_entryFact_49 hl 1 rfl rfl ?_
    refine z_aload_n S dX2_entryFact_50 hl 0 rfl rfl ?_
    refine z_get S hG hP.1 zc_X2 5 (by decide) q1_65 rfl rfl dX2_entryFact_51 ?_
    refine z_callVs S hG (c_X0_shows l G σ a (e) (σ.tk) (by omega) (by omega)) ok_X0_shows hP.2.2.2.2.1.1 zc_X0 rfl q1_166 (hP.2.2.2.2.1) ⟨rfl, rfl, by decide, by decide⟩ ⟨Nat.zero_le _, Nat.zero_le _⟩ rfl (Nat.le_of_ble_eq_true rfl) hl.1 rfl dX2_entryFact_54 ?_
    exact ret _ _ _ dX2_entryFact_57 (by unfold eF; simp)
  · skip
    refine z_iload_n S dX2_entryFact_0 hl 2 rfl rfl ?_
    refine lv_tableIn (tgt := 58) S.1 S.2.1 dX2_entryFact_1 (by decide) (by decide) rfl (by decide) ?_
    refine z_aload_n S dX2_entryFact_58 hl 0 rfl rfl ?_
    refine z_get S hG hP.1 zc_X2 0 (by decide) q1_60 rfl rfl dX2_entryFact_59 ?_
    refine z_iload_n S dX2_entryFact_62 hl 1 rfl rfl ?_
    refine z_callVs S hG (c_X0_rangeNumber l G σ a (e) (by omega)) ok_X0_rangeNumber hP.2.2.2.2.1.1 zc_X0 rfl q2_29 (hP.2.2.2.2.1) ⟨rfl, rfl, by decide, by decide⟩ ⟨Nat.zero_le _, Nat.zero_le _⟩ rfl (Nat.le_of_ble_eq_true rfl) hl.1 rfl dX2_entryFact_63 ?_
    exact ret _ _ _ dX2_entryFact_66 (by unfold eF; simp)
  · skip
    refine z_iload_n S dX2_entryFact_0 hl 2 rfl rfl ?_
    refine lv_tableIn (tgt := 67) S.1 S.2.1 dX2_entryFact_1 (by decide) (by decide) rfl (by decide) ?_
    refine z_aload_n S dX2_entryFact_67 hl 0 rfl rfl ?_
    refine z_get S hG hP.1 zc_X2 0 (by decide) q1_60 rfl rfl dX2_entryFact_68 ?_
    refine z_iload_n S dX2_entryFact_71 hl 1 rfl rfl ?_
    refine z_callVs S hG (c_X0_isStill l G σ a (e) (by omega)) ok_X0_isStill hP.2.2.2.2.1.1 zc_X0 rfl q2_30 (hP.2.2.2.2.1) ⟨rfl, rfl, by decide, by decide⟩ ⟨Nat.zero_le _, Nat.zero_le _⟩ rfl (Nat.le_of_ble_eq_true rfl) hl.1 rfl dX2_entryFact_72 ?_
    refine z_bif_eq S 82 dX2_entryFact_75 (by decide) (fun c_75 => ?_) (fun c_75 => ?_)
    · skip
      refine z_iconst S dX2_entryFact_82 ?_
      exact ret _ _ _ dX2_entryFact_83 (by unfold eF; simp [c_75]; rfl)
    · skip
      refine z_iconst S dX2_entryFact_78 ?_
      refine z_goto S 83 dX2_entryFact_79 (by decide) ?_
      exact ret _ _ _ dX2_entryFact_83 (by unfold eF; simp [c_75]; rfl)
  · skip
    refine z_iload_n S dX2_entryFact_0 hl 2 rfl rfl ?_
    refine lv_tableIn (tgt := 84) S.1 S.2.1 dX2_entryFact_1 (by decide) (by decide) rfl (by decide) ?_
    refine z_aload_n S dX2_entryFact_84 hl 0 rfl rfl ?_
    refine z_get S hG hP.1 zc_X2 0 (by decide) q1_60 rfl rfl dX2_entryFact_85 ?_
    refine z_iload_n S dX2_entryFact_88 hl 1 rfl rfl ?_
    refine z_callVs S hG (c_X0_twins l G σ a (e) (by omega)) ok_X0_twins hP.2.2.2.2.1.1 zc_X0 rfl q2_31 (hP.2.2.2.2.1) ⟨rfl, rfl, by decide, by decide⟩ ⟨Nat.zero_le _, Nat.zero_le _⟩ rfl (Nat.le_of_ble_eq_true rfl) hl.1 rfl dX2_entryFact_89 ?_
    exact ret _ _ _ dX2_entryFact_92 (by unfold eF; simp)
  · skip
    refine z_iload_n S dX2_entryFact_0 hl 2 rfl rfl ?_
    refine lv_tableOut (tgt := 93) S.1 S.2.1 dX2_entryFact_1 (by decide) (by decide) ?_
    refine z_aload_n S dX2_entryFact_93 hl 0 rfl rfl ?_
    refine z_iload_n S dX2_entryFact_94 hl 1 rfl rfl ?_
    refine z_callVs S hG (c_X2_usesOf l G σ a (e) (by omega)) ok_X2_usesOf hP.1 zc_X2 rfl q2_35 (hP) ⟨rfl, rfl, by decide, by decide⟩ ⟨Nat.zero_le _, Nat.zero_le _⟩ rfl (Nat.le_of_ble_eq_true rfl) hl.1 rfl dX2_entryFact_95 ?_
    exact ret _ _ _ dX2_entryFact_98 (by unfold eF; simp)
def pF (σ : St) (wh : Int) : Int32 := if wh = 0 then zI σ.tk else if wh = 1 then zI σ.rn else if wh = 2 then zI (ueC σ) else if wh = 3 then bcR (ksC σ) else if wh = 4 then liC σ σ.tk else if wh = 5 then mrL σ else if wh = 6 then zI (flC σ) else if wh = 7 then bI (decide (σ.lim < flC σ)) else if wh = 8 then zI σ.lim else if wh = 9 then zI σ.kn else if wh = 10 then bcL (csC σ) else σ.rf
theorem dX2_pictureFact_0 : decode cX2_pictureFact 0 = .ok (.iload_n 1, 1) := by decide +kernel
theorem dX2_pictureFact_1 : decode cX2_pictureFact 1 = .ok (.tableswitch 129 0 10 #[59, 64, 72, 77, 82, 91, 96, 101, 114, 119, 124], 59) := by decide +kernel
theorem dX2_pictureFact_60 : decode cX2_pictureFact 60 = .ok (.aload_n 0, 1) := by decide +kernel
theorem dX2_pictureFact_61 : decode cX2_pictureFact 61 = .ok (.getfield 30, 3) := by decide +kernel
theorem dX2_pictureFact_64 : decode cX2_pictureFact 64 = .ok (.ireturn, 1) := by decide +kernel
theorem dX2_pictureFact_65 : decode cX2_pictureFact 65 = .ok (.aload_n 0, 1) := by decide +kernel
theorem dX2_pictureFact_66 : decode cX2_pictureFact 66 = .ok (.getfield 12, 3) := by decide +kernel
theorem dX2_pictureFact_69 : decode cX2_pictureFact 69 = .ok (.invokevirtual 85, 3) := by decide +kernel
theorem dX2_pictureFact_72 : decode cX2_pictureFact 72 = .ok (.ireturn, 1) := by decide +kernel
theorem dX2_pictureFact_73 : decode cX2_pictureFact 73 = .ok (.aload_n 0, 1) := by decide +kernel
theorem dX2_pictureFact_74 : decode cX2_pictureFact 74 = .ok (.invokevirtual 233, 3) := by decide +kernel
theorem dX2_pictureFact_77 : decode cX2_pictureFact 77 = .ok (.ireturn, 1) := by decide +kernel
theorem dX2_pictureFact_78 : decode cX2_pictureFact 78 = .ok (.aload_n 0, 1) := by decide +kernel
theorem dX2_pictureFact_79 : decode cX2_pictureFact 79 = .ok (.invokevirtual 230, 3) := by decide +kernel
theorem dX2_pictureFact_82 : decode cX2_pictureFact 82 = .ok (.ireturn, 1) := by decide +kernel
theorem dX2_pictureFact_83 : decode cX2_pictureFact 83 = .ok (.aload_n 0, 1) := by decide +kernel
theorem dX2_pictureFact_84 : decode cX2_pictureFact 84 = .ok (.aload_n 0, 1) := by decide +kernel
theorem dX2_pictureFact_85 : decode cX2_pictureFact 85 = .ok (.getfield 30, 3) := by decide +kernel
theorem dX2_pictureFact_88 : decode cX2_pictureFact 88 = .ok (.invokevirtual 199, 3) := by decide +kernel
theorem dX2_pictureFact_91 : decode cX2_pictureFact 91 = .ok (.ireturn, 1) := by decide +kernel
theorem dX2_pictureFact_92 : decode cX2_pictureFact 92 = .ok (.aload_n 0, 1) := by decide +kernel
theorem dX2_pictureFact_93 : decode cX2_pictureFact 93 = .ok (.invokevirtual 274, 3) := by decide +kernel
theorem dX2_pictureFact_96 : decode cX2_pictureFact 96 = .ok (.ireturn, 1) := by decide +kernel
theorem dX2_pictureFact_97 : decode cX2_pictureFact 97 = .ok (.aload_n 0, 1) := by decide +kernel
theorem dX2_pictureFact_98 : decode cX2_pictureFact 98 = .ok (.invokevirtual 277, 3) := by decide +kernel
theorem dX2_pictureFact_101 : decode cX2_pictureFact 101 = .ok (.ireturn, 1) := by decide +kernel
theorem dX2_pictureFact_102 : decode cX2_pictureFact 102 = .ok (.aload_n 0, 1) := by decide +kernel
theorem dX2_pictureFact_103 : decode cX2_pictureFact 103 = .ok (.invokevirtual 152, 3) := by decide +kernel
theorem dX2_pictureFact_106 : decode cX2_pictureFact 106 = .ok (.ifCond .eq 7, 3) := by decide +kernel
theorem dX2_pictureFact_109 : decode cX2_pictureFact 109 = .ok (.iconst 1, 1) := by decide +kernel
theorem dX2_pictureFact_110 : decode cX2_pictureFact 110 = .ok (.goto 4, 3) := by decide +kernel
theorem dX2_pictureFact_113 : decode cX2_pictureFact 113 = .ok (.iconst 0, 1) := by decide +kernel
theorem dX2_pictureFact_114 : decode cX2_pictureFact 114 = .ok (.ireturn, 1) := by decide +kernel
theorem dX2_pictureFact_115 : decode cX2_pictureFact 115 = .ok (.aload_n 0, 1) := by decide +kernel
theorem dX2_pictureFact_116 : decode cX2_pictureFact 116 = .ok (.getfield 33, 3) := by decide +kernel
theorem dX2_pictureFact_119 : decode cX2_pictureFact 119 = .ok (.ireturn, 1) := by decide +kernel
theorem dX2_pictureFact_120 : decode cX2_pictureFact 120 = .ok (.aload_n 0, 1) := by decide +kernel
theorem dX2_pictureFact_121 : decode cX2_pictureFact 121 = .ok (.getfield 26, 3) := by decide +kernel
theorem dX2_pictureFact_124 : decode cX2_pictureFact 124 = .ok (.ireturn, 1) := by decide +kernel
theorem dX2_pictureFact_125 : decode cX2_pictureFact 125 = .ok (.aload_n 0, 1) := by decide +kernel
theorem dX2_pictureFact_126 : decode cX2_pictureFact 126 = .ok (.invokevirtual 280, 3) := by decide +kernel
theorem dX2_pictureFact_129 : decode cX2_pictureFact 129 = .ok (.ireturn, 1) := by decide +kernel
theorem dX2_pictureFact_130 : decode cX2_pictureFact 130 = .ok (.aload_n 0, 1) := by decide +kernel
theorem dX2_pictureFact_131 : decode cX2_pictureFact 131 = .ok (.getfield 36, 3) := by decide +kernel
theorem dX2_pictureFact_134 : decode cX2_pictureFact 134 = .ok (.ireturn, 1) := by decide +kernel
theorem q1_223 : (Jvm.Cond.methodLink "Cyclepaint" (85 : Nat) ({ cls := "Cyclepaint$Palette", name := "ranges", desc := "()I" } : Jvm.MethodName)) ∈ lw_g := zg_of (zin1 (List.mem_of_getElem? (i := 223) rfl)) rfl
theorem q1_206 : (Jvm.Cond.methodLink "Cyclepaint" (233 : Nat) ({ cls := "Cyclepaint", name := "usedEntries", desc := "()I" } : Jvm.MethodName)) ∈ lw_g := zg_of (zin1 (List.mem_of_getElem? (i := 206) rfl)) rfl
theorem q1_196 : (Jvm.Cond.methodLink "Cyclepaint" (230 : Nat) ({ cls := "Cyclepaint", name := "kinds", desc := "()I" } : Jvm.MethodName)) ∈ lw_g := zg_of (zin1 (List.mem_of_getElem? (i := 196) rfl)) rfl
theorem q1_227 : (Jvm.Cond.methodLink "Cyclepaint" (274 : Nat) ({ cls := "Cyclepaint", name := "lightOfLightestRow", desc := "()I" } : Jvm.MethodName)) ∈ lw_g := zg_of (zin1 (List.mem_of_getElem? (i := 227) rfl)) rfl
theorem q2_6 : (Jvm.Cond.methodLink "Cyclepaint" (152 : Nat) ({ cls := "Cyclepaint", name := "isBarred", desc := "()Z" } : Jvm.MethodName)) ∈ lw_g := zg_of (zin2 (List.mem_of_getElem? (i := 6) rfl)) rfl
theorem q1_64 : (Jvm.Cond.fieldLink "Cyclepaint" (26 : Nat) "Cyclepaint" "keptCount" "I") ∈ lw_g := zg_of (zin1 (List.mem_of_getElem? (i := 64) rfl)) rfl
theorem q2_10 : (Jvm.Cond.methodLink "Cyclepaint" (280 : Nat) ({ cls := "Cyclepaint", name := "coloursShown", desc := "()I" } : Jvm.MethodName)) ∈ lw_g := zg_of (zin2 (List.mem_of_getElem? (i := 10) rfl)) rfl
theorem q1_67 : (Jvm.Cond.fieldLink "Cyclepaint" (36 : Nat) "Cyclepaint" "refused" "I") ∈ lw_g := zg_of (zin1 (List.mem_of_getElem? (i := 67) rfl)) rfl
theorem q1_222 : (Jvm.Cond.code ({ cls := "Cyclepaint", name := "pictureFact", desc := "(I)I" } : Jvm.MethodName) prog_1_method_43_code (2 : Nat) (Option.some Jvm.ClassFile.FieldType.int)) ∈ lw_g := zg_of (zin1 (List.mem_of_getElem? (i := 222) rfl)) rfl
theorem q1_221 : (Jvm.Cond.instanceMethod ({ cls := "Cyclepaint", name := "pictureFact", desc := "(I)I" } : Jvm.MethodName)) ∈ lw_g := zg_of (zin1 (List.mem_of_getElem? (i := 221) rfl)) rfl
theorem qs_6 : Cond.selects "Cyclepaint" (⟨"Cyclepaint", "pictureFact", "(I)I"⟩ : MethodName) (⟨"Cyclepaint", "pictureFact", "(I)I"⟩ : MethodName) ∈ lw_g := zg_of (zinS (List.mem_of_getElem? (i := 6) rfl)) rfl
theorem ok_X2_pictureFact : zOV yX2_pictureFact cX2_pictureFact 2 ((Option.some Jvm.ClassFile.FieldType.int)) 1 := ⟨⟨q1_222, q1_1, by decide, by decide, by decide +kernel⟩, q1_221, qs_6⟩
set_option maxHeartbeats 4000000 in
set_option maxRecDepth 100000 in
theorem c_X2_pictureFact (l : Launch) (G : zG) (σ : St) (a : Nat → Nat) (wh : Int) (hw : 0 ≤ wh ∧ wh ≤ 11) : Met l yX2_pictureFact (wq yX2_pictureFact cX2_pictureFact 2 ((Option.some Jvm.ClassFile.FieldType.int))) (rmR 5 115) (va_Pc [.ref (a 0), .int (zI (wh))] (zK G (hCyc G σ a))) (zQ (some (.int ((pF σ wh))))) 0 0 zF := by
  refine z_enterI (by decide +kernel) (Nat.le_of_ble_eq_true rfl) ?_
  intro p env s m below meth cod Q S hG hP ret ls hl
  have hl : lv_has ls 2 [(0, .ref (a 0)), (1, .int (zI (wh)))] := hl
  have hC := hP.2.2.2.2.2
  have hT := hC.1
  have hdt := hC.2.1
  have hlm := hC.2.2.1
  have hkn := hC.2.2.2.1
  have hD := hC.2.2.2.2.1
  have hB := hC.2.2.2.2.2
  rcases (show wh = 0 ∨ wh = 1 ∨ wh = 2 ∨ wh = 3 ∨ wh = 4 ∨ wh = 5 ∨ wh = 6 ∨ wh = 7 ∨ wh = 8 ∨ wh = 9 ∨ wh = 10 ∨ wh = 11 by omega) with rfl | rfl | rfl | rfl | rfl | rfl | rfl | rfl | rfl | rfl | rfl | rfl
  · skip
    refine z_iload_n S dX2_pictureFact_0 hl 1 rfl rfl ?_
    refine lv_tableIn (tgt := 60) S.1 S.2.1 dX2_pictureFact_1 (by decide) (by decide) rfl (by decide) ?_
    refine z_aload_n S dX2_pictureFact_60 hl 0 rfl rfl ?_
    refine z_get S hG hP.1 zc_X2 5 (by decide) q1_65 rfl rfl dX2_pictureFact_61 ?_
    exact ret _ _ _ dX2_pictureFact_64 (by unfold pF; simp)
  · skip
    refine z_iload_n S dX2_pictureFact_0 hl 1 rfl rfl ?_
    refine lv_tableIn (tgt := 65) S.1 S.2.1 dX2_pictureFact_1 (by decide) (by decide) rfl (by decide) ?_
    refine z_aload_n S dX2_pictureFact_65 hl 0 rfl rfl ?_
    refine z_get S hG hP.1 zc_X2 0 (by decide) q1_60 rfl rfl dX2_pictureFact_66 ?_
    refine z_callVs S hG (c_X0_ranges l G σ a) ok_X0_ranges hP.2.2.2.2.1.1 zc_X0 rfl q1_223 (hP.2.2.2.2.1) ⟨rfl, rfl, by decide, by decide⟩ ⟨Nat.zero_le _, Nat.zero_le _⟩ rfl (Nat.le_of_ble_eq_true rfl) hl.1 rfl dX2_pictureFact_69 ?_
    exact ret _ _ _ dX2_pictureFact_72 (by unfold pF; simp)
  · skip
    refine z_iload_n S dX2_pictureFact_0 hl 1 rfl rfl ?_
    refine lv_tableIn (tgt := 73) S.1 S.2.1 dX2_pictureFact_1 (by decide) (by decide) rfl (by decide) ?_
    refine z_aload_n S dX2_pictureFact_73 hl 0 rfl rfl ?_
    refine z_callVs S hG (c_X2_usedEntries l G σ a) ok_X2_usedEntries hP.1 zc_X2 rfl q1_206 (hP) ⟨rfl, rfl, by decide, by decide⟩ ⟨Nat.zero_le _, Nat.zero_le _⟩ rfl (Nat.le_of_ble_eq_true rfl) hl.1 rfl dX2_pictureFact_74 ?_
    exact ret _ _ _ dX2_pictureFact_77 (by unfold pF; simp)
  · skip
    refine z_iload_n S dX2_pictureFact_0 hl 1 rfl rfl ?_
    refine lv_tableIn (tgt := 78) S.1 S.2.1 dX2_pictureFact_1 (by decide) (by decide) rfl (by decide) ?_
    refine z_aload_n S dX2_pictureFact_78 hl 0 rfl rfl ?_
    refine z_callVs S hG (c_X2_kinds l G σ a) ok_X2_kinds hP.1 zc_X2 rfl q1_196 (hP) ⟨rfl, rfl, by decide, by decide⟩ ⟨Nat.zero_le _, Nat.zero_le _⟩ rfl (Nat.le_of_ble_eq_true rfl) hl.1 rfl dX2_pictureFact_79 ?_
    exact ret _ _ _ dX2_pictureFact_82 (by unfold pF; simp)
  · skip
    refine z_iload_n S dX2_pictureFact_0 hl 1 rfl rfl ?_
    refine lv_tableIn (tgt := 83) S.1 S.2.1 dX2_pictureFact_1 (by decide) (by decide) rfl (by decide) ?_
    refine z_aload_n S dX2_pictureFact_83 hl 0 rfl rfl ?_
    refine z_aload_n S dX2_pictureFact_84 hl 0 rfl rfl ?_
    refine z_get S hG hP.1 zc_X2 5 (by decide) q1_65 rfl rfl dX2_pictureFact_85 ?_
    refine z_callVs S hG (c_X2_lightAt l G σ a (σ.tk) (by omega)) ok_X2_lightAt hP.1 zc_X2 rfl q1_162 (hP) ⟨rfl, rfl, by decide, by decide⟩ ⟨Nat.zero_le _, Nat.zero_le _⟩ rfl (Nat.le_of_ble_eq_true rfl) hl.1 rfl dX2_pictureFact_88 ?_
    exact ret _ _ _ dX2_pictureFact_91 (by unfold pF; simp)
  · skip
    refine z_iload_n S dX2_pictureFact_0 hl 1 rfl rfl ?_
    refine lv_tableIn (tgt := 92) S.1 S.2.1 dX2_pictureFact_1 (by decide) (by decide) rfl (by decide) ?_
    refine z_aload_n S dX2_pictureFact_92 hl 0 rfl rfl ?_
    refine z_callVs S hG (c_X2_mostRow l G σ a) ok_X2_lightOfLightestRow hP.1 zc_X2 rfl q1_227 (hP) ⟨rfl, rfl, by decide, by decide⟩ ⟨Nat.zero_le _, Nat.zero_le _⟩ rfl (Nat.le_of_ble_eq_true rfl) hl.1 rfl dX2_pictureFact_93 ?_
    exact ret _ _ _ dX2_pictureFact_96 (by unfold pF; simp)
  · skip
    refine z_iload_n S dX2_pictureFact_0 hl 1 rfl rfl ?_
    refine lv_tableIn (tgt := 97) S.1 S.2.1 dX2_pictureFact_1 (by decide) (by decide) rfl (by decide) ?_
    refine z_aload_n S dX2_pictureFact_97 hl 0 rfl rfl ?_
    refine z_callVs S hG (c_X2_flickering l G σ a) ok_X2_flickeringDots hP.1 zc_X2 rfl q1_238 (hP) ⟨rfl, rfl, by decide, by decide⟩ ⟨Nat.zero_le _, Nat.zero_le _⟩ rfl (Nat.le_of_ble_eq_true rfl) hl.1 rfl dX2_pictureFact_98 ?_
    exact ret _ _ _ dX2_pictureFact_101 (by unfold pF; simp)
  · skip
    refine z_iload_n S dX2_pictureFact_0 hl 1 rfl rfl ?_
    refine lv_tableIn (tgt := 102) S.1 S.2.1 dX2_pictureFact_1 (by decide) (by decide) rfl (by decide) ?_
    refine z_aload_n S dX2_pictureFact_102 hl 0 rfl rfl ?_
    refine z_callVs S hG (c_X2_isBarred l G σ a) ok_X2_isBarred hP.1 zc_X2 rfl q2_6 (hP) ⟨rfl, rfl, by decide, by decide⟩ ⟨Nat.zero_le _, Nat.zero_le _⟩ rfl (Nat.le_of_ble_eq_true rfl) hl.1 rfl dX2_pictureFact_103 ?_
    refine z_bif_eq S 113 dX2_pictureFact_106 (by decide) (fun c_106 => ?_) (fun c_106 => ?_)
    · skip
      refine z_iconst S dX2_pictureFact_113 ?_
      exact ret _ _ _ dX2_pictureFact_114 (by unfold pF; simp [c_106]; rfl)
    · skip
      refine z_iconst S dX2_pictureFact_109 ?_
      refine z_goto S 114 dX2_pictureFact_110 (by decide) ?_
      exact ret _ _ _ dX2_pictureFact_114 (by unfold pF; simp [c_106]; rfl)
  · skip
    refine z_iload_n S dX2_pictureFact_0 hl 1 rfl rfl ?_
    refine lv_tableIn (tgt := 115) S.1 S.2.1 dX2_pictureFact_1 (by decide) (by decide) rfl (by decide) ?_
    refine z_aload_n S dX2_pictureFact_115 hl 0 rfl rfl ?_
    refine z_get S hG hP.1 zc_X2 6 (by decide) q1_66 rfl rfl dX2_pictureFact_116 ?_
    exact ret _ _ _ dX2_pictureFact_119 (by unfold pF; simp)
  · skip
    refine z_iload_n S dX2_pictureFact_0 hl 1 rfl rfl ?_
    refine lv_tableIn (tgt := 120) S.1 S.2.1 dX2_pictureFact_1 (by decide) (by decide) rfl (by decide) ?_
    refine z_aload_n S dX2_pictureFact_120 hl 0 rfl rfl ?_
    refine z_get S hG hP.1 zc_X2 4 (by decide) q1_64 rfl rfl dX2_pictureFact_121 ?_
    exact ret _ _ _ dX2_pictureFact_124 (by unfold pF; simp)
  · skip
    refine z_iload_n S dX2_pictureFact_0 hl 1 rfl rfl ?_
    refine lv_tableIn (tgt := 125) S.1 S.2.1 dX2_pictureFact_1 (by decide) (by decide) rfl (by decide) ?_
    refine z_aload_n S dX2_pictureFact_125 hl 0 rfl rfl ?_
    refine z_callVs S hG (c_X2_coloursShown l G σ a) ok_X2_coloursShown hP.1 zc_X2 rfl q2_10 (hP) ⟨rfl, rfl, by decide, by decide⟩ ⟨Nat.zero_le _, Nat.zero_le _⟩ rfl (Nat.le_of_ble_eq_true rfl) hl.1 rfl dX2_pictureFact_126 ?_
    exact ret _ _ _ dX2_pictureFact_129 (by unfold pF; simp)
  · skip
    refine z_iload_n S dX2_pictureFact_0 hl 1 rfl rfl ?_
    refine lv_tableOut (tgt := 130) S.1 S.2.1 dX2_pictureFact_1 (by decide) (by decide) ?_
    refine z_aload_n S dX2_pictureFact_130 hl 0 rfl rfl ?_
    refine z_get S hG hP.1 zc_X2 7 (by decide) q1_67 rfl rfl dX2_pictureFact_131 ?_
    exact ret _ _ _ dX2_pictureFact_134 (by unfold pF; simp)
end
section
/-! ===== sums over entries and sums over dots ===== -/
theorem smF_add (g h : Int → Int32) : ∀ n : Nat, smF (fun e => g e + h e) n = smF g n + smF h n
  | 0 => rfl
  | n + 1 => by
    rw [smF, smF, smF, smF_add g h n]
    rw [Int32.add_assoc, Int32.add_assoc, ← Int32.add_assoc (smF h n), Int32.add_comm (smF h n) (g n), Int32.add_assoc]
theorem smF_zero : ∀ n : Nat, smF (fun _ => 0) n = 0
  | 0 => rfl
  | n + 1 => by rw [smF, smF_zero n]; rfl
theorem smF_c {g h : Int → Int32} : ∀ {n : Nat}, (∀ t : Int, 0 ≤ t → t < n → g t = h t) → smF g n = smF h n
  | 0, _ => rfl
  | n + 1, q => by rw [smF, smF, smF_c (fun t h0 h1 => q t h0 (by omega)), q n (by omega) (by omega)]
theorem smF_one (f : Int → Int32) (x : Int) : ∀ n : Nat, smF (fun e => if e = x then f e else 0) n = if 0 ≤ x ∧ x < n then f x else 0
  | 0 => by rw [if_neg (by omega)]; rfl
  | n + 1 => by
    rw [smF, smF_one f x n]
    by_cases q : (n : Int) = x
    · rw [if_pos q, if_neg (by omega), if_pos (by omega), q, Int32.zero_add]
    · rw [if_neg q, Int32.add_zero]
      by_cases r : 0 ≤ x ∧ x < n
      · rw [if_pos r, if_pos (by omega)]
      · rw [if_neg r, if_neg (by omega)]
theorem exchF {D : Int → Int} {f : Int → Int32} {m : Nat} : ∀ n : Nat, (∀ d : Int, 0 ≤ d → d < n → 0 ≤ D d ∧ D d < m) → smF (fun e => zI (cntF (fun d => decide (D d = e)) n) * f e) m = smF (fun d => f (D d)) n
  | 0, _ => (smF_c (fun t _ _ => Int32.zero_mul)).trans (smF_zero m)
  | n + 1, h => by
    have e : (fun e => zI (cntF (fun d => decide (D d = e)) (n + 1)) * f e) = (fun e => zI (cntF (fun d => decide (D d = e)) n) * f e + (if e = D n then f e else 0)) := by
      funext e
      rw [cntF, ← zI_add, Int32.add_mul]
      congr 1
      by_cases q : e = D n
      · rw [if_pos q, if_pos (by simp [q])]; exact Int32.one_mul _
      · rw [if_neg q, if_neg (by simpa using fun z => q z.symm)]; exact Int32.zero_mul
    have hn := h n (by omega) (by omega)
    rw [e, smF_add, exchF n (fun d h0 h1 => h d h0 (by omega)), smF_one, if_pos hn, smF]
theorem szF_add (g h : Int → Int) : ∀ n : Nat, szF (fun e => g e + h e) n = szF g n + szF h n
  | 0 => rfl
  | n + 1 => by rw [szF, szF, szF, szF_add g h n]; omega
theorem szF_zero : ∀ n : Nat, szF (fun _ => 0) n = 0
  | 0 => rfl
  | n + 1 => by rw [szF, szF_zero n]; rfl
theorem szF_c {g h : Int → Int} : ∀ {n : Nat}, (∀ t : Int, 0 ≤ t → t < n → g t = h t) → szF g n = szF h n
  | 0, _ => rfl
  | n + 1, q => by rw [szF, szF, szF_c (fun t h0 h1 => q t h0 (by omega)), q n (by omega) (by omega)]
theorem szF_one (f : Int → Int) (x : Int) : ∀ n : Nat, szF (fun e => if e = x then f e else 0) n = if 0 ≤ x ∧ x < n then f x else 0
  | 0 => by rw [if_neg (by omega)]; rfl
  | n + 1 => by
    rw [szF, szF_one f x n]
    by_cases q : (n : Int) = x
    · rw [if_pos q, if_neg (by omega), if_pos (by omega), q]; omega
    · rw [if_neg q]
      by_cases r : 0 ≤ x ∧ x < n
      · rw [if_pos r, if_pos (by omega)]; omega
      · rw [if_neg r, if_neg (by omega)]; omega
theorem exchZ {D : Int → Int} {f : Int → Int} {m : Nat} : ∀ n : Nat, (∀ d : Int, 0 ≤ d → d < n → 0 ≤ D d ∧ D d < m) → szF (fun e => cntF (fun d => decide (D d = e)) n * f e) m = szF (fun d => f (D d)) n
  | 0, _ => (szF_c (fun t _ _ => Int.zero_mul _)).trans (szF_zero m)
  | n + 1, h => by
    have e : (fun e => cntF (fun d => decide (D d = e)) (n + 1) * f e) = (fun e => cntF (fun d => decide (D d = e)) n * f e + (if e = D n then f e else 0)) := by
      funext e
      rw [cntF, Int.add_mul]
      congr 1
      by_cases q : e = D n
      · rw [if_pos q, if_pos (by simp [q])]; exact Int.one_mul _
      · rw [if_neg q, if_neg (by simpa using fun z => q z.symm)]; exact Int.zero_mul _
    have hn := h n (by omega) (by omega)
    rw [e, szF_add, exchZ n (fun d h0 h1 => h d h0 (by omega)), szF_one, if_pos hn, szF]
/-! light -/
def lgN (b : Nat) : Nat := 2 * (b / 16) + 3 * (b / 4 % 4) + b % 4
theorem lgt_t : (List.range 64).all (fun b => decide (lgt (zI b) = zI (lgN b)) && decide (lgN b ≤ 18)) = true := by decide +kernel
theorem lgt_b {b : Nat} (h : b < 64) : lgt (zI b) = zI (lgN b) ∧ lgN b ≤ 18 := by
  have := List.all_eq_true.mp lgt_t b (List.mem_range.mpr h)
  simpa using this
def liM (σ : St) (w : Int) : Int32 := smI (fun d => lgt (shw σ (σ.Dt d) w)) 32
theorem li_CM {σ : St} (h : ∀ d : Int, 0 ≤ d → d < 32 → 0 ≤ σ.Dt d ∧ σ.Dt d < 16) (w : Int) : liC σ w = liM σ w :=
  exchF (D := σ.Dt) (f := fun e => lgt (shw σ e w)) (m := 16) 32 (fun d h0 h1 => h d h0 (by omega))
theorem smF_le {g : Int → Int32} : ∀ n : Nat, (∀ d : Int, 0 ≤ d → d < n → ∃ b : Nat, b ≤ 18 ∧ g d = zI b) → ∃ L : Nat, L ≤ 18 * n ∧ smF g n = zI L
  | 0, _ => ⟨0, by omega, rfl⟩
  | n + 1, h => by
    obtain ⟨L, h1, h2⟩ := smF_le n (fun d h0 h1 => h d h0 (by omega))
    obtain ⟨b, h3, h4⟩ := h n (by omega) (by omega)
    exact ⟨L + b, by omega, by rw [smF, h2, h4, zI_add]; congr 1⟩
theorem liM_b {σ : St} (hO : okR σ) (hB : okB σ) (h : ∀ d : Int, 0 ≤ d → d < 32 → 0 ≤ σ.Dt d ∧ σ.Dt d < 16) {w : Int} (hw : 0 ≤ w) : ∃ L : Nat, L ≤ 576 ∧ liM σ w = zI L := by
  obtain ⟨L, h1, h2⟩ := smF_le (g := fun d => lgt (shw σ (σ.Dt d) w)) 32 (fun d h0 h1 => by
    have hs := src_b hO (w := w) (h d h0 (by omega)) hw
    obtain ⟨b, hb, he⟩ := hB _ hs.1 hs.2
    refine ⟨lgN b.toNat, (lgt_b (b := b.toNat) (by omega)).2, ?_⟩
    rw [← (lgt_b (b := b.toNat) (by omega)).1]
    show lgt (σ.B (src σ (σ.Dt d) w)) = _
    rw [he, Int.toNat_of_nonneg hb.1])
  exact ⟨L, by omega, h2⟩
/-! the mean is a number -/
def mnD (x : Int32) : UInt64 := FP.ddiv (FP.i2d x) 4629700416936869888
theorem mn_t : (List.range 577).all (fun n => decide (mnD (zI n) &&& 0x7fffffffffffffff ≤ 0x7ff0000000000000) && decide (FP.dmul 4625196817309499392 (mnD (zI n)) &&& 0x7fffffffffffffff ≤ 0x7ff0000000000000)) = true := by decide +kernel
theorem mn_b {n : Nat} (h : n ≤ 576) : vf_n64 (mnD (zI n)) ∧ vf_n64 (FP.dmul 4625196817309499392 (mnD (zI n))) := by
  have := List.all_eq_true.mp mn_t n (List.mem_range.mpr (by omega))
  rw [Bool.and_eq_true] at this
  exact ⟨by unfold vf_n64; exact of_decide_eq_true this.1, by unfold vf_n64; exact of_decide_eq_true this.2⟩
end
section
theorem dX1_fact_0 : decode cX1_fact 0 = .ok (.iload_n 1, 1) := by decide +kernel
theorem dX1_fact_1 : decode cX1_fact 1 = .ok (.tableswitch 61 0 4 #[35, 40, 45, 50, 55], 35) := by decide +kernel
theorem dX1_fact_36 : decode cX1_fact 36 = .ok (.aload_n 0, 1) := by decide +kernel
theorem dX1_fact_37 : decode cX1_fact 37 = .ok (.getfield 9, 3) := by decide +kernel
theorem dX1_fact_40 : decode cX1_fact 40 = .ok (.ireturn, 1) := by decide +kernel
theorem dX1_fact_41 : decode cX1_fact 41 = .ok (.aload_n 0, 1) := by decide +kernel
theorem dX1_fact_42 : decode cX1_fact 42 = .ok (.getfield 15, 3) := by decide +kernel
theorem dX1_fact_45 : decode cX1_fact 45 = .ok (.ireturn, 1) := by decide +kernel
theorem dX1_fact_46 : decode cX1_fact 46 = .ok (.aload_n 0, 1) := by decide +kernel
theorem dX1_fact_47 : decode cX1_fact 47 = .ok (.getfield 22, 3) := by decide +kernel
theorem dX1_fact_50 : decode cX1_fact 50 = .ok (.ireturn, 1) := by decide +kernel
theorem dX1_fact_51 : decode cX1_fact 51 = .ok (.aload_n 0, 1) := by decide +kernel
theorem dX1_fact_52 : decode cX1_fact 52 = .ok (.getfield 25, 3) := by decide +kernel
theorem dX1_fact_55 : decode cX1_fact 55 = .ok (.ireturn, 1) := by decide +kernel
theorem dX1_fact_56 : decode cX1_fact 56 = .ok (.aload_n 0, 1) := by decide +kernel
theorem dX1_fact_57 : decode cX1_fact 57 = .ok (.iload_n 2, 1) := by decide +kernel
theorem dX1_fact_58 : decode cX1_fact 58 = .ok (.invokevirtual 31, 3) := by decide +kernel
theorem dX1_fact_61 : decode cX1_fact 61 = .ok (.ireturn, 1) := by decide +kernel
theorem dX1_fact_62 : decode cX1_fact 62 = .ok (.aload_n 0, 1) := by decide +kernel
theorem dX1_fact_63 : decode cX1_fact 63 = .ok (.invokevirtual 35, 3) := by decide +kernel
theorem dX1_fact_66 : decode cX1_fact 66 = .ok (.ireturn, 1) := by decide +kernel
theorem q2_44 : (Jvm.Cond.methodLink "Cyclepaint$Range" (31 : Nat) ({ cls := "Cyclepaint$Range", name := "shift", desc := "(I)I" } : Jvm.MethodName)) ∈ lw_g := zg_of (zin2 (List.mem_of_getElem? (i := 44) rfl)) rfl
theorem q2_45 : (Jvm.Cond.methodLink "Cyclepaint$Range" (35 : Nat) ({ cls := "Cyclepaint$Range", name := "round", desc := "()I" } : Jvm.MethodName)) ∈ lw_g := zg_of (zin2 (List.mem_of_getElem? (i := 45) rfl)) rfl
theorem q2_43 : (Jvm.Cond.code ({ cls := "Cyclepaint$Range", name := "fact", desc := "(II)I" } : Jvm.MethodName) prog_3_method_7_code (3 : Nat) (Option.some Jvm.ClassFile.FieldType.int)) ∈ lw_g := zg_of (zin2 (List.mem_of_getElem? (i := 43) rfl)) rfl
theorem q2_41 : (Jvm.Cond.instanceMethod ({ cls := "Cyclepaint$Range", name := "fact", desc := "(II)I" } : Jvm.MethodName)) ∈ lw_g := zg_of (zin2 (List.mem_of_getElem? (i := 41) rfl)) rfl
theorem q2_42 : (Jvm.Cond.selects "Cyclepaint$Range" ({ cls := "Cyclepaint$Range", name := "fact", desc := "(II)I" } : Jvm.MethodName) ({ cls := "Cyclepaint$Range", name := "fact", desc := "(II)I" } : Jvm.MethodName)) ∈ lw_g := zg_of (zin2 (List.mem_of_getElem? (i := 42) rfl)) rfl
theorem ok_X1_fact : zOV yX1_fact cX1_fact 3 ((Option.some Jvm.ClassFile.FieldType.int)) 2 := ⟨⟨q2_43, q1_14, by decide, by decide, by decide +kernel⟩, q2_41, q2_42⟩
set_option maxHeartbeats 4000000 in
set_option maxRecDepth 100000 in
theorem c_X1_fact (l : Launch) (G : zG) (q : Nat) (f len sp k : Int) (wh w : Int) (hw : 0 ≤ wh ∧ wh ≤ 5) (hr : (0 ≤ w ∧ w < 2147483648) ∧ (1 ≤ sp ∧ sp ≤ 9) ∧ (2 ≤ len ∧ len ≤ 16) ∧ 0 ≤ k ∧ k ≤ 2) : Met l yX1_fact (wq yX1_fact cX1_fact 3 ((Option.some Jvm.ClassFile.FieldType.int))) (rmR 1 22) (va_Pc [.ref (q), .int (zI (wh)), .int (zI (w))] (zK G (hRng G q f len sp k))) (zQ (some (.int ((factR f len sp k wh w))))) 0 0 zF := by
  refine z_enterI (by decide +kernel) (Nat.le_of_ble_eq_true rfl) ?_
  intro p env s m below meth cod Q S hG hP ret ls hl
  have hl : lv_has ls 3 [(0, .ref (q)), (1, .int (zI (wh))), (2, .int (zI (w)))] := hl
  rcases (show wh = 0 ∨ wh = 1 ∨ wh = 2 ∨ wh = 3 ∨ wh = 4 ∨ wh = 5 by omega) with rfl | rfl | rfl | rfl | rfl | rfl
  · skip
    refine z_iload_n S dX1_fact_0 hl 1 rfl rfl ?_
    refine lv_tableIn (tgt := 36) S.1 S.2.1 dX1_fact_1 (by decide) (by decide) rfl (by decide) ?_
    refine z_aload_n S dX1_fact_36 hl 0 rfl rfl ?_
    refine z_get S hG hP zc_X1 0 (by decide) q3_3 rfl rfl dX1_fact_37 ?_
    exact ret _ _ _ dX1_fact_40 (by unfold factR; simp)
  · skip
    refine z_iload_n S dX1_fact_0 hl 1 rfl rfl ?_
    refine lv_tableIn (tgt := 41) S.1 S.2.1 dX1_fact_1 (by decide) (by decide) rfl (by decide) ?_
    refine z_aload_n S dX1_fact_41 hl 0 rfl rfl ?_
    refine z_get S hG hP zc_X1 1 (by decide) q3_4 rfl rfl dX1_fact_42 ?_
    exact ret _ _ _ dX1_fact_45 (by unfold factR; simp)
  · skip
    refine z_iload_n S dX1_fact_0 hl 1 rfl rfl ?_
    refine lv_tableIn (tgt := 46) S.1 S.2.1 dX1_fact_1 (by decide) (by decide) rfl (by decide) ?_
    refine z_aload_n S dX1_fact_46 hl 0 rfl rfl ?_
    refine z_get S hG hP zc_X1 2 (by decide) q3_5 rfl rfl dX1_fact_47 ?_
    exact ret _ _ _ dX1_fact_50 (by unfold factR; simp)
  · skip
    refine z_iload_n S dX1_fact_0 hl 1 rfl rfl ?_
    refine lv_tableIn (tgt := 51) S.1 S.2.1 dX1_fact_1 (by decide) (by decide) rfl (by decide) ?_
    refine z_aload_n S dX1_fact_51 hl 0 rfl rfl ?_
    refine z_get S hG hP zc_X1 3 (by decide) q3_6 rfl rfl dX1_fact_52 ?_
    exact ret _ _ _ dX1_fact_55 (by unfold factR; simp)
  · skip
    refine z_iload_n S dX1_fact_0 hl 1 rfl rfl ?_
    refine lv_tableIn (tgt := 56) S.1 S.2.1 dX1_fact_1 (by decide) (by decide) rfl (by decide) ?_
    refine z_aload_n S dX1_fact_56 hl 0 rfl rfl ?_
    refine z_iload_n S dX1_fact_57 hl 2 rfl rfl ?_
    refine z_callVs S hG (c_X1_shift l G q f len sp k (w) (by omega)) ok_X1_shift hP zc_X1 rfl q2_44 (hP) ⟨rfl, rfl, by decide, by decide⟩ ⟨Nat.zero_le _, Nat.zero_le _⟩ rfl (Nat.le_of_ble_eq_true rfl) hl.1 rfl dX1_fact_58 ?_
    exact ret _ _ _ dX1_fact_61 (by unfold factR; simp)
  · skip
    refine z_iload_n S dX1_fact_0 hl 1 rfl rfl ?_
    refine lv_tableOut (tgt := 62) S.1 S.2.1 dX1_fact_1 (by decide) (by decide) ?_
    refine z_aload_n S dX1_fact_62 hl 0 rfl rfl ?_
    refine z_callVs S hG (c_X1_round l G q f len sp k) ok_X1_round hP zc_X1 rfl q2_45 (hP) ⟨rfl, rfl, by decide, by decide⟩ ⟨Nat.zero_le _, Nat.zero_le _⟩ rfl (Nat.le_of_ble_eq_true rfl) hl.1 rfl dX1_fact_63 ?_
    exact ret _ _ _ dX1_fact_66 (by unfold factR; simp)
theorem dX2_period_0 : decode cX2_period 0 = .ok (.aload_n 0, 1) := by decide +kernel
theorem dX2_period_1 : decode cX2_period 1 = .ok (.getfield 12, 3) := by decide +kernel
theorem dX2_period_4 : decode cX2_period 4 = .ok (.invokevirtual 177, 3) := by decide +kernel
theorem dX2_period_7 : decode cX2_period 7 = .ok (.ireturn, 1) := by decide +kernel
theorem q1_148 : (Jvm.Cond.methodLink "Cyclepaint" (177 : Nat) ({ cls := "Cyclepaint$Palette", name := "commonRound", desc := "()I" } : Jvm.MethodName)) ∈ lw_g := zg_of (zin1 (List.mem_of_getElem? (i := 148) rfl)) rfl
theorem q1_147 : (Jvm.Cond.code ({ cls := "Cyclepaint", name := "period", desc := "()I" } : Jvm.MethodName) prog_1_method_17_code (1 : Nat) (Option.some Jvm.ClassFile.FieldType.int)) ∈ lw_g := zg_of (zin1 (List.mem_of_getElem? (i := 147) rfl)) rfl
theorem q1_145 : (Jvm.Cond.instanceMethod ({ cls := "Cyclepaint", name := "period", desc := "()I" } : Jvm.MethodName)) ∈ lw_g := zg_of (zin1 (List.mem_of_getElem? (i := 145) rfl)) rfl
theorem q1_146 : (Jvm.Cond.selects "Cyclepaint" ({ cls := "Cyclepaint", name := "period", desc := "()I" } : Jvm.MethodName) ({ cls := "Cyclepaint", name := "period", desc := "()I" } : Jvm.MethodName)) ∈ lw_g := zg_of (zin1 (List.mem_of_getElem? (i := 146) rfl)) rfl
theorem ok_X2_period : zOV yX2_period cX2_period 1 ((Option.some Jvm.ClassFile.FieldType.int)) 0 := ⟨⟨q1_147, q1_1, by decide, by decide, by decide +kernel⟩, q1_145, q1_146⟩
set_option maxHeartbeats 4000000 in
set_option maxRecDepth 100000 in
theorem c_X2_period (l : Launch) (G : zG) (σ : St) (a : Nat → Nat) : Met l yX2_period (wq yX2_period cX2_period 1 ((Option.some Jvm.ClassFile.FieldType.int))) (rmR 3 69) (va_Pc [.ref (a 0)] (zK G (hCyc G σ a))) (zQ (some (.int ((zI (per σ)))))) 0 0 zF := by
  refine z_enterI (by decide +kernel) (Nat.le_of_ble_eq_true rfl) ?_
  intro p env s m below meth cod Q S hG hP ret ls hl
  have hl : lv_has ls 1 [(0, .ref (a 0))] := hl
  have hC := hP.2.2.2.2.2
  have hT := hC.1
  have hdt := hC.2.1
  have hlm := hC.2.2.1
  have hkn := hC.2.2.2.1
  have hD := hC.2.2.2.2.1
  have hB := hC.2.2.2.2.2
  refine z_aload_n S dX2_period_0 hl 0 rfl rfl ?_
  refine z_get S hG hP.1 zc_X2 0 (by decide) q1_60 rfl rfl dX2_period_1 ?_
  refine z_callVs S hG (c_X0_commonRound l G σ a hD) ok_X0_commonRound hP.2.2.2.2.1.1 zc_X0 rfl q1_148 (hP.2.2.2.2.1) ⟨rfl, rfl, by decide, by decide⟩ ⟨Nat.zero_le _, Nat.zero_le _⟩ rfl (Nat.le_of_ble_eq_true rfl) hl.1 rfl dX2_period_4 ?_
  exact ret _ _ _ dX2_period_7 (rfl)
def mnC (σ : St) : UInt64 := mnD (liC σ σ.tk)
theorem dX2_mean_0 : decode cX2_mean 0 = .ok (.aload_n 0, 1) := by decide +kernel
theorem dX2_mean_1 : decode cX2_mean 1 = .ok (.aload_n 0, 1) := by decide +kernel
theorem dX2_mean_2 : decode cX2_mean 2 = .ok (.getfield 30, 3) := by decide +kernel
theorem dX2_mean_5 : decode cX2_mean 5 = .ok (.invokevirtual 199, 3) := by decide +kernel
theorem dX2_mean_8 : decode cX2_mean 8 = .ok (.i2d, 1) := by decide +kernel
theorem dX2_mean_9 : decode cX2_mean 9 = .ok (.ldc2_w 202, 3) := by decide +kernel
theorem dX2_mean_12 : decode cX2_mean 12 = .ok (.ddiv, 1) := by decide +kernel
theorem dX2_mean_13 : decode cX2_mean 13 = .ok (.dreturn, 1) := by decide +kernel
theorem q1_170 : (Jvm.Cond.constantDouble "Cyclepaint" (202 : Nat) (4629700416936869888 : UInt64)) ∈ lw_g := zg_of (zin1 (List.mem_of_getElem? (i := 170) rfl)) rfl
theorem q1_161 : (Jvm.Cond.code ({ cls := "Cyclepaint", name := "mean", desc := "()D" } : Jvm.MethodName) prog_1_method_19_code (1 : Nat) (Option.some Jvm.ClassFile.FieldType.double)) ∈ lw_g := zg_of (zin1 (List.mem_of_getElem? (i := 161) rfl)) rfl
theorem q1_159 : (Jvm.Cond.instanceMethod ({ cls := "Cyclepaint", name := "mean", desc := "()D" } : Jvm.MethodName)) ∈ lw_g := zg_of (zin1 (List.mem_of_getElem? (i := 159) rfl)) rfl
theorem q1_160 : (Jvm.Cond.selects "Cyclepaint" ({ cls := "Cyclepaint", name := "mean", desc := "()D" } : Jvm.MethodName) ({ cls := "Cyclepaint", name := "mean", desc := "()D" } : Jvm.MethodName)) ∈ lw_g := zg_of (zin1 (List.mem_of_getElem? (i := 160) rfl)) rfl
theorem ok_X2_mean : zOV yX2_mean cX2_mean 1 ((Option.some Jvm.ClassFile.FieldType.double)) 0 := ⟨⟨q1_161, q1_1, by decide, by decide, by decide +kernel⟩, q1_159, q1_160⟩
set_option maxHeartbeats 4000000 in
set_option maxRecDepth 100000 in
theorem c_X2_mean (l : Launch) (G : zG) (σ : St) (a : Nat → Nat) : Met l yX2_mean (wq yX2_mean cX2_mean 1 ((Option.some Jvm.ClassFile.FieldType.double))) (rmR 3 69) (va_Pc [.ref (a 0)] (zK G (hCyc G σ a))) (zQ (some (.double (mnC σ)))) 0 0 zF := by
  refine z_enterD (by decide +kernel) (Nat.le_of_ble_eq_true rfl) ?_
  intro p env s m below meth cod Q S hG hP ret ls hl
  have hl : lv_has ls 1 [(0, .ref (a 0))] := hl
  have hC := hP.2.2.2.2.2
  have hT := hC.1
  have hdt := hC.2.1
  have hlm := hC.2.2.1
  have hkn := hC.2.2.2.1
  have hD := hC.2.2.2.2.1
  have hB := hC.2.2.2.2.2
  have hO := hP.2.2.2.2.1.2.2.2.2.2
  obtain ⟨L, hL, hLe⟩ := liM_b hO hB hdt hT.1
  rw [← li_CM hdt σ.tk] at hLe
  refine z_aload_n S dX2_mean_0 hl 0 rfl rfl ?_
  refine z_aload_n S dX2_mean_1 hl 0 rfl rfl ?_
  refine z_get S hG hP.1 zc_X2 5 (by decide) q1_65 rfl rfl dX2_mean_2 ?_
  refine z_callVs S hG (c_X2_lightAt l G σ a (σ.tk) (by omega)) ok_X2_lightAt hP.1 zc_X2 rfl q1_162 (hP) ⟨rfl, rfl, by decide, by decide⟩ ⟨Nat.zero_le _, Nat.zero_le _⟩ rfl (Nat.le_of_ble_eq_true rfl) hl.1 rfl dX2_mean_5 ?_
  refine lv_i2d S.1 S.2.1 dX2_mean_8 ?_
  refine lv_ldc2d S.1 S.2.1 S.2.2.2.1 (S.2.2.2.2 _ q1_170) dX2_mean_9 ?_
  refine lv_ddiv S.1 S.2.1 dX2_mean_12 (by have := (mn_b hL).1; rw [← hLe] at this; exact this) ?_
  exact ret _ _ _ dX2_mean_13 (rfl)
def soC (σ : St) : Bool := allI (crB σ σ.tk) 16 && (allI (sbB σ σ.tk) 16 && (allI (fun e => allI (taB σ σ.tk e) e) 16 && (decide (bcR (ksC σ) ≤ zI (ueC σ)) && allI (raB σ) 16)))
theorem dX2_isSound_0 : decode cX2_isSound 0 = .ok (.aload_n 0, 1) := by decide +kernel
theorem dX2_isSound_1 : decode cX2_isSound 1 = .ok (.getfield 12, 3) := by decide +kernel
theorem dX2_isSound_4 : decode cX2_isSound 4 = .ok (.aload_n 0, 1) := by decide +kernel
theorem dX2_isSound_5 : decode cX2_isSound 5 = .ok (.getfield 30, 3) := by decide +kernel
theorem dX2_isSound_8 : decode cX2_isSound 8 = .ok (.invokevirtual 221, 3) := by decide +kernel
theorem dX2_isSound_11 : decode cX2_isSound 11 = .ok (.ifCond .eq 56, 3) := by decide +kernel
theorem dX2_isSound_14 : decode cX2_isSound 14 = .ok (.aload_n 0, 1) := by decide +kernel
theorem dX2_isSound_15 : decode cX2_isSound 15 = .ok (.getfield 12, 3) := by decide +kernel
theorem dX2_isSound_18 : decode cX2_isSound 18 = .ok (.aload_n 0, 1) := by decide +kernel
theorem dX2_isSound_19 : decode cX2_isSound 19 = .ok (.getfield 30, 3) := by decide +kernel
theorem dX2_isSound_22 : decode cX2_isSound 22 = .ok (.invokevirtual 224, 3) := by decide +kernel
theorem dX2_isSound_25 : decode cX2_isSound 25 = .ok (.ifCond .eq 42, 3) := by decide +kernel
theorem dX2_isSound_28 : decode cX2_isSound 28 = .ok (.aload_n 0, 1) := by decide +kernel
theorem dX2_isSound_29 : decode cX2_isSound 29 = .ok (.getfield 12, 3) := by decide +kernel
theorem dX2_isSound_32 : decode cX2_isSound 32 = .ok (.aload_n 0, 1) := by decide +kernel
theorem dX2_isSound_33 : decode cX2_isSound 33 = .ok (.getfield 30, 3) := by decide +kernel
theorem dX2_isSound_36 : decode cX2_isSound 36 = .ok (.invokevirtual 227, 3) := by decide +kernel
theorem dX2_isSound_39 : decode cX2_isSound 39 = .ok (.ifCond .eq 28, 3) := by decide +kernel
theorem dX2_isSound_42 : decode cX2_isSound 42 = .ok (.aload_n 0, 1) := by decide +kernel
theorem dX2_isSound_43 : decode cX2_isSound 43 = .ok (.invokevirtual 230, 3) := by decide +kernel
theorem dX2_isSound_46 : decode cX2_isSound 46 = .ok (.aload_n 0, 1) := by decide +kernel
theorem dX2_isSound_47 : decode cX2_isSound 47 = .ok (.invokevirtual 233, 3) := by decide +kernel
theorem dX2_isSound_50 : decode cX2_isSound 50 = .ok (.if_icmp .gt 17, 3) := by decide +kernel
theorem dX2_isSound_53 : decode cX2_isSound 53 = .ok (.aload_n 0, 1) := by decide +kernel
theorem dX2_isSound_54 : decode cX2_isSound 54 = .ok (.getfield 12, 3) := by decide +kernel
theorem dX2_isSound_57 : decode cX2_isSound 57 = .ok (.invokevirtual 236, 3) := by decide +kernel
theorem dX2_isSound_60 : decode cX2_isSound 60 = .ok (.ifCond .eq 7, 3) := by decide +kernel
theorem dX2_isSound_63 : decode cX2_isSound 63 = .ok (.iconst 1, 1) := by decide +kernel
theorem dX2_isSound_64 : decode cX2_isSound 64 = .ok (.goto 4, 3) := by decide +kernel
theorem dX2_isSound_67 : decode cX2_isSound 67 = .ok (.iconst 0, 1) := by decide +kernel
theorem dX2_isSound_68 : decode cX2_isSound 68 = .ok (.ireturn, 1) := by decide +kernel
theorem q1_175 : (Jvm.Cond.methodLink "Cyclepaint" (221 : Nat) ({ cls := "Cyclepaint$Palette", name := "comesRound", desc := "(I)Z" } : Jvm.MethodName)) ∈ lw_g := zg_of (zin1 (List.mem_of_getElem? (i := 175) rfl)) rfl
theorem q1_180 : (Jvm.Cond.methodLink "Cyclepaint" (224 : Nat) ({ cls := "Cyclepaint$Palette", name := "areStillAtBase", desc := "(I)Z" } : Jvm.MethodName)) ∈ lw_g := zg_of (zin1 (List.mem_of_getElem? (i := 180) rfl)) rfl
theorem q1_192 : (Jvm.Cond.methodLink "Cyclepaint" (227 : Nat) ({ cls := "Cyclepaint$Palette", name := "areTwinsAlike", desc := "(I)Z" } : Jvm.MethodName)) ∈ lw_g := zg_of (zin1 (List.mem_of_getElem? (i := 192) rfl)) rfl
theorem q1_210 : (Jvm.Cond.methodLink "Cyclepaint" (236 : Nat) ({ cls := "Cyclepaint$Palette", name := "areRangesApart", desc := "()Z" } : Jvm.MethodName)) ∈ lw_g := zg_of (zin1 (List.mem_of_getElem? (i := 210) rfl)) rfl
theorem q1_174 : (Jvm.Cond.code ({ cls := "Cyclepaint", name := "isSound", desc := "()Z" } : Jvm.MethodName) prog_1_method_25_code (1 : Nat) (Option.some Jvm.ClassFile.FieldType.boolean)) ∈ lw_g := zg_of (zin1 (List.mem_of_getElem? (i := 174) rfl)) rfl
theorem q1_172 : (Jvm.Cond.instanceMethod ({ cls := "Cyclepaint", name := "isSound", desc := "()Z" } : Jvm.MethodName)) ∈ lw_g := zg_of (zin1 (List.mem_of_getElem? (i := 172) rfl)) rfl
theorem q1_173 : (Jvm.Cond.selects "Cyclepaint" ({ cls := "Cyclepaint", name := "isSound", desc := "()Z" } : Jvm.MethodName) ({ cls := "Cyclepaint", name := "isSound", desc := "()Z" } : Jvm.MethodName)) ∈ lw_g := zg_of (zin1 (List.mem_of_getElem? (i := 173) rfl)) rfl
theorem ok_X2_isSound : zOV yX2_isSound cX2_isSound 1 ((Option.some Jvm.ClassFile.FieldType.boolean)) 0 := ⟨⟨q1_174, q1_1, by decide, by decide, by decide +kernel⟩, q1_172, q1_173⟩
set_option maxHeartbeats 4000000 in
set_option maxRecDepth 100000 in
theorem c_X2_isSound (l : Launch) (G : zG) (σ : St) (a : Nat → Nat) : Met l yX2_isSound (wq yX2_isSound cX2_isSound 1 ((Option.some Jvm.ClassFile.FieldType.boolean))) (rmR 5 114) (va_Pc [.ref (a 0)] (zK G (hCyc G σ a))) (zQ (some (.int (bI (soC σ))))) 0 0 zF := by
  refine z_enterB (by decide +kernel) (Nat.le_of_ble_eq_true rfl) ?_
  intro p env s m below meth cod Q S hG hP ret ls hl
  have hl : lv_has ls 1 [(0, .ref (a 0))] := hl
  have hC := hP.2.2.2.2.2
  have hT := hC.1
  have hdt := hC.2.1
  have hlm := hC.2.2.1
  have hkn := hC.2.2.2.1
  have hD := hC.2.2.2.2.1
  have hB := hC.2.2.2.2.2
  refine z_aload_n S dX2_isSound_0 hl 0 rfl rfl ?_
  refine z_get S hG hP.1 zc_X2 0 (by decide) q1_60 rfl rfl dX2_isSound_1 ?_
  refine z_aload_n S dX2_isSound_4 hl 0 rfl rfl ?_
  refine z_get S hG hP.1 zc_X2 5 (by decide) q1_65 rfl rfl dX2_isSound_5 ?_
  refine z_callVs S hG (c_X0_comesRound l G σ a (σ.tk) (by omega) hD) ok_X0_comesRound hP.2.2.2.2.1.1 zc_X0 rfl q1_175 (hP.2.2.2.2.1) ⟨rfl, rfl, by decide, by decide⟩ ⟨Nat.zero_le _, Nat.zero_le _⟩ rfl (Nat.le_of_ble_eq_true rfl) hl.1 rfl dX2_isSound_8 ?_
  refine z_bif_eq S 67 dX2_isSound_11 (by decide) (fun c_11 => ?_) (fun c_11 => ?_)
  · skip
    refine z_iconst S dX2_isSound_67 ?_
    exact ret _ _ _ dX2_isSound_68 (by rw [show soC σ = false from by unfold soC; simp [c_11]]; rfl)
  · skip
    refine z_aload_n S dX2_isSound_14 hl 0 rfl rfl ?_
    refine z_get S hG hP.1 zc_X2 0 (by decide) q1_60 rfl rfl dX2_isSound_15 ?_
    refine z_aload_n S dX2_isSound_18 hl 0 rfl rfl ?_
    refine z_get S hG hP.1 zc_X2 5 (by decide) q1_65 rfl rfl dX2_isSound_19 ?_
    refine z_callVs S hG (c_X0_areStillAtBase l G σ a (σ.tk) (by omega)) ok_X0_areStillAtBase hP.2.2.2.2.1.1 zc_X0 rfl q1_180 (hP.2.2.2.2.1) ⟨rfl, rfl, by decide, by decide⟩ ⟨Nat.zero_le _, Nat.zero_le _⟩ rfl (Nat.le_of_ble_eq_true rfl) hl.1 rfl dX2_isSound_22 ?_
    refine z_bif_eq S 67 dX2_isSound_25 (by decide) (fun c_25 => ?_) (fun c_25 => ?_)
    · skip
      refine z_iconst S dX2_isSound_67 ?_
      exact ret _ _ _ dX2_isSound_68 (by rw [show soC σ = false from by unfold soC; simp [c_11, c_25]]; rfl)
    · skip
      refine z_aload_n S dX2_isSound_28 hl 0 rfl rfl ?_
      refine z_get S hG hP.1 zc_X2 0 (by decide) q1_60 rfl rfl dX2_isSound_29 ?_
      refine z_aload_n S dX2_isSound_32 hl 0 rfl rfl ?_
      refine z_get S hG hP.1 zc_X2 5 (by decide) q1_65 rfl rfl dX2_isSound_33 ?_
      refine z_callVs S hG (c_X0_areTwinsAlike l G σ a (σ.tk) (by omega)) ok_X0_areTwinsAlike hP.2.2.2.2.1.1 zc_X0 rfl q1_192 (hP.2.2.2.2.1) ⟨rfl, rfl, by decide, by decide⟩ ⟨Nat.zero_le _, Nat.zero_le _⟩ rfl (Nat.le_of_ble_eq_true rfl) hl.1 rfl dX2_isSound_36 ?_
      refine z_bif_eq S 67 dX2_isSound_39 (by decide) (fun c_39 => ?_) (fun c_39 => ?_)
      · skip
        refine z_iconst S dX2_isSound_67 ?_
        exact ret _ _ _ dX2_isSound_68 (by rw [show soC σ = false from by unfold soC; simp [c_11, c_25, c_39]]; rfl)
      · skip
        refine z_aload_n S dX2_isSound_42 hl 0 rfl rfl ?_
        refine z_callVs S hG (c_X2_kinds l G σ a) ok_X2_kinds hP.1 zc_X2 rfl q1_196 (hP) ⟨rfl, rfl, by decide, by decide⟩ ⟨Nat.zero_le _, Nat.zero_le _⟩ rfl (Nat.le_of_ble_eq_true rfl) hl.1 rfl dX2_isSound_43 ?_
        refine z_aload_n S dX2_isSound_46 hl 0 rfl rfl ?_
        refine z_callVs S hG (c_X2_usedEntries l G σ a) ok_X2_usedEntries hP.1 zc_X2 rfl q1_206 (hP) ⟨rfl, rfl, by decide, by decide⟩ ⟨Nat.zero_le _, Nat.zero_le _⟩ rfl (Nat.le_of_ble_eq_true rfl) hl.1 rfl dX2_isSound_47 ?_
        refine lv_icmp_gt (tgt := 67) S.1 S.2.1 dX2_isSound_50 (by decide) (fun c_50 => ?_) (fun c_50 => ?_)
        · skip
          have c_50b : decide (bcR (ksC σ) ≤ zI (ueC σ)) = false := decide_eq_false (Int32.not_le.mpr c_50)
          refine z_iconst S dX2_isSound_67 ?_
          exact ret _ _ _ dX2_isSound_68 (by rw [show soC σ = false from by unfold soC; simp [c_11, c_25, c_39, c_50b]]; rfl)
        · skip
          have c_50b : decide (bcR (ksC σ) ≤ zI (ueC σ)) = true := decide_eq_true (Int32.not_lt.mp c_50)
          refine z_aload_n S dX2_isSound_53 hl 0 rfl rfl ?_
          refine z_get S hG hP.1 zc_X2 0 (by decide) q1_60 rfl rfl dX2_isSound_54 ?_
          refine z_callVs S hG (c_X0_areRangesApart l G σ a) ok_X0_areRangesApart hP.2.2.2.2.1.1 zc_X0 rfl q1_210 (hP.2.2.2.2.1) ⟨rfl, rfl, by decide, by decide⟩ ⟨Nat.zero_le _, Nat.zero_le _⟩ rfl (Nat.le_of_ble_eq_true rfl) hl.1 rfl dX2_isSound_57 ?_
          refine z_bif_eq S 67 dX2_isSound_60 (by decide) (fun c_60 => ?_) (fun c_60 => ?_)
          · skip
            refine z_iconst S dX2_isSound_67 ?_
            exact ret _ _ _ dX2_isSound_68 (by rw [show soC σ = false from by unfold soC; simp [c_11, c_25, c_39, c_50b, c_60]]; rfl)
          · skip
            refine z_iconst S dX2_isSound_63 ?_
            refine z_goto S 68 dX2_isSound_64 (by decide) ?_
            exact ret _ _ _ dX2_isSound_68 (by rw [show soC σ = true from by unfold soC; simp [c_11, c_25, c_39, c_50b, c_60]]; rfl)
def dg1 (σ : St) : Int64 := mixI (mix1 (pF σ)) 7121 12
def dg2 (σ : St) : Int64 := dg1 σ * 31 + (zI (per σ)).toInt64
def dg3 (σ : St) (k : Int) : Int64 := mixI (fun e d => mixI (mix1 (eF σ e)) d 6) (dg2 σ) k
def dg4 (σ : St) (k : Int) : Int64 := mixI (fun j d => mixI (mix1 (rF σ j)) d 6) (dg3 σ 16) k
def dg5 (σ : St) (k : Int) : Int64 := mixI (fun q d => mixI (mix1 (dF σ q)) d 4) (dg4 σ σ.rn) k
def dg6 (σ : St) : Int64 := (dg5 σ 32 * 31 + (zI (fnd σ 1 (zI 2) σ.tk)).toInt64) * 31 + (zI (mt σ 1 (zI 3) 5 (zI 5) σ.tk)).toInt64
def dg7 (σ : St) (k : Int) : Int64 := mixI (mix1 (fun n => zI (whn σ n))) (dg6 σ) k
def dgC (σ : St) : Int64 := ((dg7 σ σ.kn * 31 + (zI (ltC σ 30)).toInt64) * 31 + FP.d2l (FP.dmul 4625196817309499392 (mnC σ))) * 31 + (if soC σ = true then 1 else 0)
theorem mixI_0 {g : Int → Int64 → Int64} {d : Int64} : mixI g d 0 = d := rfl
theorem mix1_s {g : Int → Int32} {d : Int64} {k : Int} (h : 0 ≤ k) : mixI (mix1 g) d (k + 1) = mixI (mix1 g) d k * 31 + (g k).toInt64 := mixI_s h
theorem dg3_0 {σ : St} : dg3 σ 0 = dg2 σ := mixI_0
theorem dg3_s {σ : St} {k : Int} (h : 0 ≤ k) : dg3 σ (k + 1) = mixI (mix1 (eF σ k)) (dg3 σ k) 6 := mixI_s h
theorem dg4_0 {σ : St} : dg4 σ 0 = dg3 σ 16 := mixI_0
theorem dg4_s {σ : St} {k : Int} (h : 0 ≤ k) : dg4 σ (k + 1) = mixI (mix1 (rF σ k)) (dg4 σ k) 6 := mixI_s h
theorem dg5_0 {σ : St} : dg5 σ 0 = dg4 σ σ.rn := mixI_0
theorem dg5_s {σ : St} {k : Int} (h : 0 ≤ k) : dg5 σ (k + 1) = mixI (mix1 (dF σ k)) (dg5 σ k) 4 := mixI_s h
theorem dg7_0 {σ : St} : dg7 σ 0 = dg6 σ := mixI_0
theorem dg7_s {σ : St} {k : Int} (h : 0 ≤ k) : dg7 σ (k + 1) = dg7 σ k * 31 + (zI (whn σ k)).toInt64 := mixI_s h
theorem hPal_r {G : zG} {σ : St} {a : Nat → Nat} {H : Heap} (h : hPal G σ a H) {j : Int} (h0 : 0 ≤ j) (h1 : j < σ.rn) : hRng G (a (8 + Int.toNat j)) (σ.F j) (σ.L j) (σ.S j) (σ.K j) H := h.2.2.2.2.1 j h0 h1
theorem dX2_digest_0 : decode cX2_digest 0 = .ok (.ldc2_w 239, 3) := by decide +kernel
theorem dX2_digest_3 : decode cX2_digest 3 = .ok (.lstore_n 1, 1) := by decide +kernel
theorem dX2_digest_4 : decode cX2_digest 4 = .ok (.iconst 0, 1) := by decide +kernel
theorem dX2_digest_5 : decode cX2_digest 5 = .ok (.istore_n 3, 1) := by decide +kernel
theorem dX2_digest_6 : decode cX2_digest 6 = .ok (.iload_n 3, 1) := by decide +kernel
theorem dX2_digest_7 : decode cX2_digest 7 = .ok (.bipush 12, 2) := by decide +kernel
theorem dX2_digest_9 : decode cX2_digest 9 = .ok (.if_icmp .ge 20, 3) := by decide +kernel
theorem dX2_digest_12 : decode cX2_digest 12 = .ok (.lload_n 1, 1) := by decide +kernel
theorem dX2_digest_13 : decode cX2_digest 13 = .ok (.aload_n 0, 1) := by decide +kernel
theorem dX2_digest_14 : decode cX2_digest 14 = .ok (.iload_n 3, 1) := by decide +kernel
theorem dX2_digest_15 : decode cX2_digest 15 = .ok (.invokevirtual 174, 3) := by decide +kernel
theorem dX2_digest_18 : decode cX2_digest 18 = .ok (.i2l, 1) := by decide +kernel
theorem dX2_digest_19 : decode cX2_digest 19 = .ok (.invokestatic 241, 3) := by decide +kernel
theorem dX2_digest_22 : decode cX2_digest 22 = .ok (.lstore_n 1, 1) := by decide +kernel
theorem dX2_digest_23 : decode cX2_digest 23 = .ok (.iinc 3 1, 3) := by decide +kernel
theorem dX2_digest_26 : decode cX2_digest 26 = .ok (.goto (-20), 3) := by decide +kernel
theorem dX2_digest_29 : decode cX2_digest 29 = .ok (.lload_n 1, 1) := by decide +kernel
theorem dX2_digest_30 : decode cX2_digest 30 = .ok (.aload_n 0, 1) := by decide +kernel
theorem dX2_digest_31 : decode cX2_digest 31 = .ok (.getfield 12, 3) := by decide +kernel
theorem dX2_digest_34 : decode cX2_digest 34 = .ok (.invokevirtual 177, 3) := by decide +kernel
theorem dX2_digest_37 : decode cX2_digest 37 = .ok (.i2l, 1) := by decide +kernel
theorem dX2_digest_38 : decode cX2_digest 38 = .ok (.invokestatic 241, 3) := by decide +kernel
theorem dX2_digest_41 : decode cX2_digest 41 = .ok (.lstore_n 1, 1) := by decide +kernel
theorem dX2_digest_42 : decode cX2_digest 42 = .ok (.iconst 0, 1) := by decide +kernel
theorem dX2_digest_43 : decode cX2_digest 43 = .ok (.istore_n 3, 1) := by decide +kernel
theorem dX2_digest_44 : decode cX2_digest 44 = .ok (.iload_n 3, 1) := by decide +kernel
theorem dX2_digest_45 : decode cX2_digest 45 = .ok (.bipush 16, 2) := by decide +kernel
theorem dX2_digest_47 : decode cX2_digest 47 = .ok (.if_icmp .ge 38, 3) := by decide +kernel
theorem dX2_digest_50 : decode cX2_digest 50 = .ok (.iconst 0, 1) := by decide +kernel
theorem dX2_digest_51 : decode cX2_digest 51 = .ok (.istore 4, 2) := by decide +kernel
theorem dX2_digest_53 : decode cX2_digest 53 = .ok (.iload 4, 2) := by decide +kernel
theorem dX2_digest_55 : decode cX2_digest 55 = .ok (.bipush 6, 2) := by decide +kernel
theorem dX2_digest_57 : decode cX2_digest 57 = .ok (.if_icmp .ge 22, 3) := by decide +kernel
theorem dX2_digest_60 : decode cX2_digest 60 = .ok (.lload_n 1, 1) := by decide +kernel
theorem dX2_digest_61 : decode cX2_digest 61 = .ok (.aload_n 0, 1) := by decide +kernel
theorem dX2_digest_62 : decode cX2_digest 62 = .ok (.iload_n 3, 1) := by decide +kernel
theorem dX2_digest_63 : decode cX2_digest 63 = .ok (.iload 4, 2) := by decide +kernel
theorem dX2_digest_65 : decode cX2_digest 65 = .ok (.invokevirtual 166, 3) := by decide +kernel
theorem dX2_digest_68 : decode cX2_digest 68 = .ok (.i2l, 1) := by decide +kernel
theorem dX2_digest_69 : decode cX2_digest 69 = .ok (.invokestatic 241, 3) := by decide +kernel
theorem dX2_digest_72 : decode cX2_digest 72 = .ok (.lstore_n 1, 1) := by decide +kernel
theorem dX2_digest_73 : decode cX2_digest 73 = .ok (.iinc 4 1, 3) := by decide +kernel
theorem dX2_digest_76 : decode cX2_digest 76 = .ok (.goto (-23), 3) := by decide +kernel
theorem dX2_digest_79 : decode cX2_digest 79 = .ok (.iinc 3 1, 3) := by decide +kernel
theorem dX2_digest_82 : decode cX2_digest 82 = .ok (.goto (-38), 3) := by decide +kernel
theorem dX2_digest_85 : decode cX2_digest 85 = .ok (.iconst 0, 1) := by decide +kernel
theorem dX2_digest_86 : decode cX2_digest 86 = .ok (.istore_n 3, 1) := by decide +kernel
theorem dX2_digest_87 : decode cX2_digest 87 = .ok (.iload_n 3, 1) := by decide +kernel
theorem dX2_digest_88 : decode cX2_digest 88 = .ok (.iconst 4, 1) := by decide +kernel
theorem dX2_digest_89 : decode cX2_digest 89 = .ok (.if_icmp .ge 57, 3) := by decide +kernel
theorem dX2_digest_92 : decode cX2_digest 92 = .ok (.aload_n 0, 1) := by decide +kernel
theorem dX2_digest_93 : decode cX2_digest 93 = .ok (.getfield 12, 3) := by decide +kernel
theorem dX2_digest_96 : decode cX2_digest 96 = .ok (.iload_n 3, 1) := by decide +kernel
theorem dX2_digest_97 : decode cX2_digest 97 = .ok (.invokevirtual 106, 3) := by decide +kernel
theorem dX2_digest_100 : decode cX2_digest 100 = .ok (.astore 4, 2) := by decide +kernel
theorem dX2_digest_102 : decode cX2_digest 102 = .ok (.iconst 0, 1) := by decide +kernel
theorem dX2_digest_103 : decode cX2_digest 103 = .ok (.istore 5, 2) := by decide +kernel
theorem dX2_digest_105 : decode cX2_digest 105 = .ok (.iload 5, 2) := by decide +kernel
theorem dX2_digest_107 : decode cX2_digest 107 = .ok (.bipush 6, 2) := by decide +kernel
theorem dX2_digest_109 : decode cX2_digest 109 = .ok (.if_icmp .ge 31, 3) := by decide +kernel
theorem dX2_digest_112 : decode cX2_digest 112 = .ok (.aload 4, 2) := by decide +kernel
theorem dX2_digest_114 : decode cX2_digest 114 = .ok (.ifnull 26, 3) := by decide +kernel
theorem dX2_digest_117 : decode cX2_digest 117 = .ok (.lload_n 1, 1) := by decide +kernel
theorem dX2_digest_118 : decode cX2_digest 118 = .ok (.aload 4, 2) := by decide +kernel
theorem dX2_digest_120 : decode cX2_digest 120 = .ok (.iload 5, 2) := by decide +kernel
theorem dX2_digest_122 : decode cX2_digest 122 = .ok (.aload_n 0, 1) := by decide +kernel
theorem dX2_digest_123 : decode cX2_digest 123 = .ok (.getfield 30, 3) := by decide +kernel
theorem dX2_digest_126 : decode cX2_digest 126 = .ok (.invokevirtual 169, 3) := by decide +kernel
theorem dX2_digest_129 : decode cX2_digest 129 = .ok (.i2l, 1) := by decide +kernel
theorem dX2_digest_130 : decode cX2_digest 130 = .ok (.invokestatic 241, 3) := by decide +kernel
theorem dX2_digest_133 : decode cX2_digest 133 = .ok (.lstore_n 1, 1) := by decide +kernel
theorem dX2_digest_134 : decode cX2_digest 134 = .ok (.iinc 5 1, 3) := by decide +kernel
theorem dX2_digest_137 : decode cX2_digest 137 = .ok (.goto (-32), 3) := by decide +kernel
theorem dX2_digest_140 : decode cX2_digest 140 = .ok (.iinc 3 1, 3) := by decide +kernel
theorem dX2_digest_143 : decode cX2_digest 143 = .ok (.goto (-56), 3) := by decide +kernel
theorem dX2_digest_146 : decode cX2_digest 146 = .ok (.iconst 0, 1) := by decide +kernel
theorem dX2_digest_147 : decode cX2_digest 147 = .ok (.istore_n 3, 1) := by decide +kernel
theorem dX2_digest_148 : decode cX2_digest 148 = .ok (.iload_n 3, 1) := by decide +kernel
theorem dX2_digest_149 : decode cX2_digest 149 = .ok (.bipush 32, 2) := by decide +kernel
theorem dX2_digest_151 : decode cX2_digest 151 = .ok (.if_icmp .ge 37, 3) := by decide +kernel
theorem dX2_digest_154 : decode cX2_digest 154 = .ok (.iconst 0, 1) := by decide +kernel
theorem dX2_digest_155 : decode cX2_digest 155 = .ok (.istore 4, 2) := by decide +kernel
theorem dX2_digest_157 : decode cX2_digest 157 = .ok (.iload 4, 2) := by decide +kernel
theorem dX2_digest_159 : decode cX2_digest 159 = .ok (.iconst 4, 1) := by decide +kernel
theorem dX2_digest_160 : decode cX2_digest 160 = .ok (.if_icmp .ge 22, 3) := by decide +kernel
theorem dX2_digest_163 : decode cX2_digest 163 = .ok (.lload_n 1, 1) := by decide +kernel
theorem dX2_digest_164 : decode cX2_digest 164 = .ok (.aload_n 0, 1) := by decide +kernel
theorem dX2_digest_165 : decode cX2_digest 165 = .ok (.iload_n 3, 1) := by decide +kernel
theorem dX2_digest_166 : decode cX2_digest 166 = .ok (.iload 4, 2) := by decide +kernel
theorem dX2_digest_168 : decode cX2_digest 168 = .ok (.invokevirtual 161, 3) := by decide +kernel
theorem dX2_digest_171 : decode cX2_digest 171 = .ok (.i2l, 1) := by decide +kernel
theorem dX2_digest_172 : decode cX2_digest 172 = .ok (.invokestatic 241, 3) := by decide +kernel
theorem dX2_digest_175 : decode cX2_digest 175 = .ok (.lstore_n 1, 1) := by decide +kernel
theorem dX2_digest_176 : decode cX2_digest 176 = .ok (.iinc 4 1, 3) := by decide +kernel
theorem dX2_digest_179 : decode cX2_digest 179 = .ok (.goto (-22), 3) := by decide +kernel
theorem dX2_digest_182 : decode cX2_digest 182 = .ok (.iinc 3 1, 3) := by decide +kernel
theorem dX2_digest_185 : decode cX2_digest 185 = .ok (.goto (-37), 3) := by decide +kernel
theorem dX2_digest_188 : decode cX2_digest 188 = .ok (.lload_n 1, 1) := by decide +kernel
theorem dX2_digest_189 : decode cX2_digest 189 = .ok (.aload_n 0, 1) := by decide +kernel
theorem dX2_digest_190 : decode cX2_digest 190 = .ok (.getfield 12, 3) := by decide +kernel
theorem dX2_digest_193 : decode cX2_digest 193 = .ok (.iconst 1, 1) := by decide +kernel
theorem dX2_digest_194 : decode cX2_digest 194 = .ok (.iconst 2, 1) := by decide +kernel
theorem dX2_digest_195 : decode cX2_digest 195 = .ok (.aload_n 0, 1) := by decide +kernel
theorem dX2_digest_196 : decode cX2_digest 196 = .ok (.getfield 30, 3) := by decide +kernel
theorem dX2_digest_199 : decode cX2_digest 199 = .ok (.invokevirtual 206, 3) := by decide +kernel
theorem dX2_digest_202 : decode cX2_digest 202 = .ok (.i2l, 1) := by decide +kernel
theorem dX2_digest_203 : decode cX2_digest 203 = .ok (.invokestatic 241, 3) := by decide +kernel
theorem dX2_digest_206 : decode cX2_digest 206 = .ok (.lstore_n 1, 1) := by decide +kernel
theorem dX2_digest_207 : decode cX2_digest 207 = .ok (.lload_n 1, 1) := by decide +kernel
theorem dX2_digest_208 : decode cX2_digest 208 = .ok (.aload_n 0, 1) := by decide +kernel
theorem dX2_digest_209 : decode cX2_digest 209 = .ok (.getfield 12, 3) := by decide +kernel
theorem dX2_digest_212 : decode cX2_digest 212 = .ok (.iconst 1, 1) := by decide +kernel
theorem dX2_digest_213 : decode cX2_digest 213 = .ok (.iconst 3, 1) := by decide +kernel
theorem dX2_digest_214 : decode cX2_digest 214 = .ok (.iconst 5, 1) := by decide +kernel
theorem dX2_digest_215 : decode cX2_digest 215 = .ok (.iconst 5, 1) := by decide +kernel
theorem dX2_digest_216 : decode cX2_digest 216 = .ok (.aload_n 0, 1) := by decide +kernel
theorem dX2_digest_217 : decode cX2_digest 217 = .ok (.getfield 30, 3) := by decide +kernel
theorem dX2_digest_220 : decode cX2_digest 220 = .ok (.invokevirtual 209, 3) := by decide +kernel
theorem dX2_digest_223 : decode cX2_digest 223 = .ok (.i2l, 1) := by decide +kernel
theorem dX2_digest_224 : decode cX2_digest 224 = .ok (.invokestatic 241, 3) := by decide +kernel
theorem dX2_digest_227 : decode cX2_digest 227 = .ok (.lstore_n 1, 1) := by decide +kernel
theorem dX2_digest_228 : decode cX2_digest 228 = .ok (.iconst 0, 1) := by decide +kernel
theorem dX2_digest_229 : decode cX2_digest 229 = .ok (.istore_n 3, 1) := by decide +kernel
theorem dX2_digest_230 : decode cX2_digest 230 = .ok (.iload_n 3, 1) := by decide +kernel
theorem dX2_digest_231 : decode cX2_digest 231 = .ok (.aload_n 0, 1) := by decide +kernel
theorem dX2_digest_232 : decode cX2_digest 232 = .ok (.getfield 26, 3) := by decide +kernel
theorem dX2_digest_235 : decode cX2_digest 235 = .ok (.if_icmp .ge 20, 3) := by decide +kernel
theorem dX2_digest_238 : decode cX2_digest 238 = .ok (.lload_n 1, 1) := by decide +kernel
theorem dX2_digest_239 : decode cX2_digest 239 = .ok (.aload_n 0, 1) := by decide +kernel
theorem dX2_digest_240 : decode cX2_digest 240 = .ok (.iload_n 3, 1) := by decide +kernel
theorem dX2_digest_241 : decode cX2_digest 241 = .ok (.invokevirtual 215, 3) := by decide +kernel
theorem dX2_digest_244 : decode cX2_digest 244 = .ok (.i2l, 1) := by decide +kernel
theorem dX2_digest_245 : decode cX2_digest 245 = .ok (.invokestatic 241, 3) := by decide +kernel
theorem dX2_digest_248 : decode cX2_digest 248 = .ok (.lstore_n 1, 1) := by decide +kernel
theorem dX2_digest_249 : decode cX2_digest 249 = .ok (.iinc 3 1, 3) := by decide +kernel
theorem dX2_digest_252 : decode cX2_digest 252 = .ok (.goto (-22), 3) := by decide +kernel
theorem dX2_digest_255 : decode cX2_digest 255 = .ok (.lload_n 1, 1) := by decide +kernel
theorem dX2_digest_256 : decode cX2_digest 256 = .ok (.aload_n 0, 1) := by decide +kernel
theorem dX2_digest_257 : decode cX2_digest 257 = .ok (.bipush 30, 2) := by decide +kernel
theorem dX2_digest_259 : decode cX2_digest 259 = .ok (.invokevirtual 218, 3) := by decide +kernel
theorem dX2_digest_262 : decode cX2_digest 262 = .ok (.i2l, 1) := by decide +kernel
theorem dX2_digest_263 : decode cX2_digest 263 = .ok (.invokestatic 241, 3) := by decide +kernel
theorem dX2_digest_266 : decode cX2_digest 266 = .ok (.lstore_n 1, 1) := by decide +kernel
theorem dX2_digest_267 : decode cX2_digest 267 = .ok (.lload_n 1, 1) := by decide +kernel
theorem dX2_digest_268 : decode cX2_digest 268 = .ok (.ldc2_w 245, 3) := by decide +kernel
theorem dX2_digest_271 : decode cX2_digest 271 = .ok (.aload_n 0, 1) := by decide +kernel
theorem dX2_digest_272 : decode cX2_digest 272 = .ok (.invokevirtual 247, 3) := by decide +kernel
theorem dX2_digest_275 : decode cX2_digest 275 = .ok (.dmul, 1) := by decide +kernel
theorem dX2_digest_276 : decode cX2_digest 276 = .ok (.d2l, 1) := by decide +kernel
theorem dX2_digest_277 : decode cX2_digest 277 = .ok (.invokestatic 241, 3) := by decide +kernel
theorem dX2_digest_280 : decode cX2_digest 280 = .ok (.lstore_n 1, 1) := by decide +kernel
theorem dX2_digest_281 : decode cX2_digest 281 = .ok (.lload_n 1, 1) := by decide +kernel
theorem dX2_digest_282 : decode cX2_digest 282 = .ok (.aload_n 0, 1) := by decide +kernel
theorem dX2_digest_283 : decode cX2_digest 283 = .ok (.invokevirtual 251, 3) := by decide +kernel
theorem dX2_digest_286 : decode cX2_digest 286 = .ok (.ifCond .eq 7, 3) := by decide +kernel
theorem dX2_digest_289 : decode cX2_digest 289 = .ok (.lconst 1, 1) := by decide +kernel
theorem dX2_digest_290 : decode cX2_digest 290 = .ok (.goto 4, 3) := by decide +kernel
theorem dX2_digest_293 : decode cX2_digest 293 = .ok (.lconst 0, 1) := by decide +kernel
theorem dX2_digest_294 : decode cX2_digest 294 = .ok (.invokestatic 241, 3) := by decide +kernel
theorem dX2_digest_297 : decode cX2_digest 297 = .ok (.lreturn, 1) := by decide +kernel
theorem q1_218 : (Jvm.Cond.constantLong "Cyclepaint" (239 : Nat) (7121 : Int64)) ∈ lw_g := zg_of (zin1 (List.mem_of_getElem? (i := 218) rfl)) rfl
theorem q2_20 : (Jvm.Cond.methodLink "Cyclepaint" (241 : Nat) ({ cls := "Cyclepaint", name := "mixed", desc := "(JJ)J" } : Jvm.MethodName)) ∈ lw_g := zg_of (zin2 (List.mem_of_getElem? (i := 20) rfl)) rfl
theorem q2_50 : (Jvm.Cond.methodLink "Cyclepaint" (206 : Nat) ({ cls := "Cyclepaint$Palette", name := "firstShown", desc := "(III)I" } : Jvm.MethodName)) ∈ lw_g := zg_of (zin2 (List.mem_of_getElem? (i := 50) rfl)) rfl
theorem q2_54 : (Jvm.Cond.methodLink "Cyclepaint" (209 : Nat) ({ cls := "Cyclepaint$Palette", name := "firstMeeting", desc := "(IIIII)I" } : Jvm.MethodName)) ∈ lw_g := zg_of (zin2 (List.mem_of_getElem? (i := 54) rfl)) rfl
theorem q2_66 : (Jvm.Cond.methodLink "Cyclepaint" (218 : Nat) ({ cls := "Cyclepaint", name := "lightestTick", desc := "(I)I" } : Jvm.MethodName)) ∈ lw_g := zg_of (zin2 (List.mem_of_getElem? (i := 66) rfl)) rfl
theorem q2_70 : (Jvm.Cond.constantDouble "Cyclepaint" (245 : Nat) (4625196817309499392 : UInt64)) ∈ lw_g := zg_of (zin2 (List.mem_of_getElem? (i := 70) rfl)) rfl
theorem q2_71 : (Jvm.Cond.methodLink "Cyclepaint" (247 : Nat) ({ cls := "Cyclepaint", name := "mean", desc := "()D" } : Jvm.MethodName)) ∈ lw_g := zg_of (zin2 (List.mem_of_getElem? (i := 71) rfl)) rfl
theorem q2_72 : (Jvm.Cond.methodLink "Cyclepaint" (251 : Nat) ({ cls := "Cyclepaint", name := "isSound", desc := "()Z" } : Jvm.MethodName)) ∈ lw_g := zg_of (zin2 (List.mem_of_getElem? (i := 72) rfl)) rfl
theorem q2_58 : (Jvm.Cond.methodLink "Cyclepaint" (215 : Nat) ({ cls := "Cyclepaint", name := "ticksUntil", desc := "(I)I" } : Jvm.MethodName)) ∈ lw_g := zg_of (zin2 (List.mem_of_getElem? (i := 58) rfl)) rfl
theorem q2_46 : (Jvm.Cond.methodLink "Cyclepaint" (161 : Nat) ({ cls := "Cyclepaint", name := "dotFact", desc := "(II)I" } : Jvm.MethodName)) ∈ lw_g := zg_of (zin2 (List.mem_of_getElem? (i := 46) rfl)) rfl
theorem q2_39 : (Jvm.Cond.methodLink "Cyclepaint" (106 : Nat) ({ cls := "Cyclepaint$Palette", name := "rangeAt", desc := "(I)LCyclepaint$Range;" } : Jvm.MethodName)) ∈ lw_g := zg_of (zin2 (List.mem_of_getElem? (i := 39) rfl)) rfl
theorem q2_40 : (Jvm.Cond.methodLink "Cyclepaint" (169 : Nat) ({ cls := "Cyclepaint$Range", name := "fact", desc := "(II)I" } : Jvm.MethodName)) ∈ lw_g := zg_of (zin2 (List.mem_of_getElem? (i := 40) rfl)) rfl
theorem q2_24 : (Jvm.Cond.methodLink "Cyclepaint" (166 : Nat) ({ cls := "Cyclepaint", name := "entryFact", desc := "(II)I" } : Jvm.MethodName)) ∈ lw_g := zg_of (zin2 (List.mem_of_getElem? (i := 24) rfl)) rfl
theorem q1_219 : (Jvm.Cond.methodLink "Cyclepaint" (174 : Nat) ({ cls := "Cyclepaint", name := "pictureFact", desc := "(I)I" } : Jvm.MethodName)) ∈ lw_g := zg_of (zin1 (List.mem_of_getElem? (i := 219) rfl)) rfl
theorem q1_217 : (Jvm.Cond.code ({ cls := "Cyclepaint", name := "digest", desc := "()J" } : Jvm.MethodName) prog_1_method_26_code (6 : Nat) (Option.some Jvm.ClassFile.FieldType.long)) ∈ lw_g := zg_of (zin1 (List.mem_of_getElem? (i := 217) rfl)) rfl
theorem q1_215 : (Jvm.Cond.instanceMethod ({ cls := "Cyclepaint", name := "digest", desc := "()J" } : Jvm.MethodName)) ∈ lw_g := zg_of (zin1 (List.mem_of_getElem? (i := 215) rfl)) rfl
theorem q1_216 : (Jvm.Cond.selects "Cyclepaint" ({ cls := "Cyclepaint", name := "digest", desc := "()J" } : Jvm.MethodName) ({ cls := "Cyclepaint", name := "digest", desc := "()J" } : Jvm.MethodName)) ∈ lw_g := zg_of (zin1 (List.mem_of_getElem? (i := 216) rfl)) rfl
theorem ok_X2_digest : zOV yX2_digest cX2_digest 6 ((Option.some Jvm.ClassFile.FieldType.long)) 0 := ⟨⟨q1_217, q1_1, by decide, by decide, by decide +kernel⟩, q1_215, q1_216⟩
set_option maxHeartbeats 4000000 in
set_option maxRecDepth 100000 in
theorem c_X2_digest (l : Launch) (G : zG) (σ : St) (a : Nat → Nat) : Met l yX2_digest (wq yX2_digest cX2_digest 6 ((Option.some Jvm.ClassFile.FieldType.long))) (rmR 6 136) (va_Pc [.ref (a 0)] (zK G (hCyc G σ a))) (zQ (some (.long (dgC σ)))) 0 0 zF := by
  refine z_enterL (by decide +kernel) (Nat.le_of_ble_eq_true rfl) ?_
  intro p env s m below meth cod Q S hG hP ret ls hl
  have hl : lv_has ls 6 [(0, .ref (a 0))] := hl
  have hC := hP.2.2.2.2.2
  have hT := hC.1
  have hdt := hC.2.1
  have hlm := hC.2.2.1
  have hkn := hC.2.2.2.1
  have hD := hC.2.2.2.2.1
  have hB := hC.2.2.2.2.2
  have hO := hP.2.2.2.2.1.2.2.2.2.2
  obtain ⟨L, hL, hLe⟩ := liM_b hO hB hdt hT.1
  rw [← li_CM hdt σ.tk] at hLe
  have hrn := hO.1
  refine lv_ldc2 S.1 S.2.1 S.2.2.2.1 (S.2.2.2.2 _ q1_218) dX2_digest_0 ?_
  refine lv_lstore_n (lv' := [(1, .long (7121)), (0, .ref (a 0))]) S.1 S.2.1 dX2_digest_3 rfl hl (by decide) rfl (fun ls hl => ?_)
  refine z_iconst S dX2_digest_4 ?_
  refine z_istore_n (lv' := [(3, .int (zI (0))), (1, .long (7121)), (0, .ref (a 0))]) S dX2_digest_5 hl rfl (by decide) rfl (fun ls hl => ?_)
  have loop_6 : ∀ (nn : Nat) (k : Int) (d : Int64), (0 ≤ k ∧ k ≤ 12) → (d = mixI (mix1 (pF σ)) 7121 k) → ((12 - k).toNat) < nn → ∀ ls, lv_has ls 6 [(3, .int (zI (k))), (1, .long (d)), (0, .ref (a 0))] → W p l env (rmR 6 136) s m ([.ref (a 0)] : List Value).toArray below meth cod s.heap [] 0 0 Q (F0 m 6 ls []) := by
    intro nn
    induction nn with
    | zero => intro _ _ _ _ h; exact absurd h (Nat.not_lt_zero _)
    | succ nn ih_6 =>
      intro k d hk hd hm_6 ls hl
      refine z_iload_n S dX2_digest_6 hl 0 rfl rfl ?_
      refine z_bipush S dX2_digest_7 rfl ?_
      refine z_icmp_ge S 29 dX2_digest_9 (by decide) (by omega) (by omega) (fun c_9 => ?_) (fun c_9 => ?_)
      · skip
        refine lv_lload_n S.1 S.2.1 dX2_digest_29 rfl (lv_at hl 1 rfl) ?_
        refine z_aload_n S dX2_digest_30 hl 2 rfl rfl ?_
        refine z_get S hG hP.1 zc_X2 0 (by decide) q1_60 rfl rfl dX2_digest_31 ?_
        refine z_callVs S hG (c_X0_commonRound l G σ a hD) ok_X0_commonRound hP.2.2.2.2.1.1 zc_X0 rfl q1_148 (hP.2.2.2.2.1) ⟨rfl, rfl, by decide, by decide⟩ ⟨Nat.zero_le _, Nat.zero_le _⟩ rfl (Nat.le_of_ble_eq_true rfl) hl.1 rfl dX2_digest_34 ?_
        refine lv_i2l S.1 S.2.1 dX2_digest_37 rfl ?_
        refine z_callSs S hG (c_X2_mixed l G (d) ((zI (per σ)).toInt64)) ok_X2_mixed q2_20 (trivial) ⟨rfl, rfl, by decide, by decide⟩ ⟨Nat.zero_le _, Nat.zero_le _⟩ rfl (Nat.le_of_ble_eq_true rfl) hl.1 rfl dX2_digest_38 ?_
        refine lv_lstore_n (lv' := [(1, .long ((d) * 31 + ((zI (per σ)).toInt64))), (3, .int (zI (k))), (0, .ref (a 0))]) S.1 S.2.1 dX2_digest_41 rfl hl (by decide) rfl (fun ls hl => ?_)
        refine z_iconst S dX2_digest_42 ?_
        refine z_istore_n (lv' := [(3, .int (zI (0))), (1, .long ((d) * 31 + ((zI (per σ)).toInt64))), (0, .ref (a 0))]) S dX2_digest_43 hl rfl (by decide) rfl (fun ls hl => ?_)
        have loop_44 : ∀ (nn : Nat) (e : Int) (d2 : Int64), (0 ≤ e ∧ e ≤ 16) → (d2 = dg3 σ e) → ((16 - e).toNat) < nn → ∀ ls, lv_has ls 6 [(3, .int (zI (e))), (1, .long (d2)), (0, .ref (a 0))] → W p l env (rmR 6 136) s m ([.ref (a 0)] : List Value).toArray below meth cod s.heap [] 0 0 Q (F0 m 44 ls []) := by
          intro nn
          induction nn with
          | zero => intro _ _ _ _ h; exact absurd h (Nat.not_lt_zero _)
          | succ nn ih_44 =>
            intro e d2 he hd2 hm_44 ls hl
            refine z_iload_n S dX2_digest_44 hl 0 rfl rfl ?_
            refine z_bipush S dX2_digest_45 rfl ?_
            refine z_icmp_ge S 85 dX2_digest_47 (by decide) (by omega) (by omega) (fun c_47 => ?_) (fun c_47 => ?_)
            · skip
              refine z_iconst S dX2_digest_85 ?_
              refine z_istore_n (lv' := [(3, .int (zI (0))), (1, .long (d2)), (0, .ref (a 0))]) S dX2_digest_86 hl rfl (by decide) rfl (fun ls hl => ?_)
              have loop_87 : ∀ (nn : Nat) (j : Int) (d4 : Int64), (0 ≤ j ∧ j ≤ 4) → (d4 = dg4 σ (if j < σ.rn then j else σ.rn)) → ((4 - j).toNat) < nn → ∀ ls, lv_has ls 6 [(3, .int (zI (j))), (1, .long (d4)), (0, .ref (a 0))] → W p l env (rmR 6 136) s m ([.ref (a 0)] : List Value).toArray below meth cod s.heap [] 0 0 Q (F0 m 87 ls []) := by
                intro nn
                induction nn with
                | zero => intro _ _ _ _ h; exact absurd h (Nat.not_lt_zero _)
                | succ nn ih_87 =>
                  intro j d4 hj hd4 hm_87 ls hl
                  refine z_iload_n S dX2_digest_87 hl 0 rfl rfl ?_
                  refine z_iconst S dX2_digest_88 ?_
                  refine z_icmp_ge S 146 dX2_digest_89 (by decide) (by omega) (by omega) (fun c_89 => ?_) (fun c_89 => ?_)
                  · skip
                    refine z_iconst S dX2_digest_146 ?_
                    refine z_istore_n (lv' := [(3, .int (zI (0))), (1, .long (d4)), (0, .ref (a 0))]) S dX2_digest_147 hl rfl (by decide) rfl (fun ls hl => ?_)
                    have loop_148 : ∀ (nn : Nat) (q : Int) (d6 : Int64), (0 ≤ q ∧ q ≤ 32) → (d6 = dg5 σ q) → ((32 - q).toNat) < nn → ∀ ls, lv_has ls 6 [(3, .int (zI (q))), (1, .long (d6)), (0, .ref (a 0))] → W p l env (rmR 6 136) s m ([.ref (a 0)] : List Value).toArray below meth cod s.heap [] 0 0 Q (F0 m 148 ls []) := by
                      intro nn
                      induction nn with
                      | zero => intro _ _ _ _ h; exact absurd h (Nat.not_lt_zero _)
                      | succ nn ih_148 =>
                        intro q d6 hq hd6 hm_148 ls hl
                        refine z_iload_n S dX2_digest_148 hl 0 rfl rfl ?_
                        refine z_bipush S dX2_digest_149 rfl ?_
                        refine z_icmp_ge S 188 dX2_digest_151 (by decide) (by omega) (by omega) (fun c_151 => ?_) (fun c_151 => ?_)
                        · skip
                          refine lv_lload_n S.1 S.2.1 dX2_digest_188 rfl (lv_at hl 1 rfl) ?_
                          refine z_aload_n S dX2_digest_189 hl 2 rfl rfl ?_
                          refine z_get S hG hP.1 zc_X2 0 (by decide) q1_60 rfl rfl dX2_digest_190 ?_
                          refine z_iconst S dX2_digest_193 ?_
                          refine z_iconst S dX2_digest_194 ?_
                          refine z_aload_n S dX2_digest_195 hl 2 rfl rfl ?_
                          refine z_get S hG hP.1 zc_X2 5 (by decide) q1_65 rfl rfl dX2_digest_196 ?_
                          refine z_callVs S hG (c_X0_firstShown l G σ a (1) (2) (σ.tk) (by omega) (by omega)) ok_X0_firstShown hP.2.2.2.2.1.1 zc_X0 rfl q2_50 (hP.2.2.2.2.1) ⟨rfl, rfl, by decide, by decide⟩ ⟨Nat.zero_le _, Nat.zero_le _⟩ rfl (Nat.le_of_ble_eq_true rfl) hl.1 rfl dX2_digest_199 ?_
                          refine lv_i2l S.1 S.2.1 dX2_digest_202 rfl ?_
                          refine z_callSs S hG (c_X2_mixed l G (d6) ((zI (fnd σ (1) (2) (σ.tk))).toInt64)) ok_X2_mixed q2_20 (trivial) ⟨rfl, rfl, by decide, by decide⟩ ⟨Nat.zero_le _, Nat.zero_le _⟩ rfl (Nat.le_of_ble_eq_true rfl) hl.1 rfl dX2_digest_203 ?_
                          refine lv_lstore_n (lv' := [(1, .long ((d6) * 31 + ((zI (fnd σ (1) (2) (σ.tk))).toInt64))), (3, .int (zI (q))), (0, .ref (a 0))]) S.1 S.2.1 dX2_digest_206 rfl hl (by decide) rfl (fun ls hl => ?_)
                          refine lv_lload_n S.1 S.2.1 dX2_digest_207 rfl (lv_at hl 0 rfl) ?_
                          refine z_aload_n S dX2_digest_208 hl 2 rfl rfl ?_
                          refine z_get S hG hP.1 zc_X2 0 (by decide) q1_60 rfl rfl dX2_digest_209 ?_
                          refine z_iconst S dX2_digest_212 ?_
                          refine z_iconst S dX2_digest_213 ?_
                          refine z_iconst S dX2_digest_214 ?_
                          refine z_iconst S dX2_digest_215 ?_
                          refine z_aload_n S dX2_digest_216 hl 2 rfl rfl ?_
                          refine z_get S hG hP.1 zc_X2 5 (by decide) q1_65 rfl rfl dX2_digest_217 ?_
                          refine z_callVs S hG (c_X0_firstMeeting l G σ a (1) (3) (5) (5) (σ.tk) (by omega) (by omega) (by omega)) ok_X0_firstMeeting hP.2.2.2.2.1.1 zc_X0 rfl q2_54 (hP.2.2.2.2.1) ⟨rfl, rfl, by decide, by decide⟩ ⟨Nat.zero_le _, Nat.zero_le _⟩ rfl (Nat.le_of_ble_eq_true rfl) hl.1 rfl dX2_digest_220 ?_
                          refine lv_i2l S.1 S.2.1 dX2_digest_223 rfl ?_
                          refine z_callSs S hG (c_X2_mixed l G ((d6) * 31 + ((zI (fnd σ (1) (2) (σ.tk))).toInt64)) ((zI (mt σ (1) (3) (5) (5) (σ.tk))).toInt64)) ok_X2_mixed q2_20 (trivial) ⟨rfl, rfl, by decide, by decide⟩ ⟨Nat.zero_le _, Nat.zero_le _⟩ rfl (Nat.le_of_ble_eq_true rfl) hl.1 rfl dX2_digest_224 ?_
                          refine lv_lstore_n (lv' := [(1, .long (((d6) * 31 + ((zI (fnd σ (1) (2) (σ.tk))).toInt64)) * 31 + ((zI (mt σ (1) (3) (5) (5) (σ.tk))).toInt64))), (3, .int (zI (q))), (0, .ref (a 0))]) S.1 S.2.1 dX2_digest_227 rfl hl (by decide) rfl (fun ls hl => ?_)
                          refine z_iconst S dX2_digest_228 ?_
                          refine z_istore_n (lv' := [(3, .int (zI (0))), (1, .long (((d6) * 31 + ((zI (fnd σ (1) (2) (σ.tk))).toInt64)) * 31 + ((zI (mt σ (1) (3) (5) (5) (σ.tk))).toInt64))), (0, .ref (a 0))]) S dX2_digest_229 hl rfl (by decide) rfl (fun ls hl => ?_)
                          have loop_230 : ∀ (nn : Nat) (n : Int) (d8 : Int64), (0 ≤ n ∧ n ≤ σ.kn) → (d8 = dg7 σ n) → ((σ.kn - n).toNat) < nn → ∀ ls, lv_has ls 6 [(3, .int (zI (n))), (1, .long (d8)), (0, .ref (a 0))] → W p l env (rmR 6 136) s m ([.ref (a 0)] : List Value).toArray below meth cod s.heap [] 0 0 Q (F0 m 230 ls []) := by
                            intro nn
                            induction nn with
                            | zero => intro _ _ _ _ h; exact absurd h (Nat.not_lt_zero _)
                            | succ nn ih_230 =>
                              intro n d8 hn hd8 hm_230 ls hl
                              refine z_iload_n S dX2_digest_230 hl 0 rfl rfl ?_
                              refine z_aload_n S dX2_digest_231 hl 2 rfl rfl ?_
                              refine z_get S hG hP.1 zc_X2 4 (by decide) q1_64 rfl rfl dX2_digest_232 ?_
                              refine z_icmp_ge S 255 dX2_digest_235 (by decide) (by omega) (by omega) (fun c_235 => ?_) (fun c_235 => ?_)
                              · skip
                                refine lv_lload_n S.1 S.2.1 dX2_digest_255 rfl (lv_at hl 1 rfl) ?_
                                refine z_aload_n S dX2_digest_256 hl 2 rfl rfl ?_
                                refine z_bipush S dX2_digest_257 rfl ?_
                                refine z_callVs S hG (c_X2_lightestTick l G σ a (30) (by omega)) ok_X2_lightestTick hP.1 zc_X2 rfl q2_66 (hP) ⟨rfl, rfl, by decide, by decide⟩ ⟨Nat.zero_le _, Nat.zero_le _⟩ rfl (Nat.le_of_ble_eq_true rfl) hl.1 rfl dX2_digest_259 ?_
                                refine lv_i2l S.1 S.2.1 dX2_digest_262 rfl ?_
                                refine z_callSs S hG (c_X2_mixed l G (d8) ((zI (ltC σ (30))).toInt64)) ok_X2_mixed q2_20 (trivial) ⟨rfl, rfl, by decide, by decide⟩ ⟨Nat.zero_le _, Nat.zero_le _⟩ rfl (Nat.le_of_ble_eq_true rfl) hl.1 rfl dX2_digest_263 ?_
                                refine lv_lstore_n (lv' := [(1, .long ((d8) * 31 + ((zI (ltC σ (30))).toInt64))), (3, .int (zI (n))), (0, .ref (a 0))]) S.1 S.2.1 dX2_digest_266 rfl hl (by decide) rfl (fun ls hl => ?_)
                                refine lv_lload_n S.1 S.2.1 dX2_digest_267 rfl (lv_at hl 0 rfl) ?_
                                refine lv_ldc2d S.1 S.2.1 S.2.2.2.1 (S.2.2.2.2 _ q2_70) dX2_digest_268 ?_
                                refine z_aload_n S dX2_digest_271 hl 2 rfl rfl ?_
                                refine z_callVs S hG (c_X2_mean l G σ a) ok_X2_mean hP.1 zc_X2 rfl q2_71 (hP) ⟨rfl, rfl, by decide, by decide⟩ ⟨Nat.zero_le _, Nat.zero_le _⟩ rfl (Nat.le_of_ble_eq_true rfl) hl.1 rfl dX2_digest_272 ?_
                                refine lv_dmul S.1 S.2.1 dX2_digest_275 (by have := (mn_b hL).2; rw [← hLe] at this; exact this) ?_
                                refine lv_d2l S.1 S.2.1 dX2_digest_276 ?_
                                refine z_callSs S hG (c_X2_mixed l G ((d8) * 31 + ((zI (ltC σ (30))).toInt64)) (FP.d2l (FP.dmul (4625196817309499392) (mnC σ)))) ok_X2_mixed q2_20 (trivial) ⟨rfl, rfl, by decide, by decide⟩ ⟨Nat.zero_le _, Nat.zero_le _⟩ rfl (Nat.le_of_ble_eq_true rfl) hl.1 rfl dX2_digest_277 ?_
                                refine lv_lstore_n (lv' := [(1, .long (((d8) * 31 + ((zI (ltC σ (30))).toInt64)) * 31 + (FP.d2l (FP.dmul (4625196817309499392) (mnC σ))))), (3, .int (zI (n))), (0, .ref (a 0))]) S.1 S.2.1 dX2_digest_280 rfl hl (by decide) rfl (fun ls hl => ?_)
                                refine lv_lload_n S.1 S.2.1 dX2_digest_281 rfl (lv_at hl 0 rfl) ?_
                                refine z_aload_n S dX2_digest_282 hl 2 rfl rfl ?_
                                refine z_callVs S hG (c_X2_isSound l G σ a) ok_X2_isSound hP.1 zc_X2 rfl q2_72 (hP) ⟨rfl, rfl, by decide, by decide⟩ ⟨Nat.zero_le _, Nat.zero_le _⟩ rfl (Nat.le_of_ble_eq_true rfl) hl.1 rfl dX2_digest_283 ?_
                                refine z_bif_eq S 293 dX2_digest_286 (by decide) (fun c_286 => ?_) (fun c_286 => ?_)
                                · skip
                                  refine lv_lconst S.1 S.2.1 dX2_digest_293 rfl ?_
                                  refine z_callSs S hG (c_X2_mixed l G (((d8) * 31 + ((zI (ltC σ (30))).toInt64)) * 31 + (FP.d2l (FP.dmul (4625196817309499392) (mnC σ)))) (0)) ok_X2_mixed q2_20 (trivial) ⟨rfl, rfl, by decide, by decide⟩ ⟨Nat.zero_le _, Nat.zero_le _⟩ rfl (Nat.le_of_ble_eq_true rfl) hl.1 rfl dX2_digest_294 ?_
                                  exact ret _ _ _ dX2_digest_297 (by rw [hd8, show n = σ.kn by omega]; unfold dgC; rw [c_286]; rfl)
                                · skip
                                  refine lv_lconst S.1 S.2.1 dX2_digest_289 rfl ?_
                                  refine z_goto S 294 dX2_digest_290 (by decide) ?_
                                  refine z_callSs S hG (c_X2_mixed l G (((d8) * 31 + ((zI (ltC σ (30))).toInt64)) * 31 + (FP.d2l (FP.dmul (4625196817309499392) (mnC σ)))) (1)) ok_X2_mixed q2_20 (trivial) ⟨rfl, rfl, by decide, by decide⟩ ⟨Nat.zero_le _, Nat.zero_le _⟩ rfl (Nat.le_of_ble_eq_true rfl) hl.1 rfl dX2_digest_294 ?_
                                  exact ret _ _ _ dX2_digest_297 (by rw [hd8, show n = σ.kn by omega]; unfold dgC; rw [c_286]; rfl)
                              · skip
                                refine lv_lload_n S.1 S.2.1 dX2_digest_238 rfl (lv_at hl 1 rfl) ?_
                                refine z_aload_n S dX2_digest_239 hl 2 rfl rfl ?_
                                refine z_iload_n S dX2_digest_240 hl 0 rfl rfl ?_
                                refine z_callVs S hG (c_X2_ticksUntil l G σ a (n) (by omega)) ok_X2_ticksUntil hP.1 zc_X2 rfl q2_58 (hP) ⟨rfl, rfl, by decide, by decide⟩ ⟨Nat.zero_le _, Nat.zero_le _⟩ rfl (Nat.le_of_ble_eq_true rfl) hl.1 rfl dX2_digest_241 ?_
                                refine lv_i2l S.1 S.2.1 dX2_digest_244 rfl ?_
                                refine z_callSs S hG (c_X2_mixed l G (d8) ((zI (whn σ (n))).toInt64)) ok_X2_mixed q2_20 (trivial) ⟨rfl, rfl, by decide, by decide⟩ ⟨Nat.zero_le _, Nat.zero_le _⟩ rfl (Nat.le_of_ble_eq_true rfl) hl.1 rfl dX2_digest_245 ?_
                                refine lv_lstore_n (lv' := [(1, .long ((d8) * 31 + ((zI (whn σ (n))).toInt64))), (3, .int (zI (n))), (0, .ref (a 0))]) S.1 S.2.1 dX2_digest_248 rfl hl (by decide) rfl (fun ls hl => ?_)
                                refine z_iinc (lv' := [(3, .int (zI (n + 1))), (1, .long ((d8) * 31 + ((zI (whn σ (n))).toInt64))), (0, .ref (a 0))]) S dX2_digest_249 hl 1 rfl (by decide) rfl (fun ls hl => ?_)
                                refine z_goto S 230 dX2_digest_252 (by decide) ?_
                                exact ih_230 (n + 1) ((d8) * 31 + ((zI (whn σ (n))).toInt64)) (by omega) (by rw [dg7_s hn.1, ← hd8]) (by omega) ls (lv_sub hl [0, 1, 2] rfl)
                          exact loop_230 _ (0) (((d6) * 31 + ((zI (fnd σ (1) (2) (σ.tk))).toInt64)) * 31 + ((zI (mt σ (1) (3) (5) (5) (σ.tk))).toInt64)) (by omega) (by rw [dg7_0, hd6, show q = 32 by omega]; unfold dg6; rfl) (Nat.lt_succ_self _) ls (lv_sub hl [0, 1, 2] rfl)
                        · skip
                          refine z_iconst S dX2_digest_154 ?_
                          refine z_istore (lv' := [(4, .int (zI (0))), (3, .int (zI (q))), (1, .long (d6)), (0, .ref (a 0))]) S dX2_digest_155 hl (by decide) rfl (fun ls hl => ?_)
                          have loop_157 : ∀ (nn : Nat) (u : Int) (d7 : Int64), (0 ≤ u ∧ u ≤ 4) → (d7 = mixI (mix1 (dF σ q)) (dg5 σ q) u) → ((4 - u).toNat) < nn → ∀ ls, lv_has ls 6 [(4, .int (zI (u))), (3, .int (zI (q))), (1, .long (d7)), (0, .ref (a 0))] → W p l env (rmR 6 136) s m ([.ref (a 0)] : List Value).toArray below meth cod s.heap [] 0 0 Q (F0 m 157 ls []) := by
                            intro nn
                            induction nn with
                            | zero => intro _ _ _ _ h; exact absurd h (Nat.not_lt_zero _)
                            | succ nn ih_157 =>
                              intro u d7 hu hd7 hm_157 ls hl
                              refine z_iload S dX2_digest_157 hl 0 rfl ?_
                              refine z_iconst S dX2_digest_159 ?_
                              refine z_icmp_ge S 182 dX2_digest_160 (by decide) (by omega) (by omega) (fun c_160 => ?_) (fun c_160 => ?_)
                              · skip
                                refine z_iinc (lv' := [(3, .int (zI (q + 1))), (4, .int (zI (u))), (1, .long (d7)), (0, .ref (a 0))]) S dX2_digest_182 hl 1 rfl (by decide) rfl (fun ls hl => ?_)
                                refine z_goto S 148 dX2_digest_185 (by decide) ?_
                                exact ih_148 (q + 1) (d7) (by omega) (by rw [dg5_s hq.1, hd7, show u = 4 by omega]) (by omega) ls (lv_sub hl [0, 2, 3] rfl)
                              · skip
                                refine lv_lload_n S.1 S.2.1 dX2_digest_163 rfl (lv_at hl 2 rfl) ?_
                                refine z_aload_n S dX2_digest_164 hl 3 rfl rfl ?_
                                refine z_iload_n S dX2_digest_165 hl 1 rfl rfl ?_
                                refine z_iload S dX2_digest_166 hl 0 rfl ?_
                                refine z_callVs S hG (c_X2_dotFact l G σ a (q) (u) (by omega) (by omega)) ok_X2_dotFact hP.1 zc_X2 rfl q2_46 (hP) ⟨rfl, rfl, by decide, by decide⟩ ⟨Nat.zero_le _, Nat.zero_le _⟩ rfl (Nat.le_of_ble_eq_true rfl) hl.1 rfl dX2_digest_168 ?_
                                refine lv_i2l S.1 S.2.1 dX2_digest_171 rfl ?_
                                refine z_callSs S hG (c_X2_mixed l G (d7) ((dF σ (q) (u)).toInt64)) ok_X2_mixed q2_20 (trivial) ⟨rfl, rfl, by decide, by decide⟩ ⟨Nat.zero_le _, Nat.zero_le _⟩ rfl (Nat.le_of_ble_eq_true rfl) hl.1 rfl dX2_digest_172 ?_
                                refine lv_lstore_n (lv' := [(1, .long ((d7) * 31 + ((dF σ (q) (u)).toInt64))), (4, .int (zI (u))), (3, .int (zI (q))), (0, .ref (a 0))]) S.1 S.2.1 dX2_digest_175 rfl hl (by decide) rfl (fun ls hl => ?_)
                                refine z_iinc (lv' := [(4, .int (zI (u + 1))), (1, .long ((d7) * 31 + ((dF σ (q) (u)).toInt64))), (3, .int (zI (q))), (0, .ref (a 0))]) S dX2_digest_176 hl 1 rfl (by decide) rfl (fun ls hl => ?_)
                                refine z_goto S 157 dX2_digest_179 (by decide) ?_
                                exact ih_157 (u + 1) ((d7) * 31 + ((dF σ (q) (u)).toInt64)) (by omega) (by rw [mix1_s hu.1, ← hd7]) (by omega) ls (lv_sub hl [0, 2, 1, 3] rfl)
                          exact loop_157 _ (0) (d6) (by omega) (by rw [mixI_0]; exact hd6) (Nat.lt_succ_self _) ls (lv_sub hl [0, 1, 2, 3] rfl)
                    exact loop_148 _ (0) (d4) (by omega) (by rw [dg5_0, hd4, if_neg (show ¬ j < σ.rn by omega)]) (Nat.lt_succ_self _) ls (lv_sub hl [0, 1, 2] rfl)
                  · skip
                    by_cases hr : j < σ.rn
                    · skip
                      have hok := hO.2 j hj.1 hr
                      refine z_aload_n S dX2_digest_92 hl 2 rfl rfl ?_
                      refine z_get S hG hP.1 zc_X2 0 (by decide) q1_60 rfl rfl dX2_digest_93 ?_
                      refine z_iload_n S dX2_digest_96 hl 0 rfl rfl ?_
                      refine z_callVs S hG (c_X0_rangeAt1 l G σ a (j) (by omega)) ok_X0_rangeAt hP.2.2.2.2.1.1 zc_X0 rfl q2_39 (hP.2.2.2.2.1) ⟨rfl, rfl, by decide, by decide⟩ ⟨Nat.zero_le _, Nat.zero_le _⟩ rfl (Nat.le_of_ble_eq_true rfl) hl.1 rfl dX2_digest_97 ?_
                      refine z_astore (lv' := [(4, .ref (a (8 + Int.toNat (j)))), (3, .int (zI (j))), (1, .long (d4)), (0, .ref (a 0))]) S dX2_digest_100 hl (by decide) rfl (fun ls hl => ?_)
                      refine z_iconst S dX2_digest_102 ?_
                      refine z_istore (lv' := [(5, .int (zI (0))), (4, .ref (a (8 + Int.toNat (j)))), (3, .int (zI (j))), (1, .long (d4)), (0, .ref (a 0))]) S dX2_digest_103 hl (by decide) rfl (fun ls hl => ?_)
                      have loop_105 : ∀ (nn : Nat) (v : Int) (d5 : Int64), (0 ≤ v ∧ v ≤ 6) → (d5 = mixI (mix1 (rF σ j)) (dg4 σ j) v) → ((6 - v).toNat) < nn → ∀ ls, lv_has ls 6 [(5, .int (zI (v))), (4, .ref (a (8 + Int.toNat (j)))), (3, .int (zI (j))), (1, .long (d5)), (0, .ref (a 0))] → W p l env (rmR 6 136) s m ([.ref (a 0)] : List Value).toArray below meth cod s.heap [] 0 0 Q (F0 m 105 ls []) := by
                        intro nn
                        induction nn with
                        | zero => intro _ _ _ _ h; exact absurd h (Nat.not_lt_zero _)
                        | succ nn ih_105 =>
                          intro v d5 hv hd5 hm_105 ls hl
                          refine z_iload S dX2_digest_105 hl 0 rfl ?_
                          refine z_bipush S dX2_digest_107 rfl ?_
                          refine z_icmp_ge S 140 dX2_digest_109 (by decide) (by omega) (by omega) (fun c_109 => ?_) (fun c_109 => ?_)
                          · skip
                            refine z_iinc (lv' := [(3, .int (zI (j + 1))), (5, .int (zI (v))), (4, .ref (a (8 + Int.toNat (j)))), (1, .long (d5)), (0, .ref (a 0))]) S dX2_digest_140 hl 2 rfl (by decide) rfl (fun ls hl => ?_)
                            refine z_goto S 87 dX2_digest_143 (by decide) ?_
                            exact ih_87 (j + 1) (d5) (by omega) (by rw [hd5, show v = 6 by omega, show (if j + 1 < σ.rn then j + 1 else σ.rn) = j + 1 by split <;> omega, dg4_s hj.1]) (by omega) ls (lv_sub hl [0, 3, 4] rfl)
                          · skip
                            refine z_aload S dX2_digest_112 hl 1 rfl ?_
                            refine z_ifnull_r S 140 dX2_digest_114 (by decide) ?_
                            refine lv_lload_n S.1 S.2.1 dX2_digest_117 rfl (lv_at hl 3 rfl) ?_
                            refine z_aload S dX2_digest_118 hl 1 rfl ?_
                            refine z_iload S dX2_digest_120 hl 0 rfl ?_
                            refine z_aload_n S dX2_digest_122 hl 4 rfl rfl ?_
                            refine z_get S hG hP.1 zc_X2 5 (by decide) q1_65 rfl rfl dX2_digest_123 ?_
                            refine z_callVs S hG (c_X1_fact l G (a (8 + Int.toNat (j))) (σ.F j) (σ.L j) (σ.S j) (σ.K j) (v) (σ.tk) (by omega) (by omega)) ok_X1_fact (hPal_r hP.2.2.2.2.1 hj.1 hr) zc_X1 rfl q2_40 (hPal_r hP.2.2.2.2.1 hj.1 hr) ⟨rfl, rfl, by decide, by decide⟩ ⟨Nat.zero_le _, Nat.zero_le _⟩ rfl (Nat.le_of_ble_eq_true rfl) hl.1 rfl dX2_digest_126 ?_
                            refine lv_i2l S.1 S.2.1 dX2_digest_129 rfl ?_
                            refine z_callSs S hG (c_X2_mixed l G (d5) ((factR (σ.F j) (σ.L j) (σ.S j) (σ.K j) (v) (σ.tk)).toInt64)) ok_X2_mixed q2_20 (trivial) ⟨rfl, rfl, by decide, by decide⟩ ⟨Nat.zero_le _, Nat.zero_le _⟩ rfl (Nat.le_of_ble_eq_true rfl) hl.1 rfl dX2_digest_130 ?_
                            refine lv_lstore_n (lv' := [(1, .long ((d5) * 31 + ((factR (σ.F j) (σ.L j) (σ.S j) (σ.K j) (v) (σ.tk)).toInt64))), (5, .int (zI (v))), (4, .ref (a (8 + Int.toNat (j)))), (3, .int (zI (j))), (0, .ref (a 0))]) S.1 S.2.1 dX2_digest_133 rfl hl (by decide) rfl (fun ls hl => ?_)
                            refine z_iinc (lv' := [(5, .int (zI (v + 1))), (1, .long ((d5) * 31 + ((factR (σ.F j) (σ.L j) (σ.S j) (σ.K j) (v) (σ.tk)).toInt64))), (4, .ref (a (8 + Int.toNat (j)))), (3, .int (zI (j))), (0, .ref (a 0))]) S dX2_digest_134 hl 1 rfl (by decide) rfl (fun ls hl => ?_)
                            refine z_goto S 105 dX2_digest_137 (by decide) ?_
                            exact ih_105 (v + 1) ((d5) * 31 + ((factR (σ.F j) (σ.L j) (σ.S j) (σ.K j) (v) (σ.tk)).toInt64)) (by omega) (by rw [mix1_s hv.1, ← hd5]; rfl) (by omega) ls (lv_sub hl [0, 2, 3, 1, 4] rfl)
                      exact loop_105 _ (0) (d4) (by omega) (by rw [mixI_0, hd4, if_pos hr]) (Nat.lt_succ_self _) ls (lv_sub hl [0, 1, 2, 3, 4] rfl)
                    · skip
                      refine z_aload_n S dX2_digest_92 hl 2 rfl rfl ?_
                      refine z_get S hG hP.1 zc_X2 0 (by decide) q1_60 rfl rfl dX2_digest_93 ?_
                      refine z_iload_n S dX2_digest_96 hl 0 rfl rfl ?_
                      refine z_callVs S hG (c_X0_rangeAt0 l G σ a (j) (by omega)) ok_X0_rangeAt hP.2.2.2.2.1.1 zc_X0 rfl q2_39 (hP.2.2.2.2.1) ⟨rfl, rfl, by decide, by decide⟩ ⟨Nat.zero_le _, Nat.zero_le _⟩ rfl (Nat.le_of_ble_eq_true rfl) hl.1 rfl dX2_digest_97 ?_
                      refine z_astoreN (lv' := [(4, .null), (3, .int (zI (j))), (1, .long (d4)), (0, .ref (a 0))]) S dX2_digest_100 hl (by decide) rfl (fun ls hl => ?_)
                      refine z_iconst S dX2_digest_102 ?_
                      refine z_istore (lv' := [(5, .int (zI (0))), (4, .null), (3, .int (zI (j))), (1, .long (d4)), (0, .ref (a 0))]) S dX2_digest_103 hl (by decide) rfl (fun ls hl => ?_)
                      have loop_105 : ∀ (nn : Nat) (v : Int) (d5 : Int64), (v = 0) → (d5 = dg4 σ σ.rn) → ((6 - v).toNat) < nn → ∀ ls, lv_has ls 6 [(5, .int (zI (v))), (4, .null), (3, .int (zI (j))), (1, .long (d5)), (0, .ref (a 0))] → W p l env (rmR 6 136) s m ([.ref (a 0)] : List Value).toArray below meth cod s.heap [] 0 0 Q (F0 m 105 ls []) := by
                        intro nn
                        induction nn with
                        | zero => intro _ _ _ _ h; exact absurd h (Nat.not_lt_zero _)
                        | succ nn ih_105 =>
                          intro v d5 hv hd5 hm_105 ls hl
                          refine z_iload S dX2_digest_105 hl 0 rfl ?_
                          refine z_bipush S dX2_digest_107 rfl ?_
                          refine z_icmp_ge S 140 dX2_digest_109 (by decide) (by omega) (by omega) (fun c_109 => ?_) (fun c_109 => ?_)
                          · skip
                            refine z_iinc (lv' := [(3, .int (zI (j + 1))), (5, .int (zI (v))), (4, .null), (1, .long (d5)), (0, .ref (a 0))]) S dX2_digest_140 hl 2 rfl (by decide) rfl (fun ls hl => ?_)
                            refine z_goto S 87 dX2_digest_143 (by decide) ?_
                            exact ih_87 (j + 1) (d5) (by omega) (by rw [hd5, if_neg (show ¬ j + 1 < σ.rn by omega)]) (by omega) ls (lv_sub hl [0, 3, 4] rfl)
                          · skip
                            refine z_aloadN S dX2_digest_112 hl 1 rfl ?_
                            refine z_ifnull_n S 140 dX2_digest_114 (by decide) ?_
                            refine z_iinc (lv' := [(3, .int (zI (j + 1))), (5, .int (zI (v))), (4, .null), (1, .long (d5)), (0, .ref (a 0))]) S dX2_digest_140 hl 2 rfl (by decide) rfl (fun ls hl => ?_)
                            refine z_goto S 87 dX2_digest_143 (by decide) ?_
                            exact ih_87 (j + 1) (d5) (by omega) (by rw [hd5, if_neg (show ¬ j + 1 < σ.rn by omega)]) (by omega) ls (lv_sub hl [0, 3, 4] rfl)
                      exact loop_105 _ (0) (d4) (rfl) (by rw [hd4, if_neg hr]) (Nat.lt_succ_self _) ls (lv_sub hl [0, 1, 2, 3, 4] rfl)
              exact loop_87 _ (0) (d2) (by omega) (by rw [show (if (0 : Int) < σ.rn then (0 : Int) else σ.rn) = 0 by split <;> omega, dg4_0, hd2, show e = 16 by omega]) (Nat.lt_succ_self _) ls (lv_sub hl [0, 1, 2] rfl)
            · skip
              refine z_iconst S dX2_digest_50 ?_
              refine z_istore (lv' := [(4, .int (zI (0))), (3, .int (zI (e))), (1, .long (d2)), (0, .ref (a 0))]) S dX2_digest_51 hl (by decide) rfl (fun ls hl => ?_)
              have loop_53 : ∀ (nn : Nat) (u : Int) (d3 : Int64), (0 ≤ u ∧ u ≤ 6) → (d3 = mixI (mix1 (eF σ e)) (dg3 σ e) u) → ((6 - u).toNat) < nn → ∀ ls, lv_has ls 6 [(4, .int (zI (u))), (3, .int (zI (e))), (1, .long (d3)), (0, .ref (a 0))] → W p l env (rmR 6 136) s m ([.ref (a 0)] : List Value).toArray below meth cod s.heap [] 0 0 Q (F0 m 53 ls []) := by
                intro nn
                induction nn with
                | zero => intro _ _ _ _ h; exact absurd h (Nat.not_lt_zero _)
                | succ nn ih_53 =>
                  intro u d3 hu hd3 hm_53 ls hl
                  refine z_iload S dX2_digest_53 hl 0 rfl ?_
                  refine z_bipush S dX2_digest_55 rfl ?_
                  refine z_icmp_ge S 79 dX2_digest_57 (by decide) (by omega) (by omega) (fun c_57 => ?_) (fun c_57 => ?_)
                  · skip
                    refine z_iinc (lv' := [(3, .int (zI (e + 1))), (4, .int (zI (u))), (1, .long (d3)), (0, .ref (a 0))]) S dX2_digest_79 hl 1 rfl (by decide) rfl (fun ls hl => ?_)
                    refine z_goto S 44 dX2_digest_82 (by decide) ?_
                    exact ih_44 (e + 1) (d3) (by omega) (by rw [dg3_s he.1, hd3, show u = 6 by omega]) (by omega) ls (lv_sub hl [0, 2, 3] rfl)
                  · skip
                    refine lv_lload_n S.1 S.2.1 dX2_digest_60 rfl (lv_at hl 2 rfl) ?_
                    refine z_aload_n S dX2_digest_61 hl 3 rfl rfl ?_
                    refine z_iload_n S dX2_digest_62 hl 1 rfl rfl ?_
                    refine z_iload S dX2_digest_63 hl 0 rfl ?_
                    refine z_callVs S hG (c_X2_entryFact l G σ a (e) (u) (by omega) (by omega)) ok_X2_entryFact hP.1 zc_X2 rfl q2_24 (hP) ⟨rfl, rfl, by decide, by decide⟩ ⟨Nat.zero_le _, Nat.zero_le _⟩ rfl (Nat.le_of_ble_eq_true rfl) hl.1 rfl dX2_digest_65 ?_
                    refine lv_i2l S.1 S.2.1 dX2_digest_68 rfl ?_
                    refine z_callSs S hG (c_X2_mixed l G (d3) ((eF σ (e) (u)).toInt64)) ok_X2_mixed q2_20 (trivial) ⟨rfl, rfl, by decide, by decide⟩ ⟨Nat.zero_le _, Nat.zero_le _⟩ rfl (Nat.le_of_ble_eq_true rfl) hl.1 rfl dX2_digest_69 ?_
                    refine lv_lstore_n (lv' := [(1, .long ((d3) * 31 + ((eF σ (e) (u)).toInt64))), (4, .int (zI (u))), (3, .int (zI (e))), (0, .ref (a 0))]) S.1 S.2.1 dX2_digest_72 rfl hl (by decide) rfl (fun ls hl => ?_)
                    refine z_iinc (lv' := [(4, .int (zI (u + 1))), (1, .long ((d3) * 31 + ((eF σ (e) (u)).toInt64))), (3, .int (zI (e))), (0, .ref (a 0))]) S dX2_digest_73 hl 1 rfl (by decide) rfl (fun ls hl => ?_)
                    refine z_goto S 53 dX2_digest_76 (by decide) ?_
                    exact ih_53 (u + 1) ((d3) * 31 + ((eF σ (e) (u)).toInt64)) (by omega) (by rw [mix1_s hu.1, ← hd3]) (by omega) ls (lv_sub hl [0, 2, 1, 3] rfl)
              exact loop_53 _ (0) (d2) (by omega) (by rw [mixI_0]; exact hd2) (Nat.lt_succ_self _) ls (lv_sub hl [0, 1, 2, 3] rfl)
        exact loop_44 _ (0) ((d) * 31 + ((zI (per σ)).toInt64)) (by omega) (by rw [dg3_0, hd, show k = 12 by omega]; unfold dg2 dg1; rfl) (Nat.lt_succ_self _) ls (lv_sub hl [0, 1, 2] rfl)
      · skip
        refine lv_lload_n S.1 S.2.1 dX2_digest_12 rfl (lv_at hl 1 rfl) ?_
        refine z_aload_n S dX2_digest_13 hl 2 rfl rfl ?_
        refine z_iload_n S dX2_digest_14 hl 0 rfl rfl ?_
        refine z_callVs S hG (c_X2_pictureFact l G σ a (k) (by omega)) ok_X2_pictureFact hP.1 zc_X2 rfl q1_219 (hP) ⟨rfl, rfl, by decide, by decide⟩ ⟨Nat.zero_le _, Nat.zero_le _⟩ rfl (Nat.le_of_ble_eq_true rfl) hl.1 rfl dX2_digest_15 ?_
        refine lv_i2l S.1 S.2.1 dX2_digest_18 rfl ?_
        refine z_callSs S hG (c_X2_mixed l G (d) ((pF σ (k)).toInt64)) ok_X2_mixed q2_20 (trivial) ⟨rfl, rfl, by decide, by decide⟩ ⟨Nat.zero_le _, Nat.zero_le _⟩ rfl (Nat.le_of_ble_eq_true rfl) hl.1 rfl dX2_digest_19 ?_
        refine lv_lstore_n (lv' := [(1, .long ((d) * 31 + ((pF σ (k)).toInt64))), (3, .int (zI (k))), (0, .ref (a 0))]) S.1 S.2.1 dX2_digest_22 rfl hl (by decide) rfl (fun ls hl => ?_)
        refine z_iinc (lv' := [(3, .int (zI (k + 1))), (1, .long ((d) * 31 + ((pF σ (k)).toInt64))), (0, .ref (a 0))]) S dX2_digest_23 hl 1 rfl (by decide) rfl (fun ls hl => ?_)
        refine z_goto S 6 dX2_digest_26 (by decide) ?_
        exact ih_6 (k + 1) ((d) * 31 + ((pF σ (k)).toInt64)) (by omega) (by rw [mix1_s hk.1, ← hd]) (by omega) ls (lv_sub hl [0, 1, 2] rfl)
  exact loop_6 _ (0) (7121) (by omega) (by rw [mixI_0]) (Nat.lt_succ_self _) ls (lv_sub hl [0, 1, 2] rfl)
end
section
theorem dJx4a65c_size_8abf5_0 : decode cJx4a65c_size_8abf5 0 = .ok (.aload_n 0, 1) := by decide +kernel
theorem dJx4a65c_size_8abf5_1 : decode cJx4a65c_size_8abf5 1 = .ok (.getfield 48, 3) := by decide +kernel
theorem dJx4a65c_size_8abf5_4 : decode cJx4a65c_size_8abf5 4 = .ok (.ireturn, 1) := by decide +kernel
theorem q4_214 : (Jvm.Cond.fieldLink "java/util/ArrayList" (48 : Nat) "java/util/ArrayList" "size" "I") ∈ lw_g := zg_of (zin4 (List.mem_of_getElem? (i := 214) rfl)) rfl
theorem q5_47 : (Jvm.Cond.code ({ cls := "java/util/ArrayList", name := "size", desc := "()I" } : Jvm.MethodName) prog_33_method_8_code (1 : Nat) (Option.some Jvm.ClassFile.FieldType.int)) ∈ lw_g := zg_of (zin5 (List.mem_of_getElem? (i := 47) rfl)) rfl
theorem q1_6 : (Jvm.Cond.initialized "java/util/ArrayList") ∈ lw_g := zg_of (zin1 (List.mem_of_getElem? (i := 6) rfl)) rfl
theorem q5_45 : (Jvm.Cond.instanceMethod ({ cls := "java/util/ArrayList", name := "size", desc := "()I" } : Jvm.MethodName)) ∈ lw_g := zg_of (zin5 (List.mem_of_getElem? (i := 45) rfl)) rfl
theorem q5_46 : (Jvm.Cond.selects "java/util/ArrayList" ({ cls := "java/util/ArrayList", name := "size", desc := "()I" } : Jvm.MethodName) ({ cls := "java/util/ArrayList", name := "size", desc := "()I" } : Jvm.MethodName)) ∈ lw_g := zg_of (zin5 (List.mem_of_getElem? (i := 46) rfl)) rfl
theorem ok_Jx4a65c_size_8abf5 : zOV yJx4a65c_size_8abf5 cJx4a65c_size_8abf5 1 ((Option.some Jvm.ClassFile.FieldType.int)) 0 := ⟨⟨q5_47, q1_6, by decide, by decide, by decide +kernel⟩, q5_45, q5_46⟩
set_option maxHeartbeats 4000000 in
set_option maxRecDepth 100000 in
theorem c_alSize (l : Launch) (G : zG) (q ed : Nat) (mc : Int32) (n : Int) : Met l yJx4a65c_size_8abf5 (wq yJx4a65c_size_8abf5 cJx4a65c_size_8abf5 1 ((Option.some Jvm.ClassFile.FieldType.int))) (rmR 0 0) (va_Pc [.ref (q)] (zK G (hAL G q ed mc n))) (zQ (some (.int ((zI (n)))))) 0 0 zF := by
  refine z_enterI (by decide +kernel) (Nat.le_of_ble_eq_true rfl) ?_
  intro p env s m below meth cod Q S hG hP ret ls hl
  have hl : lv_has ls 1 [(0, .ref (q))] := hl
  refine z_aload_n S dJx4a65c_size_8abf5_0 hl 0 rfl rfl ?_
  refine z_get S hG hP zc_Jx4a65c 2 (by decide) q4_214 rfl rfl dJx4a65c_size_8abf5_1 ?_
  exact ret _ _ _ dJx4a65c_size_8abf5_4 (rfl)
theorem dJ3_checkIndex_8e157_0 : decode cJ3_checkIndex_8e157 0 = .ok (.iload_n 0, 1) := by decide +kernel
theorem dJ3_checkIndex_8e157_1 : decode cJ3_checkIndex_8e157 1 = .ok (.ifCond .lt 8, 3) := by decide +kernel
theorem dJ3_checkIndex_8e157_4 : decode cJ3_checkIndex_8e157 4 = .ok (.iload_n 0, 1) := by decide +kernel
theorem dJ3_checkIndex_8e157_5 : decode cJ3_checkIndex_8e157 5 = .ok (.iload_n 1, 1) := by decide +kernel
theorem dJ3_checkIndex_8e157_6 : decode cJ3_checkIndex_8e157 6 = .ok (.if_icmp .lt 10, 3) := by decide +kernel
theorem dJ3_checkIndex_8e157_9 : decode cJ3_checkIndex_8e157 9 = .ok (.aload_n 2, 1) := by decide +kernel
theorem dJ3_checkIndex_8e157_10 : decode cJ3_checkIndex_8e157 10 = .ok (.iload_n 0, 1) := by decide +kernel
theorem dJ3_checkIndex_8e157_11 : decode cJ3_checkIndex_8e157 11 = .ok (.iload_n 1, 1) := by decide +kernel
theorem dJ3_checkIndex_8e157_12 : decode cJ3_checkIndex_8e157 12 = .ok (.invokestatic 95, 3) := by decide +kernel
theorem dJ3_checkIndex_8e157_15 : decode cJ3_checkIndex_8e157 15 = .ok (.athrow, 1) := by decide +kernel
theorem dJ3_checkIndex_8e157_16 : decode cJ3_checkIndex_8e157 16 = .ok (.iload_n 0, 1) := by decide +kernel
theorem dJ3_checkIndex_8e157_17 : decode cJ3_checkIndex_8e157 17 = .ok (.ireturn, 1) := by decide +kernel
theorem q4_14 : (Jvm.Cond.code ({ cls := "jdk/internal/util/Preconditions", name := "checkIndex", desc := "(IILjava/util/function/BiFunction;)I" } : Jvm.MethodName) prog_43_method_11_code (3 : Nat) (Option.some Jvm.ClassFile.FieldType.int)) ∈ lw_g := zg_of (zin4 (List.mem_of_getElem? (i := 14) rfl)) rfl
theorem q1_16 : (Jvm.Cond.initialized "jdk/internal/util/Preconditions") ∈ lw_g := zg_of (zin1 (List.mem_of_getElem? (i := 16) rfl)) rfl
theorem q4_13 : (Jvm.Cond.static ({ cls := "jdk/internal/util/Preconditions", name := "checkIndex", desc := "(IILjava/util/function/BiFunction;)I" } : Jvm.MethodName)) ∈ lw_g := zg_of (zin4 (List.mem_of_getElem? (i := 13) rfl)) rfl
theorem ok_J3_checkIndex_8e157 : zOS yJ3_checkIndex_8e157 cJ3_checkIndex_8e157 3 ((Option.some Jvm.ClassFile.FieldType.int)) 3 := ⟨⟨q4_14, q1_16, by decide, by decide, by decide +kernel⟩, q4_13⟩
set_option maxHeartbeats 4000000 in
set_option maxRecDepth 100000 in
theorem c_chk3 (l : Launch) (G : zG) (i n : Int) (hi : 0 ≤ i ∧ i < n) (hn : n < 2147483648) : Met l yJ3_checkIndex_8e157 (wq yJ3_checkIndex_8e157 cJ3_checkIndex_8e157 3 ((Option.some Jvm.ClassFile.FieldType.int))) (rmR 0 0) (va_Pc [.int (zI (i)), .int (zI (n)), .null] (zK G (fun _ => True))) (zQ (some (.int ((zI (i)))))) 0 0 zF := by
  refine z_enterI (by decide +kernel) (Nat.le_of_ble_eq_true rfl) ?_
  intro p env s m below meth cod Q S hG hP ret ls hl
  have hl : lv_has ls 3 [(0, .int (zI (i))), (1, .int (zI (n))), (2, .null)] := hl
  refine z_iload_n S dJ3_checkIndex_8e157_0 hl 0 rfl rfl ?_
  refine z_if_lt_F S 9 dJ3_checkIndex_8e157_1 (by decide) (by omega) (by omega) ?_
  refine z_iload_n S dJ3_checkIndex_8e157_4 hl 0 rfl rfl ?_
  refine z_iload_n S dJ3_checkIndex_8e157_5 hl 1 rfl rfl ?_
  refine z_icmp_lt_T S 16 dJ3_checkIndex_8e157_6 (by decide) (by omega) (by omega) (by omega) ?_
  refine z_iload_n S dJ3_checkIndex_8e157_16 hl 0 rfl rfl ?_
  exact ret _ _ _ dJ3_checkIndex_8e157_17 (rfl)
theorem dJ15_checkIndex_7cf53_0 : decode cJ15_checkIndex_7cf53 0 = .ok (.iload_n 0, 1) := by decide +kernel
theorem dJ15_checkIndex_7cf53_1 : decode cJ15_checkIndex_7cf53 1 = .ok (.iload_n 1, 1) := by decide +kernel
theorem dJ15_checkIndex_7cf53_2 : decode cJ15_checkIndex_7cf53 2 = .ok (.aconst_null, 1) := by decide +kernel
theorem dJ15_checkIndex_7cf53_3 : decode cJ15_checkIndex_7cf53 3 = .ok (.invokestatic 105, 3) := by decide +kernel
theorem dJ15_checkIndex_7cf53_6 : decode cJ15_checkIndex_7cf53 6 = .ok (.ireturn, 1) := by decide +kernel
theorem q5_63 : (Jvm.Cond.methodLink "java/util/Objects" (105 : Nat) ({ cls := "jdk/internal/util/Preconditions", name := "checkIndex", desc := "(IILjava/util/function/BiFunction;)I" } : Jvm.MethodName)) ∈ lw_g := zg_of (zin5 (List.mem_of_getElem? (i := 63) rfl)) rfl
theorem q5_62 : (Jvm.Cond.code ({ cls := "java/util/Objects", name := "checkIndex", desc := "(II)I" } : Jvm.MethodName) prog_39_method_17_code (2 : Nat) (Option.some Jvm.ClassFile.FieldType.int)) ∈ lw_g := zg_of (zin5 (List.mem_of_getElem? (i := 62) rfl)) rfl
theorem q1_15 : (Jvm.Cond.initialized "java/util/Objects") ∈ lw_g := zg_of (zin1 (List.mem_of_getElem? (i := 15) rfl)) rfl
theorem q5_61 : (Jvm.Cond.static ({ cls := "java/util/Objects", name := "checkIndex", desc := "(II)I" } : Jvm.MethodName)) ∈ lw_g := zg_of (zin5 (List.mem_of_getElem? (i := 61) rfl)) rfl
theorem ok_J15_checkIndex_7cf53 : zOS yJ15_checkIndex_7cf53 cJ15_checkIndex_7cf53 2 ((Option.some Jvm.ClassFile.FieldType.int)) 2 := ⟨⟨q5_62, q1_15, by decide, by decide, by decide +kernel⟩, q5_61⟩
set_option maxHeartbeats 4000000 in
set_option maxRecDepth 100000 in
theorem c_chk (l : Launch) (G : zG) (i n : Int) (hi : 0 ≤ i ∧ i < n) (hn : n < 2147483648) : Met l yJ15_checkIndex_7cf53 (wq yJ15_checkIndex_7cf53 cJ15_checkIndex_7cf53 2 ((Option.some Jvm.ClassFile.FieldType.int))) (rmR 1 22) (va_Pc [.int (zI (i)), .int (zI (n))] (zK G (fun _ => True))) (zQ (some (.int ((zI (i)))))) 0 0 zF := by
  refine z_enterI (by decide +kernel) (Nat.le_of_ble_eq_true rfl) ?_
  intro p env s m below meth cod Q S hG hP ret ls hl
  have hl : lv_has ls 2 [(0, .int (zI (i))), (1, .int (zI (n)))] := hl
  refine z_iload_n S dJ15_checkIndex_7cf53_0 hl 0 rfl rfl ?_
  refine z_iload_n S dJ15_checkIndex_7cf53_1 hl 1 rfl rfl ?_
  refine lv_null S.1 S.2.1 dJ15_checkIndex_7cf53_2 ?_
  refine z_callSs S hG (c_chk3 l G (i) (n) hi hn) ok_J3_checkIndex_8e157 q5_63 (trivial) ⟨rfl, rfl, by decide, by decide⟩ ⟨Nat.zero_le _, Nat.zero_le _⟩ rfl (Nat.le_of_ble_eq_true rfl) hl.1 rfl dJ15_checkIndex_7cf53_3 ?_
  exact ret _ _ _ dJ15_checkIndex_7cf53_6 (rfl)
theorem dJx4a65c_elementData_915e3_0 : decode cJx4a65c_elementData_915e3 0 = .ok (.aload_n 0, 1) := by decide +kernel
theorem dJx4a65c_elementData_915e3_1 : decode cJx4a65c_elementData_915e3 1 = .ok (.getfield 9, 3) := by decide +kernel
theorem dJx4a65c_elementData_915e3_4 : decode cJx4a65c_elementData_915e3 4 = .ok (.iload_n 1, 1) := by decide +kernel
theorem dJx4a65c_elementData_915e3_5 : decode cJx4a65c_elementData_915e3 5 = .ok (.aaload, 1) := by decide +kernel
theorem dJx4a65c_elementData_915e3_6 : decode cJx4a65c_elementData_915e3 6 = .ok (.areturn, 1) := by decide +kernel
theorem q4_211 : (Jvm.Cond.fieldLink "java/util/ArrayList" (9 : Nat) "java/util/ArrayList" "elementData" "[Ljava/lang/Object;") ∈ lw_g := zg_of (zin4 (List.mem_of_getElem? (i := 211) rfl)) rfl
theorem q5_67 : (Jvm.Cond.code ({ cls := "java/util/ArrayList", name := "elementData", desc := "(I)Ljava/lang/Object;" } : Jvm.MethodName) prog_33_method_18_code (2 : Nat) (Option.some (Jvm.ClassFile.FieldType.object "java/lang/Object"))) ∈ lw_g := zg_of (zin5 (List.mem_of_getElem? (i := 67) rfl)) rfl
theorem q5_65 : (Jvm.Cond.instanceMethod ({ cls := "java/util/ArrayList", name := "elementData", desc := "(I)Ljava/lang/Object;" } : Jvm.MethodName)) ∈ lw_g := zg_of (zin5 (List.mem_of_getElem? (i := 65) rfl)) rfl
theorem q5_66 : (Jvm.Cond.selects "java/util/ArrayList" ({ cls := "java/util/ArrayList", name := "elementData", desc := "(I)Ljava/lang/Object;" } : Jvm.MethodName) ({ cls := "java/util/ArrayList", name := "elementData", desc := "(I)Ljava/lang/Object;" } : Jvm.MethodName)) ∈ lw_g := zg_of (zin5 (List.mem_of_getElem? (i := 66) rfl)) rfl
theorem ok_Jx4a65c_elementData_915e3 : zOV yJx4a65c_elementData_915e3 cJx4a65c_elementData_915e3 2 ((Option.some (Jvm.ClassFile.FieldType.object "java/lang/Object"))) 1 := ⟨⟨q5_67, q1_6, by decide, by decide, by decide +kernel⟩, q5_65, q5_66⟩
set_option maxHeartbeats 4000000 in
set_option maxRecDepth 100000 in
theorem c_alElem (l : Launch) (G : zG) (q ed : Nat) (mc : Int32) (n : Int) (els : Int → Option Nat) (i : Int) (x : Nat) (hx : els i = some x) (hi : 0 ≤ i ∧ i < n) (hn : n ≤ 10) : Met l yJx4a65c_elementData_915e3 (wq yJx4a65c_elementData_915e3 cJx4a65c_elementData_915e3 2 ((Option.some (Jvm.ClassFile.FieldType.object "java/lang/Object")))) (rmR 0 0) (va_Pc [.ref (q), .int (zI (i))] (zK G (fun H => hAL G q ed mc n H ∧ hEd G ed els H))) (zQ (some (.ref (x)))) 0 0 zF := by
  refine z_enterA (by decide +kernel) (Nat.le_of_ble_eq_true rfl) ?_
  intro p env s m below meth cod Q S hG hP ret ls hl
  have hl : lv_has ls 2 [(0, .ref (q)), (1, .int (zI (i)))] := hl
  refine z_aload_n S dJx4a65c_elementData_915e3_0 hl 0 rfl rfl ?_
  refine z_get S hG hP.1 zc_Jx4a65c 1 (by decide) q4_211 rfl rfl dJx4a65c_elementData_915e3_1 ?_
  refine z_iload_n S dJx4a65c_elementData_915e3_4 hl 1 rfl rfl ?_
  refine z_aaldO S hG hP.2 (by omega) (by decide) dJx4a65c_elementData_915e3_5 ?_
  rw [hx]
  exact ret _ _ dJx4a65c_elementData_915e3_6 (Or.inr ⟨_, rfl⟩)
theorem dJx4a65c_get_915e3_0 : decode cJx4a65c_get_915e3 0 = .ok (.iload_n 1, 1) := by decide +kernel
theorem dJx4a65c_get_915e3_1 : decode cJx4a65c_get_915e3 1 = .ok (.aload_n 0, 1) := by decide +kernel
theorem dJx4a65c_get_915e3_2 : decode cJx4a65c_get_915e3 2 = .ok (.getfield 48, 3) := by decide +kernel
theorem dJx4a65c_get_915e3_5 : decode cJx4a65c_get_915e3 5 = .ok (.invokestatic 118, 3) := by decide +kernel
theorem dJx4a65c_get_915e3_8 : decode cJx4a65c_get_915e3 8 = .ok (.pop, 1) := by decide +kernel
theorem dJx4a65c_get_915e3_9 : decode cJx4a65c_get_915e3 9 = .ok (.aload_n 0, 1) := by decide +kernel
theorem dJx4a65c_get_915e3_10 : decode cJx4a65c_get_915e3 10 = .ok (.iload_n 1, 1) := by decide +kernel
theorem dJx4a65c_get_915e3_11 : decode cJx4a65c_get_915e3 11 = .ok (.invokevirtual 123, 3) := by decide +kernel
theorem dJx4a65c_get_915e3_14 : decode cJx4a65c_get_915e3 14 = .ok (.areturn, 1) := by decide +kernel
theorem q5_60 : (Jvm.Cond.methodLink "java/util/ArrayList" (118 : Nat) ({ cls := "java/util/Objects", name := "checkIndex", desc := "(II)I" } : Jvm.MethodName)) ∈ lw_g := zg_of (zin5 (List.mem_of_getElem? (i := 60) rfl)) rfl
theorem q5_64 : (Jvm.Cond.methodLink "java/util/ArrayList" (123 : Nat) ({ cls := "java/util/ArrayList", name := "elementData", desc := "(I)Ljava/lang/Object;" } : Jvm.MethodName)) ∈ lw_g := zg_of (zin5 (List.mem_of_getElem? (i := 64) rfl)) rfl
theorem q5_59 : (Jvm.Cond.code ({ cls := "java/util/ArrayList", name := "get", desc := "(I)Ljava/lang/Object;" } : Jvm.MethodName) prog_33_method_20_code (2 : Nat) (Option.some (Jvm.ClassFile.FieldType.object "java/lang/Object"))) ∈ lw_g := zg_of (zin5 (List.mem_of_getElem? (i := 59) rfl)) rfl
theorem q5_57 : (Jvm.Cond.instanceMethod ({ cls := "java/util/ArrayList", name := "get", desc := "(I)Ljava/lang/Object;" } : Jvm.MethodName)) ∈ lw_g := zg_of (zin5 (List.mem_of_getElem? (i := 57) rfl)) rfl
theorem q5_58 : (Jvm.Cond.selects "java/util/ArrayList" ({ cls := "java/util/ArrayList", name := "get", desc := "(I)Ljava/lang/Object;" } : Jvm.MethodName) ({ cls := "java/util/ArrayList", name := "get", desc := "(I)Ljava/lang/Object;" } : Jvm.MethodName)) ∈ lw_g := zg_of (zin5 (List.mem_of_getElem? (i := 58) rfl)) rfl
theorem ok_Jx4a65c_get_915e3 : zOV yJx4a65c_get_915e3 cJx4a65c_get_915e3 2 ((Option.some (Jvm.ClassFile.FieldType.object "java/lang/Object"))) 1 := ⟨⟨q5_59, q1_6, by decide, by decide, by decide +kernel⟩, q5_57, q5_58⟩
set_option maxHeartbeats 4000000 in
set_option maxRecDepth 100000 in
theorem c_alGet (l : Launch) (G : zG) (q ed : Nat) (mc : Int32) (n : Int) (els : Int → Option Nat) (i : Int) (x : Nat) (hx : els i = some x) (hi : 0 ≤ i ∧ i < n) (hn : n ≤ 10) : Met l yJx4a65c_get_915e3 (wq yJx4a65c_get_915e3 cJx4a65c_get_915e3 2 ((Option.some (Jvm.ClassFile.FieldType.object "java/lang/Object")))) (rmR 2 43) (va_Pc [.ref (q), .int (zI (i))] (zK G (fun H => hAL G q ed mc n H ∧ hEd G ed els H))) (zQ (some (.ref (x)))) 0 0 zF := by
  refine z_enterA (by decide +kernel) (Nat.le_of_ble_eq_true rfl) ?_
  intro p env s m below meth cod Q S hG hP ret ls hl
  have hl : lv_has ls 2 [(0, .ref (q)), (1, .int (zI (i)))] := hl
  refine z_iload_n S dJx4a65c_get_915e3_0 hl 1 rfl rfl ?_
  refine z_aload_n S dJx4a65c_get_915e3_1 hl 0 rfl rfl ?_
  refine z_get S hG hP.1 zc_Jx4a65c 2 (by decide) q4_214 rfl rfl dJx4a65c_get_915e3_2 ?_
  refine z_callSs S hG (c_chk l G (i) (n) (by omega) (by omega)) ok_J15_checkIndex_7cf53 q5_60 (trivial) ⟨rfl, rfl, by decide, by decide⟩ ⟨Nat.zero_le _, Nat.zero_le _⟩ rfl (Nat.le_of_ble_eq_true rfl) hl.1 rfl dJx4a65c_get_915e3_5 ?_
  refine lv_pop S.1 S.2.1 dJx4a65c_get_915e3_8 rfl ?_
  refine z_aload_n S dJx4a65c_get_915e3_9 hl 0 rfl rfl ?_
  refine z_iload_n S dJx4a65c_get_915e3_10 hl 1 rfl rfl ?_
  refine z_callVs S hG (c_alElem l G q ed mc n els (i) x hx hi hn) ok_Jx4a65c_elementData_915e3 hP.1 zc_Jx4a65c rfl q5_64 (hP) ⟨rfl, rfl, by decide, by decide⟩ ⟨Nat.zero_le _, Nat.zero_le _⟩ rfl (Nat.le_of_ble_eq_true rfl) hl.1 rfl dJx4a65c_get_915e3_11 ?_
  exact ret _ _ dJx4a65c_get_915e3_14 (Or.inr ⟨_, rfl⟩)
theorem msh0 {k len sp w : Int} (h : k = 0 ∧ 0 < len) : shiftR k len sp w = w / sp % len := by
  have h1 := Int.emod_lt_of_pos (w / sp) h.2
  unfold shiftR cyc
  rw [if_neg (by omega), if_neg (show ¬ k = 2 by omega), if_pos h1]
theorem msh1 {k len sp w : Int} (h : k = 1) (h0 : 0 ≤ w / sp % len) (h1 : w / sp % len < len) : shiftR k len sp w = (len - w / sp % len) % len := by
  unfold shiftR cyc
  rw [if_pos h, if_neg (show ¬ k = 2 by omega)]
  by_cases q : w / sp % len = 0
  · rw [if_pos q, q, Int.sub_zero, Int.emod_self]
  · rw [if_neg q]; exact (Int.emod_eq_of_lt (by omega) (by omega)).symm
theorem msh2 {k len sp w : Int} (h : k = 2) (_ : 2 ≤ len) : shiftR k len sp w = if w / sp % (2 * len - 2) < len then w / sp % (2 * len - 2) else 2 * len - 2 - w / sp % (2 * len - 2) := by
  unfold shiftR cyc
  rw [if_neg (by omega), if_pos h]
theorem dX4_shift_0 : decode cX4_shift 0 = .ok (.iload_n 1, 1) := by decide +kernel
theorem dX4_shift_1 : decode cX4_shift 1 = .ok (.aload_n 0, 1) := by decide +kernel
theorem dX4_shift_2 : decode cX4_shift 2 = .ok (.iconst 2, 1) := by decide +kernel
theorem dX4_shift_3 : decode cX4_shift 3 = .ok (.iaload, 1) := by decide +kernel
theorem dX4_shift_4 : decode cX4_shift 4 = .ok (.idiv, 1) := by decide +kernel
theorem dX4_shift_5 : decode cX4_shift 5 = .ok (.istore_n 2, 1) := by decide +kernel
theorem dX4_shift_6 : decode cX4_shift 6 = .ok (.aload_n 0, 1) := by decide +kernel
theorem dX4_shift_7 : decode cX4_shift 7 = .ok (.iconst 1, 1) := by decide +kernel
theorem dX4_shift_8 : decode cX4_shift 8 = .ok (.iaload, 1) := by decide +kernel
theorem dX4_shift_9 : decode cX4_shift 9 = .ok (.istore_n 3, 1) := by decide +kernel
theorem dX4_shift_10 : decode cX4_shift 10 = .ok (.aload_n 0, 1) := by decide +kernel
theorem dX4_shift_11 : decode cX4_shift 11 = .ok (.iconst 3, 1) := by decide +kernel
theorem dX4_shift_12 : decode cX4_shift 12 = .ok (.iaload, 1) := by decide +kernel
theorem dX4_shift_13 : decode cX4_shift 13 = .ok (.ifCond .ne 7, 3) := by decide +kernel
theorem dX4_shift_16 : decode cX4_shift 16 = .ok (.iload_n 2, 1) := by decide +kernel
theorem dX4_shift_17 : decode cX4_shift 17 = .ok (.iload_n 3, 1) := by decide +kernel
theorem dX4_shift_18 : decode cX4_shift 18 = .ok (.irem, 1) := by decide +kernel
theorem dX4_shift_19 : decode cX4_shift 19 = .ok (.ireturn, 1) := by decide +kernel
theorem dX4_shift_20 : decode cX4_shift 20 = .ok (.aload_n 0, 1) := by decide +kernel
theorem dX4_shift_21 : decode cX4_shift 21 = .ok (.iconst 3, 1) := by decide +kernel
theorem dX4_shift_22 : decode cX4_shift 22 = .ok (.iaload, 1) := by decide +kernel
theorem dX4_shift_23 : decode cX4_shift 23 = .ok (.iconst 1, 1) := by decide +kernel
theorem dX4_shift_24 : decode cX4_shift 24 = .ok (.if_icmp .ne 11, 3) := by decide +kernel
theorem dX4_shift_27 : decode cX4_shift 27 = .ok (.iload_n 3, 1) := by decide +kernel
theorem dX4_shift_28 : decode cX4_shift 28 = .ok (.iload_n 2, 1) := by decide +kernel
theorem dX4_shift_29 : decode cX4_shift 29 = .ok (.iload_n 3, 1) := by decide +kernel
theorem dX4_shift_30 : decode cX4_shift 30 = .ok (.irem, 1) := by decide +kernel
theorem dX4_shift_31 : decode cX4_shift 31 = .ok (.isub, 1) := by decide +kernel
theorem dX4_shift_32 : decode cX4_shift 32 = .ok (.iload_n 3, 1) := by decide +kernel
theorem dX4_shift_33 : decode cX4_shift 33 = .ok (.irem, 1) := by decide +kernel
theorem dX4_shift_34 : decode cX4_shift 34 = .ok (.ireturn, 1) := by decide +kernel
theorem dX4_shift_35 : decode cX4_shift 35 = .ok (.iload_n 2, 1) := by decide +kernel
theorem dX4_shift_36 : decode cX4_shift 36 = .ok (.iconst 2, 1) := by decide +kernel
theorem dX4_shift_37 : decode cX4_shift 37 = .ok (.iload_n 3, 1) := by decide +kernel
theorem dX4_shift_38 : decode cX4_shift 38 = .ok (.imul, 1) := by decide +kernel
theorem dX4_shift_39 : decode cX4_shift 39 = .ok (.iconst 2, 1) := by decide +kernel
theorem dX4_shift_40 : decode cX4_shift 40 = .ok (.isub, 1) := by decide +kernel
theorem dX4_shift_41 : decode cX4_shift 41 = .ok (.irem, 1) := by decide +kernel
theorem dX4_shift_42 : decode cX4_shift 42 = .ok (.istore 4, 2) := by decide +kernel
theorem dX4_shift_44 : decode cX4_shift 44 = .ok (.iload 4, 2) := by decide +kernel
theorem dX4_shift_46 : decode cX4_shift 46 = .ok (.iload_n 3, 1) := by decide +kernel
theorem dX4_shift_47 : decode cX4_shift 47 = .ok (.if_icmp .ge 8, 3) := by decide +kernel
theorem dX4_shift_50 : decode cX4_shift 50 = .ok (.iload 4, 2) := by decide +kernel
theorem dX4_shift_52 : decode cX4_shift 52 = .ok (.goto 11, 3) := by decide +kernel
theorem dX4_shift_55 : decode cX4_shift 55 = .ok (.iconst 2, 1) := by decide +kernel
theorem dX4_shift_56 : decode cX4_shift 56 = .ok (.iload_n 3, 1) := by decide +kernel
theorem dX4_shift_57 : decode cX4_shift 57 = .ok (.imul, 1) := by decide +kernel
theorem dX4_shift_58 : decode cX4_shift 58 = .ok (.iconst 2, 1) := by decide +kernel
theorem dX4_shift_59 : decode cX4_shift 59 = .ok (.isub, 1) := by decide +kernel
theorem dX4_shift_60 : decode cX4_shift 60 = .ok (.iload 4, 2) := by decide +kernel
theorem dX4_shift_62 : decode cX4_shift 62 = .ok (.isub, 1) := by decide +kernel
theorem dX4_shift_63 : decode cX4_shift 63 = .ok (.ireturn, 1) := by decide +kernel
theorem q5_123 : (Jvm.Cond.code ({ cls := "CyclepaintModel", name := "shift", desc := "([II)I" } : Jvm.MethodName) prog_6_method_12_code (5 : Nat) (Option.some Jvm.ClassFile.FieldType.int)) ∈ lw_g := zg_of (zin5 (List.mem_of_getElem? (i := 123) rfl)) rfl
theorem q1_3 : (Jvm.Cond.initialized "CyclepaintModel") ∈ lw_g := zg_of (zin1 (List.mem_of_getElem? (i := 3) rfl)) rfl
theorem q5_122 : (Jvm.Cond.static ({ cls := "CyclepaintModel", name := "shift", desc := "([II)I" } : Jvm.MethodName)) ∈ lw_g := zg_of (zin5 (List.mem_of_getElem? (i := 122) rfl)) rfl
theorem ok_X4_shift : zOS yX4_shift cX4_shift 5 ((Option.some Jvm.ClassFile.FieldType.int)) 2 := ⟨⟨q5_123, q1_3, by decide, by decide, by decide +kernel⟩, q5_122⟩
set_option maxHeartbeats 4000000 in
set_option maxRecDepth 100000 in
theorem c_X4_shift (l : Launch) (G : zG) (q : Nat) (f len sp k : Int) (w : Int) (hw : 0 ≤ w ∧ w < 2147483648) (hr : (0 ≤ f ∧ f ≤ 16) ∧ (2 ≤ len ∧ len ≤ 16) ∧ (1 ≤ sp ∧ sp ≤ 9) ∧ 0 ≤ k ∧ k ≤ 2) : Met l yX4_shift (wq yX4_shift cX4_shift 5 ((Option.some Jvm.ClassFile.FieldType.int))) (rmR 0 0) (va_Pc [.ref (q), .int (zI (w))] (zK G (hR4 G q f len sp k))) (zQ (some (.int ((zI (shiftR k len sp w)))))) 0 0 zF := by
  refine z_enterI (by decide +kernel) (Nat.le_of_ble_eq_true rfl) ?_
  intro p env s m below meth cod Q S hG hP ret ls hl
  have hl : lv_has ls 5 [(0, .ref (q)), (1, .int (zI (w)))] := hl
  have hd0 : 0 ≤ w / sp := Int.ediv_nonneg hw.1 (by omega)
  have hd1 : w / sp ≤ w := Int.ediv_le_self sp hw.1
  have hm0 := Int.emod_nonneg (w / sp) (show len ≠ 0 by omega)
  have hm1 := Int.emod_lt_of_pos (w / sp) (show 0 < len by omega)
  have hm2 := Int.emod_nonneg (w / sp) (show 2 * len - 2 ≠ 0 by omega)
  have hm3 := Int.emod_lt_of_pos (w / sp) (show 0 < 2 * len - 2 by omega)
  refine z_iload_n S dX4_shift_0 hl 1 rfl rfl ?_
  refine z_aload_n S dX4_shift_1 hl 0 rfl rfl ?_
  refine z_iconst S dX4_shift_2 ?_
  refine z_ialdB S hG hP (by omega) (by decide) dX4_shift_3 ?_
  rw [show r4 (f) (len) (sp) (k) (2) = (sp) from rfl]
  refine z_idiv S dX4_shift_4 (by omega) (by omega) ?_
  refine z_istore_n (lv' := [(2, .int (zI ((w) / (sp)))), (0, .ref (q)), (1, .int (zI (w)))]) S dX4_shift_5 hl rfl (by decide) rfl (fun ls hl => ?_)
  refine z_aload_n S dX4_shift_6 hl 1 rfl rfl ?_
  refine z_iconst S dX4_shift_7 ?_
  refine z_ialdB S hG hP (by omega) (by decide) dX4_shift_8 ?_
  rw [show r4 (f) (len) (sp) (k) (1) = (len) from rfl]
  refine z_istore_n (lv' := [(3, .int (zI (len))), (2, .int (zI ((w) / (sp)))), (0, .ref (q)), (1, .int (zI (w)))]) S dX4_shift_9 hl rfl (by decide) rfl (fun ls hl => ?_)
  refine z_aload_n S dX4_shift_10 hl 2 rfl rfl ?_
  refine z_iconst S dX4_shift_11 ?_
  refine z_ialdB S hG hP (by omega) (by decide) dX4_shift_12 ?_
  rw [show r4 (f) (len) (sp) (k) (3) = (k) from rfl]
  refine z_if_ne S 20 dX4_shift_13 (by decide) (by omega) (fun c_13 => ?_) (fun c_13 => ?_)
  · skip
    refine z_aload_n S dX4_shift_20 hl 2 rfl rfl ?_
    refine z_iconst S dX4_shift_21 ?_
    refine z_ialdB S hG hP (by omega) (by decide) dX4_shift_22 ?_
    rw [show r4 (f) (len) (sp) (k) (3) = (k) from rfl]
    refine z_iconst S dX4_shift_23 ?_
    refine z_icmp_ne S 35 dX4_shift_24 (by decide) (by omega) (by omega) (fun c_24 => ?_) (fun c_24 => ?_)
    · skip
      refine z_iload_n S dX4_shift_35 hl 1 rfl rfl ?_
      refine z_iconst S dX4_shift_36 ?_
      refine z_iload_n S dX4_shift_37 hl 0 rfl rfl ?_
      refine z_imul S dX4_shift_38 ?_
      refine z_iconst S dX4_shift_39 ?_
      refine z_isub S dX4_shift_40 ?_
      refine z_irem S dX4_shift_41 (by omega) (by omega) ?_
      refine z_istore (lv' := [(4, .int (zI (((w) / (sp)) % (((2) * (len)) - (2))))), (3, .int (zI (len))), (2, .int (zI ((w) / (sp)))), (0, .ref (q)), (1, .int (zI (w)))]) S dX4_shift_42 hl (by decide) rfl (fun ls hl => ?_)
      refine z_iload S dX4_shift_44 hl 0 rfl ?_
      refine z_iload_n S dX4_shift_46 hl 1 rfl rfl ?_
      refine z_icmp_ge S 55 dX4_shift_47 (by decide) (by omega) (by omega) (fun c_47 => ?_) (fun c_47 => ?_)
      · skip
        refine z_iconst S dX4_shift_55 ?_
        refine z_iload_n S dX4_shift_56 hl 1 rfl rfl ?_
        refine z_imul S dX4_shift_57 ?_
        refine z_iconst S dX4_shift_58 ?_
        refine z_isub S dX4_shift_59 ?_
        refine z_iload S dX4_shift_60 hl 0 rfl ?_
        refine z_isub S dX4_shift_62 ?_
        exact ret _ _ _ dX4_shift_63 (by rw [msh2 (by omega) (by omega)]; rw [if_neg (by omega)])
      · skip
        refine z_iload S dX4_shift_50 hl 0 rfl ?_
        refine z_goto S 63 dX4_shift_52 (by decide) ?_
        exact ret _ _ _ dX4_shift_63 (by rw [msh2 (by omega) (by omega)]; rw [if_pos (by omega)])
    · skip
      refine z_iload_n S dX4_shift_27 hl 0 rfl rfl ?_
      refine z_iload_n S dX4_shift_28 hl 1 rfl rfl ?_
      refine z_iload_n S dX4_shift_29 hl 0 rfl rfl ?_
      refine z_irem S dX4_shift_30 (by omega) (by omega) ?_
      refine z_isub S dX4_shift_31 ?_
      refine z_iload_n S dX4_shift_32 hl 0 rfl rfl ?_
      refine z_irem S dX4_shift_33 (by omega) (by omega) ?_
      exact ret _ _ _ dX4_shift_34 (by rw [msh1 (by omega) hm0 hm1])
  · skip
    refine z_iload_n S dX4_shift_16 hl 1 rfl rfl ?_
    refine z_iload_n S dX4_shift_17 hl 0 rfl rfl ?_
    refine z_irem S dX4_shift_18 (by omega) (by omega) ?_
    exact ret _ _ _ dX4_shift_19 (by rw [msh0 (by omega)])
theorem dX4_round_0 : decode cX4_round 0 = .ok (.aload_n 0, 1) := by decide +kernel
theorem dX4_round_1 : decode cX4_round 1 = .ok (.iconst 2, 1) := by decide +kernel
theorem dX4_round_2 : decode cX4_round 2 = .ok (.iaload, 1) := by decide +kernel
theorem dX4_round_3 : decode cX4_round 3 = .ok (.aload_n 0, 1) := by decide +kernel
theorem dX4_round_4 : decode cX4_round 4 = .ok (.iconst 3, 1) := by decide +kernel
theorem dX4_round_5 : decode cX4_round 5 = .ok (.iaload, 1) := by decide +kernel
theorem dX4_round_6 : decode cX4_round 6 = .ok (.iconst 2, 1) := by decide +kernel
theorem dX4_round_7 : decode cX4_round 7 = .ok (.if_icmp .ne 13, 3) := by decide +kernel
theorem dX4_round_10 : decode cX4_round 10 = .ok (.iconst 2, 1) := by decide +kernel
theorem dX4_round_11 : decode cX4_round 11 = .ok (.aload_n 0, 1) := by decide +kernel
theorem dX4_round_12 : decode cX4_round 12 = .ok (.iconst 1, 1) := by decide +kernel
theorem dX4_round_13 : decode cX4_round 13 = .ok (.iaload, 1) := by decide +kernel
theorem dX4_round_14 : decode cX4_round 14 = .ok (.imul, 1) := by decide +kernel
theorem dX4_round_15 : decode cX4_round 15 = .ok (.iconst 2, 1) := by decide +kernel
theorem dX4_round_16 : decode cX4_round 16 = .ok (.isub, 1) := by decide +kernel
theorem dX4_round_17 : decode cX4_round 17 = .ok (.goto 6, 3) := by decide +kernel
theorem dX4_round_20 : decode cX4_round 20 = .ok (.aload_n 0, 1) := by decide +kernel
theorem dX4_round_21 : decode cX4_round 21 = .ok (.iconst 1, 1) := by decide +kernel
theorem dX4_round_22 : decode cX4_round 22 = .ok (.iaload, 1) := by decide +kernel
theorem dX4_round_23 : decode cX4_round 23 = .ok (.imul, 1) := by decide +kernel
theorem dX4_round_24 : decode cX4_round 24 = .ok (.ireturn, 1) := by decide +kernel
theorem q5_159 : (Jvm.Cond.code ({ cls := "CyclepaintModel", name := "round", desc := "([I)I" } : Jvm.MethodName) prog_6_method_14_code (1 : Nat) (Option.some Jvm.ClassFile.FieldType.int)) ∈ lw_g := zg_of (zin5 (List.mem_of_getElem? (i := 159) rfl)) rfl
theorem q5_158 : (Jvm.Cond.static ({ cls := "CyclepaintModel", name := "round", desc := "([I)I" } : Jvm.MethodName)) ∈ lw_g := zg_of (zin5 (List.mem_of_getElem? (i := 158) rfl)) rfl
theorem ok_X4_round : zOS yX4_round cX4_round 1 ((Option.some Jvm.ClassFile.FieldType.int)) 1 := ⟨⟨q5_159, q1_3, by decide, by decide, by decide +kernel⟩, q5_158⟩
set_option maxHeartbeats 4000000 in
set_option maxRecDepth 100000 in
theorem c_X4_round (l : Launch) (G : zG) (q : Nat) (f len sp k : Int) (hr : (0 ≤ f ∧ f ≤ 16) ∧ (2 ≤ len ∧ len ≤ 16) ∧ (1 ≤ sp ∧ sp ≤ 9) ∧ 0 ≤ k ∧ k ≤ 2) : Met l yX4_round (wq yX4_round cX4_round 1 ((Option.some Jvm.ClassFile.FieldType.int))) (rmR 0 0) (va_Pc [.ref (q)] (zK G (hR4 G q f len sp k))) (zQ (some (.int ((zI (sp * cyc k len)))))) 0 0 zF := by
  refine z_enterI (by decide +kernel) (Nat.le_of_ble_eq_true rfl) ?_
  intro p env s m below meth cod Q S hG hP ret ls hl
  have hl : lv_has ls 1 [(0, .ref (q))] := hl
  refine z_aload_n S dX4_round_0 hl 0 rfl rfl ?_
  refine z_iconst S dX4_round_1 ?_
  refine z_ialdB S hG hP (by omega) (by decide) dX4_round_2 ?_
  rw [show r4 (f) (len) (sp) (k) (2) = (sp) from rfl]
  refine z_aload_n S dX4_round_3 hl 0 rfl rfl ?_
  refine z_iconst S dX4_round_4 ?_
  refine z_ialdB S hG hP (by omega) (by decide) dX4_round_5 ?_
  rw [show r4 (f) (len) (sp) (k) (3) = (k) from rfl]
  refine z_iconst S dX4_round_6 ?_
  refine z_icmp_ne S 20 dX4_round_7 (by decide) (by omega) (by omega) (fun c_7 => ?_) (fun c_7 => ?_)
  · skip
    refine z_aload_n S dX4_round_20 hl 0 rfl rfl ?_
    refine z_iconst S dX4_round_21 ?_
    refine z_ialdB S hG hP (by omega) (by decide) dX4_round_22 ?_
    rw [show r4 (f) (len) (sp) (k) (1) = (len) from rfl]
    refine z_imul S dX4_round_23 ?_
    exact ret _ _ _ dX4_round_24 (by unfold cyc; rw [if_neg (by omega)])
  · skip
    refine z_iconst S dX4_round_10 ?_
    refine z_aload_n S dX4_round_11 hl 0 rfl rfl ?_
    refine z_iconst S dX4_round_12 ?_
    refine z_ialdB S hG hP (by omega) (by decide) dX4_round_13 ?_
    rw [show r4 (f) (len) (sp) (k) (1) = (len) from rfl]
    refine z_imul S dX4_round_14 ?_
    refine z_iconst S dX4_round_15 ?_
    refine z_isub S dX4_round_16 ?_
    refine z_goto S 23 dX4_round_17 (by decide) ?_
    refine z_imul S dX4_round_23 ?_
    exact ret _ _ _ dX4_round_24 (by unfold cyc; rw [if_pos (by omega)])
theorem dX4_common_0 : decode cX4_common 0 = .ok (.iload_n 0, 1) := by decide +kernel
theorem dX4_common_1 : decode cX4_common 1 = .ok (.istore_n 2, 1) := by decide +kernel
theorem dX4_common_2 : decode cX4_common 2 = .ok (.iload_n 1, 1) := by decide +kernel
theorem dX4_common_3 : decode cX4_common 3 = .ok (.istore_n 3, 1) := by decide +kernel
theorem dX4_common_4 : decode cX4_common 4 = .ok (.iload_n 3, 1) := by decide +kernel
theorem dX4_common_5 : decode cX4_common 5 = .ok (.ifCond .eq 16, 3) := by decide +kernel
theorem dX4_common_8 : decode cX4_common 8 = .ok (.iload_n 2, 1) := by decide +kernel
theorem dX4_common_9 : decode cX4_common 9 = .ok (.iload_n 3, 1) := by decide +kernel
theorem dX4_common_10 : decode cX4_common 10 = .ok (.irem, 1) := by decide +kernel
theorem dX4_common_11 : decode cX4_common 11 = .ok (.istore 4, 2) := by decide +kernel
theorem dX4_common_13 : decode cX4_common 13 = .ok (.iload_n 3, 1) := by decide +kernel
theorem dX4_common_14 : decode cX4_common 14 = .ok (.istore_n 2, 1) := by decide +kernel
theorem dX4_common_15 : decode cX4_common 15 = .ok (.iload 4, 2) := by decide +kernel
theorem dX4_common_17 : decode cX4_common 17 = .ok (.istore_n 3, 1) := by decide +kernel
theorem dX4_common_18 : decode cX4_common 18 = .ok (.goto (-14), 3) := by decide +kernel
theorem dX4_common_21 : decode cX4_common 21 = .ok (.iload_n 0, 1) := by decide +kernel
theorem dX4_common_22 : decode cX4_common 22 = .ok (.iload_n 2, 1) := by decide +kernel
theorem dX4_common_23 : decode cX4_common 23 = .ok (.idiv, 1) := by decide +kernel
theorem dX4_common_24 : decode cX4_common 24 = .ok (.iload_n 1, 1) := by decide +kernel
theorem dX4_common_25 : decode cX4_common 25 = .ok (.imul, 1) := by decide +kernel
theorem dX4_common_26 : decode cX4_common 26 = .ok (.ireturn, 1) := by decide +kernel
theorem q5_162 : (Jvm.Cond.code ({ cls := "CyclepaintModel", name := "common", desc := "(II)I" } : Jvm.MethodName) prog_6_method_16_code (5 : Nat) (Option.some Jvm.ClassFile.FieldType.int)) ∈ lw_g := zg_of (zin5 (List.mem_of_getElem? (i := 162) rfl)) rfl
theorem q5_161 : (Jvm.Cond.static ({ cls := "CyclepaintModel", name := "common", desc := "(II)I" } : Jvm.MethodName)) ∈ lw_g := zg_of (zin5 (List.mem_of_getElem? (i := 161) rfl)) rfl
theorem ok_X4_common : zOS yX4_common cX4_common 5 ((Option.some Jvm.ClassFile.FieldType.int)) 2 := ⟨⟨q5_162, q1_3, by decide, by decide, by decide +kernel⟩, q5_161⟩
set_option maxHeartbeats 4000000 in
set_option maxRecDepth 100000 in
theorem c_X4_common (l : Launch) (G : zG) (x y : Int) (hx : 1 ≤ x ∧ x ≤ 2147483647) (hy : 1 ≤ y ∧ y ≤ 2147483647) : Met l yX4_common (wq yX4_common cX4_common 5 ((Option.some Jvm.ClassFile.FieldType.int))) (rmR 0 0) (va_Pc [.int (zI (x)), .int (zI (y))] (zK G (fun _ => True))) (zQ (some (.int ((zI (lcI x y)))))) 0 0 zF := by
  refine z_enterI (by decide +kernel) (Nat.le_of_ble_eq_true rfl) ?_
  intro p env s m below meth cod Q S hG hP ret ls hl
  have hl : lv_has ls 5 [(0, .int (zI (x))), (1, .int (zI (y)))] := hl
  refine z_iload_n S dX4_common_0 hl 0 rfl rfl ?_
  refine z_istore_n (lv' := [(2, .int (zI (x))), (0, .int (zI (x))), (1, .int (zI (y)))]) S dX4_common_1 hl rfl (by decide) rfl (fun ls hl => ?_)
  refine z_iload_n S dX4_common_2 hl 2 rfl rfl ?_
  refine z_istore_n (lv' := [(3, .int (zI (y))), (2, .int (zI (x))), (0, .int (zI (x))), (1, .int (zI (y)))]) S dX4_common_3 hl rfl (by decide) rfl (fun ls hl => ?_)
  have loop_4 : ∀ (nn : Nat) (u : Int) (v : Int), ((1 ≤ u ∧ u ≤ 2147483647) ∧ (0 ≤ v ∧ v ≤ 2147483647)) → (gI u v = gI x y) → (v.toNat) < nn → ∀ ls, lv_has ls 5 [(3, .int (zI (v))), (2, .int (zI (u))), (0, .int (zI (x))), (1, .int (zI (y)))] → W p l env (rmR 0 0) s m ([.int (zI (x)), .int (zI (y))] : List Value).toArray below meth cod s.heap [] 0 0 Q (F0 m 4 ls []) := by
    intro nn
    induction nn with
    | zero => intro _ _ _ _ h; exact absurd h (Nat.not_lt_zero _)
    | succ nn ih_4 =>
      intro u v hu hg hm_4 ls hl
      refine z_iload_n S dX4_common_4 hl 0 rfl rfl ?_
      refine z_if_eq S 21 dX4_common_5 (by decide) (by omega) (fun c_5 => ?_) (fun c_5 => ?_)
      · skip
        have hgu : u = gI x y := by rw [← hg, show v = 0 by omega, gI_0 (by omega)]
        refine z_iload_n S dX4_common_21 hl 2 rfl rfl ?_
        refine z_iload_n S dX4_common_22 hl 1 rfl rfl ?_
        refine z_idiv S dX4_common_23 (by omega) (by omega) ?_
        refine z_iload_n S dX4_common_24 hl 3 rfl rfl ?_
        refine z_imul S dX4_common_25 ?_
        exact ret _ _ _ dX4_common_26 (by rw [hgu]; rfl)
      · skip
        refine z_iload_n S dX4_common_8 hl 1 rfl rfl ?_
        refine z_iload_n S dX4_common_9 hl 0 rfl rfl ?_
        have hm0 := Int.emod_nonneg u (show v ≠ 0 by omega)
        have hm1 := Int.emod_lt_of_pos u (show 0 < v by omega)
        refine z_irem S dX4_common_10 (by omega) (by omega) ?_
        refine z_istore (lv' := [(4, .int (zI ((u) % (v)))), (3, .int (zI (v))), (2, .int (zI (u))), (0, .int (zI (x))), (1, .int (zI (y)))]) S dX4_common_11 hl (by decide) rfl (fun ls hl => ?_)
        refine z_iload_n S dX4_common_13 hl 1 rfl rfl ?_
        refine z_istore_n (lv' := [(2, .int (zI (v))), (4, .int (zI ((u) % (v)))), (3, .int (zI (v))), (0, .int (zI (x))), (1, .int (zI (y)))]) S dX4_common_14 hl rfl (by decide) rfl (fun ls hl => ?_)
        refine z_iload S dX4_common_15 hl 1 rfl ?_
        refine z_istore_n (lv' := [(3, .int (zI ((u) % (v)))), (2, .int (zI (v))), (4, .int (zI ((u) % (v)))), (0, .int (zI (x))), (1, .int (zI (y)))]) S dX4_common_17 hl rfl (by decide) rfl (fun ls hl => ?_)
        refine z_goto S 4 dX4_common_18 (by decide) ?_
        exact ih_4 (v) ((u) % (v)) (by omega) (by rw [gI_s (by omega) (by omega)]; exact hg) (by omega) ls (lv_sub hl [0, 1, 3, 4] rfl)
  exact loop_4 _ (x) (y) (by omega) (rfl) (Nat.lt_succ_self _) ls (lv_sub hl [0, 1, 2, 3] rfl)
theorem dX4_light_0 : decode cX4_light 0 = .ok (.iconst 2, 1) := by decide +kernel
theorem dX4_light_1 : decode cX4_light 1 = .ok (.iload_n 0, 1) := by decide +kernel
theorem dX4_light_2 : decode cX4_light 2 = .ok (.bipush 16, 2) := by decide +kernel
theorem dX4_light_4 : decode cX4_light 4 = .ok (.idiv, 1) := by decide +kernel
theorem dX4_light_5 : decode cX4_light 5 = .ok (.imul, 1) := by decide +kernel
theorem dX4_light_6 : decode cX4_light 6 = .ok (.iconst 3, 1) := by decide +kernel
theorem dX4_light_7 : decode cX4_light 7 = .ok (.iload_n 0, 1) := by decide +kernel
theorem dX4_light_8 : decode cX4_light 8 = .ok (.iconst 4, 1) := by decide +kernel
theorem dX4_light_9 : decode cX4_light 9 = .ok (.idiv, 1) := by decide +kernel
theorem dX4_light_10 : decode cX4_light 10 = .ok (.iconst 4, 1) := by decide +kernel
theorem dX4_light_11 : decode cX4_light 11 = .ok (.irem, 1) := by decide +kernel
theorem dX4_light_12 : decode cX4_light 12 = .ok (.imul, 1) := by decide +kernel
theorem dX4_light_13 : decode cX4_light 13 = .ok (.iadd, 1) := by decide +kernel
theorem dX4_light_14 : decode cX4_light 14 = .ok (.iload_n 0, 1) := by decide +kernel
theorem dX4_light_15 : decode cX4_light 15 = .ok (.iconst 4, 1) := by decide +kernel
theorem dX4_light_16 : decode cX4_light 16 = .ok (.irem, 1) := by decide +kernel
theorem dX4_light_17 : decode cX4_light 17 = .ok (.iadd, 1) := by decide +kernel
theorem dX4_light_18 : decode cX4_light 18 = .ok (.ireturn, 1) := by decide +kernel
theorem q5_213 : (Jvm.Cond.code ({ cls := "CyclepaintModel", name := "light", desc := "(I)I" } : Jvm.MethodName) prog_6_method_10_code (1 : Nat) (Option.some Jvm.ClassFile.FieldType.int)) ∈ lw_g := zg_of (zin5 (List.mem_of_getElem? (i := 213) rfl)) rfl
theorem q5_212 : (Jvm.Cond.static ({ cls := "CyclepaintModel", name := "light", desc := "(I)I" } : Jvm.MethodName)) ∈ lw_g := zg_of (zin5 (List.mem_of_getElem? (i := 212) rfl)) rfl
theorem ok_X4_light : zOS yX4_light cX4_light 1 ((Option.some Jvm.ClassFile.FieldType.int)) 1 := ⟨⟨q5_213, q1_3, by decide, by decide, by decide +kernel⟩, q5_212⟩
set_option maxHeartbeats 4000000 in
set_option maxRecDepth 100000 in
theorem c_X4_light (l : Launch) (G : zG) (C : Int32) : Met l yX4_light (wq yX4_light cX4_light 1 ((Option.some Jvm.ClassFile.FieldType.int))) (rmR 0 0) (va_Pc [.int (C)] (zK G (fun _ => True))) (zQ (some (.int ((lgt C))))) 0 0 zF := by
  refine z_enterI (by decide +kernel) (Nat.le_of_ble_eq_true rfl) ?_
  intro p env s m below meth cod Q S hG hP ret ls hl
  have hl : lv_has ls 1 [(0, .int (C))] := hl
  refine z_iconst S dX4_light_0 ?_
  refine z_iload_n S dX4_light_1 hl 0 rfl rfl ?_
  refine z_bipush S dX4_light_2 rfl ?_
  refine lv_idiv S.1 S.2.1 dX4_light_4 (by decide) ?_
  refine lv_imul S.1 S.2.1 dX4_light_5 ?_
  refine z_iconst S dX4_light_6 ?_
  refine z_iload_n S dX4_light_7 hl 0 rfl rfl ?_
  refine z_iconst S dX4_light_8 ?_
  refine lv_idiv S.1 S.2.1 dX4_light_9 (by decide) ?_
  refine z_iconst S dX4_light_10 ?_
  refine lv_irem S.1 S.2.1 dX4_light_11 (by decide) ?_
  refine lv_imul S.1 S.2.1 dX4_light_12 ?_
  refine lv_iadd S.1 S.2.1 dX4_light_13 ?_
  refine z_iload_n S dX4_light_14 hl 0 rfl rfl ?_
  refine z_iconst S dX4_light_15 ?_
  refine lv_irem S.1 S.2.1 dX4_light_16 (by decide) ?_
  refine lv_iadd S.1 S.2.1 dX4_light_17 ?_
  exact ret _ _ _ dX4_light_18 (rfl)
theorem dX4_isIn_0 : decode cX4_isIn 0 = .ok (.iload_n 0, 1) := by decide +kernel
theorem dX4_isIn_1 : decode cX4_isIn 1 = .ok (.iload_n 1, 1) := by decide +kernel
theorem dX4_isIn_2 : decode cX4_isIn 2 = .ok (.if_icmp .lt 12, 3) := by decide +kernel
theorem dX4_isIn_5 : decode cX4_isIn 5 = .ok (.iload_n 0, 1) := by decide +kernel
theorem dX4_isIn_6 : decode cX4_isIn 6 = .ok (.iload_n 2, 1) := by decide +kernel
theorem dX4_isIn_7 : decode cX4_isIn 7 = .ok (.if_icmp .gt 7, 3) := by decide +kernel
theorem dX4_isIn_10 : decode cX4_isIn 10 = .ok (.iconst 1, 1) := by decide +kernel
theorem dX4_isIn_11 : decode cX4_isIn 11 = .ok (.goto 4, 3) := by decide +kernel
theorem dX4_isIn_14 : decode cX4_isIn 14 = .ok (.iconst 0, 1) := by decide +kernel
theorem dX4_isIn_15 : decode cX4_isIn 15 = .ok (.ireturn, 1) := by decide +kernel
theorem q5_24 : (Jvm.Cond.code ({ cls := "CyclepaintModel", name := "isIn", desc := "(III)Z" } : Jvm.MethodName) prog_6_method_3_code (3 : Nat) (Option.some Jvm.ClassFile.FieldType.boolean)) ∈ lw_g := zg_of (zin5 (List.mem_of_getElem? (i := 24) rfl)) rfl
theorem q5_23 : (Jvm.Cond.static ({ cls := "CyclepaintModel", name := "isIn", desc := "(III)Z" } : Jvm.MethodName)) ∈ lw_g := zg_of (zin5 (List.mem_of_getElem? (i := 23) rfl)) rfl
theorem ok_X4_isIn : zOS yX4_isIn cX4_isIn 3 ((Option.some Jvm.ClassFile.FieldType.boolean)) 3 := ⟨⟨q5_24, q1_3, by decide, by decide, by decide +kernel⟩, q5_23⟩
set_option maxHeartbeats 4000000 in
set_option maxRecDepth 100000 in
theorem c_X4_isIn (l : Launch) (G : zG) (x y z : Int) (hr : rg x ∧ rg y ∧ rg z) : Met l yX4_isIn (wq yX4_isIn cX4_isIn 3 ((Option.some Jvm.ClassFile.FieldType.boolean))) (rmR 0 0) (va_Pc [.int (zI (x)), .int (zI (y)), .int (zI (z))] (zK G (fun _ => True))) (zQ (some (.int (bI (decide (y ≤ x) && decide (x ≤ z)))))) 0 0 zF := by
  refine z_enterB (by decide +kernel) (Nat.le_of_ble_eq_true rfl) ?_
  intro p env s m below meth cod Q S hG hP ret ls hl
  have hl : lv_has ls 3 [(0, .int (zI (x))), (1, .int (zI (y))), (2, .int (zI (z)))] := hl
  refine z_iload_n S dX4_isIn_0 hl 0 rfl rfl ?_
  refine z_iload_n S dX4_isIn_1 hl 1 rfl rfl ?_
  refine z_icmp_lt S 14 dX4_isIn_2 (by decide) (by omega) (by omega) (fun c_2 => ?_) (fun c_2 => ?_)
  · skip
    refine z_iconst S dX4_isIn_14 ?_
    exact ret _ _ _ dX4_isIn_15 (by rw [show (decide (y ≤ x) && decide (x ≤ z)) = false from by simp; omega]; rfl)
  · skip
    refine z_iload_n S dX4_isIn_5 hl 0 rfl rfl ?_
    refine z_iload_n S dX4_isIn_6 hl 2 rfl rfl ?_
    refine z_icmp_gt S 14 dX4_isIn_7 (by decide) (by omega) (by omega) (fun c_7 => ?_) (fun c_7 => ?_)
    · skip
      refine z_iconst S dX4_isIn_14 ?_
      exact ret _ _ _ dX4_isIn_15 (by rw [show (decide (y ≤ x) && decide (x ≤ z)) = false from by simp; omega]; rfl)
    · skip
      refine z_iconst S dX4_isIn_10 ?_
      refine z_goto S 15 dX4_isIn_11 (by decide) ?_
      exact ret _ _ _ dX4_isIn_15 (by rw [show (decide (y ≤ x) && decide (x ≤ z)) = true from by simp; omega]; rfl)
theorem dX4_rangeOf_0 : decode cX4_rangeOf 0 = .ok (.iconst 0, 1) := by decide +kernel
theorem dX4_rangeOf_1 : decode cX4_rangeOf 1 = .ok (.istore_n 2, 1) := by decide +kernel
theorem dX4_rangeOf_2 : decode cX4_rangeOf 2 = .ok (.iload_n 2, 1) := by decide +kernel
theorem dX4_rangeOf_3 : decode cX4_rangeOf 3 = .ok (.aload_n 0, 1) := by decide +kernel
theorem dX4_rangeOf_4 : decode cX4_rangeOf 4 = .ok (.getfield 23, 3) := by decide +kernel
theorem dX4_rangeOf_7 : decode cX4_rangeOf 7 = .ok (.invokevirtual 41, 3) := by decide +kernel
theorem dX4_rangeOf_10 : decode cX4_rangeOf 10 = .ok (.if_icmp .ge 59, 3) := by decide +kernel
theorem dX4_rangeOf_13 : decode cX4_rangeOf 13 = .ok (.iload_n 1, 1) := by decide +kernel
theorem dX4_rangeOf_14 : decode cX4_rangeOf 14 = .ok (.aload_n 0, 1) := by decide +kernel
theorem dX4_rangeOf_15 : decode cX4_rangeOf 15 = .ok (.getfield 23, 3) := by decide +kernel
theorem dX4_rangeOf_18 : decode cX4_rangeOf 18 = .ok (.iload_n 2, 1) := by decide +kernel
theorem dX4_rangeOf_19 : decode cX4_rangeOf 19 = .ok (.invokevirtual 46, 3) := by decide +kernel
theorem dX4_rangeOf_22 : decode cX4_rangeOf 22 = .ok (.checkcast 50, 3) := by decide +kernel
theorem dX4_rangeOf_25 : decode cX4_rangeOf 25 = .ok (.iconst 0, 1) := by decide +kernel
theorem dX4_rangeOf_26 : decode cX4_rangeOf 26 = .ok (.iaload, 1) := by decide +kernel
theorem dX4_rangeOf_27 : decode cX4_rangeOf 27 = .ok (.if_icmp .lt 36, 3) := by decide +kernel
theorem dX4_rangeOf_30 : decode cX4_rangeOf 30 = .ok (.iload_n 1, 1) := by decide +kernel
theorem dX4_rangeOf_31 : decode cX4_rangeOf 31 = .ok (.aload_n 0, 1) := by decide +kernel
theorem dX4_rangeOf_32 : decode cX4_rangeOf 32 = .ok (.getfield 23, 3) := by decide +kernel
theorem dX4_rangeOf_35 : decode cX4_rangeOf 35 = .ok (.iload_n 2, 1) := by decide +kernel
theorem dX4_rangeOf_36 : decode cX4_rangeOf 36 = .ok (.invokevirtual 46, 3) := by decide +kernel
theorem dX4_rangeOf_39 : decode cX4_rangeOf 39 = .ok (.checkcast 50, 3) := by decide +kernel
theorem dX4_rangeOf_42 : decode cX4_rangeOf 42 = .ok (.iconst 0, 1) := by decide +kernel
theorem dX4_rangeOf_43 : decode cX4_rangeOf 43 = .ok (.iaload, 1) := by decide +kernel
theorem dX4_rangeOf_44 : decode cX4_rangeOf 44 = .ok (.aload_n 0, 1) := by decide +kernel
theorem dX4_rangeOf_45 : decode cX4_rangeOf 45 = .ok (.getfield 23, 3) := by decide +kernel
theorem dX4_rangeOf_48 : decode cX4_rangeOf 48 = .ok (.iload_n 2, 1) := by decide +kernel
theorem dX4_rangeOf_49 : decode cX4_rangeOf 49 = .ok (.invokevirtual 46, 3) := by decide +kernel
theorem dX4_rangeOf_52 : decode cX4_rangeOf 52 = .ok (.checkcast 50, 3) := by decide +kernel
theorem dX4_rangeOf_55 : decode cX4_rangeOf 55 = .ok (.iconst 1, 1) := by decide +kernel
theorem dX4_rangeOf_56 : decode cX4_rangeOf 56 = .ok (.iaload, 1) := by decide +kernel
theorem dX4_rangeOf_57 : decode cX4_rangeOf 57 = .ok (.iadd, 1) := by decide +kernel
theorem dX4_rangeOf_58 : decode cX4_rangeOf 58 = .ok (.if_icmp .ge 5, 3) := by decide +kernel
theorem dX4_rangeOf_61 : decode cX4_rangeOf 61 = .ok (.iload_n 2, 1) := by decide +kernel
theorem dX4_rangeOf_62 : decode cX4_rangeOf 62 = .ok (.ireturn, 1) := by decide +kernel
theorem dX4_rangeOf_63 : decode cX4_rangeOf 63 = .ok (.iinc 2 1, 3) := by decide +kernel
theorem dX4_rangeOf_66 : decode cX4_rangeOf 66 = .ok (.goto (-64), 3) := by decide +kernel
theorem dX4_rangeOf_69 : decode cX4_rangeOf 69 = .ok (.iconst (-1), 1) := by decide +kernel
theorem dX4_rangeOf_70 : decode cX4_rangeOf 70 = .ok (.ireturn, 1) := by decide +kernel
theorem q4_232 : (Jvm.Cond.fieldLink "CyclepaintModel" (23 : Nat) "CyclepaintModel" "ranges" "Ljava/util/ArrayList;") ∈ lw_g := zg_of (zin4 (List.mem_of_getElem? (i := 232) rfl)) rfl
theorem q5_44 : (Jvm.Cond.methodLink "CyclepaintModel" (41 : Nat) ({ cls := "java/util/ArrayList", name := "size", desc := "()I" } : Jvm.MethodName)) ∈ lw_g := zg_of (zin5 (List.mem_of_getElem? (i := 44) rfl)) rfl
theorem q5_56 : (Jvm.Cond.methodLink "CyclepaintModel" (46 : Nat) ({ cls := "java/util/ArrayList", name := "get", desc := "(I)Ljava/lang/Object;" } : Jvm.MethodName)) ∈ lw_g := zg_of (zin5 (List.mem_of_getElem? (i := 56) rfl)) rfl
theorem q5_68 : (Jvm.Cond.classLink "CyclepaintModel" (50 : Nat) "[I") ∈ lw_g := zg_of (zin5 (List.mem_of_getElem? (i := 68) rfl)) rfl
theorem q5_55 : (Jvm.Cond.code ({ cls := "CyclepaintModel", name := "rangeOf", desc := "(I)I" } : Jvm.MethodName) prog_6_method_11_code (3 : Nat) (Option.some Jvm.ClassFile.FieldType.int)) ∈ lw_g := zg_of (zin5 (List.mem_of_getElem? (i := 55) rfl)) rfl
theorem q5_54 : (Jvm.Cond.instanceMethod ({ cls := "CyclepaintModel", name := "rangeOf", desc := "(I)I" } : Jvm.MethodName)) ∈ lw_g := zg_of (zin5 (List.mem_of_getElem? (i := 54) rfl)) rfl
theorem qs_23 : Cond.selects "CyclepaintModel" (⟨"CyclepaintModel", "rangeOf", "(I)I"⟩ : MethodName) (⟨"CyclepaintModel", "rangeOf", "(I)I"⟩ : MethodName) ∈ lw_g := zg_of (zinS (List.mem_of_getElem? (i := 23) rfl)) rfl
theorem ok_X4_rangeOf : zOV yX4_rangeOf cX4_rangeOf 3 ((Option.some Jvm.ClassFile.FieldType.int)) 1 := ⟨⟨q5_55, q1_3, by decide, by decide, by decide +kernel⟩, q5_54, qs_23⟩
set_option maxHeartbeats 4000000 in
set_option maxRecDepth 100000 in
theorem c_X4_rangeOf (l : Launch) (G : zG) (σ : St) (b : Nat → Nat) (th m1 m2 : Int32) (e : Int) (he : -1 ≤ e ∧ e ≤ 16) : Met l yX4_rangeOf (wq yX4_rangeOf cX4_rangeOf 3 ((Option.some Jvm.ClassFile.FieldType.int))) (rmR 3 64) (va_Pc [.ref (b 0), .int (zI (e))] (zK G (hMod G σ b th m1 m2))) (zQ (some (.int ((zI (rgOf σ e)))))) 0 0 zF := by
  refine z_enterI (by decide +kernel) (Nat.le_of_ble_eq_true rfl) ?_
  intro p env s m below meth cod Q S hG hP ret ls hl
  have hl : lv_has ls 3 [(0, .ref (b 0)), (1, .int (zI (e)))] := hl
  have hO := hP.2.2.2.2.2.2.2.2.2
  have hrn := hO.1
  refine z_iconst S dX4_rangeOf_0 ?_
  refine z_istore_n (lv' := [(2, .int (zI (0))), (0, .ref (b 0)), (1, .int (zI (e)))]) S dX4_rangeOf_1 hl rfl (by decide) rfl (fun ls hl => ?_)
  have loop_2 : ∀ (nn : Nat) (k : Int), (0 ≤ k ∧ k ≤ σ.rn) → (∀ t : Int, 0 ≤ t → t < k → (fun j => rgIn σ j e) t = false) → ((σ.rn - k).toNat) < nn → ∀ ls, lv_has ls 3 [(2, .int (zI (k))), (0, .ref (b 0)), (1, .int (zI (e)))] → W p l env (rmR 3 64) s m ([.ref (b 0), .int (zI (e))] : List Value).toArray below meth cod s.heap [] 0 0 Q (F0 m 2 ls []) := by
    intro nn
    induction nn with
    | zero => intro _ _ _ h; exact absurd h (Nat.not_lt_zero _)
    | succ nn ih_2 =>
      intro k hk hI hm_2 ls hl
      refine z_iload_n S dX4_rangeOf_2 hl 0 rfl rfl ?_
      refine z_aload_n S dX4_rangeOf_3 hl 1 rfl rfl ?_
      refine z_get S hG hP.1 zc_X4 6 (by decide) q4_232 rfl rfl dX4_rangeOf_4 ?_
      refine z_callVs S hG (c_alSize l G (b 3) (b 5) m1 σ.rn) ok_Jx4a65c_size_8abf5 hP.2.2.2.1 zc_Jx4a65c rfl q5_44 (hP.2.2.2.1) ⟨rfl, rfl, by decide, by decide⟩ ⟨Nat.zero_le _, Nat.zero_le _⟩ rfl (Nat.le_of_ble_eq_true rfl) hl.1 rfl dX4_rangeOf_7 ?_
      refine z_icmp_ge S 69 dX4_rangeOf_10 (by decide) (by omega) (by omega) (fun c_10 => ?_) (fun c_10 => ?_)
      · skip
        refine z_iconst S dX4_rangeOf_69 ?_
        exact ret _ _ _ dX4_rangeOf_70 (by rw [rgOf_none (fun t h0 h1 => hI t h0 (by omega))])
      · skip
        have hok := hO.2 k hk.1 (by omega)
        refine z_iload_n S dX4_rangeOf_13 hl 2 rfl rfl ?_
        refine z_aload_n S dX4_rangeOf_14 hl 1 rfl rfl ?_
        refine z_get S hG hP.1 zc_X4 6 (by decide) q4_232 rfl rfl dX4_rangeOf_15 ?_
        refine z_iload_n S dX4_rangeOf_18 hl 0 rfl rfl ?_
        refine z_callVs S hG (c_alGet l G (b 3) (b 5) m1 σ.rn (elR σ b) (k) (b (8 + Int.toNat (k))) (if_pos (by omega)) (by omega) (by omega)) ok_Jx4a65c_get_915e3 hP.2.2.2.1 zc_Jx4a65c rfl q5_56 (⟨hP.2.2.2.1, hP.2.2.2.2.2.1 (by omega)⟩) ⟨rfl, rfl, by decide, by decide⟩ ⟨Nat.zero_le _, Nat.zero_le _⟩ rfl (Nat.le_of_ble_eq_true rfl) hl.1 rfl dX4_rangeOf_19 ?_
        refine z_castI S hG (hP.2.2.2.2.2.2.2.1 (k) (by omega) (by omega)) q5_68 dX4_rangeOf_22 ?_
        refine z_iconst S dX4_rangeOf_25 ?_
        refine z_ialdB S hG (hP.2.2.2.2.2.2.2.1 (k) (by omega) (by omega)) (by omega) (by decide) dX4_rangeOf_26 ?_
        rw [show r4 (σ.F (k)) (σ.L (k)) (σ.S (k)) (σ.K (k)) (0) = (σ.F (k)) from rfl]
        refine z_icmp_lt S 63 dX4_rangeOf_27 (by decide) (by omega) (by omega) (fun c_27 => ?_) (fun c_27 => ?_)
        · skip
          refine z_iinc (lv' := [(2, .int (zI (k + 1))), (0, .ref (b 0)), (1, .int (zI (e)))]) S dX4_rangeOf_63 hl 0 rfl (by decide) rfl (fun ls hl => ?_)
          refine z_goto S 2 dX4_rangeOf_66 (by decide) ?_
          exact ih_2 (k + 1) (by omega) (lt_stp hI (by simp [rgIn]; omega)) (by omega) ls (lv_sub hl [0, 1, 2] rfl)
        · skip
          refine z_iload_n S dX4_rangeOf_30 hl 2 rfl rfl ?_
          refine z_aload_n S dX4_rangeOf_31 hl 1 rfl rfl ?_
          refine z_get S hG hP.1 zc_X4 6 (by decide) q4_232 rfl rfl dX4_rangeOf_32 ?_
          refine z_iload_n S dX4_rangeOf_35 hl 0 rfl rfl ?_
          refine z_callVs S hG (c_alGet l G (b 3) (b 5) m1 σ.rn (elR σ b) (k) (b (8 + Int.toNat (k))) (if_pos (by omega)) (by omega) (by omega)) ok_Jx4a65c_get_915e3 hP.2.2.2.1 zc_Jx4a65c rfl q5_56 (⟨hP.2.2.2.1, hP.2.2.2.2.2.1 (by omega)⟩) ⟨rfl, rfl, by decide, by decide⟩ ⟨Nat.zero_le _, Nat.zero_le _⟩ rfl (Nat.le_of_ble_eq_true rfl) hl.1 rfl dX4_rangeOf_36 ?_
          refine z_castI S hG (hP.2.2.2.2.2.2.2.1 (k) (by omega) (by omega)) q5_68 dX4_rangeOf_39 ?_
          refine z_iconst S dX4_rangeOf_42 ?_
          refine z_ialdB S hG (hP.2.2.2.2.2.2.2.1 (k) (by omega) (by omega)) (by omega) (by decide) dX4_rangeOf_43 ?_
          rw [show r4 (σ.F (k)) (σ.L (k)) (σ.S (k)) (σ.K (k)) (0) = (σ.F (k)) from rfl]
          refine z_aload_n S dX4_rangeOf_44 hl 1 rfl rfl ?_
          refine z_get S hG hP.1 zc_X4 6 (by decide) q4_232 rfl rfl dX4_rangeOf_45 ?_
          refine z_iload_n S dX4_rangeOf_48 hl 0 rfl rfl ?_
          refine z_callVs S hG (c_alGet l G (b 3) (b 5) m1 σ.rn (elR σ b) (k) (b (8 + Int.toNat (k))) (if_pos (by omega)) (by omega) (by omega)) ok_Jx4a65c_get_915e3 hP.2.2.2.1 zc_Jx4a65c rfl q5_56 (⟨hP.2.2.2.1, hP.2.2.2.2.2.1 (by omega)⟩) ⟨rfl, rfl, by decide, by decide⟩ ⟨Nat.zero_le _, Nat.zero_le _⟩ rfl (Nat.le_of_ble_eq_true rfl) hl.1 rfl dX4_rangeOf_49 ?_
          refine z_castI S hG (hP.2.2.2.2.2.2.2.1 (k) (by omega) (by omega)) q5_68 dX4_rangeOf_52 ?_
          refine z_iconst S dX4_rangeOf_55 ?_
          refine z_ialdB S hG (hP.2.2.2.2.2.2.2.1 (k) (by omega) (by omega)) (by omega) (by decide) dX4_rangeOf_56 ?_
          rw [show r4 (σ.F (k)) (σ.L (k)) (σ.S (k)) (σ.K (k)) (1) = (σ.L (k)) from rfl]
          refine z_iadd S dX4_rangeOf_57 ?_
          refine z_icmp_ge S 63 dX4_rangeOf_58 (by decide) (by omega) (by omega) (fun c_58 => ?_) (fun c_58 => ?_)
          · skip
            refine z_iinc (lv' := [(2, .int (zI (k + 1))), (0, .ref (b 0)), (1, .int (zI (e)))]) S dX4_rangeOf_63 hl 0 rfl (by decide) rfl (fun ls hl => ?_)
            refine z_goto S 2 dX4_rangeOf_66 (by decide) ?_
            exact ih_2 (k + 1) (by omega) (lt_stp hI (by simp [rgIn]; omega)) (by omega) ls (lv_sub hl [0, 1, 2] rfl)
          · skip
            refine z_iload_n S dX4_rangeOf_61 hl 0 rfl rfl ?_
            exact ret _ _ _ dX4_rangeOf_62 (by rw [rgOf_first hrn.2 hk.1 (by omega) hI (rgIn_iff.mpr ⟨by omega, by omega, by omega⟩)])
  exact loop_2 _ (0) (by omega) (lt_st0) (Nat.lt_succ_self _) ls (lv_sub hl [0, 1, 2] rfl)
theorem dX4_show_0 : decode cX4_show 0 = .ok (.aload_n 0, 1) := by decide +kernel
theorem dX4_show_1 : decode cX4_show 1 = .ok (.iload_n 1, 1) := by decide +kernel
theorem dX4_show_2 : decode cX4_show 2 = .ok (.invokevirtual 51, 3) := by decide +kernel
theorem dX4_show_5 : decode cX4_show 5 = .ok (.istore_n 3, 1) := by decide +kernel
theorem dX4_show_6 : decode cX4_show 6 = .ok (.iload_n 3, 1) := by decide +kernel
theorem dX4_show_7 : decode cX4_show 7 = .ok (.iconst (-1), 1) := by decide +kernel
theorem dX4_show_8 : decode cX4_show 8 = .ok (.if_icmp .ne 10, 3) := by decide +kernel
theorem dX4_show_11 : decode cX4_show 11 = .ok (.aload_n 0, 1) := by decide +kernel
theorem dX4_show_12 : decode cX4_show 12 = .ok (.getfield 13, 3) := by decide +kernel
theorem dX4_show_15 : decode cX4_show 15 = .ok (.iload_n 1, 1) := by decide +kernel
theorem dX4_show_16 : decode cX4_show 16 = .ok (.iaload, 1) := by decide +kernel
theorem dX4_show_17 : decode cX4_show 17 = .ok (.ireturn, 1) := by decide +kernel
theorem dX4_show_18 : decode cX4_show 18 = .ok (.aload_n 0, 1) := by decide +kernel
theorem dX4_show_19 : decode cX4_show 19 = .ok (.getfield 23, 3) := by decide +kernel
theorem dX4_show_22 : decode cX4_show 22 = .ok (.iload_n 3, 1) := by decide +kernel
theorem dX4_show_23 : decode cX4_show 23 = .ok (.invokevirtual 46, 3) := by decide +kernel
theorem dX4_show_26 : decode cX4_show 26 = .ok (.checkcast 50, 3) := by decide +kernel
theorem dX4_show_29 : decode cX4_show 29 = .ok (.astore 4, 2) := by decide +kernel
theorem dX4_show_31 : decode cX4_show 31 = .ok (.aload_n 0, 1) := by decide +kernel
theorem dX4_show_32 : decode cX4_show 32 = .ok (.getfield 13, 3) := by decide +kernel
theorem dX4_show_35 : decode cX4_show 35 = .ok (.aload 4, 2) := by decide +kernel
theorem dX4_show_37 : decode cX4_show 37 = .ok (.iconst 0, 1) := by decide +kernel
theorem dX4_show_38 : decode cX4_show 38 = .ok (.iaload, 1) := by decide +kernel
theorem dX4_show_39 : decode cX4_show 39 = .ok (.iload_n 1, 1) := by decide +kernel
theorem dX4_show_40 : decode cX4_show 40 = .ok (.aload 4, 2) := by decide +kernel
theorem dX4_show_42 : decode cX4_show 42 = .ok (.iconst 0, 1) := by decide +kernel
theorem dX4_show_43 : decode cX4_show 43 = .ok (.iaload, 1) := by decide +kernel
theorem dX4_show_44 : decode cX4_show 44 = .ok (.isub, 1) := by decide +kernel
theorem dX4_show_45 : decode cX4_show 45 = .ok (.aload 4, 2) := by decide +kernel
theorem dX4_show_47 : decode cX4_show 47 = .ok (.iload_n 2, 1) := by decide +kernel
theorem dX4_show_48 : decode cX4_show 48 = .ok (.invokestatic 55, 3) := by decide +kernel
theorem dX4_show_51 : decode cX4_show 51 = .ok (.isub, 1) := by decide +kernel
theorem dX4_show_52 : decode cX4_show 52 = .ok (.aload 4, 2) := by decide +kernel
theorem dX4_show_54 : decode cX4_show 54 = .ok (.iconst 1, 1) := by decide +kernel
theorem dX4_show_55 : decode cX4_show 55 = .ok (.iaload, 1) := by decide +kernel
theorem dX4_show_56 : decode cX4_show 56 = .ok (.iadd, 1) := by decide +kernel
theorem dX4_show_57 : decode cX4_show 57 = .ok (.aload 4, 2) := by decide +kernel
theorem dX4_show_59 : decode cX4_show 59 = .ok (.iconst 1, 1) := by decide +kernel
theorem dX4_show_60 : decode cX4_show 60 = .ok (.iaload, 1) := by decide +kernel
theorem dX4_show_61 : decode cX4_show 61 = .ok (.irem, 1) := by decide +kernel
theorem dX4_show_62 : decode cX4_show 62 = .ok (.iadd, 1) := by decide +kernel
theorem dX4_show_63 : decode cX4_show 63 = .ok (.iaload, 1) := by decide +kernel
theorem dX4_show_64 : decode cX4_show 64 = .ok (.ireturn, 1) := by decide +kernel
theorem q5_52 : (Jvm.Cond.methodLink "CyclepaintModel" (51 : Nat) ({ cls := "CyclepaintModel", name := "rangeOf", desc := "(I)I" } : Jvm.MethodName)) ∈ lw_g := zg_of (zin5 (List.mem_of_getElem? (i := 52) rfl)) rfl
theorem q4_230 : (Jvm.Cond.fieldLink "CyclepaintModel" (13 : Nat) "CyclepaintModel" "bases" "[I") ∈ lw_g := zg_of (zin4 (List.mem_of_getElem? (i := 230) rfl)) rfl
theorem q5_121 : (Jvm.Cond.methodLink "CyclepaintModel" (55 : Nat) ({ cls := "CyclepaintModel", name := "shift", desc := "([II)I" } : Jvm.MethodName)) ∈ lw_g := zg_of (zin5 (List.mem_of_getElem? (i := 121) rfl)) rfl
theorem q5_166 : (Jvm.Cond.code ({ cls := "CyclepaintModel", name := "show", desc := "(II)I" } : Jvm.MethodName) prog_6_method_13_code (5 : Nat) (Option.some Jvm.ClassFile.FieldType.int)) ∈ lw_g := zg_of (zin5 (List.mem_of_getElem? (i := 166) rfl)) rfl
theorem q5_165 : (Jvm.Cond.instanceMethod ({ cls := "CyclepaintModel", name := "show", desc := "(II)I" } : Jvm.MethodName)) ∈ lw_g := zg_of (zin5 (List.mem_of_getElem? (i := 165) rfl)) rfl
theorem qs_33 : Cond.selects "CyclepaintModel" (⟨"CyclepaintModel", "show", "(II)I"⟩ : MethodName) (⟨"CyclepaintModel", "show", "(II)I"⟩ : MethodName) ∈ lw_g := zg_of (zinS (List.mem_of_getElem? (i := 33) rfl)) rfl
theorem ok_X4_show : zOV yX4_show cX4_show 5 ((Option.some Jvm.ClassFile.FieldType.int)) 2 := ⟨⟨q5_166, q1_3, by decide, by decide, by decide +kernel⟩, q5_165, qs_33⟩
set_option maxHeartbeats 4000000 in
set_option maxRecDepth 100000 in
theorem c_X4_show (l : Launch) (G : zG) (σ : St) (b : Nat → Nat) (th m1 m2 : Int32) (e w : Int) (he : 0 ≤ e ∧ e < 16) (hw : 0 ≤ w ∧ w < 2147483648) : Met l yX4_show (wq yX4_show cX4_show 5 ((Option.some Jvm.ClassFile.FieldType.int))) (rmR 4 86) (va_Pc [.ref (b 0), .int (zI (e)), .int (zI (w))] (zK G (hMod G σ b th m1 m2))) (zQ (some (.int ((shw σ e w))))) 0 0 zF := by
  refine z_enterI (by decide +kernel) (Nat.le_of_ble_eq_true rfl) ?_
  intro p env s m below meth cod Q S hG hP ret ls hl
  have hl : lv_has ls 5 [(0, .ref (b 0)), (1, .int (zI (e))), (2, .int (zI (w)))] := hl
  have hO := hP.2.2.2.2.2.2.2.2.2
  have hrn := hO.1
  by_cases hc : rgOf σ e = -1
  · skip
    refine z_aload_n S dX4_show_0 hl 0 rfl rfl ?_
    refine z_iload_n S dX4_show_1 hl 1 rfl rfl ?_
    refine z_callVs S hG (c_X4_rangeOf l G σ b th m1 m2 (e) (by omega)) ok_X4_rangeOf hP.1 zc_X4 rfl q5_52 (hP) ⟨rfl, rfl, by decide, by decide⟩ ⟨Nat.zero_le _, Nat.zero_le _⟩ rfl (Nat.le_of_ble_eq_true rfl) hl.1 rfl dX4_show_2 ?_
    refine z_istore_n (lv' := [(3, .int (zI (rgOf σ (e)))), (0, .ref (b 0)), (1, .int (zI (e))), (2, .int (zI (w)))]) S dX4_show_5 hl rfl (by decide) rfl (fun ls hl => ?_)
    refine z_iload_n S dX4_show_6 hl 0 rfl rfl ?_
    refine z_iconst S dX4_show_7 ?_
    refine z_icmp_ne_F S 18 dX4_show_8 (by decide) (by omega) (by omega) (by omega) ?_
    refine z_aload_n S dX4_show_11 hl 1 rfl rfl ?_
    refine z_get S hG hP.1 zc_X4 4 (by decide) q4_230 rfl rfl dX4_show_12 ?_
    refine z_iload_n S dX4_show_15 hl 2 rfl rfl ?_
    refine z_iald S hG hP.2.1 (by omega) (by decide) dX4_show_16 ?_
    exact ret _ _ _ dX4_show_17 (by unfold shw src; rw [if_pos hc])
  · skip
    have hin := rgOf_in hc
    have hok := hO.2 (rgOf σ e) hin.1 hin.2.2.1
    have hsh := shiftR_b (w := w) hok.2.2 ⟨hok.1.2.1, by omega⟩ hok.2.1.1 hw.1
    have hsr := srcR_mod (f := σ.F (rgOf σ e)) (len := σ.L (rgOf σ e)) (e := e) ⟨hin.2.2.2.1, hin.2.2.2.2⟩ hsh
    have hsb := srcR_b (f := σ.F (rgOf σ e)) (len := σ.L (rgOf σ e)) (e := e) ⟨hin.2.2.2.1, hin.2.2.2.2⟩ hsh
    refine z_aload_n S dX4_show_0 hl 0 rfl rfl ?_
    refine z_iload_n S dX4_show_1 hl 1 rfl rfl ?_
    refine z_callVs S hG (c_X4_rangeOf l G σ b th m1 m2 (e) (by omega)) ok_X4_rangeOf hP.1 zc_X4 rfl q5_52 (hP) ⟨rfl, rfl, by decide, by decide⟩ ⟨Nat.zero_le _, Nat.zero_le _⟩ rfl (Nat.le_of_ble_eq_true rfl) hl.1 rfl dX4_show_2 ?_
    refine z_istore_n (lv' := [(3, .int (zI (rgOf σ (e)))), (0, .ref (b 0)), (1, .int (zI (e))), (2, .int (zI (w)))]) S dX4_show_5 hl rfl (by decide) rfl (fun ls hl => ?_)
    refine z_iload_n S dX4_show_6 hl 0 rfl rfl ?_
    refine z_iconst S dX4_show_7 ?_
    refine z_icmp_ne_T S 18 dX4_show_8 (by decide) (by omega) (by omega) (by omega) ?_
    refine z_aload_n S dX4_show_18 hl 1 rfl rfl ?_
    refine z_get S hG hP.1 zc_X4 6 (by decide) q4_232 rfl rfl dX4_show_19 ?_
    refine z_iload_n S dX4_show_22 hl 0 rfl rfl ?_
    refine z_callVs S hG (c_alGet l G (b 3) (b 5) m1 σ.rn (elR σ b) (rgOf σ (e)) (b (8 + Int.toNat (rgOf σ (e)))) (if_pos (by omega)) (by omega) (by omega)) ok_Jx4a65c_get_915e3 hP.2.2.2.1 zc_Jx4a65c rfl q5_56 (⟨hP.2.2.2.1, hP.2.2.2.2.2.1 (by omega)⟩) ⟨rfl, rfl, by decide, by decide⟩ ⟨Nat.zero_le _, Nat.zero_le _⟩ rfl (Nat.le_of_ble_eq_true rfl) hl.1 rfl dX4_show_23 ?_
    refine z_castI S hG (hP.2.2.2.2.2.2.2.1 (rgOf σ (e)) (by omega) (by omega)) q5_68 dX4_show_26 ?_
    refine z_astore (lv' := [(4, .ref (b (8 + Int.toNat (rgOf σ (e))))), (3, .int (zI (rgOf σ (e)))), (0, .ref (b 0)), (1, .int (zI (e))), (2, .int (zI (w)))]) S dX4_show_29 hl (by decide) rfl (fun ls hl => ?_)
    refine z_aload_n S dX4_show_31 hl 2 rfl rfl ?_
    refine z_get S hG hP.1 zc_X4 4 (by decide) q4_230 rfl rfl dX4_show_32 ?_
    refine z_aload S dX4_show_35 hl 0 rfl ?_
    refine z_iconst S dX4_show_37 ?_
    refine z_ialdB S hG (hP.2.2.2.2.2.2.2.1 (rgOf σ (e)) (by omega) (by omega)) (by omega) (by decide) dX4_show_38 ?_
    rw [show r4 (σ.F (rgOf σ (e))) (σ.L (rgOf σ (e))) (σ.S (rgOf σ (e))) (σ.K (rgOf σ (e))) (0) = (σ.F (rgOf σ (e))) from rfl]
    refine z_iload_n S dX4_show_39 hl 3 rfl rfl ?_
    refine z_aload S dX4_show_40 hl 0 rfl ?_
    refine z_iconst S dX4_show_42 ?_
    refine z_ialdB S hG (hP.2.2.2.2.2.2.2.1 (rgOf σ (e)) (by omega) (by omega)) (by omega) (by decide) dX4_show_43 ?_
    rw [show r4 (σ.F (rgOf σ (e))) (σ.L (rgOf σ (e))) (σ.S (rgOf σ (e))) (σ.K (rgOf σ (e))) (0) = (σ.F (rgOf σ (e))) from rfl]
    refine z_isub S dX4_show_44 ?_
    refine z_aload S dX4_show_45 hl 0 rfl ?_
    refine z_iload_n S dX4_show_47 hl 4 rfl rfl ?_
    refine z_callSs S hG (c_X4_shift l G (b (8 + Int.toNat (rgOf σ (e)))) (σ.F (rgOf σ (e))) (σ.L (rgOf σ (e))) (σ.S (rgOf σ (e))) (σ.K (rgOf σ (e))) (w) (by omega) (by omega)) ok_X4_shift q5_121 (hP.2.2.2.2.2.2.2.1 (rgOf σ (e)) (by omega) (by omega)) ⟨rfl, rfl, by decide, by decide⟩ ⟨Nat.zero_le _, Nat.zero_le _⟩ rfl (Nat.le_of_ble_eq_true rfl) hl.1 rfl dX4_show_48 ?_
    refine z_isub S dX4_show_51 ?_
    refine z_aload S dX4_show_52 hl 0 rfl ?_
    refine z_iconst S dX4_show_54 ?_
    refine z_ialdB S hG (hP.2.2.2.2.2.2.2.1 (rgOf σ (e)) (by omega) (by omega)) (by omega) (by decide) dX4_show_55 ?_
    rw [show r4 (σ.F (rgOf σ (e))) (σ.L (rgOf σ (e))) (σ.S (rgOf σ (e))) (σ.K (rgOf σ (e))) (1) = (σ.L (rgOf σ (e))) from rfl]
    refine z_iadd S dX4_show_56 ?_
    refine z_aload S dX4_show_57 hl 0 rfl ?_
    refine z_iconst S dX4_show_59 ?_
    refine z_ialdB S hG (hP.2.2.2.2.2.2.2.1 (rgOf σ (e)) (by omega) (by omega)) (by omega) (by decide) dX4_show_60 ?_
    rw [show r4 (σ.F (rgOf σ (e))) (σ.L (rgOf σ (e))) (σ.S (rgOf σ (e))) (σ.K (rgOf σ (e))) (1) = (σ.L (rgOf σ (e))) from rfl]
    refine z_irem S dX4_show_61 (by omega) (by omega) ?_
    refine z_iadd S dX4_show_62 ?_
    refine z_iald S hG hP.2.1 (by omega) (by decide) dX4_show_63 ?_
    exact ret _ _ _ dX4_show_64 (by unfold shw src; rw [if_neg hc, ← hsr])
theorem dX4_roundOf_0 : decode cX4_roundOf 0 = .ok (.aload_n 0, 1) := by decide +kernel
theorem dX4_roundOf_1 : decode cX4_roundOf 1 = .ok (.iload_n 1, 1) := by decide +kernel
theorem dX4_roundOf_2 : decode cX4_roundOf 2 = .ok (.invokevirtual 51, 3) := by decide +kernel
theorem dX4_roundOf_5 : decode cX4_roundOf 5 = .ok (.iconst (-1), 1) := by decide +kernel
theorem dX4_roundOf_6 : decode cX4_roundOf 6 = .ok (.if_icmp .ne 7, 3) := by decide +kernel
theorem dX4_roundOf_9 : decode cX4_roundOf 9 = .ok (.iconst 1, 1) := by decide +kernel
theorem dX4_roundOf_10 : decode cX4_roundOf 10 = .ok (.goto 21, 3) := by decide +kernel
theorem dX4_roundOf_13 : decode cX4_roundOf 13 = .ok (.aload_n 0, 1) := by decide +kernel
theorem dX4_roundOf_14 : decode cX4_roundOf 14 = .ok (.getfield 23, 3) := by decide +kernel
theorem dX4_roundOf_17 : decode cX4_roundOf 17 = .ok (.aload_n 0, 1) := by decide +kernel
theorem dX4_roundOf_18 : decode cX4_roundOf 18 = .ok (.iload_n 1, 1) := by decide +kernel
theorem dX4_roundOf_19 : decode cX4_roundOf 19 = .ok (.invokevirtual 51, 3) := by decide +kernel
theorem dX4_roundOf_22 : decode cX4_roundOf 22 = .ok (.invokevirtual 46, 3) := by decide +kernel
theorem dX4_roundOf_25 : decode cX4_roundOf 25 = .ok (.checkcast 50, 3) := by decide +kernel
theorem dX4_roundOf_28 : decode cX4_roundOf 28 = .ok (.invokestatic 59, 3) := by decide +kernel
theorem dX4_roundOf_31 : decode cX4_roundOf 31 = .ok (.ireturn, 1) := by decide +kernel
theorem q5_157 : (Jvm.Cond.methodLink "CyclepaintModel" (59 : Nat) ({ cls := "CyclepaintModel", name := "round", desc := "([I)I" } : Jvm.MethodName)) ∈ lw_g := zg_of (zin5 (List.mem_of_getElem? (i := 157) rfl)) rfl
theorem q5_156 : (Jvm.Cond.code ({ cls := "CyclepaintModel", name := "roundOf", desc := "(I)I" } : Jvm.MethodName) prog_6_method_15_code (2 : Nat) (Option.some Jvm.ClassFile.FieldType.int)) ∈ lw_g := zg_of (zin5 (List.mem_of_getElem? (i := 156) rfl)) rfl
theorem q5_155 : (Jvm.Cond.instanceMethod ({ cls := "CyclepaintModel", name := "roundOf", desc := "(I)I" } : Jvm.MethodName)) ∈ lw_g := zg_of (zin5 (List.mem_of_getElem? (i := 155) rfl)) rfl
theorem qs_32 : Cond.selects "CyclepaintModel" (⟨"CyclepaintModel", "roundOf", "(I)I"⟩ : MethodName) (⟨"CyclepaintModel", "roundOf", "(I)I"⟩ : MethodName) ∈ lw_g := zg_of (zinS (List.mem_of_getElem? (i := 32) rfl)) rfl
theorem ok_X4_roundOf : zOV yX4_roundOf cX4_roundOf 2 ((Option.some Jvm.ClassFile.FieldType.int)) 1 := ⟨⟨q5_156, q1_3, by decide, by decide, by decide +kernel⟩, q5_155, qs_32⟩
set_option maxHeartbeats 4000000 in
set_option maxRecDepth 100000 in
theorem c_X4_roundOf (l : Launch) (G : zG) (σ : St) (b : Nat → Nat) (th m1 m2 : Int32) (e : Int) (he : 0 ≤ e ∧ e < 16) : Met l yX4_roundOf (wq yX4_roundOf cX4_roundOf 2 ((Option.some Jvm.ClassFile.FieldType.int))) (rmR 4 86) (va_Pc [.ref (b 0), .int (zI (e))] (zK G (hMod G σ b th m1 m2))) (zQ (some (.int ((zI (rndE σ e)))))) 0 0 zF := by
  refine z_enterI (by decide +kernel) (Nat.le_of_ble_eq_true rfl) ?_
  intro p env s m below meth cod Q S hG hP ret ls hl
  have hl : lv_has ls 2 [(0, .ref (b 0)), (1, .int (zI (e)))] := hl
  have hO := hP.2.2.2.2.2.2.2.2.2
  have hrn := hO.1
  by_cases hc : rgOf σ e = -1
  · skip
    refine z_aload_n S dX4_roundOf_0 hl 0 rfl rfl ?_
    refine z_iload_n S dX4_roundOf_1 hl 1 rfl rfl ?_
    refine z_callVs S hG (c_X4_rangeOf l G σ b th m1 m2 (e) (by omega)) ok_X4_rangeOf hP.1 zc_X4 rfl q5_52 (hP) ⟨rfl, rfl, by decide, by decide⟩ ⟨Nat.zero_le _, Nat.zero_le _⟩ rfl (Nat.le_of_ble_eq_true rfl) hl.1 rfl dX4_roundOf_2 ?_
    refine z_iconst S dX4_roundOf_5 ?_
    refine z_icmp_ne_F S 13 dX4_roundOf_6 (by decide) (by omega) (by omega) (by omega) ?_
    refine z_iconst S dX4_roundOf_9 ?_
    refine z_goto S 31 dX4_roundOf_10 (by decide) ?_
    exact ret _ _ _ dX4_roundOf_31 (by unfold rndE; first | rw [if_pos hc] | (rw [if_neg hc]; rfl))
  · skip
    have hin := rgOf_in hc
    have hok := hO.2 (rgOf σ e) hin.1 hin.2.2.1
    refine z_aload_n S dX4_roundOf_0 hl 0 rfl rfl ?_
    refine z_iload_n S dX4_roundOf_1 hl 1 rfl rfl ?_
    refine z_callVs S hG (c_X4_rangeOf l G σ b th m1 m2 (e) (by omega)) ok_X4_rangeOf hP.1 zc_X4 rfl q5_52 (hP) ⟨rfl, rfl, by decide, by decide⟩ ⟨Nat.zero_le _, Nat.zero_le _⟩ rfl (Nat.le_of_ble_eq_true rfl) hl.1 rfl dX4_roundOf_2 ?_
    refine z_iconst S dX4_roundOf_5 ?_
    refine z_icmp_ne_T S 13 dX4_roundOf_6 (by decide) (by omega) (by omega) (by omega) ?_
    refine z_aload_n S dX4_roundOf_13 hl 0 rfl rfl ?_
    refine z_get S hG hP.1 zc_X4 6 (by decide) q4_232 rfl rfl dX4_roundOf_14 ?_
    refine z_aload_n S dX4_roundOf_17 hl 0 rfl rfl ?_
    refine z_iload_n S dX4_roundOf_18 hl 1 rfl rfl ?_
    refine z_callVs S hG (c_X4_rangeOf l G σ b th m1 m2 (e) (by omega)) ok_X4_rangeOf hP.1 zc_X4 rfl q5_52 (hP) ⟨rfl, rfl, by decide, by decide⟩ ⟨Nat.zero_le _, Nat.zero_le _⟩ rfl (Nat.le_of_ble_eq_true rfl) hl.1 rfl dX4_roundOf_19 ?_
    refine z_callVs S hG (c_alGet l G (b 3) (b 5) m1 σ.rn (elR σ b) (rgOf σ (e)) (b (8 + Int.toNat (rgOf σ (e)))) (if_pos (by omega)) (by omega) (by omega)) ok_Jx4a65c_get_915e3 hP.2.2.2.1 zc_Jx4a65c rfl q5_56 (⟨hP.2.2.2.1, hP.2.2.2.2.2.1 (by omega)⟩) ⟨rfl, rfl, by decide, by decide⟩ ⟨Nat.zero_le _, Nat.zero_le _⟩ rfl (Nat.le_of_ble_eq_true rfl) hl.1 rfl dX4_roundOf_22 ?_
    refine z_castI S hG (hP.2.2.2.2.2.2.2.1 (rgOf σ (e)) (by omega) (by omega)) q5_68 dX4_roundOf_25 ?_
    refine z_callSs S hG (c_X4_round l G (b (8 + Int.toNat (rgOf σ (e)))) (σ.F (rgOf σ (e))) (σ.L (rgOf σ (e))) (σ.S (rgOf σ (e))) (σ.K (rgOf σ (e))) (by omega)) ok_X4_round q5_157 (hP.2.2.2.2.2.2.2.1 (rgOf σ (e)) (by omega) (by omega)) ⟨rfl, rfl, by decide, by decide⟩ ⟨Nat.zero_le _, Nat.zero_le _⟩ rfl (Nat.le_of_ble_eq_true rfl) hl.1 rfl dX4_roundOf_28 ?_
    exact ret _ _ _ dX4_roundOf_31 (by unfold rndE; first | rw [if_pos hc] | (rw [if_neg hc]; rfl))
end
section
theorem dX4_isStill_0 : decode cX4_isStill 0 = .ok (.iconst 0, 1) := by decide +kernel
theorem dX4_isStill_1 : decode cX4_isStill 1 = .ok (.istore_n 2, 1) := by decide +kernel
theorem dX4_isStill_2 : decode cX4_isStill 2 = .ok (.iload_n 2, 1) := by decide +kernel
theorem dX4_isStill_3 : decode cX4_isStill 3 = .ok (.aload_n 0, 1) := by decide +kernel
theorem dX4_isStill_4 : decode cX4_isStill 4 = .ok (.iload_n 1, 1) := by decide +kernel
theorem dX4_isStill_5 : decode cX4_isStill 5 = .ok (.invokevirtual 81, 3) := by decide +kernel
theorem dX4_isStill_8 : decode cX4_isStill 8 = .ok (.if_icmp .ge 26, 3) := by decide +kernel
theorem dX4_isStill_11 : decode cX4_isStill 11 = .ok (.aload_n 0, 1) := by decide +kernel
theorem dX4_isStill_12 : decode cX4_isStill 12 = .ok (.iload_n 1, 1) := by decide +kernel
theorem dX4_isStill_13 : decode cX4_isStill 13 = .ok (.iload_n 2, 1) := by decide +kernel
theorem dX4_isStill_14 : decode cX4_isStill 14 = .ok (.invokevirtual 84, 3) := by decide +kernel
theorem dX4_isStill_17 : decode cX4_isStill 17 = .ok (.aload_n 0, 1) := by decide +kernel
theorem dX4_isStill_18 : decode cX4_isStill 18 = .ok (.iload_n 1, 1) := by decide +kernel
theorem dX4_isStill_19 : decode cX4_isStill 19 = .ok (.iconst 0, 1) := by decide +kernel
theorem dX4_isStill_20 : decode cX4_isStill 20 = .ok (.invokevirtual 84, 3) := by decide +kernel
theorem dX4_isStill_23 : decode cX4_isStill 23 = .ok (.if_icmp .eq 5, 3) := by decide +kernel
theorem dX4_isStill_26 : decode cX4_isStill 26 = .ok (.iconst 0, 1) := by decide +kernel
theorem dX4_isStill_27 : decode cX4_isStill 27 = .ok (.ireturn, 1) := by decide +kernel
theorem dX4_isStill_28 : decode cX4_isStill 28 = .ok (.iinc 2 1, 3) := by decide +kernel
theorem dX4_isStill_31 : decode cX4_isStill 31 = .ok (.goto (-29), 3) := by decide +kernel
theorem dX4_isStill_34 : decode cX4_isStill 34 = .ok (.iconst 1, 1) := by decide +kernel
theorem dX4_isStill_35 : decode cX4_isStill 35 = .ok (.ireturn, 1) := by decide +kernel
theorem q5_153 : (Jvm.Cond.methodLink "CyclepaintModel" (81 : Nat) ({ cls := "CyclepaintModel", name := "roundOf", desc := "(I)I" } : Jvm.MethodName)) ∈ lw_g := zg_of (zin5 (List.mem_of_getElem? (i := 153) rfl)) rfl
theorem q5_163 : (Jvm.Cond.methodLink "CyclepaintModel" (84 : Nat) ({ cls := "CyclepaintModel", name := "show", desc := "(II)I" } : Jvm.MethodName)) ∈ lw_g := zg_of (zin5 (List.mem_of_getElem? (i := 163) rfl)) rfl
theorem q5_225 : (Jvm.Cond.code ({ cls := "CyclepaintModel", name := "isStill", desc := "(I)Z" } : Jvm.MethodName) prog_6_method_18_code (3 : Nat) (Option.some Jvm.ClassFile.FieldType.boolean)) ∈ lw_g := zg_of (zin5 (List.mem_of_getElem? (i := 225) rfl)) rfl
theorem q5_224 : (Jvm.Cond.instanceMethod ({ cls := "CyclepaintModel", name := "isStill", desc := "(I)Z" } : Jvm.MethodName)) ∈ lw_g := zg_of (zin5 (List.mem_of_getElem? (i := 224) rfl)) rfl
theorem qs_38 : Cond.selects "CyclepaintModel" (⟨"CyclepaintModel", "isStill", "(I)Z"⟩ : MethodName) (⟨"CyclepaintModel", "isStill", "(I)Z"⟩ : MethodName) ∈ lw_g := zg_of (zinS (List.mem_of_getElem? (i := 38) rfl)) rfl
theorem ok_X4_isStill : zOV yX4_isStill cX4_isStill 3 ((Option.some Jvm.ClassFile.FieldType.boolean)) 1 := ⟨⟨q5_225, q1_3, by decide, by decide, by decide +kernel⟩, q5_224, qs_38⟩
set_option maxHeartbeats 4000000 in
set_option maxRecDepth 100000 in
theorem c_X4_isStill (l : Launch) (G : zG) (σ : St) (b : Nat → Nat) (th m1 m2 : Int32) (e : Int) (he : 0 ≤ e ∧ e < 16) : Met l yX4_isStill (wq yX4_isStill cX4_isStill 3 ((Option.some Jvm.ClassFile.FieldType.boolean))) (rmR 5 110) (va_Pc [.ref (b 0), .int (zI (e))] (zK G (hMod G σ b th m1 m2))) (zQ (some (.int (bI (stlM σ e))))) 0 0 zF := by
  refine z_enterB (by decide +kernel) (Nat.le_of_ble_eq_true rfl) ?_
  intro p env s m below meth cod Q S hG hP ret ls hl
  have hl : lv_has ls 3 [(0, .ref (b 0)), (1, .int (zI (e)))] := hl
  have hO := hP.2.2.2.2.2.2.2.2.2
  have hrn := hO.1
  have hb1 := rndE_b hO e
  refine z_iconst S dX4_isStill_0 ?_
  refine z_istore_n (lv' := [(2, .int (zI (0))), (0, .ref (b 0)), (1, .int (zI (e)))]) S dX4_isStill_1 hl rfl (by decide) rfl (fun ls hl => ?_)
  have loop_2 : ∀ (nn : Nat) (k : Int), (0 ≤ k ∧ k ≤ rndE σ e) → (∀ t : Int, 0 ≤ t → t < k → (fun t => decide (shw σ e t = shw σ e 0)) t = true) → ((rndE σ e - k).toNat) < nn → ∀ ls, lv_has ls 3 [(2, .int (zI (k))), (0, .ref (b 0)), (1, .int (zI (e)))] → W p l env (rmR 5 110) s m ([.ref (b 0), .int (zI (e))] : List Value).toArray below meth cod s.heap [] 0 0 Q (F0 m 2 ls []) := by
    intro nn
    induction nn with
    | zero => intro _ _ _ h; exact absurd h (Nat.not_lt_zero _)
    | succ nn ih_2 =>
      intro k hk hI hm_2 ls hl
      refine z_iload_n S dX4_isStill_2 hl 0 rfl rfl ?_
      refine z_aload_n S dX4_isStill_3 hl 1 rfl rfl ?_
      refine z_iload_n S dX4_isStill_4 hl 2 rfl rfl ?_
      refine z_callVs S hG (c_X4_roundOf l G σ b th m1 m2 (e) (by omega)) ok_X4_roundOf hP.1 zc_X4 rfl q5_153 (hP) ⟨rfl, rfl, by decide, by decide⟩ ⟨Nat.zero_le _, Nat.zero_le _⟩ rfl (Nat.le_of_ble_eq_true rfl) hl.1 rfl dX4_isStill_5 ?_
      refine z_icmp_ge S 34 dX4_isStill_8 (by decide) (by omega) (by omega) (fun c_8 => ?_) (fun c_8 => ?_)
      · skip
        refine z_iconst S dX4_isStill_34 ?_
        exact ret _ _ _ dX4_isStill_35 (by rw [show stlM σ e = true from allI_iff.mpr (fun t h0 h1 => hI t h0 (by omega))]; rfl)
      · skip
        have c_8x : k < rndE σ e := by omega
        refine z_aload_n S dX4_isStill_11 hl 1 rfl rfl ?_
        refine z_iload_n S dX4_isStill_12 hl 2 rfl rfl ?_
        refine z_iload_n S dX4_isStill_13 hl 0 rfl rfl ?_
        refine z_callVs S hG (c_X4_show l G σ b th m1 m2 (e) (k) (by omega) (by omega)) ok_X4_show hP.1 zc_X4 rfl q5_163 (hP) ⟨rfl, rfl, by decide, by decide⟩ ⟨Nat.zero_le _, Nat.zero_le _⟩ rfl (Nat.le_of_ble_eq_true rfl) hl.1 rfl dX4_isStill_14 ?_
        refine z_aload_n S dX4_isStill_17 hl 1 rfl rfl ?_
        refine z_iload_n S dX4_isStill_18 hl 2 rfl rfl ?_
        refine z_iconst S dX4_isStill_19 ?_
        refine z_callVs S hG (c_X4_show l G σ b th m1 m2 (e) (0) (by omega) (by omega)) ok_X4_show hP.1 zc_X4 rfl q5_163 (hP) ⟨rfl, rfl, by decide, by decide⟩ ⟨Nat.zero_le _, Nat.zero_le _⟩ rfl (Nat.le_of_ble_eq_true rfl) hl.1 rfl dX4_isStill_20 ?_
        refine lv_icmp_eq (tgt := 28) S.1 S.2.1 dX4_isStill_23 (by decide) (fun c_23 => ?_) (fun c_23 => ?_)
        · skip
          refine z_iinc (lv' := [(2, .int (zI (k + 1))), (0, .ref (b 0)), (1, .int (zI (e)))]) S dX4_isStill_28 hl 0 rfl (by decide) rfl (fun ls hl => ?_)
          refine z_goto S 2 dX4_isStill_31 (by decide) ?_
          exact ih_2 (k + 1) (by omega) (lt_stp hI (by simp [c_23])) (by omega) ls (lv_sub hl [0, 1, 2] rfl)
        · skip
          refine z_iconst S dX4_isStill_26 ?_
          exact ret _ _ _ dX4_isStill_27 (by rw [show stlM σ e = false from allI_no hk.1 c_8x (by simp [c_23])]; rfl)
  exact loop_2 _ (0) (by omega) (lt_st0) (Nat.lt_succ_self _) ls (lv_sub hl [0, 1, 2] rfl)
theorem dX4_areTwins_0 : decode cX4_areTwins 0 = .ok (.aload_n 0, 1) := by decide +kernel
theorem dX4_areTwins_1 : decode cX4_areTwins 1 = .ok (.iload_n 1, 1) := by decide +kernel
theorem dX4_areTwins_2 : decode cX4_areTwins 2 = .ok (.invokevirtual 81, 3) := by decide +kernel
theorem dX4_areTwins_5 : decode cX4_areTwins 5 = .ok (.aload_n 0, 1) := by decide +kernel
theorem dX4_areTwins_6 : decode cX4_areTwins 6 = .ok (.iload_n 2, 1) := by decide +kernel
theorem dX4_areTwins_7 : decode cX4_areTwins 7 = .ok (.invokevirtual 81, 3) := by decide +kernel
theorem dX4_areTwins_10 : decode cX4_areTwins 10 = .ok (.invokestatic 77, 3) := by decide +kernel
theorem dX4_areTwins_13 : decode cX4_areTwins 13 = .ok (.istore_n 3, 1) := by decide +kernel
theorem dX4_areTwins_14 : decode cX4_areTwins 14 = .ok (.iconst 0, 1) := by decide +kernel
theorem dX4_areTwins_15 : decode cX4_areTwins 15 = .ok (.istore 4, 2) := by decide +kernel
theorem dX4_areTwins_17 : decode cX4_areTwins 17 = .ok (.iload 4, 2) := by decide +kernel
theorem dX4_areTwins_19 : decode cX4_areTwins 19 = .ok (.iload_n 3, 1) := by decide +kernel
theorem dX4_areTwins_20 : decode cX4_areTwins 20 = .ok (.if_icmp .ge 28, 3) := by decide +kernel
theorem dX4_areTwins_23 : decode cX4_areTwins 23 = .ok (.aload_n 0, 1) := by decide +kernel
theorem dX4_areTwins_24 : decode cX4_areTwins 24 = .ok (.iload_n 1, 1) := by decide +kernel
theorem dX4_areTwins_25 : decode cX4_areTwins 25 = .ok (.iload 4, 2) := by decide +kernel
theorem dX4_areTwins_27 : decode cX4_areTwins 27 = .ok (.invokevirtual 84, 3) := by decide +kernel
theorem dX4_areTwins_30 : decode cX4_areTwins 30 = .ok (.aload_n 0, 1) := by decide +kernel
theorem dX4_areTwins_31 : decode cX4_areTwins 31 = .ok (.iload_n 2, 1) := by decide +kernel
theorem dX4_areTwins_32 : decode cX4_areTwins 32 = .ok (.iload 4, 2) := by decide +kernel
theorem dX4_areTwins_34 : decode cX4_areTwins 34 = .ok (.invokevirtual 84, 3) := by decide +kernel
theorem dX4_areTwins_37 : decode cX4_areTwins 37 = .ok (.if_icmp .eq 5, 3) := by decide +kernel
theorem dX4_areTwins_40 : decode cX4_areTwins 40 = .ok (.iconst 0, 1) := by decide +kernel
theorem dX4_areTwins_41 : decode cX4_areTwins 41 = .ok (.ireturn, 1) := by decide +kernel
theorem dX4_areTwins_42 : decode cX4_areTwins 42 = .ok (.iinc 4 1, 3) := by decide +kernel
theorem dX4_areTwins_45 : decode cX4_areTwins 45 = .ok (.goto (-28), 3) := by decide +kernel
theorem dX4_areTwins_48 : decode cX4_areTwins 48 = .ok (.iconst 1, 1) := by decide +kernel
theorem dX4_areTwins_49 : decode cX4_areTwins 49 = .ok (.ireturn, 1) := by decide +kernel
theorem q5_160 : (Jvm.Cond.methodLink "CyclepaintModel" (77 : Nat) ({ cls := "CyclepaintModel", name := "common", desc := "(II)I" } : Jvm.MethodName)) ∈ lw_g := zg_of (zin5 (List.mem_of_getElem? (i := 160) rfl)) rfl
theorem q5_152 : (Jvm.Cond.code ({ cls := "CyclepaintModel", name := "areTwins", desc := "(II)Z" } : Jvm.MethodName) prog_6_method_19_code (5 : Nat) (Option.some Jvm.ClassFile.FieldType.boolean)) ∈ lw_g := zg_of (zin5 (List.mem_of_getElem? (i := 152) rfl)) rfl
theorem q5_151 : (Jvm.Cond.instanceMethod ({ cls := "CyclepaintModel", name := "areTwins", desc := "(II)Z" } : Jvm.MethodName)) ∈ lw_g := zg_of (zin5 (List.mem_of_getElem? (i := 151) rfl)) rfl
theorem qs_31 : Cond.selects "CyclepaintModel" (⟨"CyclepaintModel", "areTwins", "(II)Z"⟩ : MethodName) (⟨"CyclepaintModel", "areTwins", "(II)Z"⟩ : MethodName) ∈ lw_g := zg_of (zinS (List.mem_of_getElem? (i := 31) rfl)) rfl
theorem ok_X4_areTwins : zOV yX4_areTwins cX4_areTwins 5 ((Option.some Jvm.ClassFile.FieldType.boolean)) 2 := ⟨⟨q5_152, q1_3, by decide, by decide, by decide +kernel⟩, q5_151, qs_31⟩
set_option maxHeartbeats 4000000 in
set_option maxRecDepth 100000 in
theorem c_X4_areTwins (l : Launch) (G : zG) (σ : St) (b : Nat → Nat) (th m1 m2 : Int32) (x y : Int) (hx : 0 ≤ x ∧ x < 16) (hy : 0 ≤ y ∧ y < 16) : Met l yX4_areTwins (wq yX4_areTwins cX4_areTwins 5 ((Option.some Jvm.ClassFile.FieldType.boolean))) (rmR 5 110) (va_Pc [.ref (b 0), .int (zI (x)), .int (zI (y))] (zK G (hMod G σ b th m1 m2))) (zQ (some (.int (bI (twnM σ x y))))) 0 0 zF := by
  refine z_enterB (by decide +kernel) (Nat.le_of_ble_eq_true rfl) ?_
  intro p env s m below meth cod Q S hG hP ret ls hl
  have hl : lv_has ls 5 [(0, .ref (b 0)), (1, .int (zI (x))), (2, .int (zI (y)))] := hl
  have hO := hP.2.2.2.2.2.2.2.2.2
  have hrn := hO.1
  have hb1 := rndE_b hO x
  have hb2 := rndE_b hO y
  have hxy : rndE σ x * rndE σ y ≤ 72900 := Int.le_trans (Int.mul_le_mul hb1.2 hb2.2 (by omega) (by omega)) (by omega)
  have hlb := lcI_b (a := rndE σ x) (b := rndE σ y) hb1.1 hb2.1
  refine z_aload_n S dX4_areTwins_0 hl 0 rfl rfl ?_
  refine z_iload_n S dX4_areTwins_1 hl 1 rfl rfl ?_
  refine z_callVs S hG (c_X4_roundOf l G σ b th m1 m2 (x) (by omega)) ok_X4_roundOf hP.1 zc_X4 rfl q5_153 (hP) ⟨rfl, rfl, by decide, by decide⟩ ⟨Nat.zero_le _, Nat.zero_le _⟩ rfl (Nat.le_of_ble_eq_true rfl) hl.1 rfl dX4_areTwins_2 ?_
  refine z_aload_n S dX4_areTwins_5 hl 0 rfl rfl ?_
  refine z_iload_n S dX4_areTwins_6 hl 2 rfl rfl ?_
  refine z_callVs S hG (c_X4_roundOf l G σ b th m1 m2 (y) (by omega)) ok_X4_roundOf hP.1 zc_X4 rfl q5_153 (hP) ⟨rfl, rfl, by decide, by decide⟩ ⟨Nat.zero_le _, Nat.zero_le _⟩ rfl (Nat.le_of_ble_eq_true rfl) hl.1 rfl dX4_areTwins_7 ?_
  refine z_callSs S hG (c_X4_common l G (rndE σ (x)) (rndE σ (y)) (by omega) (by omega)) ok_X4_common q5_160 (trivial) ⟨rfl, rfl, by decide, by decide⟩ ⟨Nat.zero_le _, Nat.zero_le _⟩ rfl (Nat.le_of_ble_eq_true rfl) hl.1 rfl dX4_areTwins_10 ?_
  refine z_istore_n (lv' := [(3, .int (zI (lcI (rndE σ (x)) (rndE σ (y))))), (0, .ref (b 0)), (1, .int (zI (x))), (2, .int (zI (y)))]) S dX4_areTwins_13 hl rfl (by decide) rfl (fun ls hl => ?_)
  refine z_iconst S dX4_areTwins_14 ?_
  refine z_istore (lv' := [(4, .int (zI (0))), (3, .int (zI (lcI (rndE σ (x)) (rndE σ (y))))), (0, .ref (b 0)), (1, .int (zI (x))), (2, .int (zI (y)))]) S dX4_areTwins_15 hl (by decide) rfl (fun ls hl => ?_)
  have loop_17 : ∀ (nn : Nat) (k : Int), (0 ≤ k ∧ k ≤ lcI (rndE σ x) (rndE σ y)) → (∀ t : Int, 0 ≤ t → t < k → twnB σ x y t = true) → ((lcI (rndE σ x) (rndE σ y) - k).toNat) < nn → ∀ ls, lv_has ls 5 [(4, .int (zI (k))), (3, .int (zI (lcI (rndE σ (x)) (rndE σ (y))))), (0, .ref (b 0)), (1, .int (zI (x))), (2, .int (zI (y)))] → W p l env (rmR 5 110) s m ([.ref (b 0), .int (zI (x)), .int (zI (y))] : List Value).toArray below meth cod s.heap [] 0 0 Q (F0 m 17 ls []) := by
    intro nn
    induction nn with
    | zero => intro _ _ _ h; exact absurd h (Nat.not_lt_zero _)
    | succ nn ih_17 =>
      intro k hk hI hm_17 ls hl
      refine z_iload S dX4_areTwins_17 hl 0 rfl ?_
      refine z_iload_n S dX4_areTwins_19 hl 1 rfl rfl ?_
      refine z_icmp_ge S 48 dX4_areTwins_20 (by decide) (by omega) (by omega) (fun c_20 => ?_) (fun c_20 => ?_)
      · skip
        refine z_iconst S dX4_areTwins_48 ?_
        exact ret _ _ _ dX4_areTwins_49 (by rw [show twnM σ x y = true from allI_iff.mpr (fun t h0 h1 => hI t h0 (by omega))]; rfl)
      · skip
        have c_20x : k < lcI (rndE σ x) (rndE σ y) := by omega
        refine z_aload_n S dX4_areTwins_23 hl 2 rfl rfl ?_
        refine z_iload_n S dX4_areTwins_24 hl 3 rfl rfl ?_
        refine z_iload S dX4_areTwins_25 hl 0 rfl ?_
        refine z_callVs S hG (c_X4_show l G σ b th m1 m2 (x) (k) (by omega) (by omega)) ok_X4_show hP.1 zc_X4 rfl q5_163 (hP) ⟨rfl, rfl, by decide, by decide⟩ ⟨Nat.zero_le _, Nat.zero_le _⟩ rfl (Nat.le_of_ble_eq_true rfl) hl.1 rfl dX4_areTwins_27 ?_
        refine z_aload_n S dX4_areTwins_30 hl 2 rfl rfl ?_
        refine z_iload_n S dX4_areTwins_31 hl 4 rfl rfl ?_
        refine z_iload S dX4_areTwins_32 hl 0 rfl ?_
        refine z_callVs S hG (c_X4_show l G σ b th m1 m2 (y) (k) (by omega) (by omega)) ok_X4_show hP.1 zc_X4 rfl q5_163 (hP) ⟨rfl, rfl, by decide, by decide⟩ ⟨Nat.zero_le _, Nat.zero_le _⟩ rfl (Nat.le_of_ble_eq_true rfl) hl.1 rfl dX4_areTwins_34 ?_
        refine lv_icmp_eq (tgt := 42) S.1 S.2.1 dX4_areTwins_37 (by decide) (fun c_37 => ?_) (fun c_37 => ?_)
        · skip
          refine z_iinc (lv' := [(4, .int (zI (k + 1))), (3, .int (zI (lcI (rndE σ (x)) (rndE σ (y))))), (0, .ref (b 0)), (1, .int (zI (x))), (2, .int (zI (y)))]) S dX4_areTwins_42 hl 0 rfl (by decide) rfl (fun ls hl => ?_)
          refine z_goto S 17 dX4_areTwins_45 (by decide) ?_
          exact ih_17 (k + 1) (by omega) (lt_stp hI (by unfold twnB; simp [c_37])) (by omega) ls (lv_sub hl [0, 1, 2, 3, 4] rfl)
        · skip
          refine z_iconst S dX4_areTwins_40 ?_
          exact ret _ _ _ dX4_areTwins_41 (by rw [show twnM σ x y = false from allI_no hk.1 c_20x (by unfold twnB; simp [c_37])]; rfl)
  exact loop_17 _ (0) (by omega) (lt_st0) (Nat.lt_succ_self _) ls (lv_sub hl [0, 1, 2, 3, 4] rfl)
theorem dX4_twins_0 : decode cX4_twins 0 = .ok (.iconst 0, 1) := by decide +kernel
theorem dX4_twins_1 : decode cX4_twins 1 = .ok (.istore_n 2, 1) := by decide +kernel
theorem dX4_twins_2 : decode cX4_twins 2 = .ok (.iconst 0, 1) := by decide +kernel
theorem dX4_twins_3 : decode cX4_twins 3 = .ok (.istore_n 3, 1) := by decide +kernel
theorem dX4_twins_4 : decode cX4_twins 4 = .ok (.iload_n 3, 1) := by decide +kernel
theorem dX4_twins_5 : decode cX4_twins 5 = .ok (.bipush 16, 2) := by decide +kernel
theorem dX4_twins_7 : decode cX4_twins 7 = .ok (.if_icmp .ge 28, 3) := by decide +kernel
theorem dX4_twins_10 : decode cX4_twins 10 = .ok (.iload_n 2, 1) := by decide +kernel
theorem dX4_twins_11 : decode cX4_twins 11 = .ok (.aload_n 0, 1) := by decide +kernel
theorem dX4_twins_12 : decode cX4_twins 12 = .ok (.iload_n 1, 1) := by decide +kernel
theorem dX4_twins_13 : decode cX4_twins 13 = .ok (.iload_n 3, 1) := by decide +kernel
theorem dX4_twins_14 : decode cX4_twins 14 = .ok (.invokevirtual 87, 3) := by decide +kernel
theorem dX4_twins_17 : decode cX4_twins 17 = .ok (.ifCond .eq 9, 3) := by decide +kernel
theorem dX4_twins_20 : decode cX4_twins 20 = .ok (.iconst 1, 1) := by decide +kernel
theorem dX4_twins_21 : decode cX4_twins 21 = .ok (.iload_n 3, 1) := by decide +kernel
theorem dX4_twins_22 : decode cX4_twins 22 = .ok (.ishl, 1) := by decide +kernel
theorem dX4_twins_23 : decode cX4_twins 23 = .ok (.goto 4, 3) := by decide +kernel
theorem dX4_twins_26 : decode cX4_twins 26 = .ok (.iconst 0, 1) := by decide +kernel
theorem dX4_twins_27 : decode cX4_twins 27 = .ok (.ior, 1) := by decide +kernel
theorem dX4_twins_28 : decode cX4_twins 28 = .ok (.istore_n 2, 1) := by decide +kernel
theorem dX4_twins_29 : decode cX4_twins 29 = .ok (.iinc 3 1, 3) := by decide +kernel
theorem dX4_twins_32 : decode cX4_twins 32 = .ok (.goto (-28), 3) := by decide +kernel
theorem dX4_twins_35 : decode cX4_twins 35 = .ok (.iload_n 2, 1) := by decide +kernel
theorem dX4_twins_36 : decode cX4_twins 36 = .ok (.ireturn, 1) := by decide +kernel
theorem q5_149 : (Jvm.Cond.methodLink "CyclepaintModel" (87 : Nat) ({ cls := "CyclepaintModel", name := "areTwins", desc := "(II)Z" } : Jvm.MethodName)) ∈ lw_g := zg_of (zin5 (List.mem_of_getElem? (i := 149) rfl)) rfl
theorem q5_148 : (Jvm.Cond.code ({ cls := "CyclepaintModel", name := "twins", desc := "(I)I" } : Jvm.MethodName) prog_6_method_20_code (4 : Nat) (Option.some Jvm.ClassFile.FieldType.int)) ∈ lw_g := zg_of (zin5 (List.mem_of_getElem? (i := 148) rfl)) rfl
theorem q5_147 : (Jvm.Cond.instanceMethod ({ cls := "CyclepaintModel", name := "twins", desc := "(I)I" } : Jvm.MethodName)) ∈ lw_g := zg_of (zin5 (List.mem_of_getElem? (i := 147) rfl)) rfl
theorem qs_30 : Cond.selects "CyclepaintModel" (⟨"CyclepaintModel", "twins", "(I)I"⟩ : MethodName) (⟨"CyclepaintModel", "twins", "(I)I"⟩ : MethodName) ∈ lw_g := zg_of (zinS (List.mem_of_getElem? (i := 30) rfl)) rfl
theorem ok_X4_twins : zOV yX4_twins cX4_twins 4 ((Option.some Jvm.ClassFile.FieldType.int)) 1 := ⟨⟨q5_148, q1_3, by decide, by decide, by decide +kernel⟩, q5_147, qs_30⟩
set_option maxHeartbeats 4000000 in
set_option maxRecDepth 100000 in
theorem c_X4_twins (l : Launch) (G : zG) (σ : St) (b : Nat → Nat) (th m1 m2 : Int32) (e : Int) (he : 0 ≤ e ∧ e < 16) : Met l yX4_twins (wq yX4_twins cX4_twins 4 ((Option.some Jvm.ClassFile.FieldType.int))) (rmR 6 134) (va_Pc [.ref (b 0), .int (zI (e))] (zK G (hMod G σ b th m1 m2))) (zQ (some (.int ((bstI (fun o => twnM σ e o) 16))))) 0 0 zF := by
  refine z_enterI (by decide +kernel) (Nat.le_of_ble_eq_true rfl) ?_
  intro p env s m below meth cod Q S hG hP ret ls hl
  have hl : lv_has ls 4 [(0, .ref (b 0)), (1, .int (zI (e)))] := hl
  have hO := hP.2.2.2.2.2.2.2.2.2
  have hrn := hO.1
  refine z_iconst S dX4_twins_0 ?_
  refine z_istore_n (lv' := [(2, .int (zI (0))), (0, .ref (b 0)), (1, .int (zI (e)))]) S dX4_twins_1 hl rfl (by decide) rfl (fun ls hl => ?_)
  refine z_iconst S dX4_twins_2 ?_
  refine z_istore_n (lv' := [(3, .int (zI (0))), (2, .int (zI (0))), (0, .ref (b 0)), (1, .int (zI (e)))]) S dX4_twins_3 hl rfl (by decide) rfl (fun ls hl => ?_)
  have loop_4 : ∀ (nn : Nat) (k : Int) (g : Int32), (0 ≤ k ∧ k ≤ 16) → (g = bstI (fun o => twnM σ e o) k) → ((16 - k).toNat) < nn → ∀ ls, lv_has ls 4 [(3, .int (zI (k))), (2, .int (g)), (0, .ref (b 0)), (1, .int (zI (e)))] → W p l env (rmR 6 134) s m ([.ref (b 0), .int (zI (e))] : List Value).toArray below meth cod s.heap [] 0 0 Q (F0 m 4 ls []) := by
    intro nn
    induction nn with
    | zero => intro _ _ _ _ h; exact absurd h (Nat.not_lt_zero _)
    | succ nn ih_4 =>
      intro k g hk hg hm_4 ls hl
      refine z_iload_n S dX4_twins_4 hl 0 rfl rfl ?_
      refine z_bipush S dX4_twins_5 rfl ?_
      refine z_icmp_ge S 35 dX4_twins_7 (by decide) (by omega) (by omega) (fun c_7 => ?_) (fun c_7 => ?_)
      · skip
        refine z_iload_n S dX4_twins_35 hl 1 rfl rfl ?_
        exact ret _ _ _ dX4_twins_36 (by rw [hg, show k = 16 by omega])
      · skip
        refine z_iload_n S dX4_twins_10 hl 1 rfl rfl ?_
        refine z_aload_n S dX4_twins_11 hl 2 rfl rfl ?_
        refine z_iload_n S dX4_twins_12 hl 3 rfl rfl ?_
        refine z_iload_n S dX4_twins_13 hl 0 rfl rfl ?_
        refine z_callVs S hG (c_X4_areTwins l G σ b th m1 m2 (e) (k) (by omega) (by omega)) ok_X4_areTwins hP.1 zc_X4 rfl q5_149 (hP) ⟨rfl, rfl, by decide, by decide⟩ ⟨Nat.zero_le _, Nat.zero_le _⟩ rfl (Nat.le_of_ble_eq_true rfl) hl.1 rfl dX4_twins_14 ?_
        refine z_bif_eq S 26 dX4_twins_17 (by decide) (fun c_17 => ?_) (fun c_17 => ?_)
        · skip
          refine z_iconst S dX4_twins_26 ?_
          refine lv_ior S.1 S.2.1 dX4_twins_27 ?_
          refine z_istore_n (lv' := [(2, .int ((g) ||| (zI (0)))), (3, .int (zI (k))), (0, .ref (b 0)), (1, .int (zI (e)))]) S dX4_twins_28 hl rfl (by decide) rfl (fun ls hl => ?_)
          refine z_iinc (lv' := [(3, .int (zI (k + 1))), (2, .int ((g) ||| (zI (0)))), (0, .ref (b 0)), (1, .int (zI (e)))]) S dX4_twins_29 hl 1 rfl (by decide) rfl (fun ls hl => ?_)
          refine z_goto S 4 dX4_twins_32 (by decide) ?_
          exact ih_4 (k + 1) ((g) ||| (zI (0))) (by omega) (by rw [bst_zero hk.1 c_17, ← hg]) (by omega) ls (lv_sub hl [0, 1, 2, 3] rfl)
        · skip
          refine z_iconst S dX4_twins_20 ?_
          refine z_iload_n S dX4_twins_21 hl 0 rfl rfl ?_
          refine lv_ishl S.1 S.2.1 dX4_twins_22 ?_
          refine z_goto S 27 dX4_twins_23 (by decide) ?_
          refine lv_ior S.1 S.2.1 dX4_twins_27 ?_
          refine z_istore_n (lv' := [(2, .int ((g) ||| ((zI (1)) <<< ((zI (k)) &&& 31)))), (3, .int (zI (k))), (0, .ref (b 0)), (1, .int (zI (e)))]) S dX4_twins_28 hl rfl (by decide) rfl (fun ls hl => ?_)
          refine z_iinc (lv' := [(3, .int (zI (k + 1))), (2, .int ((g) ||| ((zI (1)) <<< ((zI (k)) &&& 31)))), (0, .ref (b 0)), (1, .int (zI (e)))]) S dX4_twins_29 hl 1 rfl (by decide) rfl (fun ls hl => ?_)
          refine z_goto S 4 dX4_twins_32 (by decide) ?_
          exact ih_4 (k + 1) ((g) ||| ((zI (1)) <<< ((zI (k)) &&& 31))) (by omega) (by rw [bstI_s hk.1, if_pos c_17, ← hg]; rfl) (by omega) ls (lv_sub hl [0, 1, 2, 3] rfl)
  exact loop_4 _ (0) ((zI (0))) (by omega) (rfl) (Nat.lt_succ_self _) ls (lv_sub hl [0, 1, 2, 3] rfl)
theorem dJ6_numberOfTrailingZeros_0f7a4_0 : decode cJ6_numberOfTrailingZeros_0f7a4 0 = .ok (.iload_n 0, 1) := by decide +kernel
theorem dJ6_numberOfTrailingZeros_0f7a4_1 : decode cJ6_numberOfTrailingZeros_0f7a4 1 = .ok (.iconst (-1), 1) := by decide +kernel
theorem dJ6_numberOfTrailingZeros_0f7a4_2 : decode cJ6_numberOfTrailingZeros_0f7a4 2 = .ok (.ixor, 1) := by decide +kernel
theorem dJ6_numberOfTrailingZeros_0f7a4_3 : decode cJ6_numberOfTrailingZeros_0f7a4 3 = .ok (.iload_n 0, 1) := by decide +kernel
theorem dJ6_numberOfTrailingZeros_0f7a4_4 : decode cJ6_numberOfTrailingZeros_0f7a4 4 = .ok (.iconst 1, 1) := by decide +kernel
theorem dJ6_numberOfTrailingZeros_0f7a4_5 : decode cJ6_numberOfTrailingZeros_0f7a4 5 = .ok (.isub, 1) := by decide +kernel
theorem dJ6_numberOfTrailingZeros_0f7a4_6 : decode cJ6_numberOfTrailingZeros_0f7a4 6 = .ok (.iand, 1) := by decide +kernel
theorem dJ6_numberOfTrailingZeros_0f7a4_7 : decode cJ6_numberOfTrailingZeros_0f7a4 7 = .ok (.istore_n 0, 1) := by decide +kernel
theorem dJ6_numberOfTrailingZeros_0f7a4_8 : decode cJ6_numberOfTrailingZeros_0f7a4 8 = .ok (.iload_n 0, 1) := by decide +kernel
theorem dJ6_numberOfTrailingZeros_0f7a4_9 : decode cJ6_numberOfTrailingZeros_0f7a4 9 = .ok (.ifCond .gt 8, 3) := by decide +kernel
theorem dJ6_numberOfTrailingZeros_0f7a4_12 : decode cJ6_numberOfTrailingZeros_0f7a4 12 = .ok (.iload_n 0, 1) := by decide +kernel
theorem dJ6_numberOfTrailingZeros_0f7a4_13 : decode cJ6_numberOfTrailingZeros_0f7a4 13 = .ok (.bipush 32, 2) := by decide +kernel
theorem dJ6_numberOfTrailingZeros_0f7a4_15 : decode cJ6_numberOfTrailingZeros_0f7a4 15 = .ok (.iand, 1) := by decide +kernel
theorem dJ6_numberOfTrailingZeros_0f7a4_16 : decode cJ6_numberOfTrailingZeros_0f7a4 16 = .ok (.ireturn, 1) := by decide +kernel
theorem dJ6_numberOfTrailingZeros_0f7a4_17 : decode cJ6_numberOfTrailingZeros_0f7a4 17 = .ok (.iconst 1, 1) := by decide +kernel
theorem dJ6_numberOfTrailingZeros_0f7a4_18 : decode cJ6_numberOfTrailingZeros_0f7a4 18 = .ok (.istore_n 1, 1) := by decide +kernel
theorem dJ6_numberOfTrailingZeros_0f7a4_19 : decode cJ6_numberOfTrailingZeros_0f7a4 19 = .ok (.iload_n 0, 1) := by decide +kernel
theorem dJ6_numberOfTrailingZeros_0f7a4_20 : decode cJ6_numberOfTrailingZeros_0f7a4 20 = .ok (.ldc_w 264, 3) := by decide +kernel
theorem dJ6_numberOfTrailingZeros_0f7a4_23 : decode cJ6_numberOfTrailingZeros_0f7a4 23 = .ok (.if_icmp .le 11, 3) := by decide +kernel
theorem dJ6_numberOfTrailingZeros_0f7a4_26 : decode cJ6_numberOfTrailingZeros_0f7a4 26 = .ok (.iinc 1 16, 3) := by decide +kernel
theorem dJ6_numberOfTrailingZeros_0f7a4_29 : decode cJ6_numberOfTrailingZeros_0f7a4 29 = .ok (.iload_n 0, 1) := by decide +kernel
theorem dJ6_numberOfTrailingZeros_0f7a4_30 : decode cJ6_numberOfTrailingZeros_0f7a4 30 = .ok (.bipush 16, 2) := by decide +kernel
theorem dJ6_numberOfTrailingZeros_0f7a4_32 : decode cJ6_numberOfTrailingZeros_0f7a4 32 = .ok (.iushr, 1) := by decide +kernel
theorem dJ6_numberOfTrailingZeros_0f7a4_33 : decode cJ6_numberOfTrailingZeros_0f7a4 33 = .ok (.istore_n 0, 1) := by decide +kernel
theorem dJ6_numberOfTrailingZeros_0f7a4_34 : decode cJ6_numberOfTrailingZeros_0f7a4 34 = .ok (.iload_n 0, 1) := by decide +kernel
theorem dJ6_numberOfTrailingZeros_0f7a4_35 : decode cJ6_numberOfTrailingZeros_0f7a4 35 = .ok (.sipush 256, 3) := by decide +kernel
theorem dJ6_numberOfTrailingZeros_0f7a4_38 : decode cJ6_numberOfTrailingZeros_0f7a4 38 = .ok (.if_icmp .le 11, 3) := by decide +kernel
theorem dJ6_numberOfTrailingZeros_0f7a4_41 : decode cJ6_numberOfTrailingZeros_0f7a4 41 = .ok (.iinc 1 8, 3) := by decide +kernel
theorem dJ6_numberOfTrailingZeros_0f7a4_44 : decode cJ6_numberOfTrailingZeros_0f7a4 44 = .ok (.iload_n 0, 1) := by decide +kernel
theorem dJ6_numberOfTrailingZeros_0f7a4_45 : decode cJ6_numberOfTrailingZeros_0f7a4 45 = .ok (.bipush 8, 2) := by decide +kernel
theorem dJ6_numberOfTrailingZeros_0f7a4_47 : decode cJ6_numberOfTrailingZeros_0f7a4 47 = .ok (.iushr, 1) := by decide +kernel
theorem dJ6_numberOfTrailingZeros_0f7a4_48 : decode cJ6_numberOfTrailingZeros_0f7a4 48 = .ok (.istore_n 0, 1) := by decide +kernel
theorem dJ6_numberOfTrailingZeros_0f7a4_49 : decode cJ6_numberOfTrailingZeros_0f7a4 49 = .ok (.iload_n 0, 1) := by decide +kernel
theorem dJ6_numberOfTrailingZeros_0f7a4_50 : decode cJ6_numberOfTrailingZeros_0f7a4 50 = .ok (.bipush 16, 2) := by decide +kernel
theorem dJ6_numberOfTrailingZeros_0f7a4_52 : decode cJ6_numberOfTrailingZeros_0f7a4 52 = .ok (.if_icmp .le 10, 3) := by decide +kernel
theorem dJ6_numberOfTrailingZeros_0f7a4_55 : decode cJ6_numberOfTrailingZeros_0f7a4 55 = .ok (.iinc 1 4, 3) := by decide +kernel
theorem dJ6_numberOfTrailingZeros_0f7a4_58 : decode cJ6_numberOfTrailingZeros_0f7a4 58 = .ok (.iload_n 0, 1) := by decide +kernel
theorem dJ6_numberOfTrailingZeros_0f7a4_59 : decode cJ6_numberOfTrailingZeros_0f7a4 59 = .ok (.iconst 4, 1) := by decide +kernel
theorem dJ6_numberOfTrailingZeros_0f7a4_60 : decode cJ6_numberOfTrailingZeros_0f7a4 60 = .ok (.iushr, 1) := by decide +kernel
theorem dJ6_numberOfTrailingZeros_0f7a4_61 : decode cJ6_numberOfTrailingZeros_0f7a4 61 = .ok (.istore_n 0, 1) := by decide +kernel
theorem dJ6_numberOfTrailingZeros_0f7a4_62 : decode cJ6_numberOfTrailingZeros_0f7a4 62 = .ok (.iload_n 0, 1) := by decide +kernel
theorem dJ6_numberOfTrailingZeros_0f7a4_63 : decode cJ6_numberOfTrailingZeros_0f7a4 63 = .ok (.iconst 4, 1) := by decide +kernel
theorem dJ6_numberOfTrailingZeros_0f7a4_64 : decode cJ6_numberOfTrailingZeros_0f7a4 64 = .ok (.if_icmp .le 10, 3) := by decide +kernel
theorem dJ6_numberOfTrailingZeros_0f7a4_67 : decode cJ6_numberOfTrailingZeros_0f7a4 67 = .ok (.iinc 1 2, 3) := by decide +kernel
theorem dJ6_numberOfTrailingZeros_0f7a4_70 : decode cJ6_numberOfTrailingZeros_0f7a4 70 = .ok (.iload_n 0, 1) := by decide +kernel
theorem dJ6_numberOfTrailingZeros_0f7a4_71 : decode cJ6_numberOfTrailingZeros_0f7a4 71 = .ok (.iconst 2, 1) := by decide +kernel
theorem dJ6_numberOfTrailingZeros_0f7a4_72 : decode cJ6_numberOfTrailingZeros_0f7a4 72 = .ok (.iushr, 1) := by decide +kernel
theorem dJ6_numberOfTrailingZeros_0f7a4_73 : decode cJ6_numberOfTrailingZeros_0f7a4 73 = .ok (.istore_n 0, 1) := by decide +kernel
theorem dJ6_numberOfTrailingZeros_0f7a4_74 : decode cJ6_numberOfTrailingZeros_0f7a4 74 = .ok (.iload_n 1, 1) := by decide +kernel
theorem dJ6_numberOfTrailingZeros_0f7a4_75 : decode cJ6_numberOfTrailingZeros_0f7a4 75 = .ok (.iload_n 0, 1) := by decide +kernel
theorem dJ6_numberOfTrailingZeros_0f7a4_76 : decode cJ6_numberOfTrailingZeros_0f7a4 76 = .ok (.iconst 1, 1) := by decide +kernel
theorem dJ6_numberOfTrailingZeros_0f7a4_77 : decode cJ6_numberOfTrailingZeros_0f7a4 77 = .ok (.iushr, 1) := by decide +kernel
theorem dJ6_numberOfTrailingZeros_0f7a4_78 : decode cJ6_numberOfTrailingZeros_0f7a4 78 = .ok (.iadd, 1) := by decide +kernel
theorem dJ6_numberOfTrailingZeros_0f7a4_79 : decode cJ6_numberOfTrailingZeros_0f7a4 79 = .ok (.ireturn, 1) := by decide +kernel
theorem q5_170 : (Jvm.Cond.constant "java/lang/Integer" (264 : Nat) (65536 : Int32)) ∈ lw_g := zg_of (zin5 (List.mem_of_getElem? (i := 170) rfl)) rfl
theorem q5_169 : (Jvm.Cond.code ({ cls := "java/lang/Integer", name := "numberOfTrailingZeros", desc := "(I)I" } : Jvm.MethodName) prog_17_method_48_code (2 : Nat) (Option.some Jvm.ClassFile.FieldType.int)) ∈ lw_g := zg_of (zin5 (List.mem_of_getElem? (i := 169) rfl)) rfl
theorem q5_168 : (Jvm.Cond.static ({ cls := "java/lang/Integer", name := "numberOfTrailingZeros", desc := "(I)I" } : Jvm.MethodName)) ∈ lw_g := zg_of (zin5 (List.mem_of_getElem? (i := 168) rfl)) rfl
theorem ok_J6_numberOfTrailingZeros_0f7a4 : zOS yJ6_numberOfTrailingZeros_0f7a4 cJ6_numberOfTrailingZeros_0f7a4 2 ((Option.some Jvm.ClassFile.FieldType.int)) 1 := ⟨⟨q5_169, q1_22, by decide, by decide, by decide +kernel⟩, q5_168⟩
set_option maxHeartbeats 4000000 in
set_option maxRecDepth 100000 in
theorem c_ntz (l : Launch) (G : zG) (x : Int32) (k : Int) (hk : 0 ≤ k ∧ k ≤ 15) (hx : (x ^^^ zI (-1)) &&& (x - zI 1) = zI (2 ^ k.toNat - 1)) : Met l yJ6_numberOfTrailingZeros_0f7a4 (wq yJ6_numberOfTrailingZeros_0f7a4 cJ6_numberOfTrailingZeros_0f7a4 2 ((Option.some Jvm.ClassFile.FieldType.int))) (rmR 0 0) (va_Pc [.int (x)] (zK G (fun _ => True))) (zQ (some (.int ((zI (k)))))) 0 0 zF := by
  refine z_enterI (by decide +kernel) (Nat.le_of_ble_eq_true rfl) ?_
  intro p env s m below meth cod Q S hG hP ret ls hl
  have hl : lv_has ls 2 [(0, .int (x))] := hl
  rcases (show k = 0 ∨ k = 1 ∨ k = 2 ∨ k = 3 ∨ k = 4 ∨ k = 5 ∨ k = 6 ∨ k = 7 ∨ k = 8 ∨ k = 9 ∨ k = 10 ∨ k = 11 ∨ k = 12 ∨ k = 13 ∨ k = 14 ∨ k = 15 by omega) with rfl | rfl | rfl | rfl | rfl | rfl | rfl | rfl | rfl | rfl | rfl | rfl | rfl | rfl | rfl | rfl
  · skip
    refine z_iload_n S dJ6_numberOfTrailingZeros_0f7a4_0 hl 0 rfl rfl ?_
    refine z_iconst S dJ6_numberOfTrailingZeros_0f7a4_1 ?_
    refine lv_ixor S.1 S.2.1 dJ6_numberOfTrailingZeros_0f7a4_2 ?_
    refine z_iload_n S dJ6_numberOfTrailingZeros_0f7a4_3 hl 0 rfl rfl ?_
    refine z_iconst S dJ6_numberOfTrailingZeros_0f7a4_4 ?_
    refine lv_isub S.1 S.2.1 dJ6_numberOfTrailingZeros_0f7a4_5 ?_
    refine lv_iand S.1 S.2.1 dJ6_numberOfTrailingZeros_0f7a4_6 ?_
    rw [hx]
    rw [show zI (2 ^ Int.toNat 0 - 1) = zI 0 from rfl]
    refine z_istore_n (lv' := [(0, .int (zI (0)))]) S dJ6_numberOfTrailingZeros_0f7a4_7 hl rfl (by decide) rfl (fun ls hl => ?_)
    refine z_iload_n S dJ6_numberOfTrailingZeros_0f7a4_8 hl 0 rfl rfl ?_
    refine z_if_gt_F S 17 dJ6_numberOfTrailingZeros_0f7a4_9 (by decide) (by omega) (by omega) ?_
    refine z_iload_n S dJ6_numberOfTrailingZeros_0f7a4_12 hl 0 rfl rfl ?_
    refine z_bipush S dJ6_numberOfTrailingZeros_0f7a4_13 rfl ?_
    refine lv_iand S.1 S.2.1 dJ6_numberOfTrailingZeros_0f7a4_15 ?_
    rw [show zI 0 &&& zI 32 = zI 0 from by decide]
    exact ret _ _ _ dJ6_numberOfTrailingZeros_0f7a4_16 (by decide)
  · skip
    refine z_iload_n S dJ6_numberOfTrailingZeros_0f7a4_0 hl 0 rfl rfl ?_
    refine z_iconst S dJ6_numberOfTrailingZeros_0f7a4_1 ?_
    refine lv_ixor S.1 S.2.1 dJ6_numberOfTrailingZeros_0f7a4_2 ?_
    refine z_iload_n S dJ6_numberOfTrailingZeros_0f7a4_3 hl 0 rfl rfl ?_
    refine z_iconst S dJ6_numberOfTrailingZeros_0f7a4_4 ?_
    refine lv_isub S.1 S.2.1 dJ6_numberOfTrailingZeros_0f7a4_5 ?_
    refine lv_iand S.1 S.2.1 dJ6_numberOfTrailingZeros_0f7a4_6 ?_
    rw [hx]
    rw [show zI (2 ^ Int.toNat 1 - 1) = zI 1 from rfl]
    refine z_istore_n (lv' := [(0, .int (zI (1)))]) S dJ6_numberOfTrailingZeros_0f7a4_7 hl rfl (by decide) rfl (fun ls hl => ?_)
    refine z_iload_n S dJ6_numberOfTrailingZeros_0f7a4_8 hl 0 rfl rfl ?_
    refine z_if_gt_T S 17 dJ6_numberOfTrailingZeros_0f7a4_9 (by decide) (by omega) (by omega) ?_
    refine z_iconst S dJ6_numberOfTrailingZeros_0f7a4_17 ?_
    refine z_istore_n (lv' := [(1, .int (zI (1))), (0, .int (zI (1)))]) S dJ6_numberOfTrailingZeros_0f7a4_18 hl rfl (by decide) rfl (fun ls hl => ?_)
    refine z_iload_n S dJ6_numberOfTrailingZeros_0f7a4_19 hl 1 rfl rfl ?_
    refine lv_ldcw S.1 S.2.1 S.2.2.2.1 (S.2.2.2.2 _ q5_170) dJ6_numberOfTrailingZeros_0f7a4_20 ?_
    refine lv_icmp_le (tgt := 34) S.1 S.2.1 dJ6_numberOfTrailingZeros_0f7a4_23 (by decide) (fun c_23 => ?_) (fun c_23 => ?_)
    rotate_left
    · exact absurd (by decide) c_23
    refine z_iload_n S dJ6_numberOfTrailingZeros_0f7a4_34 hl 1 rfl rfl ?_
    refine z_sipush S dJ6_numberOfTrailingZeros_0f7a4_35 rfl ?_
    refine z_icmp_le_T S 49 dJ6_numberOfTrailingZeros_0f7a4_38 (by decide) (by omega) (by omega) (by omega) ?_
    refine z_iload_n S dJ6_numberOfTrailingZeros_0f7a4_49 hl 1 rfl rfl ?_
    refine z_bipush S dJ6_numberOfTrailingZeros_0f7a4_50 rfl ?_
    refine z_icmp_le_T S 62 dJ6_numberOfTrailingZeros_0f7a4_52 (by decide) (by omega) (by omega) (by omega) ?_
    refine z_iload_n S dJ6_numberOfTrailingZeros_0f7a4_62 hl 1 rfl rfl ?_
    refine z_iconst S dJ6_numberOfTrailingZeros_0f7a4_63 ?_
    refine z_icmp_le_T S 74 dJ6_numberOfTrailingZeros_0f7a4_64 (by decide) (by omega) (by omega) (by omega) ?_
    refine z_iload_n S dJ6_numberOfTrailingZeros_0f7a4_74 hl 0 rfl rfl ?_
    refine z_iload_n S dJ6_numberOfTrailingZeros_0f7a4_75 hl 1 rfl rfl ?_
    refine z_iconst S dJ6_numberOfTrailingZeros_0f7a4_76 ?_
    refine lv_iushr S.1 S.2.1 dJ6_numberOfTrailingZeros_0f7a4_77 (v := zI 0) (by decide) ?_
    refine z_iadd S dJ6_numberOfTrailingZeros_0f7a4_78 ?_
    exact ret _ _ _ dJ6_numberOfTrailingZeros_0f7a4_79 (by decide)
  · skip
    refine z_iload_n S dJ6_numberOfTrailingZeros_0f7a4_0 hl 0 rfl rfl ?_
    refine z_iconst S dJ6_numberOfTrailingZeros_0f7a4_1 ?_
    refine lv_ixor S.1 S.2.1 dJ6_numberOfTrailingZeros_0f7a4_2 ?_
    refine z_iload_n S dJ6_numberOfTrailingZeros_0f7a4_3 hl 0 rfl rfl ?_
    refine z_iconst S dJ6_numberOfTrailingZeros_0f7a4_4 ?_
    refine lv_isub S.1 S.2.1 dJ6_numberOfTrailingZeros_0f7a4_5 ?_
    refine lv_iand S.1 S.2.1 dJ6_numberOfTrailingZeros_0f7a4_6 ?_
    rw [hx]
    rw [show zI (2 ^ Int.toNat 2 - 1) = zI 3 from rfl]
    refine z_istore_n (lv' := [(0, .int (zI (3)))]) S dJ6_numberOfTrailingZeros_0f7a4_7 hl rfl (by decide) rfl (fun ls hl => ?_)
    refine z_iload_n S dJ6_numberOfTrailingZeros_0f7a4_8 hl 0 rfl rfl ?_
    refine z_if_gt_T S 17 dJ6_numberOfTrailingZeros_0f7a4_9 (by decide) (by omega) (by omega) ?_
    refine z_iconst S dJ6_numberOfTrailingZeros_0f7a4_17 ?_
    refine z_istore_n (lv' := [(1, .int (zI (1))), (0, .int (zI (3)))]) S dJ6_numberOfTrailingZeros_0f7a4_18 hl rfl (by decide) rfl (fun ls hl => ?_)
    refine z_iload_n S dJ6_numberOfTrailingZeros_0f7a4_19 hl 1 rfl rfl ?_
    refine lv_ldcw S.1 S.2.1 S.2.2.2.1 (S.2.2.2.2 _ q5_170) dJ6_numberOfTrailingZeros_0f7a4_20 ?_
    refine lv_icmp_le (tgt := 34) S.1 S.2.1 dJ6_numberOfTrailingZeros_0f7a4_23 (by decide) (fun c_23 => ?_) (fun c_23 => ?_)
    rotate_left
    · exact absurd (by decide) c_23
    refine z_iload_n S dJ6_numberOfTrailingZeros_0f7a4_34 hl 1 rfl rfl ?_
    refine z_sipush S dJ6_numberOfTrailingZeros_0f7a4_35 rfl ?_
    refine z_icmp_le_T S 49 dJ6_numberOfTrailingZeros_0f7a4_38 (by decide) (by omega) (by omega) (by omega) ?_
    refine z_iload_n S dJ6_numberOfTrailingZeros_0f7a4_49 hl 1 rfl rfl ?_
    refine z_bipush S dJ6_numberOfTrailingZeros_0f7a4_50 rfl ?_
    refine z_icmp_le_T S 62 dJ6_numberOfTrailingZeros_0f7a4_52 (by decide) (by omega) (by omega) (by omega) ?_
    refine z_iload_n S dJ6_numberOfTrailingZeros_0f7a4_62 hl 1 rfl rfl ?_
    refine z_iconst S dJ6_numberOfTrailingZeros_0f7a4_63 ?_
    refine z_icmp_le_T S 74 dJ6_numberOfTrailingZeros_0f7a4_64 (by decide) (by omega) (by omega) (by omega) ?_
    refine z_iload_n S dJ6_numberOfTrailingZeros_0f7a4_74 hl 0 rfl rfl ?_
    refine z_iload_n S dJ6_numberOfTrailingZeros_0f7a4_75 hl 1 rfl rfl ?_
    refine z_iconst S dJ6_numberOfTrailingZeros_0f7a4_76 ?_
    refine lv_iushr S.1 S.2.1 dJ6_numberOfTrailingZeros_0f7a4_77 (v := zI 1) (by decide) ?_
    refine z_iadd S dJ6_numberOfTrailingZeros_0f7a4_78 ?_
    exact ret _ _ _ dJ6_numberOfTrailingZeros_0f7a4_79 (by decide)
  · skip
    refine z_iload_n S dJ6_numberOfTrailingZeros_0f7a4_0 hl 0 rfl rfl ?_
    refine z_iconst S dJ6_numberOfTrailingZeros_0f7a4_1 ?_
    refine lv_ixor S.1 S.2.1 dJ6_numberOfTrailingZeros_0f7a4_2 ?_
    refine z_iload_n S dJ6_numberOfTrailingZeros_0f7a4_3 hl 0 rfl rfl ?_
    refine z_iconst S dJ6_numberOfTrailingZeros_0f7a4_4 ?_
    refine lv_isub S.1 S.2.1 dJ6_numberOfTrailingZeros_0f7a4_5 ?_
    refine lv_iand S.1 S.2.1 dJ6_numberOfTrailingZeros_0f7a4_6 ?_
    rw [hx]
    rw [show zI (2 ^ Int.toNat 3 - 1) = zI 7 from rfl]
    refine z_istore_n (lv' := [(0, .int (zI (7)))]) S dJ6_numberOfTrailingZeros_0f7a4_7 hl rfl (by decide) rfl (fun ls hl => ?_)
    refine z_iload_n S dJ6_numberOfTrailingZeros_0f7a4_8 hl 0 rfl rfl ?_
    refine z_if_gt_T S 17 dJ6_numberOfTrailingZeros_0f7a4_9 (by decide) (by omega) (by omega) ?_
    refine z_iconst S dJ6_numberOfTrailingZeros_0f7a4_17 ?_
    refine z_istore_n (lv' := [(1, .int (zI (1))), (0, .int (zI (7)))]) S dJ6_numberOfTrailingZeros_0f7a4_18 hl rfl (by decide) rfl (fun ls hl => ?_)
    refine z_iload_n S dJ6_numberOfTrailingZeros_0f7a4_19 hl 1 rfl rfl ?_
    refine lv_ldcw S.1 S.2.1 S.2.2.2.1 (S.2.2.2.2 _ q5_170) dJ6_numberOfTrailingZeros_0f7a4_20 ?_
    refine lv_icmp_le (tgt := 34) S.1 S.2.1 dJ6_numberOfTrailingZeros_0f7a4_23 (by decide) (fun c_23 => ?_) (fun c_23 => ?_)
    rotate_left
    · exact absurd (by decide) c_23
    refine z_iload_n S dJ6_numberOfTrailingZeros_0f7a4_34 hl 1 rfl rfl ?_
    refine z_sipush S dJ6_numberOfTrailingZeros_0f7a4_35 rfl ?_
    refine z_icmp_le_T S 49 dJ6_numberOfTrailingZeros_0f7a4_38 (by decide) (by omega) (by omega) (by omega) ?_
    refine z_iload_n S dJ6_numberOfTrailingZeros_0f7a4_49 hl 1 rfl rfl ?_
    refine z_bipush S dJ6_numberOfTrailingZeros_0f7a4_50 rfl ?_
    refine z_icmp_le_T S 62 dJ6_numberOfTrailingZeros_0f7a4_52 (by decide) (by omega) (by omega) (by omega) ?_
    refine z_iload_n S dJ6_numberOfTrailingZeros_0f7a4_62 hl 1 rfl rfl ?_
    refine z_iconst S dJ6_numberOfTrailingZeros_0f7a4_63 ?_
    refine z_icmp_le_F S 74 dJ6_numberOfTrailingZeros_0f7a4_64 (by decide) (by omega) (by omega) (by omega) ?_
    refine z_iinc (lv' := [(1, .int (zI (1 + 2))), (0, .int (zI (7)))]) S dJ6_numberOfTrailingZeros_0f7a4_67 hl 0 rfl (by decide) rfl (fun ls hl => ?_)
    refine z_iload_n S dJ6_numberOfTrailingZeros_0f7a4_70 hl 1 rfl rfl ?_
    refine z_iconst S dJ6_numberOfTrailingZeros_0f7a4_71 ?_
    refine lv_iushr S.1 S.2.1 dJ6_numberOfTrailingZeros_0f7a4_72 (v := zI 1) (by decide) ?_
    refine z_istore_n (lv' := [(0, .int (zI (1))), (1, .int (zI (1 + 2)))]) S dJ6_numberOfTrailingZeros_0f7a4_73 hl rfl (by decide) rfl (fun ls hl => ?_)
    refine z_iload_n S dJ6_numberOfTrailingZeros_0f7a4_74 hl 1 rfl rfl ?_
    refine z_iload_n S dJ6_numberOfTrailingZeros_0f7a4_75 hl 0 rfl rfl ?_
    refine z_iconst S dJ6_numberOfTrailingZeros_0f7a4_76 ?_
    refine lv_iushr S.1 S.2.1 dJ6_numberOfTrailingZeros_0f7a4_77 (v := zI 0) (by decide) ?_
    refine z_iadd S dJ6_numberOfTrailingZeros_0f7a4_78 ?_
    exact ret _ _ _ dJ6_numberOfTrailingZeros_0f7a4_79 (by decide)
  · skip
    refine z_iload_n S dJ6_numberOfTrailingZeros_0f7a4_0 hl 0 rfl rfl ?_
    refine z_iconst S dJ6_numberOfTrailingZeros_0f7a4_1 ?_
    refine lv_ixor S.1 S.2.1 dJ6_numberOfTrailingZeros_0f7a4_2 ?_
    refine z_iload_n S dJ6_numberOfTrailingZeros_0f7a4_3 hl 0 rfl rfl ?_
    refine z_iconst S dJ6_numberOfTrailingZeros_0f7a4_4 ?_
    refine lv_isub S.1 S.2.1 dJ6_numberOfTrailingZeros_0f7a4_5 ?_
    refine lv_iand S.1 S.2.1 dJ6_numberOfTrailingZeros_0f7a4_6 ?_
    rw [hx]
    rw [show zI (2 ^ Int.toNat 4 - 1) = zI 15 from rfl]
    refine z_istore_n (lv' := [(0, .int (zI (15)))]) S dJ6_numberOfTrailingZeros_0f7a4_7 hl rfl (by decide) rfl (fun ls hl => ?_)
    refine z_iload_n S dJ6_numberOfTrailingZeros_0f7a4_8 hl 0 rfl rfl ?_
    refine z_if_gt_T S 17 dJ6_numberOfTrailingZeros_0f7a4_9 (by decide) (by omega) (by omega) ?_
    refine z_iconst S dJ6_numberOfTrailingZeros_0f7a4_17 ?_
    refine z_istore_n (lv' := [(1, .int (zI (1))), (0, .int (zI (15)))]) S dJ6_numberOfTrailingZeros_0f7a4_18 hl rfl (by decide) rfl (fun ls hl => ?_)
    refine z_iload_n S dJ6_numberOfTrailingZeros_0f7a4_19 hl 1 rfl rfl ?_
    refine lv_ldcw S.1 S.2.1 S.2.2.2.1 (S.2.2.2.2 _ q5_170) dJ6_numberOfTrailingZeros_0f7a4_20 ?_
    refine lv_icmp_le (tgt := 34) S.1 S.2.1 dJ6_numberOfTrailingZeros_0f7a4_23 (by decide) (fun c_23 => ?_) (fun c_23 => ?_)
    rotate_left
    · exact absurd (by decide) c_23
    refine z_iload_n S dJ6_numberOfTrailingZeros_0f7a4_34 hl 1 rfl rfl ?_
    refine z_sipush S dJ6_numberOfTrailingZeros_0f7a4_35 rfl ?_
    refine z_icmp_le_T S 49 dJ6_numberOfTrailingZeros_0f7a4_38 (by decide) (by omega) (by omega) (by omega) ?_
    refine z_iload_n S dJ6_numberOfTrailingZeros_0f7a4_49 hl 1 rfl rfl ?_
    refine z_bipush S dJ6_numberOfTrailingZeros_0f7a4_50 rfl ?_
    refine z_icmp_le_T S 62 dJ6_numberOfTrailingZeros_0f7a4_52 (by decide) (by omega) (by omega) (by omega) ?_
    refine z_iload_n S dJ6_numberOfTrailingZeros_0f7a4_62 hl 1 rfl rfl ?_
    refine z_iconst S dJ6_numberOfTrailingZeros_0f7a4_63 ?_
    refine z_icmp_le_F S 74 dJ6_numberOfTrailingZeros_0f7a4_64 (by decide) (by omega) (by omega) (by omega) ?_
    refine z_iinc (lv' := [(1, .int (zI (1 + 2))), (0, .int (zI (15)))]) S dJ6_numberOfTrailingZeros_0f7a4_67 hl 0 rfl (by decide) rfl (fun ls hl => ?_)
    refine z_iload_n S dJ6_numberOfTrailingZeros_0f7a4_70 hl 1 rfl rfl ?_
    refine z_iconst S dJ6_numberOfTrailingZeros_0f7a4_71 ?_
    refine lv_iushr S.1 S.2.1 dJ6_numberOfTrailingZeros_0f7a4_72 (v := zI 3) (by decide) ?_
    refine z_istore_n (lv' := [(0, .int (zI (3))), (1, .int (zI (1 + 2)))]) S dJ6_numberOfTrailingZeros_0f7a4_73 hl rfl (by decide) rfl (fun ls hl => ?_)
    refine z_iload_n S dJ6_numberOfTrailingZeros_0f7a4_74 hl 1 rfl rfl ?_
    refine z_iload_n S dJ6_numberOfTrailingZeros_0f7a4_75 hl 0 rfl rfl ?_
    refine z_iconst S dJ6_numberOfTrailingZeros_0f7a4_76 ?_
    refine lv_iushr S.1 S.2.1 dJ6_numberOfTrailingZeros_0f7a4_77 (v := zI 1) (by decide) ?_
    refine z_iadd S dJ6_numberOfTrailingZeros_0f7a4_78 ?_
    exact ret _ _ _ dJ6_numberOfTrailingZeros_0f7a4_79 (by decide)
  · skip
    refine z_iload_n S dJ6_numberOfTrailingZeros_0f7a4_0 hl 0 rfl rfl ?_
    refine z_iconst S dJ6_numberOfTrailingZeros_0f7a4_1 ?_
    refine lv_ixor S.1 S.2.1 dJ6_numberOfTrailingZeros_0f7a4_2 ?_
    refine z_iload_n S dJ6_numberOfTrailingZeros_0f7a4_3 hl 0 rfl rfl ?_
    refine z_iconst S dJ6_numberOfTrailingZeros_0f7a4_4 ?_
    refine lv_isub S.1 S.2.1 dJ6_numberOfTrailingZeros_0f7a4_5 ?_
    refine lv_iand S.1 S.2.1 dJ6_numberOfTrailingZeros_0f7a4_6 ?_
    rw [hx]
    rw [show zI (2 ^ Int.toNat 5 - 1) = zI 31 from rfl]
    refine z_istore_n (lv' := [(0, .int (zI (31)))]) S dJ6_numberOfTrailingZeros_0f7a4_7 hl rfl (by decide) rfl (fun ls hl => ?_)
    refine z_iload_n S dJ6_numberOfTrailingZeros_0f7a4_8 hl 0 rfl rfl ?_
    refine z_if_gt_T S 17 dJ6_numberOfTrailingZeros_0f7a4_9 (by decide) (by omega) (by omega) ?_
    refine z_iconst S dJ6_numberOfTrailingZeros_0f7a4_17 ?_
    refine z_istore_n (lv' := [(1, .int (zI (1))), (0, .int (zI (31)))]) S dJ6_numberOfTrailingZeros_0f7a4_18 hl rfl (by decide) rfl (fun ls hl => ?_)
    refine z_iload_n S dJ6_numberOfTrailingZeros_0f7a4_19 hl 1 rfl rfl ?_
    refine lv_ldcw S.1 S.2.1 S.2.2.2.1 (S.2.2.2.2 _ q5_170) dJ6_numberOfTrailingZeros_0f7a4_20 ?_
    refine lv_icmp_le (tgt := 34) S.1 S.2.1 dJ6_numberOfTrailingZeros_0f7a4_23 (by decide) (fun c_23 => ?_) (fun c_23 => ?_)
    rotate_left
    · exact absurd (by decide) c_23
    refine z_iload_n S dJ6_numberOfTrailingZeros_0f7a4_34 hl 1 rfl rfl ?_
    refine z_sipush S dJ6_numberOfTrailingZeros_0f7a4_35 rfl ?_
    refine z_icmp_le_T S 49 dJ6_numberOfTrailingZeros_0f7a4_38 (by decide) (by omega) (by omega) (by omega) ?_
    refine z_iload_n S dJ6_numberOfTrailingZeros_0f7a4_49 hl 1 rfl rfl ?_
    refine z_bipush S dJ6_numberOfTrailingZeros_0f7a4_50 rfl ?_
    refine z_icmp_le_F S 62 dJ6_numberOfTrailingZeros_0f7a4_52 (by decide) (by omega) (by omega) (by omega) ?_
    refine z_iinc (lv' := [(1, .int (zI (1 + 4))), (0, .int (zI (31)))]) S dJ6_numberOfTrailingZeros_0f7a4_55 hl 0 rfl (by decide) rfl (fun ls hl => ?_)
    refine z_iload_n S dJ6_numberOfTrailingZeros_0f7a4_58 hl 1 rfl rfl ?_
    refine z_iconst S dJ6_numberOfTrailingZeros_0f7a4_59 ?_
    refine lv_iushr S.1 S.2.1 dJ6_numberOfTrailingZeros_0f7a4_60 (v := zI 1) (by decide) ?_
    refine z_istore_n (lv' := [(0, .int (zI (1))), (1, .int (zI (1 + 4)))]) S dJ6_numberOfTrailingZeros_0f7a4_61 hl rfl (by decide) rfl (fun ls hl => ?_)
    refine z_iload_n S dJ6_numberOfTrailingZeros_0f7a4_62 hl 0 rfl rfl ?_
    refine z_iconst S dJ6_numberOfTrailingZeros_0f7a4_63 ?_
    refine z_icmp_le_T S 74 dJ6_numberOfTrailingZeros_0f7a4_64 (by decide) (by omega) (by omega) (by omega) ?_
    refine z_iload_n S dJ6_numberOfTrailingZeros_0f7a4_74 hl 1 rfl rfl ?_
    refine z_iload_n S dJ6_numberOfTrailingZeros_0f7a4_75 hl 0 rfl rfl ?_
    refine z_iconst S dJ6_numberOfTrailingZeros_0f7a4_76 ?_
    refine lv_iushr S.1 S.2.1 dJ6_numberOfTrailingZeros_0f7a4_77 (v := zI 0) (by decide) ?_
    refine z_iadd S dJ6_numberOfTrailingZeros_0f7a4_78 ?_
    exact ret _ _ _ dJ6_numberOfTrailingZeros_0f7a4_79 (by decide)
  · skip
    refine z_iload_n S dJ6_numberOfTrailingZeros_0f7a4_0 hl 0 rfl rfl ?_
    refine z_iconst S dJ6_numberOfTrailingZeros_0f7a4_1 ?_
    refine lv_ixor S.1 S.2.1 dJ6_numberOfTrailingZeros_0f7a4_2 ?_
    refine z_iload_n S dJ6_numberOfTrailingZeros_0f7a4_3 hl 0 rfl rfl ?_
    refine z_iconst S dJ6_numberOfTrailingZeros_0f7a4_4 ?_
    refine lv_isub S.1 S.2.1 dJ6_numberOfTrailingZeros_0f7a4_5 ?_
    refine lv_iand S.1 S.2.1 dJ6_numberOfTrailingZeros_0f7a4_6 ?_
    rw [hx]
    rw [show zI (2 ^ Int.toNat 6 - 1) = zI 63 from rfl]
    refine z_istore_n (lv' := [(0, .int (zI (63)))]) S dJ6_numberOfTrailingZeros_0f7a4_7 hl rfl (by decide) rfl (fun ls hl => ?_)
    refine z_iload_n S dJ6_numberOfTrailingZeros_0f7a4_8 hl 0 rfl rfl ?_
    refine z_if_gt_T S 17 dJ6_numberOfTrailingZeros_0f7a4_9 (by decide) (by omega) (by omega) ?_
    refine z_iconst S dJ6_numberOfTrailingZeros_0f7a4_17 ?_
    refine z_istore_n (lv' := [(1, .int (zI (1))), (0, .int (zI (63)))]) S dJ6_numberOfTrailingZeros_0f7a4_18 hl rfl (by decide) rfl (fun ls hl => ?_)
    refine z_iload_n S dJ6_numberOfTrailingZeros_0f7a4_19 hl 1 rfl rfl ?_
    refine lv_ldcw S.1 S.2.1 S.2.2.2.1 (S.2.2.2.2 _ q5_170) dJ6_numberOfTrailingZeros_0f7a4_20 ?_
    refine lv_icmp_le (tgt := 34) S.1 S.2.1 dJ6_numberOfTrailingZeros_0f7a4_23 (by decide) (fun c_23 => ?_) (fun c_23 => ?_)
    rotate_left
    · exact absurd (by decide) c_23
    refine z_iload_n S dJ6_numberOfTrailingZeros_0f7a4_34 hl 1 rfl rfl ?_
    refine z_sipush S dJ6_numberOfTrailingZeros_0f7a4_35 rfl ?_
    refine z_icmp_le_T S 49 dJ6_numberOfTrailingZeros_0f7a4_38 (by decide) (by omega) (by omega) (by omega) ?_
    refine z_iload_n S dJ6_numberOfTrailingZeros_0f7a4_49 hl 1 rfl rfl ?_
    refine z_bipush S dJ6_numberOfTrailingZeros_0f7a4_50 rfl ?_
    refine z_icmp_le_F S 62 dJ6_numberOfTrailingZeros_0f7a4_52 (by decide) (by omega) (by omega) (by omega) ?_
    refine z_iinc (lv' := [(1, .int (zI (1 + 4))), (0, .int (zI (63)))]) S dJ6_numberOfTrailingZeros_0f7a4_55 hl 0 rfl (by decide) rfl (fun ls hl => ?_)
    refine z_iload_n S dJ6_numberOfTrailingZeros_0f7a4_58 hl 1 rfl rfl ?_
    refine z_iconst S dJ6_numberOfTrailingZeros_0f7a4_59 ?_
    refine lv_iushr S.1 S.2.1 dJ6_numberOfTrailingZeros_0f7a4_60 (v := zI 3) (by decide) ?_
    refine z_istore_n (lv' := [(0, .int (zI (3))), (1, .int (zI (1 + 4)))]) S dJ6_numberOfTrailingZeros_0f7a4_61 hl rfl (by decide) rfl (fun ls hl => ?_)
    refine z_iload_n S dJ6_numberOfTrailingZeros_0f7a4_62 hl 0 rfl rfl ?_
    refine z_iconst S dJ6_numberOfTrailingZeros_0f7a4_63 ?_
    refine z_icmp_le_T S 74 dJ6_numberOfTrailingZeros_0f7a4_64 (by decide) (by omega) (by omega) (by omega) ?_
    refine z_iload_n S dJ6_numberOfTrailingZeros_0f7a4_74 hl 1 rfl rfl ?_
    refine z_iload_n S dJ6_numberOfTrailingZeros_0f7a4_75 hl 0 rfl rfl ?_
    refine z_iconst S dJ6_numberOfTrailingZeros_0f7a4_76 ?_
    refine lv_iushr S.1 S.2.1 dJ6_numberOfTrailingZeros_0f7a4_77 (v := zI 1) (by decide) ?_
    refine z_iadd S dJ6_numberOfTrailingZeros_0f7a4_78 ?_
    exact ret _ _ _ dJ6_numberOfTrailingZeros_0f7a4_79 (by decide)
  · skip
    refine z_iload_n S dJ6_numberOfTrailingZeros_0f7a4_0 hl 0 rfl rfl ?_
    refine z_iconst S dJ6_numberOfTrailingZeros_0f7a4_1 ?_
    refine lv_ixor S.1 S.2.1 dJ6_numberOfTrailingZeros_0f7a4_2 ?_
    refine z_iload_n S dJ6_numberOfTrailingZeros_0f7a4_3 hl 0 rfl rfl ?_
    refine z_iconst S dJ6_numberOfTrailingZeros_0f7a4_4 ?_
    refine lv_isub S.1 S.2.1 dJ6_numberOfTrailingZeros_0f7a4_5 ?_
    refine lv_iand S.1 S.2.1 dJ6_numberOfTrailingZeros_0f7a4_6 ?_
    rw [hx]
    rw [show zI (2 ^ Int.toNat 7 - 1) = zI 127 from rfl]
    refine z_istore_n (lv' := [(0, .int (zI (127)))]) S dJ6_numberOfTrailingZeros_0f7a4_7 hl rfl (by decide) rfl (fun ls hl => ?_)
    refine z_iload_n S dJ6_numberOfTrailingZeros_0f7a4_8 hl 0 rfl rfl ?_
    refine z_if_gt_T S 17 dJ6_numberOfTrailingZeros_0f7a4_9 (by decide) (by omega) (by omega) ?_
    refine z_iconst S dJ6_numberOfTrailingZeros_0f7a4_17 ?_
    refine z_istore_n (lv' := [(1, .int (zI (1))), (0, .int (zI (127)))]) S dJ6_numberOfTrailingZeros_0f7a4_18 hl rfl (by decide) rfl (fun ls hl => ?_)
    refine z_iload_n S dJ6_numberOfTrailingZeros_0f7a4_19 hl 1 rfl rfl ?_
    refine lv_ldcw S.1 S.2.1 S.2.2.2.1 (S.2.2.2.2 _ q5_170) dJ6_numberOfTrailingZeros_0f7a4_20 ?_
    refine lv_icmp_le (tgt := 34) S.1 S.2.1 dJ6_numberOfTrailingZeros_0f7a4_23 (by decide) (fun c_23 => ?_) (fun c_23 => ?_)
    rotate_left
    · exact absurd (by decide) c_23
    refine z_iload_n S dJ6_numberOfTrailingZeros_0f7a4_34 hl 1 rfl rfl ?_
    refine z_sipush S dJ6_numberOfTrailingZeros_0f7a4_35 rfl ?_
    refine z_icmp_le_T S 49 dJ6_numberOfTrailingZeros_0f7a4_38 (by decide) (by omega) (by omega) (by omega) ?_
    refine z_iload_n S dJ6_numberOfTrailingZeros_0f7a4_49 hl 1 rfl rfl ?_
    refine z_bipush S dJ6_numberOfTrailingZeros_0f7a4_50 rfl ?_
    refine z_icmp_le_F S 62 dJ6_numberOfTrailingZeros_0f7a4_52 (by decide) (by omega) (by omega) (by omega) ?_
    refine z_iinc (lv' := [(1, .int (zI (1 + 4))), (0, .int (zI (127)))]) S dJ6_numberOfTrailingZeros_0f7a4_55 hl 0 rfl (by decide) rfl (fun ls hl => ?_)
    refine z_iload_n S dJ6_numberOfTrailingZeros_0f7a4_58 hl 1 rfl rfl ?_
    refine z_iconst S dJ6_numberOfTrailingZeros_0f7a4_59 ?_
    refine lv_iushr S.1 S.2.1 dJ6_numberOfTrailingZeros_0f7a4_60 (v := zI 7) (by decide) ?_
    refine z_istore_n (lv' := [(0, .int (zI (7))), (1, .int (zI (1 + 4)))]) S dJ6_numberOfTrailingZeros_0f7a4_61 hl rfl (by decide) rfl (fun ls hl => ?_)
    refine z_iload_n S dJ6_numberOfTrailingZeros_0f7a4_62 hl 0 rfl rfl ?_
    refine z_iconst S dJ6_numberOfTrailingZeros_0f7a4_63 ?_
    refine z_icmp_le_F S 74 dJ6_numberOfTrailingZeros_0f7a4_64 (by decide) (by omega) (by omega) (by omega) ?_
    refine z_iinc (lv' := [(1, .int (zI (1 + 4 + 2))), (0, .int (zI (7)))]) S dJ6_numberOfTrailingZeros_0f7a4_67 hl 1 rfl (by decide) rfl (fun ls hl => ?_)
    refine z_iload_n S dJ6_numberOfTrailingZeros_0f7a4_70 hl 1 rfl rfl ?_
    refine z_iconst S dJ6_numberOfTrailingZeros_0f7a4_71 ?_
    refine lv_iushr S.1 S.2.1 dJ6_numberOfTrailingZeros_0f7a4_72 (v := zI 1) (by decide) ?_
    refine z_istore_n (lv' := [(0, .int (zI (1))), (1, .int (zI (1 + 4 + 2)))]) S dJ6_numberOfTrailingZeros_0f7a4_73 hl rfl (by decide) rfl (fun ls hl => ?_)
    refine z_iload_n S dJ6_numberOfTrailingZeros_0f7a4_74 hl 1 rfl rfl ?_
    refine z_iload_n S dJ6_numberOfTrailingZeros_0f7a4_75 hl 0 rfl rfl ?_
    refine z_iconst S dJ6_numberOfTrailingZeros_0f7a4_76 ?_
    refine lv_iushr S.1 S.2.1 dJ6_numberOfTrailingZeros_0f7a4_77 (v := zI 0) (by decide) ?_
    refine z_iadd S dJ6_numberOfTrailingZeros_0f7a4_78 ?_
    exact ret _ _ _ dJ6_numberOfTrailingZeros_0f7a4_79 (by decide)
  · skip
    refine z_iload_n S dJ6_numberOfTrailingZeros_0f7a4_0 hl 0 rfl rfl ?_
    refine z_iconst S dJ6_numberOfTrailingZeros_0f7a4_1 ?_
    refine lv_ixor S.1 S.2.1 dJ6_numberOfTrailingZeros_0f7a4_2 ?_
    refine z_iload_n S dJ6_numberOfTrailingZeros_0f7a4_3 hl 0 rfl rfl ?_
    refine z_iconst S dJ6_numberOfTrailingZeros_0f7a4_4 ?_
    refine lv_isub S.1 S.2.1 dJ6_numberOfTrailingZeros_0f7a4_5 ?_
    refine lv_iand S.1 S.2.1 dJ6_numberOfTrailingZeros_0f7a4_6 ?_
    rw [hx]
    rw [show zI (2 ^ Int.toNat 8 - 1) = zI 255 from rfl]
    refine z_istore_n (lv' := [(0, .int (zI (255)))]) S dJ6_numberOfTrailingZeros_0f7a4_7 hl rfl (by decide) rfl (fun ls hl => ?_)
    refine z_iload_n S dJ6_numberOfTrailingZeros_0f7a4_8 hl 0 rfl rfl ?_
    refine z_if_gt_T S 17 dJ6_numberOfTrailingZeros_0f7a4_9 (by decide) (by omega) (by omega) ?_
    refine z_iconst S dJ6_numberOfTrailingZeros_0f7a4_17 ?_
    refine z_istore_n (lv' := [(1, .int (zI (1))), (0, .int (zI (255)))]) S dJ6_numberOfTrailingZeros_0f7a4_18 hl rfl (by decide) rfl (fun ls hl => ?_)
    refine z_iload_n S dJ6_numberOfTrailingZeros_0f7a4_19 hl 1 rfl rfl ?_
    refine lv_ldcw S.1 S.2.1 S.2.2.2.1 (S.2.2.2.2 _ q5_170) dJ6_numberOfTrailingZeros_0f7a4_20 ?_
    refine lv_icmp_le (tgt := 34) S.1 S.2.1 dJ6_numberOfTrailingZeros_0f7a4_23 (by decide) (fun c_23 => ?_) (fun c_23 => ?_)
    rotate_left
    · exact absurd (by decide) c_23
    refine z_iload_n S dJ6_numberOfTrailingZeros_0f7a4_34 hl 1 rfl rfl ?_
    refine z_sipush S dJ6_numberOfTrailingZeros_0f7a4_35 rfl ?_
    refine z_icmp_le_T S 49 dJ6_numberOfTrailingZeros_0f7a4_38 (by decide) (by omega) (by omega) (by omega) ?_
    refine z_iload_n S dJ6_numberOfTrailingZeros_0f7a4_49 hl 1 rfl rfl ?_
    refine z_bipush S dJ6_numberOfTrailingZeros_0f7a4_50 rfl ?_
    refine z_icmp_le_F S 62 dJ6_numberOfTrailingZeros_0f7a4_52 (by decide) (by omega) (by omega) (by omega) ?_
    refine z_iinc (lv' := [(1, .int (zI (1 + 4))), (0, .int (zI (255)))]) S dJ6_numberOfTrailingZeros_0f7a4_55 hl 0 rfl (by decide) rfl (fun ls hl => ?_)
    refine z_iload_n S dJ6_numberOfTrailingZeros_0f7a4_58 hl 1 rfl rfl ?_
    refine z_iconst S dJ6_numberOfTrailingZeros_0f7a4_59 ?_
    refine lv_iushr S.1 S.2.1 dJ6_numberOfTrailingZeros_0f7a4_60 (v := zI 15) (by decide) ?_
    refine z_istore_n (lv' := [(0, .int (zI (15))), (1, .int (zI (1 + 4)))]) S dJ6_numberOfTrailingZeros_0f7a4_61 hl rfl (by decide) rfl (fun ls hl => ?_)
    refine z_iload_n S dJ6_numberOfTrailingZeros_0f7a4_62 hl 0 rfl rfl ?_
    refine z_iconst S dJ6_numberOfTrailingZeros_0f7a4_63 ?_
    refine z_icmp_le_F S 74 dJ6_numberOfTrailingZeros_0f7a4_64 (by decide) (by omega) (by omega) (by omega) ?_
    refine z_iinc (lv' := [(1, .int (zI (1 + 4 + 2))), (0, .int (zI (15)))]) S dJ6_numberOfTrailingZeros_0f7a4_67 hl 1 rfl (by decide) rfl (fun ls hl => ?_)
    refine z_iload_n S dJ6_numberOfTrailingZeros_0f7a4_70 hl 1 rfl rfl ?_
    refine z_iconst S dJ6_numberOfTrailingZeros_0f7a4_71 ?_
    refine lv_iushr S.1 S.2.1 dJ6_numberOfTrailingZeros_0f7a4_72 (v := zI 3) (by decide) ?_
    refine z_istore_n (lv' := [(0, .int (zI (3))), (1, .int (zI (1 + 4 + 2)))]) S dJ6_numberOfTrailingZeros_0f7a4_73 hl rfl (by decide) rfl (fun ls hl => ?_)
    refine z_iload_n S dJ6_numberOfTrailingZeros_0f7a4_74 hl 1 rfl rfl ?_
    refine z_iload_n S dJ6_numberOfTrailingZeros_0f7a4_75 hl 0 rfl rfl ?_
    refine z_iconst S dJ6_numberOfTrailingZeros_0f7a4_76 ?_
    refine lv_iushr S.1 S.2.1 dJ6_numberOfTrailingZeros_0f7a4_77 (v := zI 1) (by decide) ?_
    refine z_iadd S dJ6_numberOfTrailingZeros_0f7a4_78 ?_
    exact ret _ _ _ dJ6_numberOfTrailingZeros_0f7a4_79 (by decide)
  · skip
    refine z_iload_n S dJ6_numberOfTrailingZeros_0f7a4_0 hl 0 rfl rfl ?_
    refine z_iconst S dJ6_numberOfTrailingZeros_0f7a4_1 ?_
    refine lv_ixor S.1 S.2.1 dJ6_numberOfTrailingZeros_0f7a4_2 ?_
    refine z_iload_n S dJ6_numberOfTrailingZeros_0f7a4_3 hl 0 rfl rfl ?_
    refine z_iconst S dJ6_numberOfTrailingZeros_0f7a4_4 ?_
    refine lv_isub S.1 S.2.1 dJ6_numberOfTrailingZeros_0f7a4_5 ?_
    refine lv_iand S.1 S.2.1 dJ6_numberOfTrailingZeros_0f7a4_6 ?_
    rw [hx]
    rw [show zI (2 ^ Int.toNat 9 - 1) = zI 511 from rfl]
    refine z_istore_n (lv' := [(0, .int (zI (511)))]) S dJ6_numberOfTrailingZeros_0f7a4_7 hl rfl (by decide) rfl (fun ls hl => ?_)
    refine z_iload_n S dJ6_numberOfTrailingZeros_0f7a4_8 hl 0 rfl rfl ?_
    refine z_if_gt_T S 17 dJ6_numberOfTrailingZeros_0f7a4_9 (by decide) (by omega) (by omega) ?_
    refine z_iconst S dJ6_numberOfTrailingZeros_0f7a4_17 ?_
    refine z_istore_n (lv' := [(1, .int (zI (1))), (0, .int (zI (511)))]) S dJ6_numberOfTrailingZeros_0f7a4_18 hl rfl (by decide) rfl (fun ls hl => ?_)
    refine z_iload_n S dJ6_numberOfTrailingZeros_0f7a4_19 hl 1 rfl rfl ?_
    refine lv_ldcw S.1 S.2.1 S.2.2.2.1 (S.2.2.2.2 _ q5_170) dJ6_numberOfTrailingZeros_0f7a4_20 ?_
    refine lv_icmp_le (tgt := 34) S.1 S.2.1 dJ6_numberOfTrailingZeros_0f7a4_23 (by decide) (fun c_23 => ?_) (fun c_23 => ?_)
    rotate_left
    · exact absurd (by decide) c_23
    refine z_iload_n S dJ6_numberOfTrailingZeros_0f7a4_34 hl 1 rfl rfl ?_
    refine z_sipush S dJ6_numberOfTrailingZeros_0f7a4_35 rfl ?_
    refine z_icmp_le_F S 49 dJ6_numberOfTrailingZeros_0f7a4_38 (by decide) (by omega) (by omega) (by omega) ?_
    refine z_iinc (lv' := [(1, .int (zI (1 + 8))), (0, .int (zI (511)))]) S dJ6_numberOfTrailingZeros_0f7a4_41 hl 0 rfl (by decide) rfl (fun ls hl => ?_)
    refine z_iload_n S dJ6_numberOfTrailingZeros_0f7a4_44 hl 1 rfl rfl ?_
    refine z_bipush S dJ6_numberOfTrailingZeros_0f7a4_45 rfl ?_
    refine lv_iushr S.1 S.2.1 dJ6_numberOfTrailingZeros_0f7a4_47 (v := zI 1) (by decide) ?_
    refine z_istore_n (lv' := [(0, .int (zI (1))), (1, .int (zI (1 + 8)))]) S dJ6_numberOfTrailingZeros_0f7a4_48 hl rfl (by decide) rfl (fun ls hl => ?_)
    refine z_iload_n S dJ6_numberOfTrailingZeros_0f7a4_49 hl 0 rfl rfl ?_
    refine z_bipush S dJ6_numberOfTrailingZeros_0f7a4_50 rfl ?_
    refine z_icmp_le_T S 62 dJ6_numberOfTrailingZeros_0f7a4_52 (by decide) (by omega) (by omega) (by omega) ?_
    refine z_iload_n S dJ6_numberOfTrailingZeros_0f7a4_62 hl 0 rfl rfl ?_
    refine z_iconst S dJ6_numberOfTrailingZeros_0f7a4_63 ?_
    refine z_icmp_le_T S 74 dJ6_numberOfTrailingZeros_0f7a4_64 (by decide) (by omega) (by omega) (by omega) ?_
    refine z_iload_n S dJ6_numberOfTrailingZeros_0f7a4_74 hl 1 rfl rfl ?_
    refine z_iload_n S dJ6_numberOfTrailingZeros_0f7a4_75 hl 0 rfl rfl ?_
    refine z_iconst S dJ6_numberOfTrailingZeros_0f7a4_76 ?_
    refine lv_iushr S.1 S.2.1 dJ6_numberOfTrailingZeros_0f7a4_77 (v := zI 0) (by decide) ?_
    refine z_iadd S dJ6_numberOfTrailingZeros_0f7a4_78 ?_
    exact ret _ _ _ dJ6_numberOfTrailingZeros_0f7a4_79 (by decide)
  · skip
    refine z_iload_n S dJ6_numberOfTrailingZeros_0f7a4_0 hl 0 rfl rfl ?_
    refine z_iconst S dJ6_numberOfTrailingZeros_0f7a4_1 ?_
    refine lv_ixor S.1 S.2.1 dJ6_numberOfTrailingZeros_0f7a4_2 ?_
    refine z_iload_n S dJ6_numberOfTrailingZeros_0f7a4_3 hl 0 rfl rfl ?_
    refine z_iconst S dJ6_numberOfTrailingZeros_0f7a4_4 ?_
    refine lv_isub S.1 S.2.1 dJ6_numberOfTrailingZeros_0f7a4_5 ?_
    refine lv_iand S.1 S.2.1 dJ6_numberOfTrailingZeros_0f7a4_6 ?_
    rw [hx]
    rw [show zI (2 ^ Int.toNat 10 - 1) = zI 1023 from rfl]
    refine z_istore_n (lv' := [(0, .int (zI (1023)))]) S dJ6_numberOfTrailingZeros_0f7a4_7 hl rfl (by decide) rfl (fun ls hl => ?_)
    refine z_iload_n S dJ6_numberOfTrailingZeros_0f7a4_8 hl 0 rfl rfl ?_
    refine z_if_gt_T S 17 dJ6_numberOfTrailingZeros_0f7a4_9 (by decide) (by omega) (by omega) ?_
    refine z_iconst S dJ6_numberOfTrailingZeros_0f7a4_17 ?_
    refine z_istore_n (lv' := [(1, .int (zI (1))), (0, .int (zI (1023)))]) S dJ6_numberOfTrailingZeros_0f7a4_18 hl rfl (by decide) rfl (fun ls hl => ?_)
    refine z_iload_n S dJ6_numberOfTrailingZeros_0f7a4_19 hl 1 rfl rfl ?_
    refine lv_ldcw S.1 S.2.1 S.2.2.2.1 (S.2.2.2.2 _ q5_170) dJ6_numberOfTrailingZeros_0f7a4_20 ?_
    refine lv_icmp_le (tgt := 34) S.1 S.2.1 dJ6_numberOfTrailingZeros_0f7a4_23 (by decide) (fun c_23 => ?_) (fun c_23 => ?_)
    rotate_left
    · exact absurd (by decide) c_23
    refine z_iload_n S dJ6_numberOfTrailingZeros_0f7a4_34 hl 1 rfl rfl ?_
    refine z_sipush S dJ6_numberOfTrailingZeros_0f7a4_35 rfl ?_
    refine z_icmp_le_F S 49 dJ6_numberOfTrailingZeros_0f7a4_38 (by decide) (by omega) (by omega) (by omega) ?_
    refine z_iinc (lv' := [(1, .int (zI (1 + 8))), (0, .int (zI (1023)))]) S dJ6_numberOfTrailingZeros_0f7a4_41 hl 0 rfl (by decide) rfl (fun ls hl => ?_)
    refine z_iload_n S dJ6_numberOfTrailingZeros_0f7a4_44 hl 1 rfl rfl ?_
    refine z_bipush S dJ6_numberOfTrailingZeros_0f7a4_45 rfl ?_
    refine lv_iushr S.1 S.2.1 dJ6_numberOfTrailingZeros_0f7a4_47 (v := zI 3) (by decide) ?_
    refine z_istore_n (lv' := [(0, .int (zI (3))), (1, .int (zI (1 + 8)))]) S dJ6_numberOfTrailingZeros_0f7a4_48 hl rfl (by decide) rfl (fun ls hl => ?_)
    refine z_iload_n S dJ6_numberOfTrailingZeros_0f7a4_49 hl 0 rfl rfl ?_
    refine z_bipush S dJ6_numberOfTrailingZeros_0f7a4_50 rfl ?_
    refine z_icmp_le_T S 62 dJ6_numberOfTrailingZeros_0f7a4_52 (by decide) (by omega) (by omega) (by omega) ?_
    refine z_iload_n S dJ6_numberOfTrailingZeros_0f7a4_62 hl 0 rfl rfl ?_
    refine z_iconst S dJ6_numberOfTrailingZeros_0f7a4_63 ?_
    refine z_icmp_le_T S 74 dJ6_numberOfTrailingZeros_0f7a4_64 (by decide) (by omega) (by omega) (by omega) ?_
    refine z_iload_n S dJ6_numberOfTrailingZeros_0f7a4_74 hl 1 rfl rfl ?_
    refine z_iload_n S dJ6_numberOfTrailingZeros_0f7a4_75 hl 0 rfl rfl ?_
    refine z_iconst S dJ6_numberOfTrailingZeros_0f7a4_76 ?_
    refine lv_iushr S.1 S.2.1 dJ6_numberOfTrailingZeros_0f7a4_77 (v := zI 1) (by decide) ?_
    refine z_iadd S dJ6_numberOfTrailingZeros_0f7a4_78 ?_
    exact ret _ _ _ dJ6_numberOfTrailingZeros_0f7a4_79 (by decide)
  · skip
    refine z_iload_n S dJ6_numberOfTrailingZeros_0f7a4_0 hl 0 rfl rfl ?_
    refine z_iconst S dJ6_numberOfTrailingZeros_0f7a4_1 ?_
    refine lv_ixor S.1 S.2.1 dJ6_numberOfTrailingZeros_0f7a4_2 ?_
    refine z_iload_n S dJ6_numberOfTrailingZeros_0f7a4_3 hl 0 rfl rfl ?_
    refine z_iconst S dJ6_numberOfTrailingZeros_0f7a4_4 ?_
    refine lv_isub S.1 S.2.1 dJ6_numberOfTrailingZeros_0f7a4_5 ?_
    refine lv_iand S.1 S.2.1 dJ6_numberOfTrailingZeros_0f7a4_6 ?_
    rw [hx]
    rw [show zI (2 ^ Int.toNat 11 - 1) = zI 2047 from rfl]
    refine z_istore_n (lv' := [(0, .int (zI (2047)))]) S dJ6_numberOfTrailingZeros_0f7a4_7 hl rfl (by decide) rfl (fun ls hl => ?_)
    refine z_iload_n S dJ6_numberOfTrailingZeros_0f7a4_8 hl 0 rfl rfl ?_
    refine z_if_gt_T S 17 dJ6_numberOfTrailingZeros_0f7a4_9 (by decide) (by omega) (by omega) ?_
    refine z_iconst S dJ6_numberOfTrailingZeros_0f7a4_17 ?_
    refine z_istore_n (lv' := [(1, .int (zI (1))), (0, .int (zI (2047)))]) S dJ6_numberOfTrailingZeros_0f7a4_18 hl rfl (by decide) rfl (fun ls hl => ?_)
    refine z_iload_n S dJ6_numberOfTrailingZeros_0f7a4_19 hl 1 rfl rfl ?_
    refine lv_ldcw S.1 S.2.1 S.2.2.2.1 (S.2.2.2.2 _ q5_170) dJ6_numberOfTrailingZeros_0f7a4_20 ?_
    refine lv_icmp_le (tgt := 34) S.1 S.2.1 dJ6_numberOfTrailingZeros_0f7a4_23 (by decide) (fun c_23 => ?_) (fun c_23 => ?_)
    rotate_left
    · exact absurd (by decide) c_23
    refine z_iload_n S dJ6_numberOfTrailingZeros_0f7a4_34 hl 1 rfl rfl ?_
    refine z_sipush S dJ6_numberOfTrailingZeros_0f7a4_35 rfl ?_
    refine z_icmp_le_F S 49 dJ6_numberOfTrailingZeros_0f7a4_38 (by decide) (by omega) (by omega) (by omega) ?_
    refine z_iinc (lv' := [(1, .int (zI (1 + 8))), (0, .int (zI (2047)))]) S dJ6_numberOfTrailingZeros_0f7a4_41 hl 0 rfl (by decide) rfl (fun ls hl => ?_)
    refine z_iload_n S dJ6_numberOfTrailingZeros_0f7a4_44 hl 1 rfl rfl ?_
    refine z_bipush S dJ6_numberOfTrailingZeros_0f7a4_45 rfl ?_
    refine lv_iushr S.1 S.2.1 dJ6_numberOfTrailingZeros_0f7a4_47 (v := zI 7) (by decide) ?_
    refine z_istore_n (lv' := [(0, .int (zI (7))), (1, .int (zI (1 + 8)))]) S dJ6_numberOfTrailingZeros_0f7a4_48 hl rfl (by decide) rfl (fun ls hl => ?_)
    refine z_iload_n S dJ6_numberOfTrailingZeros_0f7a4_49 hl 0 rfl rfl ?_
    refine z_bipush S dJ6_numberOfTrailingZeros_0f7a4_50 rfl ?_
    refine z_icmp_le_T S 62 dJ6_numberOfTrailingZeros_0f7a4_52 (by decide) (by omega) (by omega) (by omega) ?_
    refine z_iload_n S dJ6_numberOfTrailingZeros_0f7a4_62 hl 0 rfl rfl ?_
    refine z_iconst S dJ6_numberOfTrailingZeros_0f7a4_63 ?_
    refine z_icmp_le_F S 74 dJ6_numberOfTrailingZeros_0f7a4_64 (by decide) (by omega) (by omega) (by omega) ?_
    refine z_iinc (lv' := [(1, .int (zI (1 + 8 + 2))), (0, .int (zI (7)))]) S dJ6_numberOfTrailingZeros_0f7a4_67 hl 1 rfl (by decide) rfl (fun ls hl => ?_)
    refine z_iload_n S dJ6_numberOfTrailingZeros_0f7a4_70 hl 1 rfl rfl ?_
    refine z_iconst S dJ6_numberOfTrailingZeros_0f7a4_71 ?_
    refine lv_iushr S.1 S.2.1 dJ6_numberOfTrailingZeros_0f7a4_72 (v := zI 1) (by decide) ?_
    refine z_istore_n (lv' := [(0, .int (zI (1))), (1, .int (zI (1 + 8 + 2)))]) S dJ6_numberOfTrailingZeros_0f7a4_73 hl rfl (by decide) rfl (fun ls hl => ?_)
    refine z_iload_n S dJ6_numberOfTrailingZeros_0f7a4_74 hl 1 rfl rfl ?_
    refine z_iload_n S dJ6_numberOfTrailingZeros_0f7a4_75 hl 0 rfl rfl ?_
    refine z_iconst S dJ6_numberOfTrailingZeros_0f7a4_76 ?_
    refine lv_iushr S.1 S.2.1 dJ6_numberOfTrailingZeros_0f7a4_77 (v := zI 0) (by decide) ?_
    refine z_iadd S dJ6_numberOfTrailingZeros_0f7a4_78 ?_
    exact ret _ _ _ dJ6_numberOfTrailingZeros_0f7a4_79 (by decide)
  · skip
    refine z_iload_n S dJ6_numberOfTrailingZeros_0f7a4_0 hl 0 rfl rfl ?_
    refine z_iconst S dJ6_numberOfTrailingZeros_0f7a4_1 ?_
    refine lv_ixor S.1 S.2.1 dJ6_numberOfTrailingZeros_0f7a4_2 ?_
    refine z_iload_n S dJ6_numberOfTrailingZeros_0f7a4_3 hl 0 rfl rfl ?_
    refine z_iconst S dJ6_numberOfTrailingZeros_0f7a4_4 ?_
    refine lv_isub S.1 S.2.1 dJ6_numberOfTrailingZeros_0f7a4_5 ?_
    refine lv_iand S.1 S.2.1 dJ6_numberOfTrailingZeros_0f7a4_6 ?_
    rw [hx]
    rw [show zI (2 ^ Int.toNat 12 - 1) = zI 4095 from rfl]
    refine z_istore_n (lv' := [(0, .int (zI (4095)))]) S dJ6_numberOfTrailingZeros_0f7a4_7 hl rfl (by decide) rfl (fun ls hl => ?_)
    refine z_iload_n S dJ6_numberOfTrailingZeros_0f7a4_8 hl 0 rfl rfl ?_
    refine z_if_gt_T S 17 dJ6_numberOfTrailingZeros_0f7a4_9 (by decide) (by omega) (by omega) ?_
    refine z_iconst S dJ6_numberOfTrailingZeros_0f7a4_17 ?_
    refine z_istore_n (lv' := [(1, .int (zI (1))), (0, .int (zI (4095)))]) S dJ6_numberOfTrailingZeros_0f7a4_18 hl rfl (by decide) rfl (fun ls hl => ?_)
    refine z_iload_n S dJ6_numberOfTrailingZeros_0f7a4_19 hl 1 rfl rfl ?_
    refine lv_ldcw S.1 S.2.1 S.2.2.2.1 (S.2.2.2.2 _ q5_170) dJ6_numberOfTrailingZeros_0f7a4_20 ?_
    refine lv_icmp_le (tgt := 34) S.1 S.2.1 dJ6_numberOfTrailingZeros_0f7a4_23 (by decide) (fun c_23 => ?_) (fun c_23 => ?_)
    rotate_left
    · exact absurd (by decide) c_23
    refine z_iload_n S dJ6_numberOfTrailingZeros_0f7a4_34 hl 1 rfl rfl ?_
    refine z_sipush S dJ6_numberOfTrailingZeros_0f7a4_35 rfl ?_
    refine z_icmp_le_F S 49 dJ6_numberOfTrailingZeros_0f7a4_38 (by decide) (by omega) (by omega) (by omega) ?_
    refine z_iinc (lv' := [(1, .int (zI (1 + 8))), (0, .int (zI (4095)))]) S dJ6_numberOfTrailingZeros_0f7a4_41 hl 0 rfl (by decide) rfl (fun ls hl => ?_)
    refine z_iload_n S dJ6_numberOfTrailingZeros_0f7a4_44 hl 1 rfl rfl ?_
    refine z_bipush S dJ6_numberOfTrailingZeros_0f7a4_45 rfl ?_
    refine lv_iushr S.1 S.2.1 dJ6_numberOfTrailingZeros_0f7a4_47 (v := zI 15) (by decide) ?_
    refine z_istore_n (lv' := [(0, .int (zI (15))), (1, .int (zI (1 + 8)))]) S dJ6_numberOfTrailingZeros_0f7a4_48 hl rfl (by decide) rfl (fun ls hl => ?_)
    refine z_iload_n S dJ6_numberOfTrailingZeros_0f7a4_49 hl 0 rfl rfl ?_
    refine z_bipush S dJ6_numberOfTrailingZeros_0f7a4_50 rfl ?_
    refine z_icmp_le_T S 62 dJ6_numberOfTrailingZeros_0f7a4_52 (by decide) (by omega) (by omega) (by omega) ?_
    refine z_iload_n S dJ6_numberOfTrailingZeros_0f7a4_62 hl 0 rfl rfl ?_
    refine z_iconst S dJ6_numberOfTrailingZeros_0f7a4_63 ?_
    refine z_icmp_le_F S 74 dJ6_numberOfTrailingZeros_0f7a4_64 (by decide) (by omega) (by omega) (by omega) ?_
    refine z_iinc (lv' := [(1, .int (zI (1 + 8 + 2))), (0, .int (zI (15)))]) S dJ6_numberOfTrailingZeros_0f7a4_67 hl 1 rfl (by decide) rfl (fun ls hl => ?_)
    refine z_iload_n S dJ6_numberOfTrailingZeros_0f7a4_70 hl 1 rfl rfl ?_
    refine z_iconst S dJ6_numberOfTrailingZeros_0f7a4_71 ?_
    refine lv_iushr S.1 S.2.1 dJ6_numberOfTrailingZeros_0f7a4_72 (v := zI 3) (by decide) ?_
    refine z_istore_n (lv' := [(0, .int (zI (3))), (1, .int (zI (1 + 8 + 2)))]) S dJ6_numberOfTrailingZeros_0f7a4_73 hl rfl (by decide) rfl (fun ls hl => ?_)
    refine z_iload_n S dJ6_numberOfTrailingZeros_0f7a4_74 hl 1 rfl rfl ?_
    refine z_iload_n S dJ6_numberOfTrailingZeros_0f7a4_75 hl 0 rfl rfl ?_
    refine z_iconst S dJ6_numberOfTrailingZeros_0f7a4_76 ?_
    refine lv_iushr S.1 S.2.1 dJ6_numberOfTrailingZeros_0f7a4_77 (v := zI 1) (by decide) ?_
    refine z_iadd S dJ6_numberOfTrailingZeros_0f7a4_78 ?_
    exact ret _ _ _ dJ6_numberOfTrailingZeros_0f7a4_79 (by decide)
  · skip
    refine z_iload_n S dJ6_numberOfTrailingZeros_0f7a4_0 hl 0 rfl rfl ?_
    refine z_iconst S dJ6_numberOfTrailingZeros_0f7a4_1 ?_
    refine lv_ixor S.1 S.2.1 dJ6_numberOfTrailingZeros_0f7a4_2 ?_
    refine z_iload_n S dJ6_numberOfTrailingZeros_0f7a4_3 hl 0 rfl rfl ?_
    refine z_iconst S dJ6_numberOfTrailingZeros_0f7a4_4 ?_
    refine lv_isub S.1 S.2.1 dJ6_numberOfTrailingZeros_0f7a4_5 ?_
    refine lv_iand S.1 S.2.1 dJ6_numberOfTrailingZeros_0f7a4_6 ?_
    rw [hx]
    rw [show zI (2 ^ Int.toNat 13 - 1) = zI 8191 from rfl]
    refine z_istore_n (lv' := [(0, .int (zI (8191)))]) S dJ6_numberOfTrailingZeros_0f7a4_7 hl rfl (by decide) rfl (fun ls hl => ?_)
    refine z_iload_n S dJ6_numberOfTrailingZeros_0f7a4_8 hl 0 rfl rfl ?_
    refine z_if_gt_T S 17 dJ6_numberOfTrailingZeros_0f7a4_9 (by decide) (by omega) (by omega) ?_
    refine z_iconst S dJ6_numberOfTrailingZeros_0f7a4_17 ?_
    refine z_istore_n (lv' := [(1, .int (zI (1))), (0, .int (zI (8191)))]) S dJ6_numberOfTrailingZeros_0f7a4_18 hl rfl (by decide) rfl (fun ls hl => ?_)
    refine z_iload_n S dJ6_numberOfTrailingZeros_0f7a4_19 hl 1 rfl rfl ?_
    refine lv_ldcw S.1 S.2.1 S.2.2.2.1 (S.2.2.2.2 _ q5_170) dJ6_numberOfTrailingZeros_0f7a4_20 ?_
    refine lv_icmp_le (tgt := 34) S.1 S.2.1 dJ6_numberOfTrailingZeros_0f7a4_23 (by decide) (fun c_23 => ?_) (fun c_23 => ?_)
    rotate_left
    · exact absurd (by decide) c_23
    refine z_iload_n S dJ6_numberOfTrailingZeros_0f7a4_34 hl 1 rfl rfl ?_
    refine z_sipush S dJ6_numberOfTrailingZeros_0f7a4_35 rfl ?_
    refine z_icmp_le_F S 49 dJ6_numberOfTrailingZeros_0f7a4_38 (by decide) (by omega) (by omega) (by omega) ?_
    refine z_iinc (lv' := [(1, .int (zI (1 + 8))), (0, .int (zI (8191)))]) S dJ6_numberOfTrailingZeros_0f7a4_41 hl 0 rfl (by decide) rfl (fun ls hl => ?_)
    refine z_iload_n S dJ6_numberOfTrailingZeros_0f7a4_44 hl 1 rfl rfl ?_
    refine z_bipush S dJ6_numberOfTrailingZeros_0f7a4_45 rfl ?_
    refine lv_iushr S.1 S.2.1 dJ6_numberOfTrailingZeros_0f7a4_47 (v := zI 31) (by decide) ?_
    refine z_istore_n (lv' := [(0, .int (zI (31))), (1, .int (zI (1 + 8)))]) S dJ6_numberOfTrailingZeros_0f7a4_48 hl rfl (by decide) rfl (fun ls hl => ?_)
    refine z_iload_n S dJ6_numberOfTrailingZeros_0f7a4_49 hl 0 rfl rfl ?_
    refine z_bipush S dJ6_numberOfTrailingZeros_0f7a4_50 rfl ?_
    refine z_icmp_le_F S 62 dJ6_numberOfTrailingZeros_0f7a4_52 (by decide) (by omega) (by omega) (by omega) ?_
    refine z_iinc (lv' := [(1, .int (zI (1 + 8 + 4))), (0, .int (zI (31)))]) S dJ6_numberOfTrailingZeros_0f7a4_55 hl 1 rfl (by decide) rfl (fun ls hl => ?_)
    refine z_iload_n S dJ6_numberOfTrailingZeros_0f7a4_58 hl 1 rfl rfl ?_
    refine z_iconst S dJ6_numberOfTrailingZeros_0f7a4_59 ?_
    refine lv_iushr S.1 S.2.1 dJ6_numberOfTrailingZeros_0f7a4_60 (v := zI 1) (by decide) ?_
    refine z_istore_n (lv' := [(0, .int (zI (1))), (1, .int (zI (1 + 8 + 4)))]) S dJ6_numberOfTrailingZeros_0f7a4_61 hl rfl (by decide) rfl (fun ls hl => ?_)
    refine z_iload_n S dJ6_numberOfTrailingZeros_0f7a4_62 hl 0 rfl rfl ?_
    refine z_iconst S dJ6_numberOfTrailingZeros_0f7a4_63 ?_
    refine z_icmp_le_T S 74 dJ6_numberOfTrailingZeros_0f7a4_64 (by decide) (by omega) (by omega) (by omega) ?_
    refine z_iload_n S dJ6_numberOfTrailingZeros_0f7a4_74 hl 1 rfl rfl ?_
    refine z_iload_n S dJ6_numberOfTrailingZeros_0f7a4_75 hl 0 rfl rfl ?_
    refine z_iconst S dJ6_numberOfTrailingZeros_0f7a4_76 ?_
    refine lv_iushr S.1 S.2.1 dJ6_numberOfTrailingZeros_0f7a4_77 (v := zI 0) (by decide) ?_
    refine z_iadd S dJ6_numberOfTrailingZeros_0f7a4_78 ?_
    exact ret _ _ _ dJ6_numberOfTrailingZeros_0f7a4_79 (by decide)
  · skip
    refine z_iload_n S dJ6_numberOfTrailingZeros_0f7a4_0 hl 0 rfl rfl ?_
    refine z_iconst S dJ6_numberOfTrailingZeros_0f7a4_1 ?_
    refine lv_ixor S.1 S.2.1 dJ6_numberOfTrailingZeros_0f7a4_2 ?_
    refine z_iload_n S dJ6_numberOfTrailingZeros_0f7a4_3 hl 0 rfl rfl ?_
    refine z_iconst S dJ6_numberOfTrailingZeros_0f7a4_4 ?_
    refine lv_isub S.1 S.2.1 dJ6_numberOfTrailingZeros_0f7a4_5 ?_
    refine lv_iand S.1 S.2.1 dJ6_numberOfTrailingZeros_0f7a4_6 ?_
    rw [hx]
    rw [show zI (2 ^ Int.toNat 14 - 1) = zI 16383 from rfl]
    refine z_istore_n (lv' := [(0, .int (zI (16383)))]) S dJ6_numberOfTrailingZeros_0f7a4_7 hl rfl (by decide) rfl (fun ls hl => ?_)
    refine z_iload_n S dJ6_numberOfTrailingZeros_0f7a4_8 hl 0 rfl rfl ?_
    refine z_if_gt_T S 17 dJ6_numberOfTrailingZeros_0f7a4_9 (by decide) (by omega) (by omega) ?_
    refine z_iconst S dJ6_numberOfTrailingZeros_0f7a4_17 ?_
    refine z_istore_n (lv' := [(1, .int (zI (1))), (0, .int (zI (16383)))]) S dJ6_numberOfTrailingZeros_0f7a4_18 hl rfl (by decide) rfl (fun ls hl => ?_)
    refine z_iload_n S dJ6_numberOfTrailingZeros_0f7a4_19 hl 1 rfl rfl ?_
    refine lv_ldcw S.1 S.2.1 S.2.2.2.1 (S.2.2.2.2 _ q5_170) dJ6_numberOfTrailingZeros_0f7a4_20 ?_
    refine lv_icmp_le (tgt := 34) S.1 S.2.1 dJ6_numberOfTrailingZeros_0f7a4_23 (by decide) (fun c_23 => ?_) (fun c_23 => ?_)
    rotate_left
    · exact absurd (by decide) c_23
    refine z_iload_n S dJ6_numberOfTrailingZeros_0f7a4_34 hl 1 rfl rfl ?_
    refine z_sipush S dJ6_numberOfTrailingZeros_0f7a4_35 rfl ?_
    refine z_icmp_le_F S 49 dJ6_numberOfTrailingZeros_0f7a4_38 (by decide) (by omega) (by omega) (by omega) ?_
    refine z_iinc (lv' := [(1, .int (zI (1 + 8))), (0, .int (zI (16383)))]) S dJ6_numberOfTrailingZeros_0f7a4_41 hl 0 rfl (by decide) rfl (fun ls hl => ?_)
    refine z_iload_n S dJ6_numberOfTrailingZeros_0f7a4_44 hl 1 rfl rfl ?_
    refine z_bipush S dJ6_numberOfTrailingZeros_0f7a4_45 rfl ?_
    refine lv_iushr S.1 S.2.1 dJ6_numberOfTrailingZeros_0f7a4_47 (v := zI 63) (by decide) ?_
    refine z_istore_n (lv' := [(0, .int (zI (63))), (1, .int (zI (1 + 8)))]) S dJ6_numberOfTrailingZeros_0f7a4_48 hl rfl (by decide) rfl (fun ls hl => ?_)
    refine z_iload_n S dJ6_numberOfTrailingZeros_0f7a4_49 hl 0 rfl rfl ?_
    refine z_bipush S dJ6_numberOfTrailingZeros_0f7a4_50 rfl ?_
    refine z_icmp_le_F S 62 dJ6_numberOfTrailingZeros_0f7a4_52 (by decide) (by omega) (by omega) (by omega) ?_
    refine z_iinc (lv' := [(1, .int (zI (1 + 8 + 4))), (0, .int (zI (63)))]) S dJ6_numberOfTrailingZeros_0f7a4_55 hl 1 rfl (by decide) rfl (fun ls hl => ?_)
    refine z_iload_n S dJ6_numberOfTrailingZeros_0f7a4_58 hl 1 rfl rfl ?_
    refine z_iconst S dJ6_numberOfTrailingZeros_0f7a4_59 ?_
    refine lv_iushr S.1 S.2.1 dJ6_numberOfTrailingZeros_0f7a4_60 (v := zI 3) (by decide) ?_
    refine z_istore_n (lv' := [(0, .int (zI (3))), (1, .int (zI (1 + 8 + 4)))]) S dJ6_numberOfTrailingZeros_0f7a4_61 hl rfl (by decide) rfl (fun ls hl => ?_)
    refine z_iload_n S dJ6_numberOfTrailingZeros_0f7a4_62 hl 0 rfl rfl ?_
    refine z_iconst S dJ6_numberOfTrailingZeros_0f7a4_63 ?_
    refine z_icmp_le_T S 74 dJ6_numberOfTrailingZeros_0f7a4_64 (by decide) (by omega) (by omega) (by omega) ?_
    refine z_iload_n S dJ6_numberOfTrailingZeros_0f7a4_74 hl 1 rfl rfl ?_
    refine z_iload_n S dJ6_numberOfTrailingZeros_0f7a4_75 hl 0 rfl rfl ?_
    refine z_iconst S dJ6_numberOfTrailingZeros_0f7a4_76 ?_
    refine lv_iushr S.1 S.2.1 dJ6_numberOfTrailingZeros_0f7a4_77 (v := zI 1) (by decide) ?_
    refine z_iadd S dJ6_numberOfTrailingZeros_0f7a4_78 ?_
    exact ret _ _ _ dJ6_numberOfTrailingZeros_0f7a4_79 (by decide)
  · skip
    refine z_iload_n S dJ6_numberOfTrailingZeros_0f7a4_0 hl 0 rfl rfl ?_
    refine z_iconst S dJ6_numberOfTrailingZeros_0f7a4_1 ?_
    refine lv_ixor S.1 S.2.1 dJ6_numberOfTrailingZeros_0f7a4_2 ?_
    refine z_iload_n S dJ6_numberOfTrailingZeros_0f7a4_3 hl 0 rfl rfl ?_
    refine z_iconst S dJ6_numberOfTrailingZeros_0f7a4_4 ?_
    refine lv_isub S.1 S.2.1 dJ6_numberOfTrailingZeros_0f7a4_5 ?_
    refine lv_iand S.1 S.2.1 dJ6_numberOfTrailingZeros_0f7a4_6 ?_
    rw [hx]
    rw [show zI (2 ^ Int.toNat 15 - 1) = zI 32767 from rfl]
    refine z_istore_n (lv' := [(0, .int (zI (32767)))]) S dJ6_numberOfTrailingZeros_0f7a4_7 hl rfl (by decide) rfl (fun ls hl => ?_)
    refine z_iload_n S dJ6_numberOfTrailingZeros_0f7a4_8 hl 0 rfl rfl ?_
    refine z_if_gt_T S 17 dJ6_numberOfTrailingZeros_0f7a4_9 (by decide) (by omega) (by omega) ?_
    refine z_iconst S dJ6_numberOfTrailingZeros_0f7a4_17 ?_
    refine z_istore_n (lv' := [(1, .int (zI (1))), (0, .int (zI (32767)))]) S dJ6_numberOfTrailingZeros_0f7a4_18 hl rfl (by decide) rfl (fun ls hl => ?_)
    refine z_iload_n S dJ6_numberOfTrailingZeros_0f7a4_19 hl 1 rfl rfl ?_
    refine lv_ldcw S.1 S.2.1 S.2.2.2.1 (S.2.2.2.2 _ q5_170) dJ6_numberOfTrailingZeros_0f7a4_20 ?_
    refine lv_icmp_le (tgt := 34) S.1 S.2.1 dJ6_numberOfTrailingZeros_0f7a4_23 (by decide) (fun c_23 => ?_) (fun c_23 => ?_)
    rotate_left
    · exact absurd (by decide) c_23
    refine z_iload_n S dJ6_numberOfTrailingZeros_0f7a4_34 hl 1 rfl rfl ?_
    refine z_sipush S dJ6_numberOfTrailingZeros_0f7a4_35 rfl ?_
    refine z_icmp_le_F S 49 dJ6_numberOfTrailingZeros_0f7a4_38 (by decide) (by omega) (by omega) (by omega) ?_
    refine z_iinc (lv' := [(1, .int (zI (1 + 8))), (0, .int (zI (32767)))]) S dJ6_numberOfTrailingZeros_0f7a4_41 hl 0 rfl (by decide) rfl (fun ls hl => ?_)
    refine z_iload_n S dJ6_numberOfTrailingZeros_0f7a4_44 hl 1 rfl rfl ?_
    refine z_bipush S dJ6_numberOfTrailingZeros_0f7a4_45 rfl ?_
    refine lv_iushr S.1 S.2.1 dJ6_numberOfTrailingZeros_0f7a4_47 (v := zI 127) (by decide) ?_
    refine z_istore_n (lv' := [(0, .int (zI (127))), (1, .int (zI (1 + 8)))]) S dJ6_numberOfTrailingZeros_0f7a4_48 hl rfl (by decide) rfl (fun ls hl => ?_)
    refine z_iload_n S dJ6_numberOfTrailingZeros_0f7a4_49 hl 0 rfl rfl ?_
    refine z_bipush S dJ6_numberOfTrailingZeros_0f7a4_50 rfl ?_
    refine z_icmp_le_F S 62 dJ6_numberOfTrailingZeros_0f7a4_52 (by decide) (by omega) (by omega) (by omega) ?_
    refine z_iinc (lv' := [(1, .int (zI (1 + 8 + 4))), (0, .int (zI (127)))]) S dJ6_numberOfTrailingZeros_0f7a4_55 hl 1 rfl (by decide) rfl (fun ls hl => ?_)
    refine z_iload_n S dJ6_numberOfTrailingZeros_0f7a4_58 hl 1 rfl rfl ?_
    refine z_iconst S dJ6_numberOfTrailingZeros_0f7a4_59 ?_
    refine lv_iushr S.1 S.2.1 dJ6_numberOfTrailingZeros_0f7a4_60 (v := zI 7) (by decide) ?_
    refine z_istore_n (lv' := [(0, .int (zI (7))), (1, .int (zI (1 + 8 + 4)))]) S dJ6_numberOfTrailingZeros_0f7a4_61 hl rfl (by decide) rfl (fun ls hl => ?_)
    refine z_iload_n S dJ6_numberOfTrailingZeros_0f7a4_62 hl 0 rfl rfl ?_
    refine z_iconst S dJ6_numberOfTrailingZeros_0f7a4_63 ?_
    refine z_icmp_le_F S 74 dJ6_numberOfTrailingZeros_0f7a4_64 (by decide) (by omega) (by omega) (by omega) ?_
    refine z_iinc (lv' := [(1, .int (zI (1 + 8 + 4 + 2))), (0, .int (zI (7)))]) S dJ6_numberOfTrailingZeros_0f7a4_67 hl 1 rfl (by decide) rfl (fun ls hl => ?_)
    refine z_iload_n S dJ6_numberOfTrailingZeros_0f7a4_70 hl 1 rfl rfl ?_
    refine z_iconst S dJ6_numberOfTrailingZeros_0f7a4_71 ?_
    refine lv_iushr S.1 S.2.1 dJ6_numberOfTrailingZeros_0f7a4_72 (v := zI 1) (by decide) ?_
    refine z_istore_n (lv' := [(0, .int (zI (1))), (1, .int (zI (1 + 8 + 4 + 2)))]) S dJ6_numberOfTrailingZeros_0f7a4_73 hl rfl (by decide) rfl (fun ls hl => ?_)
    refine z_iload_n S dJ6_numberOfTrailingZeros_0f7a4_74 hl 1 rfl rfl ?_
    refine z_iload_n S dJ6_numberOfTrailingZeros_0f7a4_75 hl 0 rfl rfl ?_
    refine z_iconst S dJ6_numberOfTrailingZeros_0f7a4_76 ?_
    refine lv_iushr S.1 S.2.1 dJ6_numberOfTrailingZeros_0f7a4_77 (v := zI 0) (by decide) ?_
    refine z_iadd S dJ6_numberOfTrailingZeros_0f7a4_78 ?_
    exact ret _ _ _ dJ6_numberOfTrailingZeros_0f7a4_79 (by decide)
theorem dX4_entries_0 : decode cX4_entries 0 = .ok (.iconst 0, 1) := by decide +kernel
theorem dX4_entries_1 : decode cX4_entries 1 = .ok (.istore_n 1, 1) := by decide +kernel
theorem dX4_entries_2 : decode cX4_entries 2 = .ok (.aload_n 0, 1) := by decide +kernel
theorem dX4_entries_3 : decode cX4_entries 3 = .ok (.getfield 17, 3) := by decide +kernel
theorem dX4_entries_6 : decode cX4_entries 6 = .ok (.astore_n 2, 1) := by decide +kernel
theorem dX4_entries_7 : decode cX4_entries 7 = .ok (.aload_n 2, 1) := by decide +kernel
theorem dX4_entries_8 : decode cX4_entries 8 = .ok (.arraylength, 1) := by decide +kernel
theorem dX4_entries_9 : decode cX4_entries 9 = .ok (.istore_n 3, 1) := by decide +kernel
theorem dX4_entries_10 : decode cX4_entries 10 = .ok (.iconst 0, 1) := by decide +kernel
theorem dX4_entries_11 : decode cX4_entries 11 = .ok (.istore 4, 2) := by decide +kernel
theorem dX4_entries_13 : decode cX4_entries 13 = .ok (.iload 4, 2) := by decide +kernel
theorem dX4_entries_15 : decode cX4_entries 15 = .ok (.iload_n 3, 1) := by decide +kernel
theorem dX4_entries_16 : decode cX4_entries 16 = .ok (.if_icmp .ge 22, 3) := by decide +kernel
theorem dX4_entries_19 : decode cX4_entries 19 = .ok (.aload_n 2, 1) := by decide +kernel
theorem dX4_entries_20 : decode cX4_entries 20 = .ok (.iload 4, 2) := by decide +kernel
theorem dX4_entries_22 : decode cX4_entries 22 = .ok (.iaload, 1) := by decide +kernel
theorem dX4_entries_23 : decode cX4_entries 23 = .ok (.istore 5, 2) := by decide +kernel
theorem dX4_entries_25 : decode cX4_entries 25 = .ok (.iload_n 1, 1) := by decide +kernel
theorem dX4_entries_26 : decode cX4_entries 26 = .ok (.iconst 1, 1) := by decide +kernel
theorem dX4_entries_27 : decode cX4_entries 27 = .ok (.iload 5, 2) := by decide +kernel
theorem dX4_entries_29 : decode cX4_entries 29 = .ok (.ishl, 1) := by decide +kernel
theorem dX4_entries_30 : decode cX4_entries 30 = .ok (.ior, 1) := by decide +kernel
theorem dX4_entries_31 : decode cX4_entries 31 = .ok (.istore_n 1, 1) := by decide +kernel
theorem dX4_entries_32 : decode cX4_entries 32 = .ok (.iinc 4 1, 3) := by decide +kernel
theorem dX4_entries_35 : decode cX4_entries 35 = .ok (.goto (-22), 3) := by decide +kernel
theorem dX4_entries_38 : decode cX4_entries 38 = .ok (.iload_n 1, 1) := by decide +kernel
theorem dX4_entries_39 : decode cX4_entries 39 = .ok (.ireturn, 1) := by decide +kernel
theorem q4_231 : (Jvm.Cond.fieldLink "CyclepaintModel" (17 : Nat) "CyclepaintModel" "dots" "[I") ∈ lw_g := zg_of (zin4 (List.mem_of_getElem? (i := 231) rfl)) rfl
theorem q6_5 : (Jvm.Cond.code ({ cls := "CyclepaintModel", name := "entries", desc := "()I" } : Jvm.MethodName) prog_6_method_22_code (6 : Nat) (Option.some Jvm.ClassFile.FieldType.int)) ∈ lw_g := zg_of (zin6 (List.mem_of_getElem? (i := 5) rfl)) rfl
theorem q6_4 : (Jvm.Cond.instanceMethod ({ cls := "CyclepaintModel", name := "entries", desc := "()I" } : Jvm.MethodName)) ∈ lw_g := zg_of (zin6 (List.mem_of_getElem? (i := 4) rfl)) rfl
theorem qs_41 : Cond.selects "CyclepaintModel" (⟨"CyclepaintModel", "entries", "()I"⟩ : MethodName) (⟨"CyclepaintModel", "entries", "()I"⟩ : MethodName) ∈ lw_g := zg_of (zinS (List.mem_of_getElem? (i := 41) rfl)) rfl
theorem ok_X4_entries : zOV yX4_entries cX4_entries 6 ((Option.some Jvm.ClassFile.FieldType.int)) 0 := ⟨⟨q6_5, q1_3, by decide, by decide, by decide +kernel⟩, q6_4, qs_41⟩
set_option maxHeartbeats 4000000 in
set_option maxRecDepth 100000 in
theorem c_X4_entries (l : Launch) (G : zG) (σ : St) (b : Nat → Nat) (th m1 m2 : Int32) : Met l yX4_entries (wq yX4_entries cX4_entries 6 ((Option.some Jvm.ClassFile.FieldType.int))) (rmR 0 0) (va_Pc [.ref (b 0)] (zK G (hMod G σ b th m1 m2))) (zQ (some (.int ((enM σ))))) 0 0 zF := by
  refine z_enterI (by decide +kernel) (Nat.le_of_ble_eq_true rfl) ?_
  intro p env s m below meth cod Q S hG hP ret ls hl
  have hl : lv_has ls 6 [(0, .ref (b 0))] := hl
  refine z_iconst S dX4_entries_0 ?_
  refine z_istore_n (lv' := [(1, .int (zI (0))), (0, .ref (b 0))]) S dX4_entries_1 hl rfl (by decide) rfl (fun ls hl => ?_)
  refine z_aload_n S dX4_entries_2 hl 1 rfl rfl ?_
  refine z_get S hG hP.1 zc_X4 5 (by decide) q4_231 rfl rfl dX4_entries_3 ?_
  refine z_astore_n (lv' := [(2, .ref (b 2)), (1, .int (zI (0))), (0, .ref (b 0))]) S dX4_entries_6 hl rfl (by decide) rfl (fun ls hl => ?_)
  refine z_aload_n S dX4_entries_7 hl 0 rfl rfl ?_
  refine z_alenI S hG hP.2.2.1 dX4_entries_8 ?_
  refine z_istore_n (lv' := [(3, .int (zI (32))), (2, .ref (b 2)), (1, .int (zI (0))), (0, .ref (b 0))]) S dX4_entries_9 hl rfl (by decide) rfl (fun ls hl => ?_)
  refine z_iconst S dX4_entries_10 ?_
  refine z_istore (lv' := [(4, .int (zI (0))), (3, .int (zI (32))), (2, .ref (b 2)), (1, .int (zI (0))), (0, .ref (b 0))]) S dX4_entries_11 hl (by decide) rfl (fun ls hl => ?_)
  have loop_13 : ∀ (nn : Nat) (k : Int) (g : Int32), (0 ≤ k ∧ k ≤ 32) → (g = orI (fun _ => true) (fun d => bit1 (σ.Dt d)) k) → ((32 - k).toNat) < nn → ∀ ls, lv_has ls 6 [(4, .int (zI (k))), (3, .int (zI (32))), (2, .ref (b 2)), (1, .int (g)), (0, .ref (b 0))] → W p l env (rmR 0 0) s m ([.ref (b 0)] : List Value).toArray below meth cod s.heap [] 0 0 Q (F0 m 13 ls []) := by
    intro nn
    induction nn with
    | zero => intro _ _ _ _ h; exact absurd h (Nat.not_lt_zero _)
    | succ nn ih_13 =>
      intro k g hk hg hm_13 ls hl
      refine z_iload S dX4_entries_13 hl 0 rfl ?_
      refine z_iload_n S dX4_entries_15 hl 1 rfl rfl ?_
      refine z_icmp_ge S 38 dX4_entries_16 (by decide) (by omega) (by omega) (fun c_16 => ?_) (fun c_16 => ?_)
      · skip
        refine z_iload_n S dX4_entries_38 hl 3 rfl rfl ?_
        exact ret _ _ _ dX4_entries_39 (by rw [hg, show k = 32 by omega]; rfl)
      · skip
        refine z_aload_n S dX4_entries_19 hl 2 rfl rfl ?_
        refine z_iload S dX4_entries_20 hl 0 rfl ?_
        refine z_ialdB S hG hP.2.2.1 (by omega) (by decide) dX4_entries_22 ?_
        refine z_istore (lv' := [(5, .int (zI (σ.Dt (k)))), (4, .int (zI (k))), (3, .int (zI (32))), (2, .ref (b 2)), (1, .int (g)), (0, .ref (b 0))]) S dX4_entries_23 hl (by decide) rfl (fun ls hl => ?_)
        refine z_iload_n S dX4_entries_25 hl 4 rfl rfl ?_
        refine z_iconst S dX4_entries_26 ?_
        refine z_iload S dX4_entries_27 hl 0 rfl ?_
        refine lv_ishl S.1 S.2.1 dX4_entries_29 ?_
        refine lv_ior S.1 S.2.1 dX4_entries_30 ?_
        refine z_istore_n (lv' := [(1, .int ((g) ||| ((zI (1)) <<< ((zI (σ.Dt (k))) &&& 31)))), (5, .int (zI (σ.Dt (k)))), (4, .int (zI (k))), (3, .int (zI (32))), (2, .ref (b 2)), (0, .ref (b 0))]) S dX4_entries_31 hl rfl (by decide) rfl (fun ls hl => ?_)
        refine z_iinc (lv' := [(4, .int (zI (k + 1))), (1, .int ((g) ||| ((zI (1)) <<< ((zI (σ.Dt (k))) &&& 31)))), (5, .int (zI (σ.Dt (k)))), (3, .int (zI (32))), (2, .ref (b 2)), (0, .ref (b 0))]) S dX4_entries_32 hl 2 rfl (by decide) rfl (fun ls hl => ?_)
        refine z_goto S 13 dX4_entries_35 (by decide) ?_
        exact ih_13 (k + 1) ((g) ||| ((zI (1)) <<< ((zI (σ.Dt (k))) &&& 31))) (by omega) (by rw [orI_s hk.1, if_pos rfl, ← hg]; rfl) (by omega) ls (lv_sub hl [0, 3, 4, 1, 5] rfl)
  exact loop_13 _ (0) ((zI (0))) (by omega) (rfl) (Nat.lt_succ_self _) ls (lv_sub hl [0, 1, 2, 3, 4] rfl)
theorem dX4_flicker_0 : decode cX4_flicker 0 = .ok (.iconst 0, 1) := by decide +kernel
theorem dX4_flicker_1 : decode cX4_flicker 1 = .ok (.istore_n 2, 1) := by decide +kernel
theorem dX4_flicker_2 : decode cX4_flicker 2 = .ok (.aload_n 0, 1) := by decide +kernel
theorem dX4_flicker_3 : decode cX4_flicker 3 = .ok (.getfield 108, 3) := by decide +kernel
theorem dX4_flicker_6 : decode cX4_flicker 6 = .ok (.iconst 1, 1) := by decide +kernel
theorem dX4_flicker_7 : decode cX4_flicker 7 = .ok (.iadd, 1) := by decide +kernel
theorem dX4_flicker_8 : decode cX4_flicker 8 = .ok (.istore_n 3, 1) := by decide +kernel
theorem dX4_flicker_9 : decode cX4_flicker 9 = .ok (.iload_n 3, 1) := by decide +kernel
theorem dX4_flicker_10 : decode cX4_flicker 10 = .ok (.aload_n 0, 1) := by decide +kernel
theorem dX4_flicker_11 : decode cX4_flicker 11 = .ok (.getfield 108, 3) := by decide +kernel
theorem dX4_flicker_14 : decode cX4_flicker 14 = .ok (.bipush 30, 2) := by decide +kernel
theorem dX4_flicker_16 : decode cX4_flicker 16 = .ok (.iadd, 1) := by decide +kernel
theorem dX4_flicker_17 : decode cX4_flicker 17 = .ok (.if_icmp .gt 44, 3) := by decide +kernel
theorem dX4_flicker_20 : decode cX4_flicker 20 = .ok (.iload_n 2, 1) := by decide +kernel
theorem dX4_flicker_21 : decode cX4_flicker 21 = .ok (.aload_n 0, 1) := by decide +kernel
theorem dX4_flicker_22 : decode cX4_flicker 22 = .ok (.aload_n 0, 1) := by decide +kernel
theorem dX4_flicker_23 : decode cX4_flicker 23 = .ok (.getfield 17, 3) := by decide +kernel
theorem dX4_flicker_26 : decode cX4_flicker 26 = .ok (.iload_n 1, 1) := by decide +kernel
theorem dX4_flicker_27 : decode cX4_flicker 27 = .ok (.iaload, 1) := by decide +kernel
theorem dX4_flicker_28 : decode cX4_flicker 28 = .ok (.iload_n 3, 1) := by decide +kernel
theorem dX4_flicker_29 : decode cX4_flicker 29 = .ok (.invokevirtual 84, 3) := by decide +kernel
theorem dX4_flicker_32 : decode cX4_flicker 32 = .ok (.aload_n 0, 1) := by decide +kernel
theorem dX4_flicker_33 : decode cX4_flicker 33 = .ok (.aload_n 0, 1) := by decide +kernel
theorem dX4_flicker_34 : decode cX4_flicker 34 = .ok (.getfield 17, 3) := by decide +kernel
theorem dX4_flicker_37 : decode cX4_flicker 37 = .ok (.iload_n 1, 1) := by decide +kernel
theorem dX4_flicker_38 : decode cX4_flicker 38 = .ok (.iaload, 1) := by decide +kernel
theorem dX4_flicker_39 : decode cX4_flicker 39 = .ok (.iload_n 3, 1) := by decide +kernel
theorem dX4_flicker_40 : decode cX4_flicker 40 = .ok (.iconst 1, 1) := by decide +kernel
theorem dX4_flicker_41 : decode cX4_flicker 41 = .ok (.isub, 1) := by decide +kernel
theorem dX4_flicker_42 : decode cX4_flicker 42 = .ok (.invokevirtual 84, 3) := by decide +kernel
theorem dX4_flicker_45 : decode cX4_flicker 45 = .ok (.if_icmp .eq 7, 3) := by decide +kernel
theorem dX4_flicker_48 : decode cX4_flicker 48 = .ok (.iconst 1, 1) := by decide +kernel
theorem dX4_flicker_49 : decode cX4_flicker 49 = .ok (.goto 4, 3) := by decide +kernel
theorem dX4_flicker_52 : decode cX4_flicker 52 = .ok (.iconst 0, 1) := by decide +kernel
theorem dX4_flicker_53 : decode cX4_flicker 53 = .ok (.iadd, 1) := by decide +kernel
theorem dX4_flicker_54 : decode cX4_flicker 54 = .ok (.istore_n 2, 1) := by decide +kernel
theorem dX4_flicker_55 : decode cX4_flicker 55 = .ok (.iinc 3 1, 3) := by decide +kernel
theorem dX4_flicker_58 : decode cX4_flicker 58 = .ok (.goto (-49), 3) := by decide +kernel
theorem dX4_flicker_61 : decode cX4_flicker 61 = .ok (.iload_n 2, 1) := by decide +kernel
theorem dX4_flicker_62 : decode cX4_flicker 62 = .ok (.ireturn, 1) := by decide +kernel
theorem q4_227 : (Jvm.Cond.fieldLink "CyclepaintModel" (108 : Nat) "CyclepaintModel" "tick" "I") ∈ lw_g := zg_of (zin4 (List.mem_of_getElem? (i := 227) rfl)) rfl
theorem q5_198 : (Jvm.Cond.code ({ cls := "CyclepaintModel", name := "flicker", desc := "(I)I" } : Jvm.MethodName) prog_6_method_24_code (4 : Nat) (Option.some Jvm.ClassFile.FieldType.int)) ∈ lw_g := zg_of (zin5 (List.mem_of_getElem? (i := 198) rfl)) rfl
theorem q5_197 : (Jvm.Cond.instanceMethod ({ cls := "CyclepaintModel", name := "flicker", desc := "(I)I" } : Jvm.MethodName)) ∈ lw_g := zg_of (zin5 (List.mem_of_getElem? (i := 197) rfl)) rfl
theorem qs_35 : Cond.selects "CyclepaintModel" (⟨"CyclepaintModel", "flicker", "(I)I"⟩ : MethodName) (⟨"CyclepaintModel", "flicker", "(I)I"⟩ : MethodName) ∈ lw_g := zg_of (zinS (List.mem_of_getElem? (i := 35) rfl)) rfl
theorem ok_X4_flicker : zOV yX4_flicker cX4_flicker 4 ((Option.some Jvm.ClassFile.FieldType.int)) 1 := ⟨⟨q5_198, q1_3, by decide, by decide, by decide +kernel⟩, q5_197, qs_35⟩
set_option maxHeartbeats 4000000 in
set_option maxRecDepth 100000 in
theorem c_X4_flicker (l : Launch) (G : zG) (σ : St) (b : Nat → Nat) (th m1 m2 : Int32) (d : Int) (hd : 0 ≤ d ∧ d < 32) (hdt : ∀ d : Int, 0 ≤ d → d < 32 → 0 ≤ σ.Dt d ∧ σ.Dt d < 16) (hT : 0 ≤ σ.tk ∧ σ.tk ≤ 99999) : Met l yX4_flicker (wq yX4_flicker cX4_flicker 4 ((Option.some Jvm.ClassFile.FieldType.int))) (rmR 5 110) (va_Pc [.ref (b 0), .int (zI (d))] (zK G (hMod G σ b th m1 m2))) (zQ (some (.int ((zI (chg σ (σ.Dt d) σ.tk 30)))))) 0 0 zF := by
  refine z_enterI (by decide +kernel) (Nat.le_of_ble_eq_true rfl) ?_
  intro p env s m below meth cod Q S hG hP ret ls hl
  have hl : lv_has ls 4 [(0, .ref (b 0)), (1, .int (zI (d)))] := hl
  have hdt0 := hdt d hd.1 hd.2
  refine z_iconst S dX4_flicker_0 ?_
  refine z_istore_n (lv' := [(2, .int (zI (0))), (0, .ref (b 0)), (1, .int (zI (d)))]) S dX4_flicker_1 hl rfl (by decide) rfl (fun ls hl => ?_)
  refine z_aload_n S dX4_flicker_2 hl 1 rfl rfl ?_
  refine z_get S hG hP.1 zc_X4 1 (by decide) q4_227 rfl rfl dX4_flicker_3 ?_
  refine z_iconst S dX4_flicker_6 ?_
  refine z_iadd S dX4_flicker_7 ?_
  refine z_istore_n (lv' := [(3, .int (zI ((σ.tk) + (1)))), (2, .int (zI (0))), (0, .ref (b 0)), (1, .int (zI (d)))]) S dX4_flicker_8 hl rfl (by decide) rfl (fun ls hl => ?_)
  have loop_9 : ∀ (nn : Nat) (k : Int) (ch : Int), (σ.tk + 1 ≤ k ∧ k ≤ σ.tk + 31) → (ch = cntI (chgB σ (σ.Dt d) σ.tk) (k - σ.tk - 1)) → ((σ.tk + 31 - k).toNat) < nn → ∀ ls, lv_has ls 4 [(3, .int (zI (k))), (2, .int (zI (ch))), (0, .ref (b 0)), (1, .int (zI (d)))] → W p l env (rmR 5 110) s m ([.ref (b 0), .int (zI (d))] : List Value).toArray below meth cod s.heap [] 0 0 Q (F0 m 9 ls []) := by
    intro nn
    induction nn with
    | zero => intro _ _ _ _ h; exact absurd h (Nat.not_lt_zero _)
    | succ nn ih_9 =>
      intro k ch hk hch hm_9 ls hl
      refine z_iload_n S dX4_flicker_9 hl 0 rfl rfl ?_
      refine z_aload_n S dX4_flicker_10 hl 2 rfl rfl ?_
      refine z_get S hG hP.1 zc_X4 1 (by decide) q4_227 rfl rfl dX4_flicker_11 ?_
      refine z_bipush S dX4_flicker_14 rfl ?_
      refine z_iadd S dX4_flicker_16 ?_
      refine z_icmp_gt S 61 dX4_flicker_17 (by decide) (by omega) (by omega) (fun c_17 => ?_) (fun c_17 => ?_)
      · skip
        refine z_iload_n S dX4_flicker_61 hl 1 rfl rfl ?_
        exact ret _ _ _ dX4_flicker_62 (by rw [hch, show k - σ.tk - 1 = 30 by omega]; rfl)
      · skip
        refine z_iload_n S dX4_flicker_20 hl 1 rfl rfl ?_
        refine z_aload_n S dX4_flicker_21 hl 2 rfl rfl ?_
        refine z_aload_n S dX4_flicker_22 hl 2 rfl rfl ?_
        refine z_get S hG hP.1 zc_X4 5 (by decide) q4_231 rfl rfl dX4_flicker_23 ?_
        refine z_iload_n S dX4_flicker_26 hl 3 rfl rfl ?_
        refine z_ialdB S hG hP.2.2.1 (by omega) (by decide) dX4_flicker_27 ?_
        refine z_iload_n S dX4_flicker_28 hl 0 rfl rfl ?_
        refine z_callVs S hG (c_X4_show l G σ b th m1 m2 (σ.Dt (d)) (k) (by omega) (by omega)) ok_X4_show hP.1 zc_X4 rfl q5_163 (hP) ⟨rfl, rfl, by decide, by decide⟩ ⟨Nat.zero_le _, Nat.zero_le _⟩ rfl (Nat.le_of_ble_eq_true rfl) hl.1 rfl dX4_flicker_29 ?_
        refine z_aload_n S dX4_flicker_32 hl 2 rfl rfl ?_
        refine z_aload_n S dX4_flicker_33 hl 2 rfl rfl ?_
        refine z_get S hG hP.1 zc_X4 5 (by decide) q4_231 rfl rfl dX4_flicker_34 ?_
        refine z_iload_n S dX4_flicker_37 hl 3 rfl rfl ?_
        refine z_ialdB S hG hP.2.2.1 (by omega) (by decide) dX4_flicker_38 ?_
        refine z_iload_n S dX4_flicker_39 hl 0 rfl rfl ?_
        refine z_iconst S dX4_flicker_40 ?_
        refine z_isub S dX4_flicker_41 ?_
        refine z_callVs S hG (c_X4_show l G σ b th m1 m2 (σ.Dt (d)) ((k) - (1)) (by omega) (by omega)) ok_X4_show hP.1 zc_X4 rfl q5_163 (hP) ⟨rfl, rfl, by decide, by decide⟩ ⟨Nat.zero_le _, Nat.zero_le _⟩ rfl (Nat.le_of_ble_eq_true rfl) hl.1 rfl dX4_flicker_42 ?_
        refine lv_icmp_eq (tgt := 52) S.1 S.2.1 dX4_flicker_45 (by decide) (fun c_45 => ?_) (fun c_45 => ?_)
        · skip
          refine z_iconst S dX4_flicker_52 ?_
          refine z_iadd S dX4_flicker_53 ?_
          refine z_istore_n (lv' := [(2, .int (zI ((ch) + (0)))), (3, .int (zI (k))), (0, .ref (b 0)), (1, .int (zI (d)))]) S dX4_flicker_54 hl rfl (by decide) rfl (fun ls hl => ?_)
          refine z_iinc (lv' := [(3, .int (zI (k + 1))), (2, .int (zI ((ch) + (0)))), (0, .ref (b 0)), (1, .int (zI (d)))]) S dX4_flicker_55 hl 1 rfl (by decide) rfl (fun ls hl => ?_)
          refine z_goto S 9 dX4_flicker_58 (by decide) ?_
          exact ih_9 (k + 1) ((ch) + (0)) (by omega) (by rw [show k + 1 - σ.tk - 1 = (k - σ.tk - 1) + 1 by omega, cntI_f (by omega) (by unfold chgB; rw [show σ.tk + (k - σ.tk - 1) + 1 = k by omega, show σ.tk + (k - σ.tk - 1) = k - 1 by omega]; simp [c_45]), ← hch]; omega) (by omega) ls (lv_sub hl [0, 1, 2, 3] rfl)
        · skip
          refine z_iconst S dX4_flicker_48 ?_
          refine z_goto S 53 dX4_flicker_49 (by decide) ?_
          refine z_iadd S dX4_flicker_53 ?_
          refine z_istore_n (lv' := [(2, .int (zI ((ch) + (1)))), (3, .int (zI (k))), (0, .ref (b 0)), (1, .int (zI (d)))]) S dX4_flicker_54 hl rfl (by decide) rfl (fun ls hl => ?_)
          refine z_iinc (lv' := [(3, .int (zI (k + 1))), (2, .int (zI ((ch) + (1)))), (0, .ref (b 0)), (1, .int (zI (d)))]) S dX4_flicker_55 hl 1 rfl (by decide) rfl (fun ls hl => ?_)
          refine z_goto S 9 dX4_flicker_58 (by decide) ?_
          exact ih_9 (k + 1) ((ch) + (1)) (by omega) (by rw [show k + 1 - σ.tk - 1 = (k - σ.tk - 1) + 1 by omega, cntI_t (by omega) (by unfold chgB; rw [show σ.tk + (k - σ.tk - 1) + 1 = k by omega, show σ.tk + (k - σ.tk - 1) = k - 1 by omega]; simp [c_45]), ← hch]) (by omega) ls (lv_sub hl [0, 1, 2, 3] rfl)
  exact loop_9 _ ((σ.tk) + (1)) (0) (by omega) (by rw [show σ.tk + 1 - σ.tk - 1 = 0 by omega]; rfl) (Nat.lt_succ_self _) ls (lv_sub hl [0, 1, 2, 3] rfl)
theorem dX4_flickering_0 : decode cX4_flickering 0 = .ok (.iconst 0, 1) := by decide +kernel
theorem dX4_flickering_1 : decode cX4_flickering 1 = .ok (.istore_n 1, 1) := by decide +kernel
theorem dX4_flickering_2 : decode cX4_flickering 2 = .ok (.iconst 0, 1) := by decide +kernel
theorem dX4_flickering_3 : decode cX4_flickering 3 = .ok (.istore_n 2, 1) := by decide +kernel
theorem dX4_flickering_4 : decode cX4_flickering 4 = .ok (.iload_n 2, 1) := by decide +kernel
theorem dX4_flickering_5 : decode cX4_flickering 5 = .ok (.aload_n 0, 1) := by decide +kernel
theorem dX4_flickering_6 : decode cX4_flickering 6 = .ok (.getfield 17, 3) := by decide +kernel
theorem dX4_flickering_9 : decode cX4_flickering 9 = .ok (.arraylength, 1) := by decide +kernel
theorem dX4_flickering_10 : decode cX4_flickering 10 = .ok (.if_icmp .ge 27, 3) := by decide +kernel
theorem dX4_flickering_13 : decode cX4_flickering 13 = .ok (.iload_n 1, 1) := by decide +kernel
theorem dX4_flickering_14 : decode cX4_flickering 14 = .ok (.aload_n 0, 1) := by decide +kernel
theorem dX4_flickering_15 : decode cX4_flickering 15 = .ok (.iload_n 2, 1) := by decide +kernel
theorem dX4_flickering_16 : decode cX4_flickering 16 = .ok (.invokevirtual 111, 3) := by decide +kernel
theorem dX4_flickering_19 : decode cX4_flickering 19 = .ok (.bipush 10, 2) := by decide +kernel
theorem dX4_flickering_21 : decode cX4_flickering 21 = .ok (.if_icmp .le 7, 3) := by decide +kernel
theorem dX4_flickering_24 : decode cX4_flickering 24 = .ok (.iconst 1, 1) := by decide +kernel
theorem dX4_flickering_25 : decode cX4_flickering 25 = .ok (.goto 4, 3) := by decide +kernel
theorem dX4_flickering_28 : decode cX4_flickering 28 = .ok (.iconst 0, 1) := by decide +kernel
theorem dX4_flickering_29 : decode cX4_flickering 29 = .ok (.iadd, 1) := by decide +kernel
theorem dX4_flickering_30 : decode cX4_flickering 30 = .ok (.istore_n 1, 1) := by decide +kernel
theorem dX4_flickering_31 : decode cX4_flickering 31 = .ok (.iinc 2 1, 3) := by decide +kernel
theorem dX4_flickering_34 : decode cX4_flickering 34 = .ok (.goto (-30), 3) := by decide +kernel
theorem dX4_flickering_37 : decode cX4_flickering 37 = .ok (.iload_n 1, 1) := by decide +kernel
theorem dX4_flickering_38 : decode cX4_flickering 38 = .ok (.ireturn, 1) := by decide +kernel
theorem q5_195 : (Jvm.Cond.methodLink "CyclepaintModel" (111 : Nat) ({ cls := "CyclepaintModel", name := "flicker", desc := "(I)I" } : Jvm.MethodName)) ∈ lw_g := zg_of (zin5 (List.mem_of_getElem? (i := 195) rfl)) rfl
theorem q5_194 : (Jvm.Cond.code ({ cls := "CyclepaintModel", name := "flickering", desc := "()I" } : Jvm.MethodName) prog_6_method_25_code (3 : Nat) (Option.some Jvm.ClassFile.FieldType.int)) ∈ lw_g := zg_of (zin5 (List.mem_of_getElem? (i := 194) rfl)) rfl
theorem q5_193 : (Jvm.Cond.instanceMethod ({ cls := "CyclepaintModel", name := "flickering", desc := "()I" } : Jvm.MethodName)) ∈ lw_g := zg_of (zin5 (List.mem_of_getElem? (i := 193) rfl)) rfl
theorem qs_34 : Cond.selects "CyclepaintModel" (⟨"CyclepaintModel", "flickering", "()I"⟩ : MethodName) (⟨"CyclepaintModel", "flickering", "()I"⟩ : MethodName) ∈ lw_g := zg_of (zinS (List.mem_of_getElem? (i := 34) rfl)) rfl
theorem ok_X4_flickering : zOV yX4_flickering cX4_flickering 3 ((Option.some Jvm.ClassFile.FieldType.int)) 0 := ⟨⟨q5_194, q1_3, by decide, by decide, by decide +kernel⟩, q5_193, qs_34⟩
set_option maxHeartbeats 4000000 in
set_option maxRecDepth 100000 in
theorem c_X4_flickering (l : Launch) (G : zG) (σ : St) (b : Nat → Nat) (th m1 m2 : Int32) (hdt : ∀ d : Int, 0 ≤ d → d < 32 → 0 ≤ σ.Dt d ∧ σ.Dt d < 16) (hT : 0 ≤ σ.tk ∧ σ.tk ≤ 99999) : Met l yX4_flickering (wq yX4_flickering cX4_flickering 3 ((Option.some Jvm.ClassFile.FieldType.int))) (rmR 6 133) (va_Pc [.ref (b 0)] (zK G (hMod G σ b th m1 m2))) (zQ (some (.int ((zI (flM σ)))))) 0 0 zF := by
  refine z_enterI (by decide +kernel) (Nat.le_of_ble_eq_true rfl) ?_
  intro p env s m below meth cod Q S hG hP ret ls hl
  have hl : lv_has ls 3 [(0, .ref (b 0))] := hl
  refine z_iconst S dX4_flickering_0 ?_
  refine z_istore_n (lv' := [(1, .int (zI (0))), (0, .ref (b 0))]) S dX4_flickering_1 hl rfl (by decide) rfl (fun ls hl => ?_)
  refine z_iconst S dX4_flickering_2 ?_
  refine z_istore_n (lv' := [(2, .int (zI (0))), (1, .int (zI (0))), (0, .ref (b 0))]) S dX4_flickering_3 hl rfl (by decide) rfl (fun ls hl => ?_)
  have loop_4 : ∀ (nn : Nat) (k : Int) (ch : Int), (0 ≤ k ∧ k ≤ 32) → (ch = cntI (fkB σ) k) → ((32 - k).toNat) < nn → ∀ ls, lv_has ls 3 [(2, .int (zI (k))), (1, .int (zI (ch))), (0, .ref (b 0))] → W p l env (rmR 6 133) s m ([.ref (b 0)] : List Value).toArray below meth cod s.heap [] 0 0 Q (F0 m 4 ls []) := by
    intro nn
    induction nn with
    | zero => intro _ _ _ _ h; exact absurd h (Nat.not_lt_zero _)
    | succ nn ih_4 =>
      intro k ch hk hch hm_4 ls hl
      refine z_iload_n S dX4_flickering_4 hl 0 rfl rfl ?_
      refine z_aload_n S dX4_flickering_5 hl 2 rfl rfl ?_
      refine z_get S hG hP.1 zc_X4 5 (by decide) q4_231 rfl rfl dX4_flickering_6 ?_
      refine z_alenI S hG hP.2.2.1 dX4_flickering_9 ?_
      refine z_icmp_ge S 37 dX4_flickering_10 (by decide) (by omega) (by omega) (fun c_10 => ?_) (fun c_10 => ?_)
      · skip
        refine z_iload_n S dX4_flickering_37 hl 1 rfl rfl ?_
        exact ret _ _ _ dX4_flickering_38 (by rw [hch, show k = 32 by omega]; rfl)
      · skip
        refine z_iload_n S dX4_flickering_13 hl 1 rfl rfl ?_
        refine z_aload_n S dX4_flickering_14 hl 2 rfl rfl ?_
        refine z_iload_n S dX4_flickering_15 hl 0 rfl rfl ?_
        refine z_callVs S hG (c_X4_flicker l G σ b th m1 m2 (k) (by omega) hdt hT) ok_X4_flicker hP.1 zc_X4 rfl q5_195 (hP) ⟨rfl, rfl, by decide, by decide⟩ ⟨Nat.zero_le _, Nat.zero_le _⟩ rfl (Nat.le_of_ble_eq_true rfl) hl.1 rfl dX4_flickering_16 ?_
        refine z_bipush S dX4_flickering_19 rfl ?_
        have hcb := cntI_b (chgB σ (σ.Dt k) σ.tk) (k := 30) (by omega)
        have hce : chg σ (σ.Dt k) σ.tk 30 = cntI (chgB σ (σ.Dt k) σ.tk) 30 := rfl
        refine z_icmp_le S 28 dX4_flickering_21 (by decide) (by omega) (by omega) (fun c_21 => ?_) (fun c_21 => ?_)
        · skip
          refine z_iconst S dX4_flickering_28 ?_
          refine z_iadd S dX4_flickering_29 ?_
          refine z_istore_n (lv' := [(1, .int (zI ((ch) + (0)))), (2, .int (zI (k))), (0, .ref (b 0))]) S dX4_flickering_30 hl rfl (by decide) rfl (fun ls hl => ?_)
          refine z_iinc (lv' := [(2, .int (zI (k + 1))), (1, .int (zI ((ch) + (0)))), (0, .ref (b 0))]) S dX4_flickering_31 hl 1 rfl (by decide) rfl (fun ls hl => ?_)
          refine z_goto S 4 dX4_flickering_34 (by decide) ?_
          exact ih_4 (k + 1) ((ch) + (0)) (by omega) (by rw [cntI_f hk.1 (by unfold fkB; simp; omega), ← hch]; omega) (by omega) ls (lv_sub hl [0, 1, 2] rfl)
        · skip
          refine z_iconst S dX4_flickering_24 ?_
          refine z_goto S 29 dX4_flickering_25 (by decide) ?_
          refine z_iadd S dX4_flickering_29 ?_
          refine z_istore_n (lv' := [(1, .int (zI ((ch) + (1)))), (2, .int (zI (k))), (0, .ref (b 0))]) S dX4_flickering_30 hl rfl (by decide) rfl (fun ls hl => ?_)
          refine z_iinc (lv' := [(2, .int (zI (k + 1))), (1, .int (zI ((ch) + (1)))), (0, .ref (b 0))]) S dX4_flickering_31 hl 1 rfl (by decide) rfl (fun ls hl => ?_)
          refine z_goto S 4 dX4_flickering_34 (by decide) ?_
          exact ih_4 (k + 1) ((ch) + (1)) (by omega) (by rw [cntI_t hk.1 (by unfold fkB; simp; omega), ← hch]) (by omega) ls (lv_sub hl [0, 1, 2] rfl)
  exact loop_4 _ (0) (0) (by omega) (rfl) (Nat.lt_succ_self _) ls (lv_sub hl [0, 1, 2] rfl)
theorem dX4_lightAt_0 : decode cX4_lightAt 0 = .ok (.iconst 0, 1) := by decide +kernel
theorem dX4_lightAt_1 : decode cX4_lightAt 1 = .ok (.istore_n 2, 1) := by decide +kernel
theorem dX4_lightAt_2 : decode cX4_lightAt 2 = .ok (.aload_n 0, 1) := by decide +kernel
theorem dX4_lightAt_3 : decode cX4_lightAt 3 = .ok (.getfield 17, 3) := by decide +kernel
theorem dX4_lightAt_6 : decode cX4_lightAt 6 = .ok (.astore_n 3, 1) := by decide +kernel
theorem dX4_lightAt_7 : decode cX4_lightAt 7 = .ok (.aload_n 3, 1) := by decide +kernel
theorem dX4_lightAt_8 : decode cX4_lightAt 8 = .ok (.arraylength, 1) := by decide +kernel
theorem dX4_lightAt_9 : decode cX4_lightAt 9 = .ok (.istore 4, 2) := by decide +kernel
theorem dX4_lightAt_11 : decode cX4_lightAt 11 = .ok (.iconst 0, 1) := by decide +kernel
theorem dX4_lightAt_12 : decode cX4_lightAt 12 = .ok (.istore 5, 2) := by decide +kernel
theorem dX4_lightAt_14 : decode cX4_lightAt 14 = .ok (.iload 5, 2) := by decide +kernel
theorem dX4_lightAt_16 : decode cX4_lightAt 16 = .ok (.iload 4, 2) := by decide +kernel
theorem dX4_lightAt_18 : decode cX4_lightAt 18 = .ok (.if_icmp .ge 28, 3) := by decide +kernel
theorem dX4_lightAt_21 : decode cX4_lightAt 21 = .ok (.aload_n 3, 1) := by decide +kernel
theorem dX4_lightAt_22 : decode cX4_lightAt 22 = .ok (.iload 5, 2) := by decide +kernel
theorem dX4_lightAt_24 : decode cX4_lightAt 24 = .ok (.iaload, 1) := by decide +kernel
theorem dX4_lightAt_25 : decode cX4_lightAt 25 = .ok (.istore 6, 2) := by decide +kernel
theorem dX4_lightAt_27 : decode cX4_lightAt 27 = .ok (.iload_n 2, 1) := by decide +kernel
theorem dX4_lightAt_28 : decode cX4_lightAt 28 = .ok (.aload_n 0, 1) := by decide +kernel
theorem dX4_lightAt_29 : decode cX4_lightAt 29 = .ok (.iload 6, 2) := by decide +kernel
theorem dX4_lightAt_31 : decode cX4_lightAt 31 = .ok (.iload_n 1, 1) := by decide +kernel
theorem dX4_lightAt_32 : decode cX4_lightAt 32 = .ok (.invokevirtual 84, 3) := by decide +kernel
theorem dX4_lightAt_35 : decode cX4_lightAt 35 = .ok (.invokestatic 114, 3) := by decide +kernel
theorem dX4_lightAt_38 : decode cX4_lightAt 38 = .ok (.iadd, 1) := by decide +kernel
theorem dX4_lightAt_39 : decode cX4_lightAt 39 = .ok (.istore_n 2, 1) := by decide +kernel
theorem dX4_lightAt_40 : decode cX4_lightAt 40 = .ok (.iinc 5 1, 3) := by decide +kernel
theorem dX4_lightAt_43 : decode cX4_lightAt 43 = .ok (.goto (-29), 3) := by decide +kernel
theorem dX4_lightAt_46 : decode cX4_lightAt 46 = .ok (.iload_n 2, 1) := by decide +kernel
theorem dX4_lightAt_47 : decode cX4_lightAt 47 = .ok (.ireturn, 1) := by decide +kernel
theorem q5_211 : (Jvm.Cond.methodLink "CyclepaintModel" (114 : Nat) ({ cls := "CyclepaintModel", name := "light", desc := "(I)I" } : Jvm.MethodName)) ∈ lw_g := zg_of (zin5 (List.mem_of_getElem? (i := 211) rfl)) rfl
theorem q6_14 : (Jvm.Cond.code ({ cls := "CyclepaintModel", name := "lightAt", desc := "(I)I" } : Jvm.MethodName) prog_6_method_26_code (7 : Nat) (Option.some Jvm.ClassFile.FieldType.int)) ∈ lw_g := zg_of (zin6 (List.mem_of_getElem? (i := 14) rfl)) rfl
theorem q6_13 : (Jvm.Cond.instanceMethod ({ cls := "CyclepaintModel", name := "lightAt", desc := "(I)I" } : Jvm.MethodName)) ∈ lw_g := zg_of (zin6 (List.mem_of_getElem? (i := 13) rfl)) rfl
theorem qs_43 : Cond.selects "CyclepaintModel" (⟨"CyclepaintModel", "lightAt", "(I)I"⟩ : MethodName) (⟨"CyclepaintModel", "lightAt", "(I)I"⟩ : MethodName) ∈ lw_g := zg_of (zinS (List.mem_of_getElem? (i := 43) rfl)) rfl
theorem ok_X4_lightAt : zOV yX4_lightAt cX4_lightAt 7 ((Option.some Jvm.ClassFile.FieldType.int)) 1 := ⟨⟨q6_14, q1_3, by decide, by decide, by decide +kernel⟩, q6_13, qs_43⟩
set_option maxHeartbeats 4000000 in
set_option maxRecDepth 100000 in
theorem c_X4_lightAt (l : Launch) (G : zG) (σ : St) (b : Nat → Nat) (th m1 m2 : Int32) (w : Int) (hw : 0 ≤ w ∧ w ≤ 1000000) (hdt : ∀ d : Int, 0 ≤ d → d < 32 → 0 ≤ σ.Dt d ∧ σ.Dt d < 16) : Met l yX4_lightAt (wq yX4_lightAt cX4_lightAt 7 ((Option.some Jvm.ClassFile.FieldType.int))) (rmR 5 110) (va_Pc [.ref (b 0), .int (zI (w))] (zK G (hMod G σ b th m1 m2))) (zQ (some (.int ((liM σ w))))) 0 0 zF := by
  refine z_enterI (by decide +kernel) (Nat.le_of_ble_eq_true rfl) ?_
  intro p env s m below meth cod Q S hG hP ret ls hl
  have hl : lv_has ls 7 [(0, .ref (b 0)), (1, .int (zI (w)))] := hl
  refine z_iconst S dX4_lightAt_0 ?_
  refine z_istore_n (lv' := [(2, .int (zI (0))), (0, .ref (b 0)), (1, .int (zI (w)))]) S dX4_lightAt_1 hl rfl (by decide) rfl (fun ls hl => ?_)
  refine z_aload_n S dX4_lightAt_2 hl 1 rfl rfl ?_
  refine z_get S hG hP.1 zc_X4 5 (by decide) q4_231 rfl rfl dX4_lightAt_3 ?_
  refine z_astore_n (lv' := [(3, .ref (b 2)), (2, .int (zI (0))), (0, .ref (b 0)), (1, .int (zI (w)))]) S dX4_lightAt_6 hl rfl (by decide) rfl (fun ls hl => ?_)
  refine z_aload_n S dX4_lightAt_7 hl 0 rfl rfl ?_
  refine z_alenI S hG hP.2.2.1 dX4_lightAt_8 ?_
  refine z_istore (lv' := [(4, .int (zI (32))), (3, .ref (b 2)), (2, .int (zI (0))), (0, .ref (b 0)), (1, .int (zI (w)))]) S dX4_lightAt_9 hl (by decide) rfl (fun ls hl => ?_)
  refine z_iconst S dX4_lightAt_11 ?_
  refine z_istore (lv' := [(5, .int (zI (0))), (4, .int (zI (32))), (3, .ref (b 2)), (2, .int (zI (0))), (0, .ref (b 0)), (1, .int (zI (w)))]) S dX4_lightAt_12 hl (by decide) rfl (fun ls hl => ?_)
  have loop_14 : ∀ (nn : Nat) (k : Int) (g : Int32), (0 ≤ k ∧ k ≤ 32) → (g = smI (fun d => lgt (shw σ (σ.Dt d) w)) k) → ((32 - k).toNat) < nn → ∀ ls, lv_has ls 7 [(5, .int (zI (k))), (4, .int (zI (32))), (3, .ref (b 2)), (2, .int (g)), (0, .ref (b 0)), (1, .int (zI (w)))] → W p l env (rmR 5 110) s m ([.ref (b 0), .int (zI (w))] : List Value).toArray below meth cod s.heap [] 0 0 Q (F0 m 14 ls []) := by
    intro nn
    induction nn with
    | zero => intro _ _ _ _ h; exact absurd h (Nat.not_lt_zero _)
    | succ nn ih_14 =>
      intro k g hk hg hm_14 ls hl
      refine z_iload S dX4_lightAt_14 hl 0 rfl ?_
      refine z_iload S dX4_lightAt_16 hl 1 rfl ?_
      refine z_icmp_ge S 46 dX4_lightAt_18 (by decide) (by omega) (by omega) (fun c_18 => ?_) (fun c_18 => ?_)
      · skip
        refine z_iload_n S dX4_lightAt_46 hl 3 rfl rfl ?_
        exact ret _ _ _ dX4_lightAt_47 (by rw [hg, show k = 32 by omega]; rfl)
      · skip
        refine z_aload_n S dX4_lightAt_21 hl 2 rfl rfl ?_
        refine z_iload S dX4_lightAt_22 hl 0 rfl ?_
        refine z_ialdB S hG hP.2.2.1 (by omega) (by decide) dX4_lightAt_24 ?_
        refine z_istore (lv' := [(6, .int (zI (σ.Dt (k)))), (5, .int (zI (k))), (4, .int (zI (32))), (3, .ref (b 2)), (2, .int (g)), (0, .ref (b 0)), (1, .int (zI (w)))]) S dX4_lightAt_25 hl (by decide) rfl (fun ls hl => ?_)
        have hdt0 := hdt k hk.1 (by omega)
        refine z_iload_n S dX4_lightAt_27 hl 4 rfl rfl ?_
        refine z_aload_n S dX4_lightAt_28 hl 5 rfl rfl ?_
        refine z_iload S dX4_lightAt_29 hl 0 rfl ?_
        refine z_iload_n S dX4_lightAt_31 hl 6 rfl rfl ?_
        refine z_callVs S hG (c_X4_show l G σ b th m1 m2 (σ.Dt (k)) (w) (by omega) (by omega)) ok_X4_show hP.1 zc_X4 rfl q5_163 (hP) ⟨rfl, rfl, by decide, by decide⟩ ⟨Nat.zero_le _, Nat.zero_le _⟩ rfl (Nat.le_of_ble_eq_true rfl) hl.1 rfl dX4_lightAt_32 ?_
        refine z_callSs S hG (c_X4_light l G (shw σ (σ.Dt (k)) (w))) ok_X4_light q5_211 (trivial) ⟨rfl, rfl, by decide, by decide⟩ ⟨Nat.zero_le _, Nat.zero_le _⟩ rfl (Nat.le_of_ble_eq_true rfl) hl.1 rfl dX4_lightAt_35 ?_
        refine lv_iadd S.1 S.2.1 dX4_lightAt_38 ?_
        refine z_istore_n (lv' := [(2, .int ((g) + (lgt (shw σ (σ.Dt (k)) (w))))), (6, .int (zI (σ.Dt (k)))), (5, .int (zI (k))), (4, .int (zI (32))), (3, .ref (b 2)), (0, .ref (b 0)), (1, .int (zI (w)))]) S dX4_lightAt_39 hl rfl (by decide) rfl (fun ls hl => ?_)
        refine z_iinc (lv' := [(5, .int (zI (k + 1))), (2, .int ((g) + (lgt (shw σ (σ.Dt (k)) (w))))), (6, .int (zI (σ.Dt (k)))), (4, .int (zI (32))), (3, .ref (b 2)), (0, .ref (b 0)), (1, .int (zI (w)))]) S dX4_lightAt_40 hl 2 rfl (by decide) rfl (fun ls hl => ?_)
        refine z_goto S 14 dX4_lightAt_43 (by decide) ?_
        exact ih_14 (k + 1) ((g) + (lgt (shw σ (σ.Dt (k)) (w)))) (by omega) (by rw [smI_s hk.1, ← hg]) (by omega) ls (lv_sub hl [0, 3, 4, 1, 5, 6] rfl)
  exact loop_14 _ (0) ((zI (0))) (by omega) (rfl) (Nat.lt_succ_self _) ls (lv_sub hl [0, 1, 2, 3, 4, 5] rfl)
theorem dX4_mostOfRows_0 : decode cX4_mostOfRows 0 = .ok (.iconst 0, 1) := by decide +kernel
theorem dX4_mostOfRows_1 : decode cX4_mostOfRows 1 = .ok (.istore_n 1, 1) := by decide +kernel
theorem dX4_mostOfRows_2 : decode cX4_mostOfRows 2 = .ok (.iconst 0, 1) := by decide +kernel
theorem dX4_mostOfRows_3 : decode cX4_mostOfRows 3 = .ok (.istore_n 2, 1) := by decide +kernel
theorem dX4_mostOfRows_4 : decode cX4_mostOfRows 4 = .ok (.iload_n 2, 1) := by decide +kernel
theorem dX4_mostOfRows_5 : decode cX4_mostOfRows 5 = .ok (.iconst 4, 1) := by decide +kernel
theorem dX4_mostOfRows_6 : decode cX4_mostOfRows 6 = .ok (.if_icmp .ge 59, 3) := by decide +kernel
theorem dX4_mostOfRows_9 : decode cX4_mostOfRows 9 = .ok (.iconst 0, 1) := by decide +kernel
theorem dX4_mostOfRows_10 : decode cX4_mostOfRows 10 = .ok (.istore_n 3, 1) := by decide +kernel
theorem dX4_mostOfRows_11 : decode cX4_mostOfRows 11 = .ok (.iconst 0, 1) := by decide +kernel
theorem dX4_mostOfRows_12 : decode cX4_mostOfRows 12 = .ok (.istore 4, 2) := by decide +kernel
theorem dX4_mostOfRows_14 : decode cX4_mostOfRows 14 = .ok (.iload 4, 2) := by decide +kernel
theorem dX4_mostOfRows_16 : decode cX4_mostOfRows 16 = .ok (.bipush 8, 2) := by decide +kernel
theorem dX4_mostOfRows_18 : decode cX4_mostOfRows 18 = .ok (.if_icmp .ge 35, 3) := by decide +kernel
theorem dX4_mostOfRows_21 : decode cX4_mostOfRows 21 = .ok (.iload_n 3, 1) := by decide +kernel
theorem dX4_mostOfRows_22 : decode cX4_mostOfRows 22 = .ok (.aload_n 0, 1) := by decide +kernel
theorem dX4_mostOfRows_23 : decode cX4_mostOfRows 23 = .ok (.aload_n 0, 1) := by decide +kernel
theorem dX4_mostOfRows_24 : decode cX4_mostOfRows 24 = .ok (.getfield 17, 3) := by decide +kernel
theorem dX4_mostOfRows_27 : decode cX4_mostOfRows 27 = .ok (.bipush 8, 2) := by decide +kernel
theorem dX4_mostOfRows_29 : decode cX4_mostOfRows 29 = .ok (.iload_n 2, 1) := by decide +kernel
theorem dX4_mostOfRows_30 : decode cX4_mostOfRows 30 = .ok (.imul, 1) := by decide +kernel
theorem dX4_mostOfRows_31 : decode cX4_mostOfRows 31 = .ok (.iload 4, 2) := by decide +kernel
theorem dX4_mostOfRows_33 : decode cX4_mostOfRows 33 = .ok (.iadd, 1) := by decide +kernel
theorem dX4_mostOfRows_34 : decode cX4_mostOfRows 34 = .ok (.iaload, 1) := by decide +kernel
theorem dX4_mostOfRows_35 : decode cX4_mostOfRows 35 = .ok (.aload_n 0, 1) := by decide +kernel
theorem dX4_mostOfRows_36 : decode cX4_mostOfRows 36 = .ok (.getfield 108, 3) := by decide +kernel
theorem dX4_mostOfRows_39 : decode cX4_mostOfRows 39 = .ok (.invokevirtual 84, 3) := by decide +kernel
theorem dX4_mostOfRows_42 : decode cX4_mostOfRows 42 = .ok (.invokestatic 114, 3) := by decide +kernel
theorem dX4_mostOfRows_45 : decode cX4_mostOfRows 45 = .ok (.iadd, 1) := by decide +kernel
theorem dX4_mostOfRows_46 : decode cX4_mostOfRows 46 = .ok (.istore_n 3, 1) := by decide +kernel
theorem dX4_mostOfRows_47 : decode cX4_mostOfRows 47 = .ok (.iinc 4 1, 3) := by decide +kernel
theorem dX4_mostOfRows_50 : decode cX4_mostOfRows 50 = .ok (.goto (-36), 3) := by decide +kernel
theorem dX4_mostOfRows_53 : decode cX4_mostOfRows 53 = .ok (.iload_n 1, 1) := by decide +kernel
theorem dX4_mostOfRows_54 : decode cX4_mostOfRows 54 = .ok (.iload_n 3, 1) := by decide +kernel
theorem dX4_mostOfRows_55 : decode cX4_mostOfRows 55 = .ok (.invokestatic 161, 3) := by decide +kernel
theorem dX4_mostOfRows_58 : decode cX4_mostOfRows 58 = .ok (.istore_n 1, 1) := by decide +kernel
theorem dX4_mostOfRows_59 : decode cX4_mostOfRows 59 = .ok (.iinc 2 1, 3) := by decide +kernel
theorem dX4_mostOfRows_62 : decode cX4_mostOfRows 62 = .ok (.goto (-58), 3) := by decide +kernel
theorem dX4_mostOfRows_65 : decode cX4_mostOfRows 65 = .ok (.iload_n 1, 1) := by decide +kernel
theorem dX4_mostOfRows_66 : decode cX4_mostOfRows 66 = .ok (.ireturn, 1) := by decide +kernel
theorem q6_19 : (Jvm.Cond.methodLink "CyclepaintModel" (161 : Nat) ({ cls := "java/lang/Math", name := "max", desc := "(II)I" } : Jvm.MethodName)) ∈ lw_g := zg_of (zin6 (List.mem_of_getElem? (i := 19) rfl)) rfl
theorem q6_18 : (Jvm.Cond.code ({ cls := "CyclepaintModel", name := "mostOfRows", desc := "()I" } : Jvm.MethodName) prog_6_method_45_code (5 : Nat) (Option.some Jvm.ClassFile.FieldType.int)) ∈ lw_g := zg_of (zin6 (List.mem_of_getElem? (i := 18) rfl)) rfl
theorem q6_17 : (Jvm.Cond.instanceMethod ({ cls := "CyclepaintModel", name := "mostOfRows", desc := "()I" } : Jvm.MethodName)) ∈ lw_g := zg_of (zin6 (List.mem_of_getElem? (i := 17) rfl)) rfl
theorem qs_44 : Cond.selects "CyclepaintModel" (⟨"CyclepaintModel", "mostOfRows", "()I"⟩ : MethodName) (⟨"CyclepaintModel", "mostOfRows", "()I"⟩ : MethodName) ∈ lw_g := zg_of (zinS (List.mem_of_getElem? (i := 44) rfl)) rfl
theorem ok_X4_mostOfRows : zOV yX4_mostOfRows cX4_mostOfRows 5 ((Option.some Jvm.ClassFile.FieldType.int)) 0 := ⟨⟨q6_18, q1_3, by decide, by decide, by decide +kernel⟩, q6_17, qs_44⟩
set_option maxHeartbeats 4000000 in
set_option maxRecDepth 100000 in
theorem c_X4_mostOfRows (l : Launch) (G : zG) (σ : St) (b : Nat → Nat) (th m1 m2 : Int32) (hdt : ∀ d : Int, 0 ≤ d → d < 32 → 0 ≤ σ.Dt d ∧ σ.Dt d < 16) (hT : 0 ≤ σ.tk ∧ σ.tk ≤ 99999) : Met l yX4_mostOfRows (wq yX4_mostOfRows cX4_mostOfRows 5 ((Option.some Jvm.ClassFile.FieldType.int))) (rmR 5 110) (va_Pc [.ref (b 0)] (zK G (hMod G σ b th m1 m2))) (zQ (some (.int ((mrM σ))))) 0 0 zF := by
  refine z_enterI (by decide +kernel) (Nat.le_of_ble_eq_true rfl) ?_
  intro p env s m below meth cod Q S hG hP ret ls hl
  have hl : lv_has ls 5 [(0, .ref (b 0))] := hl
  refine z_iconst S dX4_mostOfRows_0 ?_
  refine z_istore_n (lv' := [(1, .int (zI (0))), (0, .ref (b 0))]) S dX4_mostOfRows_1 hl rfl (by decide) rfl (fun ls hl => ?_)
  refine z_iconst S dX4_mostOfRows_2 ?_
  refine z_istore_n (lv' := [(2, .int (zI (0))), (1, .int (zI (0))), (0, .ref (b 0))]) S dX4_mostOfRows_3 hl rfl (by decide) rfl (fun ls hl => ?_)
  have loop_4 : ∀ (nn : Nat) (r : Int) (g : Int32), (0 ≤ r ∧ r ≤ 4) → (g = mxI (rwM σ) r) → ((4 - r).toNat) < nn → ∀ ls, lv_has ls 5 [(2, .int (zI (r))), (1, .int (g)), (0, .ref (b 0))] → W p l env (rmR 5 110) s m ([.ref (b 0)] : List Value).toArray below meth cod s.heap [] 0 0 Q (F0 m 4 ls []) := by
    intro nn
    induction nn with
    | zero => intro _ _ _ _ h; exact absurd h (Nat.not_lt_zero _)
    | succ nn ih_4 =>
      intro r g hr hg hm_4 ls hl
      refine z_iload_n S dX4_mostOfRows_4 hl 0 rfl rfl ?_
      refine z_iconst S dX4_mostOfRows_5 ?_
      refine z_icmp_ge S 65 dX4_mostOfRows_6 (by decide) (by omega) (by omega) (fun c_6 => ?_) (fun c_6 => ?_)
      · skip
        refine z_iload_n S dX4_mostOfRows_65 hl 1 rfl rfl ?_
        exact ret _ _ _ dX4_mostOfRows_66 (by rw [hg, show r = 4 by omega]; rfl)
      · skip
        refine z_iconst S dX4_mostOfRows_9 ?_
        refine z_istore_n (lv' := [(3, .int (zI (0))), (2, .int (zI (r))), (1, .int (g)), (0, .ref (b 0))]) S dX4_mostOfRows_10 hl rfl (by decide) rfl (fun ls hl => ?_)
        refine z_iconst S dX4_mostOfRows_11 ?_
        refine z_istore (lv' := [(4, .int (zI (0))), (3, .int (zI (0))), (2, .int (zI (r))), (1, .int (g)), (0, .ref (b 0))]) S dX4_mostOfRows_12 hl (by decide) rfl (fun ls hl => ?_)
        have loop_14 : ∀ (nn : Nat) (q : Int) (v : Int32), (0 ≤ q ∧ q ≤ 8) → (v = smI (fun q => lgt (shw σ (σ.Dt (8 * r + q)) σ.tk)) q) → ((8 - q).toNat) < nn → ∀ ls, lv_has ls 5 [(4, .int (zI (q))), (3, .int (v)), (2, .int (zI (r))), (1, .int (g)), (0, .ref (b 0))] → W p l env (rmR 5 110) s m ([.ref (b 0)] : List Value).toArray below meth cod s.heap [] 0 0 Q (F0 m 14 ls []) := by
          intro nn
          induction nn with
          | zero => intro _ _ _ _ h; exact absurd h (Nat.not_lt_zero _)
          | succ nn ih_14 =>
            intro q v hq hv hm_14 ls hl
            refine z_iload S dX4_mostOfRows_14 hl 0 rfl ?_
            refine z_bipush S dX4_mostOfRows_16 rfl ?_
            refine z_icmp_ge S 53 dX4_mostOfRows_18 (by decide) (by omega) (by omega) (fun c_18 => ?_) (fun c_18 => ?_)
            · skip
              refine z_iload_n S dX4_mostOfRows_53 hl 3 rfl rfl ?_
              refine z_iload_n S dX4_mostOfRows_54 hl 1 rfl rfl ?_
              refine z_max S q6_19 q1_236 q1_18 (by exact q1_237) (by decide) (Nat.le_of_ble_eq_true rfl) ⟨Nat.zero_le _, Nat.zero_le _⟩ hl.1 dX4_mostOfRows_55 ?_
              refine z_istore_n (lv' := [(1, .int (if (g) < (v) then (v) else (g))), (4, .int (zI (q))), (3, .int (v)), (2, .int (zI (r))), (0, .ref (b 0))]) S dX4_mostOfRows_58 hl rfl (by decide) rfl (fun ls hl => ?_)
              refine z_iinc (lv' := [(2, .int (zI (r + 1))), (1, .int (if (g) < (v) then (v) else (g))), (4, .int (zI (q))), (3, .int (v)), (0, .ref (b 0))]) S dX4_mostOfRows_59 hl 3 rfl (by decide) rfl (fun ls hl => ?_)
              refine z_goto S 4 dX4_mostOfRows_62 (by decide) ?_
              exact ih_4 (r + 1) (if (g) < (v) then (v) else (g)) (by omega) (by rw [mxI_s hr.1, ← hg, show rwM σ r = v by rw [hv, show q = 8 by omega]; rfl]) (by omega) ls (lv_sub hl [0, 1, 4] rfl)
            · skip
              refine z_iload_n S dX4_mostOfRows_21 hl 1 rfl rfl ?_
              refine z_aload_n S dX4_mostOfRows_22 hl 4 rfl rfl ?_
              refine z_aload_n S dX4_mostOfRows_23 hl 4 rfl rfl ?_
              refine z_get S hG hP.1 zc_X4 5 (by decide) q4_231 rfl rfl dX4_mostOfRows_24 ?_
              refine z_bipush S dX4_mostOfRows_27 rfl ?_
              refine z_iload_n S dX4_mostOfRows_29 hl 2 rfl rfl ?_
              refine z_imul S dX4_mostOfRows_30 ?_
              refine z_iload S dX4_mostOfRows_31 hl 0 rfl ?_
              refine z_iadd S dX4_mostOfRows_33 ?_
              refine z_ialdB S hG hP.2.2.1 (by omega) (by decide) dX4_mostOfRows_34 ?_
              have hdt0 := hdt (8 * r + q) (by omega) (by omega)
              refine z_aload_n S dX4_mostOfRows_35 hl 4 rfl rfl ?_
              refine z_get S hG hP.1 zc_X4 1 (by decide) q4_227 rfl rfl dX4_mostOfRows_36 ?_
              refine z_callVs S hG (c_X4_show l G σ b th m1 m2 (σ.Dt (((8) * (r)) + (q))) (σ.tk) (by omega) (by omega)) ok_X4_show hP.1 zc_X4 rfl q5_163 (hP) ⟨rfl, rfl, by decide, by decide⟩ ⟨Nat.zero_le _, Nat.zero_le _⟩ rfl (Nat.le_of_ble_eq_true rfl) hl.1 rfl dX4_mostOfRows_39 ?_
              refine z_callSs S hG (c_X4_light l G (shw σ (σ.Dt (((8) * (r)) + (q))) (σ.tk))) ok_X4_light q5_211 (trivial) ⟨rfl, rfl, by decide, by decide⟩ ⟨Nat.zero_le _, Nat.zero_le _⟩ rfl (Nat.le_of_ble_eq_true rfl) hl.1 rfl dX4_mostOfRows_42 ?_
              refine lv_iadd S.1 S.2.1 dX4_mostOfRows_45 ?_
              refine z_istore_n (lv' := [(3, .int ((v) + (lgt (shw σ (σ.Dt (((8) * (r)) + (q))) (σ.tk))))), (4, .int (zI (q))), (2, .int (zI (r))), (1, .int (g)), (0, .ref (b 0))]) S dX4_mostOfRows_46 hl rfl (by decide) rfl (fun ls hl => ?_)
              refine z_iinc (lv' := [(4, .int (zI (q + 1))), (3, .int ((v) + (lgt (shw σ (σ.Dt (((8) * (r)) + (q))) (σ.tk))))), (2, .int (zI (r))), (1, .int (g)), (0, .ref (b 0))]) S dX4_mostOfRows_47 hl 1 rfl (by decide) rfl (fun ls hl => ?_)
              refine z_goto S 14 dX4_mostOfRows_50 (by decide) ?_
              exact ih_14 (q + 1) ((v) + (lgt (shw σ (σ.Dt (((8) * (r)) + (q))) (σ.tk)))) (by omega) (by rw [smI_s hq.1, ← hv]) (by omega) ls (lv_sub hl [0, 1, 2, 3, 4] rfl)
        exact loop_14 _ (0) ((zI (0))) (by omega) (rfl) (Nat.lt_succ_self _) ls (lv_sub hl [0, 1, 2, 3, 4] rfl)
  exact loop_4 _ (0) ((zI (0))) (by omega) (rfl) (Nat.lt_succ_self _) ls (lv_sub hl [0, 1, 2] rfl)
theorem dX4_unlike_0 : decode cX4_unlike 0 = .ok (.lconst 0, 1) := by decide +kernel
theorem dX4_unlike_1 : decode cX4_unlike 1 = .ok (.lstore_n 1, 1) := by decide +kernel
theorem dX4_unlike_2 : decode cX4_unlike 2 = .ok (.aload_n 0, 1) := by decide +kernel
theorem dX4_unlike_3 : decode cX4_unlike 3 = .ok (.getfield 17, 3) := by decide +kernel
theorem dX4_unlike_6 : decode cX4_unlike 6 = .ok (.astore_n 3, 1) := by decide +kernel
theorem dX4_unlike_7 : decode cX4_unlike 7 = .ok (.aload_n 3, 1) := by decide +kernel
theorem dX4_unlike_8 : decode cX4_unlike 8 = .ok (.arraylength, 1) := by decide +kernel
theorem dX4_unlike_9 : decode cX4_unlike 9 = .ok (.istore 4, 2) := by decide +kernel
theorem dX4_unlike_11 : decode cX4_unlike 11 = .ok (.iconst 0, 1) := by decide +kernel
theorem dX4_unlike_12 : decode cX4_unlike 12 = .ok (.istore 5, 2) := by decide +kernel
theorem dX4_unlike_14 : decode cX4_unlike 14 = .ok (.iload 5, 2) := by decide +kernel
theorem dX4_unlike_16 : decode cX4_unlike 16 = .ok (.iload 4, 2) := by decide +kernel
theorem dX4_unlike_18 : decode cX4_unlike 18 = .ok (.if_icmp .ge 30, 3) := by decide +kernel
theorem dX4_unlike_21 : decode cX4_unlike 21 = .ok (.aload_n 3, 1) := by decide +kernel
theorem dX4_unlike_22 : decode cX4_unlike 22 = .ok (.iload 5, 2) := by decide +kernel
theorem dX4_unlike_24 : decode cX4_unlike 24 = .ok (.iaload, 1) := by decide +kernel
theorem dX4_unlike_25 : decode cX4_unlike 25 = .ok (.istore 6, 2) := by decide +kernel
theorem dX4_unlike_27 : decode cX4_unlike 27 = .ok (.lload_n 1, 1) := by decide +kernel
theorem dX4_unlike_28 : decode cX4_unlike 28 = .ok (.lconst 1, 1) := by decide +kernel
theorem dX4_unlike_29 : decode cX4_unlike 29 = .ok (.aload_n 0, 1) := by decide +kernel
theorem dX4_unlike_30 : decode cX4_unlike 30 = .ok (.iload 6, 2) := by decide +kernel
theorem dX4_unlike_32 : decode cX4_unlike 32 = .ok (.aload_n 0, 1) := by decide +kernel
theorem dX4_unlike_33 : decode cX4_unlike 33 = .ok (.getfield 108, 3) := by decide +kernel
theorem dX4_unlike_36 : decode cX4_unlike 36 = .ok (.invokevirtual 84, 3) := by decide +kernel
theorem dX4_unlike_39 : decode cX4_unlike 39 = .ok (.lshl, 1) := by decide +kernel
theorem dX4_unlike_40 : decode cX4_unlike 40 = .ok (.lor, 1) := by decide +kernel
theorem dX4_unlike_41 : decode cX4_unlike 41 = .ok (.lstore_n 1, 1) := by decide +kernel
theorem dX4_unlike_42 : decode cX4_unlike 42 = .ok (.iinc 5 1, 3) := by decide +kernel
theorem dX4_unlike_45 : decode cX4_unlike 45 = .ok (.goto (-31), 3) := by decide +kernel
theorem dX4_unlike_48 : decode cX4_unlike 48 = .ok (.lload_n 1, 1) := by decide +kernel
theorem dX4_unlike_49 : decode cX4_unlike 49 = .ok (.invokestatic 166, 3) := by decide +kernel
theorem dX4_unlike_52 : decode cX4_unlike 52 = .ok (.ireturn, 1) := by decide +kernel
theorem q6_24 : (Jvm.Cond.methodLink "CyclepaintModel" (166 : Nat) ({ cls := "java/lang/Long", name := "bitCount", desc := "(J)I" } : Jvm.MethodName)) ∈ lw_g := zg_of (zin6 (List.mem_of_getElem? (i := 24) rfl)) rfl
theorem q6_23 : (Jvm.Cond.code ({ cls := "CyclepaintModel", name := "unlike", desc := "()I" } : Jvm.MethodName) prog_6_method_46_code (7 : Nat) (Option.some Jvm.ClassFile.FieldType.int)) ∈ lw_g := zg_of (zin6 (List.mem_of_getElem? (i := 23) rfl)) rfl
theorem q6_22 : (Jvm.Cond.instanceMethod ({ cls := "CyclepaintModel", name := "unlike", desc := "()I" } : Jvm.MethodName)) ∈ lw_g := zg_of (zin6 (List.mem_of_getElem? (i := 22) rfl)) rfl
theorem qs_45 : Cond.selects "CyclepaintModel" (⟨"CyclepaintModel", "unlike", "()I"⟩ : MethodName) (⟨"CyclepaintModel", "unlike", "()I"⟩ : MethodName) ∈ lw_g := zg_of (zinS (List.mem_of_getElem? (i := 45) rfl)) rfl
theorem ok_X4_unlike : zOV yX4_unlike cX4_unlike 7 ((Option.some Jvm.ClassFile.FieldType.int)) 0 := ⟨⟨q6_23, q1_3, by decide, by decide, by decide +kernel⟩, q6_22, qs_45⟩
set_option maxHeartbeats 4000000 in
set_option maxRecDepth 100000 in
theorem c_X4_unlike (l : Launch) (G : zG) (σ : St) (b : Nat → Nat) (th m1 m2 : Int32) (hdt : ∀ d : Int, 0 ≤ d → d < 32 → 0 ≤ σ.Dt d ∧ σ.Dt d < 16) (hT : 0 ≤ σ.tk ∧ σ.tk ≤ 99999) : Met l yX4_unlike (wq yX4_unlike cX4_unlike 7 ((Option.some Jvm.ClassFile.FieldType.int))) (rmR 5 110) (va_Pc [.ref (b 0)] (zK G (hMod G σ b th m1 m2))) (zQ (some (.int ((bcL (csM σ)))))) 0 0 zF := by
  refine z_enterI (by decide +kernel) (Nat.le_of_ble_eq_true rfl) ?_
  intro p env s m below meth cod Q S hG hP ret ls hl
  have hl : lv_has ls 7 [(0, .ref (b 0))] := hl
  refine lv_lconst S.1 S.2.1 dX4_unlike_0 rfl ?_
  refine lv_lstore_n (lv' := [(1, .long (0)), (0, .ref (b 0))]) S.1 S.2.1 dX4_unlike_1 rfl hl (by decide) rfl (fun ls hl => ?_)
  refine z_aload_n S dX4_unlike_2 hl 1 rfl rfl ?_
  refine z_get S hG hP.1 zc_X4 5 (by decide) q4_231 rfl rfl dX4_unlike_3 ?_
  refine z_astore_n (lv' := [(3, .ref (b 2)), (1, .long (0)), (0, .ref (b 0))]) S dX4_unlike_6 hl rfl (by decide) rfl (fun ls hl => ?_)
  refine z_aload_n S dX4_unlike_7 hl 0 rfl rfl ?_
  refine z_alenI S hG hP.2.2.1 dX4_unlike_8 ?_
  refine z_istore (lv' := [(4, .int (zI (32))), (3, .ref (b 2)), (1, .long (0)), (0, .ref (b 0))]) S dX4_unlike_9 hl (by decide) rfl (fun ls hl => ?_)
  refine z_iconst S dX4_unlike_11 ?_
  refine z_istore (lv' := [(5, .int (zI (0))), (4, .int (zI (32))), (3, .ref (b 2)), (1, .long (0)), (0, .ref (b 0))]) S dX4_unlike_12 hl (by decide) rfl (fun ls hl => ?_)
  have loop_14 : ∀ (nn : Nat) (k : Int) (g : Int64), (0 ≤ k ∧ k ≤ 32) → (g = orL (fun _ => true) (fun d => bitL (shw σ (σ.Dt d) σ.tk)) k) → ((32 - k).toNat) < nn → ∀ ls, lv_has ls 7 [(5, .int (zI (k))), (4, .int (zI (32))), (3, .ref (b 2)), (1, .long (g)), (0, .ref (b 0))] → W p l env (rmR 5 110) s m ([.ref (b 0)] : List Value).toArray below meth cod s.heap [] 0 0 Q (F0 m 14 ls []) := by
    intro nn
    induction nn with
    | zero => intro _ _ _ _ h; exact absurd h (Nat.not_lt_zero _)
    | succ nn ih_14 =>
      intro k g hk hg hm_14 ls hl
      refine z_iload S dX4_unlike_14 hl 0 rfl ?_
      refine z_iload S dX4_unlike_16 hl 1 rfl ?_
      refine z_icmp_ge S 48 dX4_unlike_18 (by decide) (by omega) (by omega) (fun c_18 => ?_) (fun c_18 => ?_)
      · skip
        refine lv_lload_n S.1 S.2.1 dX4_unlike_48 rfl (lv_at hl 3 rfl) ?_
        refine z_callSs S hG (c_bitCountL l G (g)) ok_J13_bitCount_95d88 q6_24 (trivial) ⟨rfl, rfl, by decide, by decide⟩ ⟨Nat.zero_le _, Nat.zero_le _⟩ rfl (Nat.le_of_ble_eq_true rfl) hl.1 rfl dX4_unlike_49 ?_
        exact ret _ _ _ dX4_unlike_52 (by rw [hg, show k = 32 by omega]; rfl)
      · skip
        refine z_aload_n S dX4_unlike_21 hl 2 rfl rfl ?_
        refine z_iload S dX4_unlike_22 hl 0 rfl ?_
        refine z_ialdB S hG hP.2.2.1 (by omega) (by decide) dX4_unlike_24 ?_
        refine z_istore (lv' := [(6, .int (zI (σ.Dt (k)))), (5, .int (zI (k))), (4, .int (zI (32))), (3, .ref (b 2)), (1, .long (g)), (0, .ref (b 0))]) S dX4_unlike_25 hl (by decide) rfl (fun ls hl => ?_)
        have hdt0 := hdt k hk.1 (by omega)
        refine lv_lload_n S.1 S.2.1 dX4_unlike_27 rfl (lv_at hl 4 rfl) ?_
        refine lv_lconst S.1 S.2.1 dX4_unlike_28 rfl ?_
        refine z_aload_n S dX4_unlike_29 hl 5 rfl rfl ?_
        refine z_iload S dX4_unlike_30 hl 0 rfl ?_
        refine z_aload_n S dX4_unlike_32 hl 5 rfl rfl ?_
        refine z_get S hG hP.1 zc_X4 1 (by decide) q4_227 rfl rfl dX4_unlike_33 ?_
        refine z_callVs S hG (c_X4_show l G σ b th m1 m2 (σ.Dt (k)) (σ.tk) (by omega) (by omega)) ok_X4_show hP.1 zc_X4 rfl q5_163 (hP) ⟨rfl, rfl, by decide, by decide⟩ ⟨Nat.zero_le _, Nat.zero_le _⟩ rfl (Nat.le_of_ble_eq_true rfl) hl.1 rfl dX4_unlike_36 ?_
        refine lv_lshl S.1 S.2.1 dX4_unlike_39 rfl ?_
        refine lv_lor S.1 S.2.1 dX4_unlike_40 ?_
        refine lv_lstore_n (lv' := [(1, .long ((g) ||| ((1) <<< ((shw σ (σ.Dt (k)) (σ.tk)).toInt64 &&& 63)))), (6, .int (zI (σ.Dt (k)))), (5, .int (zI (k))), (4, .int (zI (32))), (3, .ref (b 2)), (0, .ref (b 0))]) S.1 S.2.1 dX4_unlike_41 rfl hl (by decide) rfl (fun ls hl => ?_)
        refine z_iinc (lv' := [(5, .int (zI (k + 1))), (1, .long ((g) ||| ((1) <<< ((shw σ (σ.Dt (k)) (σ.tk)).toInt64 &&& 63)))), (6, .int (zI (σ.Dt (k)))), (4, .int (zI (32))), (3, .ref (b 2)), (0, .ref (b 0))]) S dX4_unlike_42 hl 2 rfl (by decide) rfl (fun ls hl => ?_)
        refine z_goto S 14 dX4_unlike_45 (by decide) ?_
        exact ih_14 (k + 1) ((g) ||| ((1) <<< ((shw σ (σ.Dt (k)) (σ.tk)).toInt64 &&& 63))) (by omega) (by rw [orL_s hk.1, if_pos rfl, ← hg]; rfl) (by omega) ls (lv_sub hl [0, 3, 4, 1, 5] rfl)
  exact loop_14 _ (0) (0) (by omega) (rfl) (Nat.lt_succ_self _) ls (lv_sub hl [0, 1, 2, 3, 4] rfl)
theorem dX4_findNow_0 : decode cX4_findNow 0 = .ok (.iload_n 3, 1) := by decide +kernel
theorem dX4_findNow_1 : decode cX4_findNow 1 = .ok (.istore 4, 2) := by decide +kernel
theorem dX4_findNow_3 : decode cX4_findNow 3 = .ok (.iload 4, 2) := by decide +kernel
theorem dX4_findNow_5 : decode cX4_findNow 5 = .ok (.iload_n 3, 1) := by decide +kernel
theorem dX4_findNow_6 : decode cX4_findNow 6 = .ok (.aload_n 0, 1) := by decide +kernel
theorem dX4_findNow_7 : decode cX4_findNow 7 = .ok (.iload_n 1, 1) := by decide +kernel
theorem dX4_findNow_8 : decode cX4_findNow 8 = .ok (.invokevirtual 81, 3) := by decide +kernel
theorem dX4_findNow_11 : decode cX4_findNow 11 = .ok (.iadd, 1) := by decide +kernel
theorem dX4_findNow_12 : decode cX4_findNow 12 = .ok (.if_icmp .ge 23, 3) := by decide +kernel
theorem dX4_findNow_15 : decode cX4_findNow 15 = .ok (.aload_n 0, 1) := by decide +kernel
theorem dX4_findNow_16 : decode cX4_findNow 16 = .ok (.iload_n 1, 1) := by decide +kernel
theorem dX4_findNow_17 : decode cX4_findNow 17 = .ok (.iload 4, 2) := by decide +kernel
theorem dX4_findNow_19 : decode cX4_findNow 19 = .ok (.invokevirtual 84, 3) := by decide +kernel
theorem dX4_findNow_22 : decode cX4_findNow 22 = .ok (.iload_n 2, 1) := by decide +kernel
theorem dX4_findNow_23 : decode cX4_findNow 23 = .ok (.if_icmp .ne 6, 3) := by decide +kernel
theorem dX4_findNow_26 : decode cX4_findNow 26 = .ok (.iload 4, 2) := by decide +kernel
theorem dX4_findNow_28 : decode cX4_findNow 28 = .ok (.ireturn, 1) := by decide +kernel
theorem dX4_findNow_29 : decode cX4_findNow 29 = .ok (.iinc 4 1, 3) := by decide +kernel
theorem dX4_findNow_32 : decode cX4_findNow 32 = .ok (.goto (-29), 3) := by decide +kernel
theorem dX4_findNow_35 : decode cX4_findNow 35 = .ok (.iconst (-1), 1) := by decide +kernel
theorem dX4_findNow_36 : decode cX4_findNow 36 = .ok (.ireturn, 1) := by decide +kernel
theorem q6_105 : (Jvm.Cond.code ({ cls := "CyclepaintModel", name := "findNow", desc := "(III)I" } : Jvm.MethodName) prog_6_method_53_code (5 : Nat) (Option.some Jvm.ClassFile.FieldType.int)) ∈ lw_g := zg_of (zin6 (List.mem_of_getElem? (i := 105) rfl)) rfl
theorem q6_104 : (Jvm.Cond.instanceMethod ({ cls := "CyclepaintModel", name := "findNow", desc := "(III)I" } : Jvm.MethodName)) ∈ lw_g := zg_of (zin6 (List.mem_of_getElem? (i := 104) rfl)) rfl
theorem qs_47 : Cond.selects "CyclepaintModel" (⟨"CyclepaintModel", "findNow", "(III)I"⟩ : MethodName) (⟨"CyclepaintModel", "findNow", "(III)I"⟩ : MethodName) ∈ lw_g := zg_of (zinS (List.mem_of_getElem? (i := 47) rfl)) rfl
theorem ok_X4_findNow : zOV yX4_findNow cX4_findNow 5 ((Option.some Jvm.ClassFile.FieldType.int)) 3 := ⟨⟨q6_105, q1_3, by decide, by decide, by decide +kernel⟩, q6_104, qs_47⟩
set_option maxHeartbeats 4000000 in
set_option maxRecDepth 100000 in
theorem c_X4_findNow (l : Launch) (G : zG) (σ : St) (b : Nat → Nat) (th m1 m2 : Int32) (e : Int) (C : Int32) (f : Int) (he : 0 ≤ e ∧ e < 16) (hf : 0 ≤ f ∧ f ≤ 1000000) : Met l yX4_findNow (wq yX4_findNow cX4_findNow 5 ((Option.some Jvm.ClassFile.FieldType.int))) (rmR 5 110) (va_Pc [.ref (b 0), .int (zI (e)), .int (C), .int (zI (f))] (zK G (hMod G σ b th m1 m2))) (zQ (some (.int ((zI (fnd σ e C f)))))) 0 0 zF := by
  refine z_enterI (by decide +kernel) (Nat.le_of_ble_eq_true rfl) ?_
  intro p env s m below meth cod Q S hG hP ret ls hl
  have hl : lv_has ls 5 [(0, .ref (b 0)), (1, .int (zI (e))), (2, .int (C)), (3, .int (zI (f)))] := hl
  have hO := hP.2.2.2.2.2.2.2.2.2
  have hrn := hO.1
  have hb1 := rndE_b hO e
  refine z_iload_n S dX4_findNow_0 hl 3 rfl rfl ?_
  refine z_istore (lv' := [(4, .int (zI (f))), (0, .ref (b 0)), (1, .int (zI (e))), (2, .int (C)), (3, .int (zI (f)))]) S dX4_findNow_1 hl (by decide) rfl (fun ls hl => ?_)
  have loop_3 : ∀ (nn : Nat) (k : Int), (f ≤ k ∧ k ≤ f + rndE σ e) → (∀ t : Int, 0 ≤ t → t < k - f → fndB σ e C f t = false) → ((f + rndE σ e - k).toNat) < nn → ∀ ls, lv_has ls 5 [(4, .int (zI (k))), (0, .ref (b 0)), (1, .int (zI (e))), (2, .int (C)), (3, .int (zI (f)))] → W p l env (rmR 5 110) s m ([.ref (b 0), .int (zI (e)), .int (C), .int (zI (f))] : List Value).toArray below meth cod s.heap [] 0 0 Q (F0 m 3 ls []) := by
    intro nn
    induction nn with
    | zero => intro _ _ _ h; exact absurd h (Nat.not_lt_zero _)
    | succ nn ih_3 =>
      intro k hk hI hm_3 ls hl
      refine z_iload S dX4_findNow_3 hl 0 rfl ?_
      refine z_iload_n S dX4_findNow_5 hl 4 rfl rfl ?_
      refine z_aload_n S dX4_findNow_6 hl 1 rfl rfl ?_
      refine z_iload_n S dX4_findNow_7 hl 2 rfl rfl ?_
      refine z_callVs S hG (c_X4_roundOf l G σ b th m1 m2 (e) (by omega)) ok_X4_roundOf hP.1 zc_X4 rfl q5_153 (hP) ⟨rfl, rfl, by decide, by decide⟩ ⟨Nat.zero_le _, Nat.zero_le _⟩ rfl (Nat.le_of_ble_eq_true rfl) hl.1 rfl dX4_findNow_8 ?_
      refine z_iadd S dX4_findNow_11 ?_
      refine z_icmp_ge S 35 dX4_findNow_12 (by decide) (by omega) (by omega) (fun c_12 => ?_) (fun c_12 => ?_)
      · skip
        refine z_iconst S dX4_findNow_35 ?_
        exact ret _ _ _ dX4_findNow_36 (by unfold fnd; rw [fstI_none (fun t h0 h1 => hI t h0 (by omega)), if_pos rfl])
      · skip
        have c_12x : k - f < rndE σ e := by omega
        refine z_aload_n S dX4_findNow_15 hl 1 rfl rfl ?_
        refine z_iload_n S dX4_findNow_16 hl 2 rfl rfl ?_
        refine z_iload S dX4_findNow_17 hl 0 rfl ?_
        refine z_callVs S hG (c_X4_show l G σ b th m1 m2 (e) (k) (by omega) (by omega)) ok_X4_show hP.1 zc_X4 rfl q5_163 (hP) ⟨rfl, rfl, by decide, by decide⟩ ⟨Nat.zero_le _, Nat.zero_le _⟩ rfl (Nat.le_of_ble_eq_true rfl) hl.1 rfl dX4_findNow_19 ?_
        refine z_iload_n S dX4_findNow_22 hl 3 rfl rfl ?_
        refine lv_icmp_ne (tgt := 29) S.1 S.2.1 dX4_findNow_23 (by decide) (fun c_23 => ?_) (fun c_23 => ?_)
        · skip
          refine z_iinc (lv' := [(4, .int (zI (k + 1))), (0, .ref (b 0)), (1, .int (zI (e))), (2, .int (C)), (3, .int (zI (f)))]) S dX4_findNow_29 hl 0 rfl (by decide) rfl (fun ls hl => ?_)
          refine z_goto S 3 dX4_findNow_32 (by decide) ?_
          exact ih_3 (k + 1) (by omega) (by rw [show k + 1 - f = (k - f) + 1 by omega]; exact lt_stp hI (by unfold fndB; rw [show f + (k - f) = k by omega]; simp [c_23])) (by omega) ls (lv_sub hl [0, 1, 2, 3, 4] rfl)
        · skip
          refine z_iload S dX4_findNow_26 hl 0 rfl ?_
          exact ret _ _ _ dX4_findNow_28 (by unfold fnd; rw [fstI_some (by omega) c_12x hI (by unfold fndB; rw [show f + (k - f) = k by omega]; simpa using c_23), if_neg (by omega)]; congr 1; omega)
  exact loop_3 _ (f) (by omega) (by rw [Int.sub_self]; exact lt_st0) (Nat.lt_succ_self _) ls (lv_sub hl [0, 1, 2, 3, 4] rfl)
theorem dX4_meetNow_0 : decode cX4_meetNow 0 = .ok (.aload_n 0, 1) := by decide +kernel
theorem dX4_meetNow_1 : decode cX4_meetNow 1 = .ok (.iload_n 1, 1) := by decide +kernel
theorem dX4_meetNow_2 : decode cX4_meetNow 2 = .ok (.invokevirtual 81, 3) := by decide +kernel
theorem dX4_meetNow_5 : decode cX4_meetNow 5 = .ok (.aload_n 0, 1) := by decide +kernel
theorem dX4_meetNow_6 : decode cX4_meetNow 6 = .ok (.iload_n 3, 1) := by decide +kernel
theorem dX4_meetNow_7 : decode cX4_meetNow 7 = .ok (.invokevirtual 81, 3) := by decide +kernel
theorem dX4_meetNow_10 : decode cX4_meetNow 10 = .ok (.invokestatic 77, 3) := by decide +kernel
theorem dX4_meetNow_13 : decode cX4_meetNow 13 = .ok (.istore 5, 2) := by decide +kernel
theorem dX4_meetNow_15 : decode cX4_meetNow 15 = .ok (.iconst 0, 1) := by decide +kernel
theorem dX4_meetNow_16 : decode cX4_meetNow 16 = .ok (.istore 6, 2) := by decide +kernel
theorem dX4_meetNow_18 : decode cX4_meetNow 18 = .ok (.iload 6, 2) := by decide +kernel
theorem dX4_meetNow_20 : decode cX4_meetNow 20 = .ok (.iload 5, 2) := by decide +kernel
theorem dX4_meetNow_22 : decode cX4_meetNow 22 = .ok (.if_icmp .ge 45, 3) := by decide +kernel
theorem dX4_meetNow_25 : decode cX4_meetNow 25 = .ok (.aload_n 0, 1) := by decide +kernel
theorem dX4_meetNow_26 : decode cX4_meetNow 26 = .ok (.iload_n 1, 1) := by decide +kernel
theorem dX4_meetNow_27 : decode cX4_meetNow 27 = .ok (.aload_n 0, 1) := by decide +kernel
theorem dX4_meetNow_28 : decode cX4_meetNow 28 = .ok (.getfield 108, 3) := by decide +kernel
theorem dX4_meetNow_31 : decode cX4_meetNow 31 = .ok (.iload 6, 2) := by decide +kernel
theorem dX4_meetNow_33 : decode cX4_meetNow 33 = .ok (.iadd, 1) := by decide +kernel
theorem dX4_meetNow_34 : decode cX4_meetNow 34 = .ok (.invokevirtual 84, 3) := by decide +kernel
theorem dX4_meetNow_37 : decode cX4_meetNow 37 = .ok (.iload_n 2, 1) := by decide +kernel
theorem dX4_meetNow_38 : decode cX4_meetNow 38 = .ok (.if_icmp .ne 23, 3) := by decide +kernel
theorem dX4_meetNow_41 : decode cX4_meetNow 41 = .ok (.aload_n 0, 1) := by decide +kernel
theorem dX4_meetNow_42 : decode cX4_meetNow 42 = .ok (.iload_n 3, 1) := by decide +kernel
theorem dX4_meetNow_43 : decode cX4_meetNow 43 = .ok (.aload_n 0, 1) := by decide +kernel
theorem dX4_meetNow_44 : decode cX4_meetNow 44 = .ok (.getfield 108, 3) := by decide +kernel
theorem dX4_meetNow_47 : decode cX4_meetNow 47 = .ok (.iload 6, 2) := by decide +kernel
theorem dX4_meetNow_49 : decode cX4_meetNow 49 = .ok (.iadd, 1) := by decide +kernel
theorem dX4_meetNow_50 : decode cX4_meetNow 50 = .ok (.invokevirtual 84, 3) := by decide +kernel
theorem dX4_meetNow_53 : decode cX4_meetNow 53 = .ok (.iload 4, 2) := by decide +kernel
theorem dX4_meetNow_55 : decode cX4_meetNow 55 = .ok (.if_icmp .ne 6, 3) := by decide +kernel
theorem dX4_meetNow_58 : decode cX4_meetNow 58 = .ok (.iload 6, 2) := by decide +kernel
theorem dX4_meetNow_60 : decode cX4_meetNow 60 = .ok (.ireturn, 1) := by decide +kernel
theorem dX4_meetNow_61 : decode cX4_meetNow 61 = .ok (.iinc 6 1, 3) := by decide +kernel
theorem dX4_meetNow_64 : decode cX4_meetNow 64 = .ok (.goto (-46), 3) := by decide +kernel
theorem dX4_meetNow_67 : decode cX4_meetNow 67 = .ok (.iconst (-1), 1) := by decide +kernel
theorem dX4_meetNow_68 : decode cX4_meetNow 68 = .ok (.ireturn, 1) := by decide +kernel
theorem q6_113 : (Jvm.Cond.code ({ cls := "CyclepaintModel", name := "meetNow", desc := "(IIII)I" } : Jvm.MethodName) prog_6_method_55_code (7 : Nat) (Option.some Jvm.ClassFile.FieldType.int)) ∈ lw_g := zg_of (zin6 (List.mem_of_getElem? (i := 113) rfl)) rfl
theorem q6_112 : (Jvm.Cond.instanceMethod ({ cls := "CyclepaintModel", name := "meetNow", desc := "(IIII)I" } : Jvm.MethodName)) ∈ lw_g := zg_of (zin6 (List.mem_of_getElem? (i := 112) rfl)) rfl
theorem qs_48 : Cond.selects "CyclepaintModel" (⟨"CyclepaintModel", "meetNow", "(IIII)I"⟩ : MethodName) (⟨"CyclepaintModel", "meetNow", "(IIII)I"⟩ : MethodName) ∈ lw_g := zg_of (zinS (List.mem_of_getElem? (i := 48) rfl)) rfl
theorem ok_X4_meetNow : zOV yX4_meetNow cX4_meetNow 7 ((Option.some Jvm.ClassFile.FieldType.int)) 4 := ⟨⟨q6_113, q1_3, by decide, by decide, by decide +kernel⟩, q6_112, qs_48⟩
set_option maxHeartbeats 4000000 in
set_option maxRecDepth 100000 in
theorem c_X4_meetNow (l : Launch) (G : zG) (σ : St) (b : Nat → Nat) (th m1 m2 : Int32) (x : Int) (C : Int32) (y : Int) (D : Int32) (hx : 0 ≤ x ∧ x < 16) (hy : 0 ≤ y ∧ y < 16) (hT : 0 ≤ σ.tk ∧ σ.tk ≤ 99999) : Met l yX4_meetNow (wq yX4_meetNow cX4_meetNow 7 ((Option.some Jvm.ClassFile.FieldType.int))) (rmR 5 110) (va_Pc [.ref (b 0), .int (zI (x)), .int (C), .int (zI (y)), .int (D)] (zK G (hMod G σ b th m1 m2))) (zQ (some (.int ((zI (mt σ x C y D σ.tk)))))) 0 0 zF := by
  refine z_enterI (by decide +kernel) (Nat.le_of_ble_eq_true rfl) ?_
  intro p env s m below meth cod Q S hG hP ret ls hl
  have hl : lv_has ls 7 [(0, .ref (b 0)), (1, .int (zI (x))), (2, .int (C)), (3, .int (zI (y))), (4, .int (D))] := hl
  have hO := hP.2.2.2.2.2.2.2.2.2
  have hrn := hO.1
  have hb1 := rndE_b hO x
  have hb2 := rndE_b hO y
  have hxy : rndE σ x * rndE σ y ≤ 72900 := Int.le_trans (Int.mul_le_mul hb1.2 hb2.2 (by omega) (by omega)) (by omega)
  have hlb := lcI_b (a := rndE σ x) (b := rndE σ y) hb1.1 hb2.1
  refine z_aload_n S dX4_meetNow_0 hl 0 rfl rfl ?_
  refine z_iload_n S dX4_meetNow_1 hl 1 rfl rfl ?_
  refine z_callVs S hG (c_X4_roundOf l G σ b th m1 m2 (x) (by omega)) ok_X4_roundOf hP.1 zc_X4 rfl q5_153 (hP) ⟨rfl, rfl, by decide, by decide⟩ ⟨Nat.zero_le _, Nat.zero_le _⟩ rfl (Nat.le_of_ble_eq_true rfl) hl.1 rfl dX4_meetNow_2 ?_
  refine z_aload_n S dX4_meetNow_5 hl 0 rfl rfl ?_
  refine z_iload_n S dX4_meetNow_6 hl 3 rfl rfl ?_
  refine z_callVs S hG (c_X4_roundOf l G σ b th m1 m2 (y) (by omega)) ok_X4_roundOf hP.1 zc_X4 rfl q5_153 (hP) ⟨rfl, rfl, by decide, by decide⟩ ⟨Nat.zero_le _, Nat.zero_le _⟩ rfl (Nat.le_of_ble_eq_true rfl) hl.1 rfl dX4_meetNow_7 ?_
  refine z_callSs S hG (c_X4_common l G (rndE σ (x)) (rndE σ (y)) (by omega) (by omega)) ok_X4_common q5_160 (trivial) ⟨rfl, rfl, by decide, by decide⟩ ⟨Nat.zero_le _, Nat.zero_le _⟩ rfl (Nat.le_of_ble_eq_true rfl) hl.1 rfl dX4_meetNow_10 ?_
  refine z_istore (lv' := [(5, .int (zI (lcI (rndE σ (x)) (rndE σ (y))))), (0, .ref (b 0)), (1, .int (zI (x))), (2, .int (C)), (3, .int (zI (y))), (4, .int (D))]) S dX4_meetNow_13 hl (by decide) rfl (fun ls hl => ?_)
  refine z_iconst S dX4_meetNow_15 ?_
  refine z_istore (lv' := [(6, .int (zI (0))), (5, .int (zI (lcI (rndE σ (x)) (rndE σ (y))))), (0, .ref (b 0)), (1, .int (zI (x))), (2, .int (C)), (3, .int (zI (y))), (4, .int (D))]) S dX4_meetNow_16 hl (by decide) rfl (fun ls hl => ?_)
  have loop_18 : ∀ (nn : Nat) (k : Int), (0 ≤ k ∧ k ≤ lcI (rndE σ x) (rndE σ y)) → (∀ t : Int, 0 ≤ t → t < k → metB σ x C y D σ.tk t = false) → ((lcI (rndE σ x) (rndE σ y) - k).toNat) < nn → ∀ ls, lv_has ls 7 [(6, .int (zI (k))), (5, .int (zI (lcI (rndE σ (x)) (rndE σ (y))))), (0, .ref (b 0)), (1, .int (zI (x))), (2, .int (C)), (3, .int (zI (y))), (4, .int (D))] → W p l env (rmR 5 110) s m ([.ref (b 0), .int (zI (x)), .int (C), .int (zI (y)), .int (D)] : List Value).toArray below meth cod s.heap [] 0 0 Q (F0 m 18 ls []) := by
    intro nn
    induction nn with
    | zero => intro _ _ _ h; exact absurd h (Nat.not_lt_zero _)
    | succ nn ih_18 =>
      intro k hk hI hm_18 ls hl
      refine z_iload S dX4_meetNow_18 hl 0 rfl ?_
      refine z_iload S dX4_meetNow_20 hl 1 rfl ?_
      refine z_icmp_ge S 67 dX4_meetNow_22 (by decide) (by omega) (by omega) (fun c_22 => ?_) (fun c_22 => ?_)
      · skip
        refine z_iconst S dX4_meetNow_67 ?_
        exact ret _ _ _ dX4_meetNow_68 (by unfold mt; rw [fstI_none (fun t h0 h1 => hI t h0 (by omega))])
      · skip
        have c_22x : k < lcI (rndE σ x) (rndE σ y) := by omega
        refine z_aload_n S dX4_meetNow_25 hl 2 rfl rfl ?_
        refine z_iload_n S dX4_meetNow_26 hl 3 rfl rfl ?_
        refine z_aload_n S dX4_meetNow_27 hl 2 rfl rfl ?_
        refine z_get S hG hP.1 zc_X4 1 (by decide) q4_227 rfl rfl dX4_meetNow_28 ?_
        refine z_iload S dX4_meetNow_31 hl 0 rfl ?_
        refine z_iadd S dX4_meetNow_33 ?_
        refine z_callVs S hG (c_X4_show l G σ b th m1 m2 (x) ((σ.tk) + (k)) (by omega) (by omega)) ok_X4_show hP.1 zc_X4 rfl q5_163 (hP) ⟨rfl, rfl, by decide, by decide⟩ ⟨Nat.zero_le _, Nat.zero_le _⟩ rfl (Nat.le_of_ble_eq_true rfl) hl.1 rfl dX4_meetNow_34 ?_
        refine z_iload_n S dX4_meetNow_37 hl 4 rfl rfl ?_
        refine lv_icmp_ne (tgt := 61) S.1 S.2.1 dX4_meetNow_38 (by decide) (fun c_38 => ?_) (fun c_38 => ?_)
        · skip
          refine z_iinc (lv' := [(6, .int (zI (k + 1))), (5, .int (zI (lcI (rndE σ (x)) (rndE σ (y))))), (0, .ref (b 0)), (1, .int (zI (x))), (2, .int (C)), (3, .int (zI (y))), (4, .int (D))]) S dX4_meetNow_61 hl 0 rfl (by decide) rfl (fun ls hl => ?_)
          refine z_goto S 18 dX4_meetNow_64 (by decide) ?_
          exact ih_18 (k + 1) (by omega) (lt_stp hI (by unfold metB; simp [c_38])) (by omega) ls (lv_sub hl [0, 1, 2, 3, 4, 5, 6] rfl)
        · skip
          refine z_aload_n S dX4_meetNow_41 hl 2 rfl rfl ?_
          refine z_iload_n S dX4_meetNow_42 hl 5 rfl rfl ?_
          refine z_aload_n S dX4_meetNow_43 hl 2 rfl rfl ?_
          refine z_get S hG hP.1 zc_X4 1 (by decide) q4_227 rfl rfl dX4_meetNow_44 ?_
          refine z_iload S dX4_meetNow_47 hl 0 rfl ?_
          refine z_iadd S dX4_meetNow_49 ?_
          refine z_callVs S hG (c_X4_show l G σ b th m1 m2 (y) ((σ.tk) + (k)) (by omega) (by omega)) ok_X4_show hP.1 zc_X4 rfl q5_163 (hP) ⟨rfl, rfl, by decide, by decide⟩ ⟨Nat.zero_le _, Nat.zero_le _⟩ rfl (Nat.le_of_ble_eq_true rfl) hl.1 rfl dX4_meetNow_50 ?_
          refine z_iload S dX4_meetNow_53 hl 6 rfl ?_
          refine lv_icmp_ne (tgt := 61) S.1 S.2.1 dX4_meetNow_55 (by decide) (fun c_55 => ?_) (fun c_55 => ?_)
          · skip
            refine z_iinc (lv' := [(6, .int (zI (k + 1))), (5, .int (zI (lcI (rndE σ (x)) (rndE σ (y))))), (0, .ref (b 0)), (1, .int (zI (x))), (2, .int (C)), (3, .int (zI (y))), (4, .int (D))]) S dX4_meetNow_61 hl 0 rfl (by decide) rfl (fun ls hl => ?_)
            refine z_goto S 18 dX4_meetNow_64 (by decide) ?_
            exact ih_18 (k + 1) (by omega) (lt_stp hI (by unfold metB; simp [c_55])) (by omega) ls (lv_sub hl [0, 1, 2, 3, 4, 5, 6] rfl)
          · skip
            refine z_iload S dX4_meetNow_58 hl 0 rfl ?_
            exact ret _ _ _ dX4_meetNow_60 (by unfold mt; rw [fstI_some hk.1 c_22x hI (by unfold metB; simp [c_38, c_55])])
  exact loop_18 _ (0) (by omega) (lt_st0) (Nat.lt_succ_self _) ls (lv_sub hl [0, 1, 2, 3, 4, 5, 6] rfl)
def ltFM (σ : St) : Nat → Int × Int32
  | 0 => (σ.tk, liM σ σ.tk)
  | n + 1 => if (ltFM σ n).2 < liM σ (σ.tk + (n + 1)) then (σ.tk + (n + 1), liM σ (σ.tk + (n + 1))) else ltFM σ n
def ltM (σ : St) (n : Int) : Int := (ltFM σ (n - 1).toNat).1
theorem dX4_lightestNow_0 : decode cX4_lightestNow 0 = .ok (.aload_n 0, 1) := by decide +kernel
theorem dX4_lightestNow_1 : decode cX4_lightestNow 1 = .ok (.getfield 108, 3) := by decide +kernel
theorem dX4_lightestNow_4 : decode cX4_lightestNow 4 = .ok (.istore_n 2, 1) := by decide +kernel
theorem dX4_lightestNow_5 : decode cX4_lightestNow 5 = .ok (.aload_n 0, 1) := by decide +kernel
theorem dX4_lightestNow_6 : decode cX4_lightestNow 6 = .ok (.aload_n 0, 1) := by decide +kernel
theorem dX4_lightestNow_7 : decode cX4_lightestNow 7 = .ok (.getfield 108, 3) := by decide +kernel
theorem dX4_lightestNow_10 : decode cX4_lightestNow 10 = .ok (.invokevirtual 174, 3) := by decide +kernel
theorem dX4_lightestNow_13 : decode cX4_lightestNow 13 = .ok (.istore_n 3, 1) := by decide +kernel
theorem dX4_lightestNow_14 : decode cX4_lightestNow 14 = .ok (.aload_n 0, 1) := by decide +kernel
theorem dX4_lightestNow_15 : decode cX4_lightestNow 15 = .ok (.getfield 108, 3) := by decide +kernel
theorem dX4_lightestNow_18 : decode cX4_lightestNow 18 = .ok (.iconst 1, 1) := by decide +kernel
theorem dX4_lightestNow_19 : decode cX4_lightestNow 19 = .ok (.iadd, 1) := by decide +kernel
theorem dX4_lightestNow_20 : decode cX4_lightestNow 20 = .ok (.istore 4, 2) := by decide +kernel
theorem dX4_lightestNow_22 : decode cX4_lightestNow 22 = .ok (.iload 4, 2) := by decide +kernel
theorem dX4_lightestNow_24 : decode cX4_lightestNow 24 = .ok (.aload_n 0, 1) := by decide +kernel
theorem dX4_lightestNow_25 : decode cX4_lightestNow 25 = .ok (.getfield 108, 3) := by decide +kernel
theorem dX4_lightestNow_28 : decode cX4_lightestNow 28 = .ok (.iload_n 1, 1) := by decide +kernel
theorem dX4_lightestNow_29 : decode cX4_lightestNow 29 = .ok (.iadd, 1) := by decide +kernel
theorem dX4_lightestNow_30 : decode cX4_lightestNow 30 = .ok (.if_icmp .ge 32, 3) := by decide +kernel
theorem dX4_lightestNow_33 : decode cX4_lightestNow 33 = .ok (.aload_n 0, 1) := by decide +kernel
theorem dX4_lightestNow_34 : decode cX4_lightestNow 34 = .ok (.iload 4, 2) := by decide +kernel
theorem dX4_lightestNow_36 : decode cX4_lightestNow 36 = .ok (.invokevirtual 174, 3) := by decide +kernel
theorem dX4_lightestNow_39 : decode cX4_lightestNow 39 = .ok (.istore 5, 2) := by decide +kernel
theorem dX4_lightestNow_41 : decode cX4_lightestNow 41 = .ok (.iload 5, 2) := by decide +kernel
theorem dX4_lightestNow_43 : decode cX4_lightestNow 43 = .ok (.iload_n 3, 1) := by decide +kernel
theorem dX4_lightestNow_44 : decode cX4_lightestNow 44 = .ok (.if_icmp .gt 6, 3) := by decide +kernel
theorem dX4_lightestNow_47 : decode cX4_lightestNow 47 = .ok (.goto 9, 3) := by decide +kernel
theorem dX4_lightestNow_50 : decode cX4_lightestNow 50 = .ok (.iload 5, 2) := by decide +kernel
theorem dX4_lightestNow_52 : decode cX4_lightestNow 52 = .ok (.istore_n 3, 1) := by decide +kernel
theorem dX4_lightestNow_53 : decode cX4_lightestNow 53 = .ok (.iload 4, 2) := by decide +kernel
theorem dX4_lightestNow_55 : decode cX4_lightestNow 55 = .ok (.istore_n 2, 1) := by decide +kernel
theorem dX4_lightestNow_56 : decode cX4_lightestNow 56 = .ok (.iinc 4 1, 3) := by decide +kernel
theorem dX4_lightestNow_59 : decode cX4_lightestNow 59 = .ok (.goto (-37), 3) := by decide +kernel
theorem dX4_lightestNow_62 : decode cX4_lightestNow 62 = .ok (.iload_n 2, 1) := by decide +kernel
theorem dX4_lightestNow_63 : decode cX4_lightestNow 63 = .ok (.ireturn, 1) := by decide +kernel
theorem q6_11 : (Jvm.Cond.methodLink "CyclepaintModel" (174 : Nat) ({ cls := "CyclepaintModel", name := "lightAt", desc := "(I)I" } : Jvm.MethodName)) ∈ lw_g := zg_of (zin6 (List.mem_of_getElem? (i := 11) rfl)) rfl
theorem q6_129 : (Jvm.Cond.code ({ cls := "CyclepaintModel", name := "lightestNow", desc := "(I)I" } : Jvm.MethodName) prog_6_method_59_code (6 : Nat) (Option.some Jvm.ClassFile.FieldType.int)) ∈ lw_g := zg_of (zin6 (List.mem_of_getElem? (i := 129) rfl)) rfl
theorem q6_128 : (Jvm.Cond.instanceMethod ({ cls := "CyclepaintModel", name := "lightestNow", desc := "(I)I" } : Jvm.MethodName)) ∈ lw_g := zg_of (zin6 (List.mem_of_getElem? (i := 128) rfl)) rfl
theorem qs_50 : Cond.selects "CyclepaintModel" (⟨"CyclepaintModel", "lightestNow", "(I)I"⟩ : MethodName) (⟨"CyclepaintModel", "lightestNow", "(I)I"⟩ : MethodName) ∈ lw_g := zg_of (zinS (List.mem_of_getElem? (i := 50) rfl)) rfl
theorem ok_X4_lightestNow : zOV yX4_lightestNow cX4_lightestNow 6 ((Option.some Jvm.ClassFile.FieldType.int)) 1 := ⟨⟨q6_129, q1_3, by decide, by decide, by decide +kernel⟩, q6_128, qs_50⟩
set_option maxHeartbeats 4000000 in
set_option maxRecDepth 100000 in
theorem c_X4_lightestNow (l : Launch) (G : zG) (σ : St) (b : Nat → Nat) (th m1 m2 : Int32) (n : Int) (hn : 1 ≤ n ∧ n ≤ 200) (hdt : ∀ d : Int, 0 ≤ d → d < 32 → 0 ≤ σ.Dt d ∧ σ.Dt d < 16) (hT : 0 ≤ σ.tk ∧ σ.tk ≤ 99999) : Met l yX4_lightestNow (wq yX4_lightestNow cX4_lightestNow 6 ((Option.some Jvm.ClassFile.FieldType.int))) (rmR 6 136) (va_Pc [.ref (b 0), .int (zI (n))] (zK G (hMod G σ b th m1 m2))) (zQ (some (.int ((zI (ltM σ n)))))) 0 0 zF := by
  refine z_enterI (by decide +kernel) (Nat.le_of_ble_eq_true rfl) ?_
  intro p env s m below meth cod Q S hG hP ret ls hl
  have hl : lv_has ls 6 [(0, .ref (b 0)), (1, .int (zI (n)))] := hl
  refine z_aload_n S dX4_lightestNow_0 hl 0 rfl rfl ?_
  refine z_get S hG hP.1 zc_X4 1 (by decide) q4_227 rfl rfl dX4_lightestNow_1 ?_
  refine z_istore_n (lv' := [(2, .int (zI (σ.tk))), (0, .ref (b 0)), (1, .int (zI (n)))]) S dX4_lightestNow_4 hl rfl (by decide) rfl (fun ls hl => ?_)
  refine z_aload_n S dX4_lightestNow_5 hl 1 rfl rfl ?_
  refine z_aload_n S dX4_lightestNow_6 hl 1 rfl rfl ?_
  refine z_get S hG hP.1 zc_X4 1 (by decide) q4_227 rfl rfl dX4_lightestNow_7 ?_
  refine z_callVs S hG (c_X4_lightAt l G σ b th m1 m2 (σ.tk) (by omega) hdt) ok_X4_lightAt hP.1 zc_X4 rfl q6_11 (hP) ⟨rfl, rfl, by decide, by decide⟩ ⟨Nat.zero_le _, Nat.zero_le _⟩ rfl (Nat.le_of_ble_eq_true rfl) hl.1 rfl dX4_lightestNow_10 ?_
  refine z_istore_n (lv' := [(3, .int (liM σ (σ.tk))), (2, .int (zI (σ.tk))), (0, .ref (b 0)), (1, .int (zI (n)))]) S dX4_lightestNow_13 hl rfl (by decide) rfl (fun ls hl => ?_)
  refine z_aload_n S dX4_lightestNow_14 hl 2 rfl rfl ?_
  refine z_get S hG hP.1 zc_X4 1 (by decide) q4_227 rfl rfl dX4_lightestNow_15 ?_
  refine z_iconst S dX4_lightestNow_18 ?_
  refine z_iadd S dX4_lightestNow_19 ?_
  refine z_istore (lv' := [(4, .int (zI ((σ.tk) + (1)))), (3, .int (liM σ (σ.tk))), (2, .int (zI (σ.tk))), (0, .ref (b 0)), (1, .int (zI (n)))]) S dX4_lightestNow_20 hl (by decide) rfl (fun ls hl => ?_)
  have loop_22 : ∀ (nn : Nat) (k : Int) (g : Int) (mx : Int32), (σ.tk + 1 ≤ k ∧ k ≤ σ.tk + n) → (g = (ltFM σ (k - σ.tk - 1).toNat).1 ∧ mx = (ltFM σ (k - σ.tk - 1).toNat).2) → ((σ.tk + n - k).toNat) < nn → ∀ ls, lv_has ls 6 [(4, .int (zI (k))), (3, .int (mx)), (2, .int (zI (g))), (0, .ref (b 0)), (1, .int (zI (n)))] → W p l env (rmR 6 136) s m ([.ref (b 0), .int (zI (n))] : List Value).toArray below meth cod s.heap [] 0 0 Q (F0 m 22 ls []) := by
    intro nn
    induction nn with
    | zero => intro _ _ _ _ _ h; exact absurd h (Nat.not_lt_zero _)
    | succ nn ih_22 =>
      intro k g mx hk hm hm_22 ls hl
      refine z_iload S dX4_lightestNow_22 hl 0 rfl ?_
      refine z_aload_n S dX4_lightestNow_24 hl 3 rfl rfl ?_
      refine z_get S hG hP.1 zc_X4 1 (by decide) q4_227 rfl rfl dX4_lightestNow_25 ?_
      refine z_iload_n S dX4_lightestNow_28 hl 4 rfl rfl ?_
      refine z_iadd S dX4_lightestNow_29 ?_
      refine z_icmp_ge S 62 dX4_lightestNow_30 (by decide) (by omega) (by omega) (fun c_30 => ?_) (fun c_30 => ?_)
      · skip
        refine z_iload_n S dX4_lightestNow_62 hl 2 rfl rfl ?_
        exact ret _ _ _ dX4_lightestNow_63 (by rw [hm.1, show k - σ.tk - 1 = n - 1 by omega]; rfl)
      · skip
        refine z_aload_n S dX4_lightestNow_33 hl 3 rfl rfl ?_
        refine z_iload S dX4_lightestNow_34 hl 0 rfl ?_
        refine z_callVs S hG (c_X4_lightAt l G σ b th m1 m2 (k) (by omega) hdt) ok_X4_lightAt hP.1 zc_X4 rfl q6_11 (hP) ⟨rfl, rfl, by decide, by decide⟩ ⟨Nat.zero_le _, Nat.zero_le _⟩ rfl (Nat.le_of_ble_eq_true rfl) hl.1 rfl dX4_lightestNow_36 ?_
        refine z_istore (lv' := [(5, .int (liM σ (k))), (4, .int (zI (k))), (3, .int (mx)), (2, .int (zI (g))), (0, .ref (b 0)), (1, .int (zI (n)))]) S dX4_lightestNow_39 hl (by decide) rfl (fun ls hl => ?_)
        refine z_iload S dX4_lightestNow_41 hl 0 rfl ?_
        refine z_iload_n S dX4_lightestNow_43 hl 2 rfl rfl ?_
        refine lv_icmp_gt (tgt := 50) S.1 S.2.1 dX4_lightestNow_44 (by decide) (fun c_44 => ?_) (fun c_44 => ?_)
        · skip
          refine z_iload S dX4_lightestNow_50 hl 0 rfl ?_
          refine z_istore_n (lv' := [(3, .int (liM σ (k))), (5, .int (liM σ (k))), (4, .int (zI (k))), (2, .int (zI (g))), (0, .ref (b 0)), (1, .int (zI (n)))]) S dX4_lightestNow_52 hl rfl (by decide) rfl (fun ls hl => ?_)
          refine z_iload S dX4_lightestNow_53 hl 2 rfl ?_
          refine z_istore_n (lv' := [(2, .int (zI (k))), (3, .int (liM σ (k))), (5, .int (liM σ (k))), (4, .int (zI (k))), (0, .ref (b 0)), (1, .int (zI (n)))]) S dX4_lightestNow_55 hl rfl (by decide) rfl (fun ls hl => ?_)
          refine z_iinc (lv' := [(4, .int (zI (k + 1))), (2, .int (zI (k))), (3, .int (liM σ (k))), (5, .int (liM σ (k))), (0, .ref (b 0)), (1, .int (zI (n)))]) S dX4_lightestNow_56 hl 3 rfl (by decide) rfl (fun ls hl => ?_)
          refine z_goto S 22 dX4_lightestNow_59 (by decide) ?_
          exact ih_22 (k + 1) (k) (liM σ (k)) (by omega) (by rw [show (k + 1 - σ.tk - 1).toNat = (k - σ.tk - 1).toNat + 1 by omega, ltFM, show σ.tk + ((((k - σ.tk - 1).toNat : Nat) : Int) + 1) = k by omega, if_pos (by rw [← hm.2]; exact c_44)]; exact ⟨rfl, rfl⟩) (by omega) ls (lv_sub hl [0, 2, 1, 4, 5] rfl)
        · skip
          refine z_goto S 56 dX4_lightestNow_47 (by decide) ?_
          refine z_iinc (lv' := [(4, .int (zI (k + 1))), (5, .int (liM σ (k))), (3, .int (mx)), (2, .int (zI (g))), (0, .ref (b 0)), (1, .int (zI (n)))]) S dX4_lightestNow_56 hl 1 rfl (by decide) rfl (fun ls hl => ?_)
          refine z_goto S 22 dX4_lightestNow_59 (by decide) ?_
          exact ih_22 (k + 1) (g) (mx) (by omega) (by rw [show (k + 1 - σ.tk - 1).toNat = (k - σ.tk - 1).toNat + 1 by omega, ltFM, show σ.tk + ((((k - σ.tk - 1).toNat : Nat) : Int) + 1) = k by omega, if_neg (by rw [← hm.2]; exact c_44)]; exact hm) (by omega) ls (lv_sub hl [0, 2, 3, 4, 5] rfl)
  exact loop_22 _ ((σ.tk) + (1)) (σ.tk) (liM σ (σ.tk)) (by omega) (by rw [show (σ.tk + 1 - σ.tk - 1).toNat = 0 by omega]; exact ⟨rfl, rfl⟩) (Nat.lt_succ_self _) ls (lv_sub hl [0, 1, 2, 3, 4] rfl)
theorem dX4_isTaken_0 : decode cX4_isTaken 0 = .ok (.iload_n 1, 1) := by decide +kernel
theorem dX4_isTaken_1 : decode cX4_isTaken 1 = .ok (.istore_n 3, 1) := by decide +kernel
theorem dX4_isTaken_2 : decode cX4_isTaken 2 = .ok (.iload_n 3, 1) := by decide +kernel
theorem dX4_isTaken_3 : decode cX4_isTaken 3 = .ok (.iload_n 2, 1) := by decide +kernel
theorem dX4_isTaken_4 : decode cX4_isTaken 4 = .ok (.if_icmp .gt 20, 3) := by decide +kernel
theorem dX4_isTaken_7 : decode cX4_isTaken 7 = .ok (.aload_n 0, 1) := by decide +kernel
theorem dX4_isTaken_8 : decode cX4_isTaken 8 = .ok (.iload_n 3, 1) := by decide +kernel
theorem dX4_isTaken_9 : decode cX4_isTaken 9 = .ok (.invokevirtual 51, 3) := by decide +kernel
theorem dX4_isTaken_12 : decode cX4_isTaken 12 = .ok (.iconst (-1), 1) := by decide +kernel
theorem dX4_isTaken_13 : decode cX4_isTaken 13 = .ok (.if_icmp .eq 5, 3) := by decide +kernel
theorem dX4_isTaken_16 : decode cX4_isTaken 16 = .ok (.iconst 1, 1) := by decide +kernel
theorem dX4_isTaken_17 : decode cX4_isTaken 17 = .ok (.ireturn, 1) := by decide +kernel
theorem dX4_isTaken_18 : decode cX4_isTaken 18 = .ok (.iinc 3 1, 3) := by decide +kernel
theorem dX4_isTaken_21 : decode cX4_isTaken 21 = .ok (.goto (-19), 3) := by decide +kernel
theorem dX4_isTaken_24 : decode cX4_isTaken 24 = .ok (.iconst 0, 1) := by decide +kernel
theorem dX4_isTaken_25 : decode cX4_isTaken 25 = .ok (.ireturn, 1) := by decide +kernel
theorem q5_51 : (Jvm.Cond.code ({ cls := "CyclepaintModel", name := "isTaken", desc := "(II)Z" } : Jvm.MethodName) prog_6_method_29_code (4 : Nat) (Option.some Jvm.ClassFile.FieldType.boolean)) ∈ lw_g := zg_of (zin5 (List.mem_of_getElem? (i := 51) rfl)) rfl
theorem q5_50 : (Jvm.Cond.instanceMethod ({ cls := "CyclepaintModel", name := "isTaken", desc := "(II)Z" } : Jvm.MethodName)) ∈ lw_g := zg_of (zin5 (List.mem_of_getElem? (i := 50) rfl)) rfl
theorem qs_22 : Cond.selects "CyclepaintModel" (⟨"CyclepaintModel", "isTaken", "(II)Z"⟩ : MethodName) (⟨"CyclepaintModel", "isTaken", "(II)Z"⟩ : MethodName) ∈ lw_g := zg_of (zinS (List.mem_of_getElem? (i := 22) rfl)) rfl
theorem ok_X4_isTaken : zOV yX4_isTaken cX4_isTaken 4 ((Option.some Jvm.ClassFile.FieldType.boolean)) 2 := ⟨⟨q5_51, q1_3, by decide, by decide, by decide +kernel⟩, q5_50, qs_22⟩
set_option maxHeartbeats 4000000 in
set_option maxRecDepth 100000 in
theorem c_X4_isTaken (l : Launch) (G : zG) (σ : St) (b : Nat → Nat) (th m1 m2 : Int32) (f u : Int) (hf : 0 ≤ f ∧ f < 16) (hu : 0 ≤ u ∧ u < 16 ∧ f ≤ u) : Met l yX4_isTaken (wq yX4_isTaken cX4_isTaken 4 ((Option.some Jvm.ClassFile.FieldType.boolean))) (rmR 4 86) (va_Pc [.ref (b 0), .int (zI (f)), .int (zI (u))] (zK G (hMod G σ b th m1 m2))) (zQ (some (.int (bI (tkM σ f u))))) 0 0 zF := by
  refine z_enterB (by decide +kernel) (Nat.le_of_ble_eq_true rfl) ?_
  intro p env s m below meth cod Q S hG hP ret ls hl
  have hl : lv_has ls 4 [(0, .ref (b 0)), (1, .int (zI (f))), (2, .int (zI (u)))] := hl
  refine z_iload_n S dX4_isTaken_0 hl 1 rfl rfl ?_
  refine z_istore_n (lv' := [(3, .int (zI (f))), (0, .ref (b 0)), (1, .int (zI (f))), (2, .int (zI (u)))]) S dX4_isTaken_1 hl rfl (by decide) rfl (fun ls hl => ?_)
  have loop_2 : ∀ (nn : Nat) (k : Int), (f ≤ k ∧ k ≤ u + 1) → (∀ t : Int, 0 ≤ t → t < k - f → (fun i => decide (rgOf σ (f + i) = -1)) t = true) → ((u + 1 - k).toNat) < nn → ∀ ls, lv_has ls 4 [(3, .int (zI (k))), (0, .ref (b 0)), (1, .int (zI (f))), (2, .int (zI (u)))] → W p l env (rmR 4 86) s m ([.ref (b 0), .int (zI (f)), .int (zI (u))] : List Value).toArray below meth cod s.heap [] 0 0 Q (F0 m 2 ls []) := by
    intro nn
    induction nn with
    | zero => intro _ _ _ h; exact absurd h (Nat.not_lt_zero _)
    | succ nn ih_2 =>
      intro k hk hI hm_2 ls hl
      refine z_iload_n S dX4_isTaken_2 hl 0 rfl rfl ?_
      refine z_iload_n S dX4_isTaken_3 hl 3 rfl rfl ?_
      refine z_icmp_gt S 24 dX4_isTaken_4 (by decide) (by omega) (by omega) (fun c_4 => ?_) (fun c_4 => ?_)
      · skip
        refine z_iconst S dX4_isTaken_24 ?_
        exact ret _ _ _ dX4_isTaken_25 (by rw [show tkM σ f u = false from by unfold tkM; rw [allI_iff.mpr (fun t h0 h1 => hI t h0 (by omega))]; rfl]; rfl)
      · skip
        refine z_aload_n S dX4_isTaken_7 hl 1 rfl rfl ?_
        refine z_iload_n S dX4_isTaken_8 hl 0 rfl rfl ?_
        refine z_callVs S hG (c_X4_rangeOf l G σ b th m1 m2 (k) (by omega)) ok_X4_rangeOf hP.1 zc_X4 rfl q5_52 (hP) ⟨rfl, rfl, by decide, by decide⟩ ⟨Nat.zero_le _, Nat.zero_le _⟩ rfl (Nat.le_of_ble_eq_true rfl) hl.1 rfl dX4_isTaken_9 ?_
        refine z_iconst S dX4_isTaken_12 ?_
        have hro := rgOf_b σ k
        refine z_icmp_eq S 18 dX4_isTaken_13 (by decide) (by omega) (by omega) (fun c_13 => ?_) (fun c_13 => ?_)
        · skip
          refine z_iinc (lv' := [(3, .int (zI (k + 1))), (0, .ref (b 0)), (1, .int (zI (f))), (2, .int (zI (u)))]) S dX4_isTaken_18 hl 0 rfl (by decide) rfl (fun ls hl => ?_)
          refine z_goto S 2 dX4_isTaken_21 (by decide) ?_
          exact ih_2 (k + 1) (by omega) (by rw [show k + 1 - f = (k - f) + 1 by omega]; exact lt_stp hI (by show decide (rgOf σ (f + (k - f)) = -1) = true; rw [show f + (k - f) = k by omega]; simp; omega)) (by omega) ls (lv_sub hl [0, 1, 2, 3] rfl)
        · skip
          refine z_iconst S dX4_isTaken_16 ?_
          exact ret _ _ _ dX4_isTaken_17 (by rw [show tkM σ f u = true from by unfold tkM; rw [allI_no (t := k - f) (by omega) (by omega) (by show decide (rgOf σ (f + (k - f)) = -1) = false; rw [show f + (k - f) = k by omega]; simp; omega)]; rfl]; rfl)
  exact loop_2 _ (f) (by omega) (by rw [Int.sub_self]; exact lt_st0) (Nat.lt_succ_self _) ls (lv_sub hl [0, 1, 2, 3] rfl)
end
section
/-! ===== sets as bits ===== -/
def bt (x : Int32) (i : Nat) : Bool := x.toBitVec.getLsbD i
theorem b_ext {x y : Int32} (h : ∀ i, i < 32 → bt x i = bt y i) : x = y := Int32.toBitVec_inj.mp (BitVec.eq_of_getLsbD_eq (fun i hi => h i hi))
theorem b_or (x y : Int32) (i : Nat) : bt (x ||| y) i = (bt x i || bt y i) := by unfold bt; rw [Int32.toBitVec_or, BitVec.getLsbD_or]
theorem b_and (x y : Int32) (i : Nat) : bt (x &&& y) i = (bt x i && bt y i) := by unfold bt; rw [Int32.toBitVec_and, BitVec.getLsbD_and]
theorem b_xor (x y : Int32) (i : Nat) : bt (x ^^^ y) i = (bt x i ^^ bt y i) := by unfold bt; rw [Int32.toBitVec_xor, BitVec.getLsbD_xor]
theorem b_num (n : Nat) {i : Nat} (h : i < 32) : bt (zI n) i = n.testBit i := by
  rw [← zI_nI]; unfold bt nI
  show (BitVec.ofNat 32 n).getLsbD i = n.testBit i
  rw [BitVec.getLsbD_ofNat]
  simp [h]
theorem b_m1 {i : Nat} (h : i < 32) : bt (zI (-1)) i = true := by
  have : ∀ i : Nat, i < 32 → bt (zI (-1)) i = true := by decide +kernel
  exact this i h
theorem b_one : ∀ k : Nat, k < 32 → ∀ i : Nat, i < 32 → bt (bit1 k) i = decide (i = k) := by decide +kernel
theorem b_bit1 {k : Int} (h : 0 ≤ k ∧ k < 32) {i : Nat} (hi : i < 32) : bt (bit1 k) i = decide ((i : Int) = k) := by
  have h1 := b_one k.toNat (by omega) i hi
  rw [Int.toNat_of_nonneg h.1] at h1
  rw [h1]
  by_cases q : i = k.toNat
  · rw [decide_eq_true q, decide_eq_true (by omega)]
  · rw [decide_eq_false q, decide_eq_false (by omega)]
theorem b_zero (i : Nat) : bt 0 i = false := by simp [bt]
/-- the set as a number -/
def bsN (p : Int → Bool) : Nat → Nat
  | 0 => 0
  | n + 1 => if p n = true then bsN p n + 2 ^ n else bsN p n
theorem bsN_lt (p : Int → Bool) : ∀ n : Nat, bsN p n < 2 ^ n
  | 0 => by rw [show bsN p 0 = 0 from rfl]; decide
  | n + 1 => by have := bsN_lt p n; rw [bsN, Nat.pow_succ]; split <;> omega
theorem bsN_bit (p : Int → Bool) : ∀ (n i : Nat), (bsN p n).testBit i = (decide (i < n) && p i)
  | 0, i => by simp [bsN]
  | n + 1, i => by
    have ih := bsN_bit p n i
    have hl := bsN_lt p n
    rw [bsN]
    by_cases q : p n = true
    · rw [if_pos q, Nat.add_comm, show 2 ^ n + bsN p n = 2 ^ n * 1 + bsN p n by rw [Nat.mul_one], Nat.testBit_two_pow_mul_add 1 hl]
      by_cases r : i < n
      · rw [if_pos r, ih, decide_eq_true r, decide_eq_true (show i < n + 1 by omega)]
      · rw [if_neg r]
        by_cases s : i = n
        · subst s; simp [q]
        · rw [show (1 : Nat) = 2 ^ 0 from rfl, Nat.testBit_two_pow, decide_eq_false (show ¬ 0 = i - n by omega), decide_eq_false (show ¬ i < n + 1 by omega)]; rfl
    · rw [if_neg q, ih]
      by_cases r : i < n
      · rw [decide_eq_true r, decide_eq_true (show i < n + 1 by omega)]
      · rw [decide_eq_false r]
        by_cases s : i = n
        · subst s; simp [q]
        · rw [decide_eq_false (show ¬ i < n + 1 by omega)]
theorem b_bst (p : Int → Bool) : ∀ n : Nat, n ≤ 31 → ∀ i : Nat, i < 32 → bt (bstF p n) i = (decide (i < n) && p i)
  | 0, _, i, _ => by rw [show bstF p 0 = 0 from rfl, b_zero]; simp
  | n + 1, hn, i, hi => by
    have ih := b_bst p n (by omega) i hi
    rw [bstF]
    by_cases q : p n = true
    · rw [if_pos q, b_or, ih, b_bit1 (by omega) hi]
      by_cases s : i = n
      · subst s; simp [q]
      · rw [decide_eq_false (show ¬ (i : Int) = n by omega), Bool.or_false]
        by_cases r : i < n
        · rw [decide_eq_true r, decide_eq_true (show i < n + 1 by omega)]
        · rw [decide_eq_false r, decide_eq_false (show ¬ i < n + 1 by omega)]
    · rw [if_neg q, ih]
      by_cases s : i = n
      · subst s; simp [q]
      · by_cases r : i < n
        · rw [decide_eq_true r, decide_eq_true (show i < n + 1 by omega)]
        · rw [decide_eq_false r, decide_eq_false (show ¬ i < n + 1 by omega)]
theorem bst_num (p : Int → Bool) {n : Nat} (h : n ≤ 31) : bstF p n = zI (bsN p n) :=
  b_ext fun i hi => by rw [b_bst p n h i hi, b_num _ hi, bsN_bit]
theorem bsN_low {p : Int → Bool} {k : Nat} (hb : ∀ t : Int, 0 ≤ t → t < k → p t = false) (hk : p k = true) : ∀ n : Nat, k < n → ∃ m : Nat, bsN p n = 2 ^ (k + 1) * m + 2 ^ k
  | 0, h => absurd h (by omega)
  | n + 1, h => by
    by_cases q : n = k
    · have hz : ∀ j : Nat, j ≤ k → bsN p j = 0 := by
        intro j
        induction j with
        | zero => intro _; rfl
        | succ j ih => intro hj; rw [bsN, if_neg (by rw [hb j (by omega) (by omega)]; decide), ih (by omega)]
      refine ⟨0, ?_⟩
      rw [bsN, q, hz k (Nat.le_refl k), if_pos hk, Nat.mul_zero]
    · obtain ⟨m, hm⟩ := bsN_low hb hk n (by omega)
      rw [bsN]
      by_cases r : p n = true
      · refine ⟨m + 2 ^ (n - (k + 1)), ?_⟩
        rw [if_pos r, hm, Nat.mul_add, ← Nat.pow_add, show k + 1 + (n - (k + 1)) = n by omega]
        omega
      · exact ⟨m, by rw [if_neg r, hm]⟩
theorem bst_low {p : Int → Bool} {k n : Nat} (hb : ∀ t : Int, 0 ≤ t → t < k → p t = false) (hk : p k = true) (hkn : k < n) (hn : n ≤ 31) : (bstF p n ^^^ zI (-1)) &&& (bstF p n - zI 1) = zI (2 ^ k - 1) := by
  obtain ⟨m, hm⟩ := bsN_low hb hk n hkn
  have hp : 0 < 2 ^ k := Nat.pow_pos (by omega)
  have e1 : bstF p n - zI 1 = zI ((2 ^ (k + 1) * m + (2 ^ k - 1) : Nat)) := by
    rw [bst_num p hn, zI_sub, hm]; congr 1; omega
  have e2 : (2 : Int) ^ k - 1 = ((2 ^ k - 1 : Nat) : Int) := by
    rw [Int.natCast_sub hp]; simp
  rw [e1, e2]
  refine b_ext fun i hi => ?_
  rw [b_and, b_xor, b_m1 hi, bst_num p hn, b_num _ hi, b_num _ hi, b_num _ hi, hm, Nat.testBit_two_pow_sub_one]
  have hl1 : 2 ^ k < 2 ^ (k + 1) := by rw [Nat.pow_succ]; omega
  rw [Nat.testBit_two_pow_mul_add m hl1, Nat.testBit_two_pow_mul_add m (show 2 ^ k - 1 < 2 ^ (k + 1) by omega), Nat.testBit_two_pow_sub_one, Nat.testBit_two_pow]
  by_cases q : i < k + 1
  · rw [if_pos q, if_pos q]
    by_cases r : i < k
    · rw [decide_eq_false (show ¬ k = i by omega), decide_eq_true r]; rfl
    · rw [decide_eq_true (show k = i by omega), decide_eq_false r]; rfl
  · rw [if_neg q, if_neg q, decide_eq_false (show ¬ i < k by omega)]
    cases m.testBit (i - (k + 1)) <;> rfl
/-! what is in a set that was made by or-ing -/
theorem b_or_any {p : Int → Bool} {g : Int → Int32} {i : Nat} : ∀ n : Nat, bt (orF p g n) i = true ↔ ∃ d : Int, (0 ≤ d ∧ d < n) ∧ p d = true ∧ bt (g d) i = true
  | 0 => by rw [show orF p g 0 = 0 from rfl, b_zero]; exact ⟨fun h => by simp at h, fun ⟨d, h, _⟩ => absurd h (by omega)⟩
  | n + 1 => by
    have ih := b_or_any (p := p) (g := g) (i := i) n
    rw [orF]
    by_cases q : p n = true
    · rw [if_pos q, b_or, Bool.or_eq_true, ih]
      refine ⟨fun h => ?_, fun ⟨d, h, h1, h2⟩ => ?_⟩
      · rcases h with ⟨d, h, h1, h2⟩ | h
        · exact ⟨d, by omega, h1, h2⟩
        · exact ⟨n, by omega, q, h⟩
      · by_cases r : d = n
        · subst r; exact Or.inr h2
        · exact Or.inl ⟨d, by omega, h1, h2⟩
    · rw [if_neg q, ih]
      refine ⟨fun ⟨d, h, h1, h2⟩ => ⟨d, by omega, h1, h2⟩, fun ⟨d, h, h1, h2⟩ => ⟨d, ?_, h1, h2⟩⟩
      by_cases r : d = n
      · subst r; exact absurd h1 q
      · omega
theorem orF_eq {p p' : Int → Bool} {g g' : Int → Int32} {n n' : Nat} (h : ∀ i : Nat, i < 32 → ((∃ d : Int, (0 ≤ d ∧ d < n) ∧ p d = true ∧ bt (g d) i = true) ↔ (∃ d : Int, (0 ≤ d ∧ d < n') ∧ p' d = true ∧ bt (g' d) i = true))) : orF p g n = orF p' g' n' :=
  b_ext fun i hi => by
    have := (b_or_any (p := p) (g := g) (i := i) n).trans ((h i hi).trans (b_or_any (p := p') (g := g') (i := i) n').symm)
    cases h1 : bt (orF p g n) i <;> cases h2 : bt (orF p' g' n') i <;> simp_all
theorem cnt_pos {f : Int → Bool} : ∀ {n : Nat}, 0 < cntF f n ↔ ∃ d : Int, (0 ≤ d ∧ d < n) ∧ f d = true
  | 0 => ⟨fun h => absurd h (by rw [show cntF f 0 = 0 from rfl]; omega), fun ⟨d, h, _⟩ => absurd h (by omega)⟩
  | n + 1 => by
    have ih := cnt_pos (f := f) (n := n)
    have hb := cntF_b f n
    rw [cntF]
    by_cases q : f n = true
    · rw [if_pos q]; exact ⟨fun _ => ⟨n, by omega, q⟩, fun _ => by omega⟩
    · rw [if_neg q, Int.add_zero, ih]
      refine ⟨fun ⟨d, h, h1⟩ => ⟨d, by omega, h1⟩, fun ⟨d, h, h1⟩ => ⟨d, ?_, h1⟩⟩
      by_cases r : d = n
      · subst r; exact absurd h1 q
      · omega
theorem us_iff {σ : St} {e : Int} : usB σ e = true ↔ ∃ d : Int, (0 ≤ d ∧ d < 32) ∧ σ.Dt d = e := by
  unfold usB usz cntI
  rw [decide_eq_true_iff, cnt_pos]
  simp
theorem b_shr : ∀ e : Nat, e < 16 → ∀ x : Int32, (x >>> (zI e &&& 31) &&& zI 1 = zI 1) ↔ bt x e = true := by
  intro e he x
  have h1 : ((zI e &&& 31).toBitVec.smod 32).toNat = e := by
    have : ∀ e : Nat, e < 16 → ((zI e &&& 31).toBitVec.smod 32).toNat = e := by decide +kernel
    exact this e he
  have h2 : ∀ i : Nat, i < 32 → bt (x >>> (zI e &&& 31)) i = if e + i < 32 then bt x (e + i) else bt x 31 := by
    intro i hi
    unfold bt
    rw [Int32.toBitVec_shiftRight, show (zI e &&& 31).toBitVec.smod 32 = BitVec.ofNat 32 e from BitVec.eq_of_toNat_eq (by rw [h1, BitVec.toNat_ofNat]; omega), BitVec.sshiftRight_eq', BitVec.getLsbD_sshiftRight]
    rw [show (BitVec.ofNat 32 e).toNat = e by rw [BitVec.toNat_ofNat]; omega, BitVec.msb_eq_getLsbD_last]
    by_cases q : e + i < 32
    · simp [q, hi]
    · simp [q, hi]
  constructor
  · intro h
    have : bt (x >>> (zI e &&& 31) &&& zI 1) 0 = bt (zI 1) 0 := by rw [h]
    rw [b_and, h2 0 (by omega), if_pos (by omega), show bt (zI 1) 0 = true from by decide] at this
    simpa using this
  · intro h
    refine b_ext fun i hi => ?_
    rw [b_and]
    by_cases q : i = 0
    · subst q; rw [h2 0 (by omega), if_pos (by omega), Nat.add_zero, h]; rfl
    · rw [show zI 1 = zI ((1 : Nat) : Int) from rfl, b_num 1 hi, show (1 : Nat) = 2 ^ 0 from rfl, Nat.testBit_two_pow, decide_eq_false (show ¬ 0 = i by omega), Bool.and_false]
theorem in_us {σ : St} (h : ∀ d : Int, 0 ≤ d → d < 32 → 0 ≤ σ.Dt d ∧ σ.Dt d < 16) {e : Int} (he : 0 ≤ e ∧ e < 16) : inB σ e = usB σ e := by
  have h1 : inB σ e = true ↔ usB σ e = true := by
    unfold inB
    rw [decide_eq_true_iff, us_iff]
    have hs := b_shr e.toNat (by omega) (enM σ)
    rw [Int.toNat_of_nonneg he.1] at hs
    rw [hs]
    unfold enM orI
    rw [b_or_any]
    refine ⟨fun ⟨d, h0, _, h2⟩ => ⟨d, by omega, ?_⟩, fun ⟨d, h0, h2⟩ => ⟨d, by omega, rfl, ?_⟩⟩
    · have hd := h d (by omega) (by omega)
      rw [b_bit1 (by omega) (by omega), decide_eq_true_iff] at h2
      omega
    · have hd := h d (by omega) (by omega)
      rw [b_bit1 (by omega) (by omega), decide_eq_true_iff]
      omega
  cases q1 : inB σ e <;> cases q2 : usB σ e <;> simp_all
theorem fstF_cases (f : Int → Bool) : ∀ n : Nat, (fstF f n = -1 ∧ ∀ t : Int, 0 ≤ t → t < n → f t = false) ∨ ((0 ≤ fstF f n ∧ fstF f n < n) ∧ f (fstF f n) = true ∧ ∀ t : Int, 0 ≤ t → t < fstF f n → f t = false)
  | 0 => Or.inl ⟨rfl, fun t h0 h1 => absurd h1 (by omega)⟩
  | n + 1 => by
    rcases fstF_cases f n with ⟨h1, h2⟩ | ⟨h1, h2, h3⟩
    · cases q : f n
      · exact Or.inl ⟨by rw [fstF, h1, if_neg (by omega), if_neg (by rw [q]; decide)], lt_stp h2 q⟩
      · have e : fstF f (n + 1) = n := by rw [fstF, h1, if_neg (by omega), if_pos q]
        rw [e]
        exact Or.inr ⟨by omega, q, h2⟩
    · have e : fstF f (n + 1) = fstF f n := by rw [fstF, if_pos h1.1]
      rw [e]
      exact Or.inr ⟨by omega, h2, h3⟩
theorem twnM_rf (σ : St) (e : Int) : twnM σ e e = true := allI_iff.mpr (fun t _ _ => by unfold twnB; simp)
theorem smM_ok (σ : St) {e : Int} (he : 0 ≤ e ∧ e < 16) : (0 ≤ smM σ e ∧ smM σ e ≤ 15) ∧ (bstI (fun o => twnM σ e o) 16 ^^^ zI (-1)) &&& (bstI (fun o => twnM σ e o) 16 - zI 1) = zI (2 ^ (smM σ e).toNat - 1) := by
  rcases fstF_cases (fun o => twnM σ e o) 16 with ⟨_, h2⟩ | ⟨h1, h2, h3⟩
  · exact absurd (h2 e he.1 (by omega)) (by rw [twnM_rf]; decide)
  · have e1 : smM σ e = fstF (fun o => twnM σ e o) 16 := rfl
    rw [← e1] at h1 h2 h3
    refine ⟨by omega, ?_⟩
    have h4 := bst_low (p := fun o => twnM σ e o) (k := (smM σ e).toNat) (n := 16) (fun t h0 ht => h3 t h0 (by omega)) (by rw [Int.toNat_of_nonneg h1.1]; exact h2) (by omega) (by omega)
    exact h4
end
section
theorem dX4_smallest_0 : decode cX4_smallest 0 = .ok (.aload_n 0, 1) := by decide +kernel
theorem dX4_smallest_1 : decode cX4_smallest 1 = .ok (.iload_n 1, 1) := by decide +kernel
theorem dX4_smallest_2 : decode cX4_smallest 2 = .ok (.invokevirtual 91, 3) := by decide +kernel
theorem dX4_smallest_5 : decode cX4_smallest 5 = .ok (.invokestatic 94, 3) := by decide +kernel
theorem dX4_smallest_8 : decode cX4_smallest 8 = .ok (.ireturn, 1) := by decide +kernel
theorem q5_145 : (Jvm.Cond.methodLink "CyclepaintModel" (91 : Nat) ({ cls := "CyclepaintModel", name := "twins", desc := "(I)I" } : Jvm.MethodName)) ∈ lw_g := zg_of (zin5 (List.mem_of_getElem? (i := 145) rfl)) rfl
theorem q5_167 : (Jvm.Cond.methodLink "CyclepaintModel" (94 : Nat) ({ cls := "java/lang/Integer", name := "numberOfTrailingZeros", desc := "(I)I" } : Jvm.MethodName)) ∈ lw_g := zg_of (zin5 (List.mem_of_getElem? (i := 167) rfl)) rfl
theorem q5_144 : (Jvm.Cond.code ({ cls := "CyclepaintModel", name := "smallest", desc := "(I)I" } : Jvm.MethodName) prog_6_method_21_code (2 : Nat) (Option.some Jvm.ClassFile.FieldType.int)) ∈ lw_g := zg_of (zin5 (List.mem_of_getElem? (i := 144) rfl)) rfl
theorem q5_143 : (Jvm.Cond.instanceMethod ({ cls := "CyclepaintModel", name := "smallest", desc := "(I)I" } : Jvm.MethodName)) ∈ lw_g := zg_of (zin5 (List.mem_of_getElem? (i := 143) rfl)) rfl
theorem qs_29 : Cond.selects "CyclepaintModel" (⟨"CyclepaintModel", "smallest", "(I)I"⟩ : MethodName) (⟨"CyclepaintModel", "smallest", "(I)I"⟩ : MethodName) ∈ lw_g := zg_of (zinS (List.mem_of_getElem? (i := 29) rfl)) rfl
theorem ok_X4_smallest : zOV yX4_smallest cX4_smallest 2 ((Option.some Jvm.ClassFile.FieldType.int)) 1 := ⟨⟨q5_144, q1_3, by decide, by decide, by decide +kernel⟩, q5_143, qs_29⟩
set_option maxHeartbeats 4000000 in
set_option maxRecDepth 100000 in
theorem c_X4_smallest (l : Launch) (G : zG) (σ : St) (b : Nat → Nat) (th m1 m2 : Int32) (e : Int) (he : 0 ≤ e ∧ e < 16) : Met l yX4_smallest (wq yX4_smallest cX4_smallest 2 ((Option.some Jvm.ClassFile.FieldType.int))) (rmR 7 157) (va_Pc [.ref (b 0), .int (zI (e))] (zK G (hMod G σ b th m1 m2))) (zQ (some (.int ((zI (smM σ e)))))) 0 0 zF := by
  refine z_enterI (by decide +kernel) (Nat.le_of_ble_eq_true rfl) ?_
  intro p env s m below meth cod Q S hG hP ret ls hl
  have hl : lv_has ls 2 [(0, .ref (b 0)), (1, .int (zI (e)))] := hl
  obtain ⟨hk, hx⟩ := smM_ok σ he
  refine z_aload_n S dX4_smallest_0 hl 0 rfl rfl ?_
  refine z_iload_n S dX4_smallest_1 hl 1 rfl rfl ?_
  refine z_callVs S hG (c_X4_twins l G σ b th m1 m2 (e) (by omega)) ok_X4_twins hP.1 zc_X4 rfl q5_145 (hP) ⟨rfl, rfl, by decide, by decide⟩ ⟨Nat.zero_le _, Nat.zero_le _⟩ rfl (Nat.le_of_ble_eq_true rfl) hl.1 rfl dX4_smallest_2 ?_
  refine z_callSs S hG (c_ntz l G (bstI (fun o => twnM σ (e) o) 16) (smM σ e) hk hx) ok_J6_numberOfTrailingZeros_0f7a4 q5_167 (trivial) ⟨rfl, rfl, by decide, by decide⟩ ⟨Nat.zero_le _, Nat.zero_le _⟩ rfl (Nat.le_of_ble_eq_true rfl) hl.1 rfl dX4_smallest_5 ?_
  exact ret _ _ _ dX4_smallest_8 (rfl)
theorem dX4_kinds_0 : decode cX4_kinds 0 = .ok (.iconst 0, 1) := by decide +kernel
theorem dX4_kinds_1 : decode cX4_kinds 1 = .ok (.istore_n 1, 1) := by decide +kernel
theorem dX4_kinds_2 : decode cX4_kinds 2 = .ok (.iconst 0, 1) := by decide +kernel
theorem dX4_kinds_3 : decode cX4_kinds 3 = .ok (.istore_n 2, 1) := by decide +kernel
theorem dX4_kinds_4 : decode cX4_kinds 4 = .ok (.iload_n 2, 1) := by decide +kernel
theorem dX4_kinds_5 : decode cX4_kinds 5 = .ok (.bipush 16, 2) := by decide +kernel
theorem dX4_kinds_7 : decode cX4_kinds 7 = .ok (.if_icmp .ge 31, 3) := by decide +kernel
theorem dX4_kinds_10 : decode cX4_kinds 10 = .ok (.aload_n 0, 1) := by decide +kernel
theorem dX4_kinds_11 : decode cX4_kinds 11 = .ok (.invokevirtual 99, 3) := by decide +kernel
theorem dX4_kinds_14 : decode cX4_kinds 14 = .ok (.iload_n 2, 1) := by decide +kernel
theorem dX4_kinds_15 : decode cX4_kinds 15 = .ok (.ishr, 1) := by decide +kernel
theorem dX4_kinds_16 : decode cX4_kinds 16 = .ok (.iconst 1, 1) := by decide +kernel
theorem dX4_kinds_17 : decode cX4_kinds 17 = .ok (.iand, 1) := by decide +kernel
theorem dX4_kinds_18 : decode cX4_kinds 18 = .ok (.iconst 1, 1) := by decide +kernel
theorem dX4_kinds_19 : decode cX4_kinds 19 = .ok (.if_icmp .ne 13, 3) := by decide +kernel
theorem dX4_kinds_22 : decode cX4_kinds 22 = .ok (.iload_n 1, 1) := by decide +kernel
theorem dX4_kinds_23 : decode cX4_kinds 23 = .ok (.iconst 1, 1) := by decide +kernel
theorem dX4_kinds_24 : decode cX4_kinds 24 = .ok (.aload_n 0, 1) := by decide +kernel
theorem dX4_kinds_25 : decode cX4_kinds 25 = .ok (.iload_n 2, 1) := by decide +kernel
theorem dX4_kinds_26 : decode cX4_kinds 26 = .ok (.invokevirtual 102, 3) := by decide +kernel
theorem dX4_kinds_29 : decode cX4_kinds 29 = .ok (.ishl, 1) := by decide +kernel
theorem dX4_kinds_30 : decode cX4_kinds 30 = .ok (.ior, 1) := by decide +kernel
theorem dX4_kinds_31 : decode cX4_kinds 31 = .ok (.istore_n 1, 1) := by decide +kernel
theorem dX4_kinds_32 : decode cX4_kinds 32 = .ok (.iinc 2 1, 3) := by decide +kernel
theorem dX4_kinds_35 : decode cX4_kinds 35 = .ok (.goto (-31), 3) := by decide +kernel
theorem dX4_kinds_38 : decode cX4_kinds 38 = .ok (.iload_n 1, 1) := by decide +kernel
theorem dX4_kinds_39 : decode cX4_kinds 39 = .ok (.invokestatic 105, 3) := by decide +kernel
theorem dX4_kinds_42 : decode cX4_kinds 42 = .ok (.ireturn, 1) := by decide +kernel
theorem q6_6 : (Jvm.Cond.methodLink "CyclepaintModel" (105 : Nat) ({ cls := "java/lang/Integer", name := "bitCount", desc := "(I)I" } : Jvm.MethodName)) ∈ lw_g := zg_of (zin6 (List.mem_of_getElem? (i := 6) rfl)) rfl
theorem q6_2 : (Jvm.Cond.methodLink "CyclepaintModel" (99 : Nat) ({ cls := "CyclepaintModel", name := "entries", desc := "()I" } : Jvm.MethodName)) ∈ lw_g := zg_of (zin6 (List.mem_of_getElem? (i := 2) rfl)) rfl
theorem q5_141 : (Jvm.Cond.methodLink "CyclepaintModel" (102 : Nat) ({ cls := "CyclepaintModel", name := "smallest", desc := "(I)I" } : Jvm.MethodName)) ∈ lw_g := zg_of (zin5 (List.mem_of_getElem? (i := 141) rfl)) rfl
theorem q6_10 : (Jvm.Cond.code ({ cls := "CyclepaintModel", name := "kinds", desc := "()I" } : Jvm.MethodName) prog_6_method_23_code (3 : Nat) (Option.some Jvm.ClassFile.FieldType.int)) ∈ lw_g := zg_of (zin6 (List.mem_of_getElem? (i := 10) rfl)) rfl
theorem q6_9 : (Jvm.Cond.instanceMethod ({ cls := "CyclepaintModel", name := "kinds", desc := "()I" } : Jvm.MethodName)) ∈ lw_g := zg_of (zin6 (List.mem_of_getElem? (i := 9) rfl)) rfl
theorem qs_42 : Cond.selects "CyclepaintModel" (⟨"CyclepaintModel", "kinds", "()I"⟩ : MethodName) (⟨"CyclepaintModel", "kinds", "()I"⟩ : MethodName) ∈ lw_g := zg_of (zinS (List.mem_of_getElem? (i := 42) rfl)) rfl
theorem ok_X4_kinds : zOV yX4_kinds cX4_kinds 3 ((Option.some Jvm.ClassFile.FieldType.int)) 0 := ⟨⟨q6_10, q1_3, by decide, by decide, by decide +kernel⟩, q6_9, qs_42⟩
set_option maxHeartbeats 4000000 in
set_option maxRecDepth 100000 in
theorem c_X4_kinds (l : Launch) (G : zG) (σ : St) (b : Nat → Nat) (th m1 m2 : Int32) : Met l yX4_kinds (wq yX4_kinds cX4_kinds 3 ((Option.some Jvm.ClassFile.FieldType.int))) (rmR 8 178) (va_Pc [.ref (b 0)] (zK G (hMod G σ b th m1 m2))) (zQ (some (.int ((bcR (ksM σ)))))) 0 0 zF := by
  refine z_enterI (by decide +kernel) (Nat.le_of_ble_eq_true rfl) ?_
  intro p env s m below meth cod Q S hG hP ret ls hl
  have hl : lv_has ls 3 [(0, .ref (b 0))] := hl
  refine z_iconst S dX4_kinds_0 ?_
  refine z_istore_n (lv' := [(1, .int (zI (0))), (0, .ref (b 0))]) S dX4_kinds_1 hl rfl (by decide) rfl (fun ls hl => ?_)
  refine z_iconst S dX4_kinds_2 ?_
  refine z_istore_n (lv' := [(2, .int (zI (0))), (1, .int (zI (0))), (0, .ref (b 0))]) S dX4_kinds_3 hl rfl (by decide) rfl (fun ls hl => ?_)
  have loop_4 : ∀ (nn : Nat) (k : Int) (g : Int32), (0 ≤ k ∧ k ≤ 16) → (g = orI (inB σ) (fun e => bit1 (smM σ e)) k) → ((16 - k).toNat) < nn → ∀ ls, lv_has ls 3 [(2, .int (zI (k))), (1, .int (g)), (0, .ref (b 0))] → W p l env (rmR 8 178) s m ([.ref (b 0)] : List Value).toArray below meth cod s.heap [] 0 0 Q (F0 m 4 ls []) := by
    intro nn
    induction nn with
    | zero => intro _ _ _ _ h; exact absurd h (Nat.not_lt_zero _)
    | succ nn ih_4 =>
      intro k g hk hg hm_4 ls hl
      refine z_iload_n S dX4_kinds_4 hl 0 rfl rfl ?_
      refine z_bipush S dX4_kinds_5 rfl ?_
      refine z_icmp_ge S 38 dX4_kinds_7 (by decide) (by omega) (by omega) (fun c_7 => ?_) (fun c_7 => ?_)
      · skip
        refine z_iload_n S dX4_kinds_38 hl 1 rfl rfl ?_
        refine z_callSs S hG (c_bitCount l G (g)) ok_J6_bitCount_0f7a4 q6_6 (trivial) ⟨rfl, rfl, by decide, by decide⟩ ⟨Nat.zero_le _, Nat.zero_le _⟩ rfl (Nat.le_of_ble_eq_true rfl) hl.1 rfl dX4_kinds_39 ?_
        exact ret _ _ _ dX4_kinds_42 (by rw [hg, show k = 16 by omega]; rfl)
      · skip
        refine z_aload_n S dX4_kinds_10 hl 2 rfl rfl ?_
        refine z_callVs S hG (c_X4_entries l G σ b th m1 m2) ok_X4_entries hP.1 zc_X4 rfl q6_2 (hP) ⟨rfl, rfl, by decide, by decide⟩ ⟨Nat.zero_le _, Nat.zero_le _⟩ rfl (Nat.le_of_ble_eq_true rfl) hl.1 rfl dX4_kinds_11 ?_
        refine z_iload_n S dX4_kinds_14 hl 0 rfl rfl ?_
        refine lv_ishr S.1 S.2.1 dX4_kinds_15 ?_
        refine z_iconst S dX4_kinds_16 ?_
        refine lv_iand S.1 S.2.1 dX4_kinds_17 ?_
        refine z_iconst S dX4_kinds_18 ?_
        refine lv_icmp_ne (tgt := 32) S.1 S.2.1 dX4_kinds_19 (by decide) (fun c_19 => ?_) (fun c_19 => ?_)
        · skip
          refine z_iinc (lv' := [(2, .int (zI (k + 1))), (1, .int (g)), (0, .ref (b 0))]) S dX4_kinds_32 hl 0 rfl (by decide) rfl (fun ls hl => ?_)
          refine z_goto S 4 dX4_kinds_35 (by decide) ?_
          exact ih_4 (k + 1) (g) (by omega) (by rw [orI_s hk.1, if_neg (by unfold inB; simpa using c_19)]; exact hg) (by omega) ls (lv_sub hl [0, 1, 2] rfl)
        · skip
          refine z_iload_n S dX4_kinds_22 hl 1 rfl rfl ?_
          refine z_iconst S dX4_kinds_23 ?_
          refine z_aload_n S dX4_kinds_24 hl 2 rfl rfl ?_
          refine z_iload_n S dX4_kinds_25 hl 0 rfl rfl ?_
          refine z_callVs S hG (c_X4_smallest l G σ b th m1 m2 (k) (by omega)) ok_X4_smallest hP.1 zc_X4 rfl q5_141 (hP) ⟨rfl, rfl, by decide, by decide⟩ ⟨Nat.zero_le _, Nat.zero_le _⟩ rfl (Nat.le_of_ble_eq_true rfl) hl.1 rfl dX4_kinds_26 ?_
          refine lv_ishl S.1 S.2.1 dX4_kinds_29 ?_
          refine lv_ior S.1 S.2.1 dX4_kinds_30 ?_
          refine z_istore_n (lv' := [(1, .int ((g) ||| ((zI (1)) <<< ((zI (smM σ (k))) &&& 31)))), (2, .int (zI (k))), (0, .ref (b 0))]) S dX4_kinds_31 hl rfl (by decide) rfl (fun ls hl => ?_)
          refine z_iinc (lv' := [(2, .int (zI (k + 1))), (1, .int ((g) ||| ((zI (1)) <<< ((zI (smM σ (k))) &&& 31)))), (0, .ref (b 0))]) S dX4_kinds_32 hl 1 rfl (by decide) rfl (fun ls hl => ?_)
          refine z_goto S 4 dX4_kinds_35 (by decide) ?_
          exact ih_4 (k + 1) ((g) ||| ((zI (1)) <<< ((zI (smM σ (k))) &&& 31))) (by omega) (by rw [orI_s hk.1, if_pos (by unfold inB; simpa using c_19), ← hg]; rfl) (by omega) ls (lv_sub hl [0, 1, 2] rfl)
  exact loop_4 _ (0) ((zI (0))) (by omega) (rfl) (Nat.lt_succ_self _) ls (lv_sub hl [0, 1, 2] rfl)
theorem dX4_dotNow_0 : decode cX4_dotNow 0 = .ok (.aload_n 0, 1) := by decide +kernel
theorem dX4_dotNow_1 : decode cX4_dotNow 1 = .ok (.aload_n 0, 1) := by decide +kernel
theorem dX4_dotNow_2 : decode cX4_dotNow 2 = .ok (.getfield 17, 3) := by decide +kernel
theorem dX4_dotNow_5 : decode cX4_dotNow 5 = .ok (.iload_n 1, 1) := by decide +kernel
theorem dX4_dotNow_6 : decode cX4_dotNow 6 = .ok (.iaload, 1) := by decide +kernel
theorem dX4_dotNow_7 : decode cX4_dotNow 7 = .ok (.aload_n 0, 1) := by decide +kernel
theorem dX4_dotNow_8 : decode cX4_dotNow 8 = .ok (.getfield 108, 3) := by decide +kernel
theorem dX4_dotNow_11 : decode cX4_dotNow 11 = .ok (.invokevirtual 84, 3) := by decide +kernel
theorem dX4_dotNow_14 : decode cX4_dotNow 14 = .ok (.istore_n 3, 1) := by decide +kernel
theorem dX4_dotNow_15 : decode cX4_dotNow 15 = .ok (.iload_n 2, 1) := by decide +kernel
theorem dX4_dotNow_16 : decode cX4_dotNow 16 = .ok (.ifCond .ne 12, 3) := by decide +kernel
theorem dX4_dotNow_19 : decode cX4_dotNow 19 = .ok (.aload_n 0, 1) := by decide +kernel
theorem dX4_dotNow_20 : decode cX4_dotNow 20 = .ok (.getfield 17, 3) := by decide +kernel
theorem dX4_dotNow_23 : decode cX4_dotNow 23 = .ok (.iload_n 1, 1) := by decide +kernel
theorem dX4_dotNow_24 : decode cX4_dotNow 24 = .ok (.iaload, 1) := by decide +kernel
theorem dX4_dotNow_25 : decode cX4_dotNow 25 = .ok (.goto 29, 3) := by decide +kernel
theorem dX4_dotNow_28 : decode cX4_dotNow 28 = .ok (.iload_n 2, 1) := by decide +kernel
theorem dX4_dotNow_29 : decode cX4_dotNow 29 = .ok (.iconst 1, 1) := by decide +kernel
theorem dX4_dotNow_30 : decode cX4_dotNow 30 = .ok (.if_icmp .ne 7, 3) := by decide +kernel
theorem dX4_dotNow_33 : decode cX4_dotNow 33 = .ok (.iload_n 3, 1) := by decide +kernel
theorem dX4_dotNow_34 : decode cX4_dotNow 34 = .ok (.goto 20, 3) := by decide +kernel
theorem dX4_dotNow_37 : decode cX4_dotNow 37 = .ok (.iload_n 2, 1) := by decide +kernel
theorem dX4_dotNow_38 : decode cX4_dotNow 38 = .ok (.iconst 2, 1) := by decide +kernel
theorem dX4_dotNow_39 : decode cX4_dotNow 39 = .ok (.if_icmp .ne 10, 3) := by decide +kernel
theorem dX4_dotNow_42 : decode cX4_dotNow 42 = .ok (.iload_n 3, 1) := by decide +kernel
theorem dX4_dotNow_43 : decode cX4_dotNow 43 = .ok (.invokestatic 114, 3) := by decide +kernel
theorem dX4_dotNow_46 : decode cX4_dotNow 46 = .ok (.goto 8, 3) := by decide +kernel
theorem dX4_dotNow_49 : decode cX4_dotNow 49 = .ok (.aload_n 0, 1) := by decide +kernel
theorem dX4_dotNow_50 : decode cX4_dotNow 50 = .ok (.iload_n 1, 1) := by decide +kernel
theorem dX4_dotNow_51 : decode cX4_dotNow 51 = .ok (.invokevirtual 111, 3) := by decide +kernel
theorem dX4_dotNow_54 : decode cX4_dotNow 54 = .ok (.ireturn, 1) := by decide +kernel
theorem q5_210 : (Jvm.Cond.code ({ cls := "CyclepaintModel", name := "dotNow", desc := "(II)I" } : Jvm.MethodName) prog_6_method_39_code (4 : Nat) (Option.some Jvm.ClassFile.FieldType.int)) ∈ lw_g := zg_of (zin5 (List.mem_of_getElem? (i := 210) rfl)) rfl
theorem q5_209 : (Jvm.Cond.instanceMethod ({ cls := "CyclepaintModel", name := "dotNow", desc := "(II)I" } : Jvm.MethodName)) ∈ lw_g := zg_of (zin5 (List.mem_of_getElem? (i := 209) rfl)) rfl
theorem qs_36 : Cond.selects "CyclepaintModel" (⟨"CyclepaintModel", "dotNow", "(II)I"⟩ : MethodName) (⟨"CyclepaintModel", "dotNow", "(II)I"⟩ : MethodName) ∈ lw_g := zg_of (zinS (List.mem_of_getElem? (i := 36) rfl)) rfl
theorem ok_X4_dotNow : zOV yX4_dotNow cX4_dotNow 4 ((Option.some Jvm.ClassFile.FieldType.int)) 2 := ⟨⟨q5_210, q1_3, by decide, by decide, by decide +kernel⟩, q5_209, qs_36⟩
set_option maxHeartbeats 4000000 in
set_option maxRecDepth 100000 in
theorem c_X4_dotNow (l : Launch) (G : zG) (σ : St) (b : Nat → Nat) (th m1 m2 : Int32) (d wh : Int) (hd : 0 ≤ d ∧ d < 32) (hw : 0 ≤ wh ∧ wh ≤ 3) (hdt : ∀ d : Int, 0 ≤ d → d < 32 → 0 ≤ σ.Dt d ∧ σ.Dt d < 16) (hT : 0 ≤ σ.tk ∧ σ.tk ≤ 99999) : Met l yX4_dotNow (wq yX4_dotNow cX4_dotNow 4 ((Option.some Jvm.ClassFile.FieldType.int))) (rmR 6 133) (va_Pc [.ref (b 0), .int (zI (d)), .int (zI (wh))] (zK G (hMod G σ b th m1 m2))) (zQ (some (.int ((dF σ d wh))))) 0 0 zF := by
  refine z_enterI (by decide +kernel) (Nat.le_of_ble_eq_true rfl) ?_
  intro p env s m below meth cod Q S hG hP ret ls hl
  have hl : lv_has ls 4 [(0, .ref (b 0)), (1, .int (zI (d))), (2, .int (zI (wh)))] := hl
  have hdt0 := hdt d hd.1 hd.2
  rcases (show wh = 0 ∨ wh = 1 ∨ wh = 2 ∨ wh = 3 by omega) with rfl | rfl | rfl | rfl
  · skip
    refine z_aload_n S dX4_dotNow_0 hl 0 rfl rfl ?_
    refine z_aload_n S dX4_dotNow_1 hl 0 rfl rfl ?_
    refine z_get S hG hP.1 zc_X4 5 (by decide) q4_231 rfl rfl dX4_dotNow_2 ?_
    refine z_iload_n S dX4_dotNow_5 hl 1 rfl rfl ?_
    refine z_ialdB S hG hP.2.2.1 (by omega) (by decide) dX4_dotNow_6 ?_
    refine z_aload_n S dX4_dotNow_7 hl 0 rfl rfl ?_
    refine z_get S hG hP.1 zc_X4 1 (by decide) q4_227 rfl rfl dX4_dotNow_8 ?_
    refine z_callVs S hG (c_X4_show l G σ b th m1 m2 (σ.Dt (d)) (σ.tk) (by omega) (by omega)) ok_X4_show hP.1 zc_X4 rfl q5_163 (hP) ⟨rfl, rfl, by decide, by decide⟩ ⟨Nat.zero_le _, Nat.zero_le _⟩ rfl (Nat.le_of_ble_eq_true rfl) hl.1 rfl dX4_dotNow_11 ?_
    refine z_istore_n (lv' := [(3, .int (shw σ (σ.Dt (d)) (σ.tk))), (0, .ref (b 0)), (1, .int (zI (d))), (2, .int (zI (0)))]) S dX4_dotNow_14 hl rfl (by decide) rfl (fun ls hl => ?_)
    refine z_iload_n S dX4_dotNow_15 hl 3 rfl rfl ?_
    refine z_if_ne_F S 28 dX4_dotNow_16 (by decide) (by omega) (by omega) ?_
    refine z_aload_n S dX4_dotNow_19 hl 1 rfl rfl ?_
    refine z_get S hG hP.1 zc_X4 5 (by decide) q4_231 rfl rfl dX4_dotNow_20 ?_
    refine z_iload_n S dX4_dotNow_23 hl 2 rfl rfl ?_
    refine z_ialdB S hG hP.2.2.1 (by omega) (by decide) dX4_dotNow_24 ?_
    refine z_goto S 54 dX4_dotNow_25 (by decide) ?_
    exact ret _ _ _ dX4_dotNow_54 (by unfold dF; simp)
  · skip
    refine z_aload_n S dX4_dotNow_0 hl 0 rfl rfl ?_
    refine z_aload_n S dX4_dotNow_1 hl 0 rfl rfl ?_
    refine z_get S hG hP.1 zc_X4 5 (by decide) q4_231 rfl rfl dX4_dotNow_2 ?_
    refine z_iload_n S dX4_dotNow_5 hl 1 rfl rfl ?_
    refine z_ialdB S hG hP.2.2.1 (by omega) (by decide) dX4_dotNow_6 ?_
    refine z_aload_n S dX4_dotNow_7 hl 0 rfl rfl ?_
    refine z_get S hG hP.1 zc_X4 1 (by decide) q4_227 rfl rfl dX4_dotNow_8 ?_
    refine z_callVs S hG (c_X4_show l G σ b th m1 m2 (σ.Dt (d)) (σ.tk) (by omega) (by omega)) ok_X4_show hP.1 zc_X4 rfl q5_163 (hP) ⟨rfl, rfl, by decide, by decide⟩ ⟨Nat.zero_le _, Nat.zero_le _⟩ rfl (Nat.le_of_ble_eq_true rfl) hl.1 rfl dX4_dotNow_11 ?_
    refine z_istore_n (lv' := [(3, .int (shw σ (σ.Dt (d)) (σ.tk))), (0, .ref (b 0)), (1, .int (zI (d))), (2, .int (zI (1)))]) S dX4_dotNow_14 hl rfl (by decide) rfl (fun ls hl => ?_)
    refine z_iload_n S dX4_dotNow_15 hl 3 rfl rfl ?_
    refine z_if_ne_T S 28 dX4_dotNow_16 (by decide) (by omega) (by omega) ?_
    refine z_iload_n S dX4_dotNow_28 hl 3 rfl rfl ?_
    refine z_iconst S dX4_dotNow_29 ?_
    refine z_icmp_ne_F S 37 dX4_dotNow_30 (by decide) (by omega) (by omega) (by omega) ?_
    refine z_iload_n S dX4_dotNow_33 hl 0 rfl rfl ?_
    refine z_goto S 54 dX4_dotNow_34 (by decide) ?_
    exact ret _ _ _ dX4_dotNow_54 (by unfold dF; simp)
  · skip
    refine z_aload_n S dX4_dotNow_0 hl 0 rfl rfl ?_
    refine z_aload_n S dX4_dotNow_1 hl 0 rfl rfl ?_
    refine z_get S hG hP.1 zc_X4 5 (by decide) q4_231 rfl rfl dX4_dotNow_2 ?_
    refine z_iload_n S dX4_dotNow_5 hl 1 rfl rfl ?_
    refine z_ialdB S hG hP.2.2.1 (by omega) (by decide) dX4_dotNow_6 ?_
    refine z_aload_n S dX4_dotNow_7 hl 0 rfl rfl ?_
    refine z_get S hG hP.1 zc_X4 1 (by decide) q4_227 rfl rfl dX4_dotNow_8 ?_
    refine z_callVs S hG (c_X4_show l G σ b th m1 m2 (σ.Dt (d)) (σ.tk) (by omega) (by omega)) ok_X4_show hP.1 zc_X4 rfl q5_163 (hP) ⟨rfl, rfl, by decide, by decide⟩ ⟨Nat.zero_le _, Nat.zero_le _⟩ rfl (Nat.le_of_ble_eq_true rfl) hl.1 rfl dX4_dotNow_11 ?_
    refine z_istore_n (lv' := [(3, .int (shw σ (σ.Dt (d)) (σ.tk))), (0, .ref (b 0)), (1, .int (zI (d))), (2, .int (zI (2)))]) S dX4_dotNow_14 hl rfl (by decide) rfl (fun ls hl => ?_)
    refine z_iload_n S dX4_dotNow_15 hl 3 rfl rfl ?_
    refine z_if_ne_T S 28 dX4_dotNow_16 (by decide) (by omega) (by omega) ?_
    refine z_iload_n S dX4_dotNow_28 hl 3 rfl rfl ?_
    refine z_iconst S dX4_dotNow_29 ?_
    refine z_icmp_ne_T S 37 dX4_dotNow_30 (by decide) (by omega) (by omega) (by omega) ?_
    refine z_iload_n S dX4_dotNow_37 hl 3 rfl rfl ?_
    refine z_iconst S dX4_dotNow_38 ?_
    refine z_icmp_ne_F S 49 dX4_dotNow_39 (by decide) (by omega) (by omega) (by omega) ?_
    refine z_iload_n S dX4_dotNow_42 hl 0 rfl rfl ?_
    refine z_callSs S hG (c_X4_light l G (shw σ (σ.Dt (d)) (σ.tk))) ok_X4_light q5_211 (trivial) ⟨rfl, rfl, by decide, by decide⟩ ⟨Nat.zero_le _, Nat.zero_le _⟩ rfl (Nat.le_of_ble_eq_true rfl) hl.1 rfl dX4_dotNow_43 ?_
    refine z_goto S 54 dX4_dotNow_46 (by decide) ?_
    exact ret _ _ _ dX4_dotNow_54 (by unfold dF; simp)
  · skip
    refine z_aload_n S dX4_dotNow_0 hl 0 rfl rfl ?_
    refine z_aload_n S dX4_dotNow_1 hl 0 rfl rfl ?_
    refine z_get S hG hP.1 zc_X4 5 (by decide) q4_231 rfl rfl dX4_dotNow_2 ?_
    refine z_iload_n S dX4_dotNow_5 hl 1 rfl rfl ?_
    refine z_ialdB S hG hP.2.2.1 (by omega) (by decide) dX4_dotNow_6 ?_
    refine z_aload_n S dX4_dotNow_7 hl 0 rfl rfl ?_
    refine z_get S hG hP.1 zc_X4 1 (by decide) q4_227 rfl rfl dX4_dotNow_8 ?_
    refine z_callVs S hG (c_X4_show l G σ b th m1 m2 (σ.Dt (d)) (σ.tk) (by omega) (by omega)) ok_X4_show hP.1 zc_X4 rfl q5_163 (hP) ⟨rfl, rfl, by decide, by decide⟩ ⟨Nat.zero_le _, Nat.zero_le _⟩ rfl (Nat.le_of_ble_eq_true rfl) hl.1 rfl dX4_dotNow_11 ?_
    refine z_istore_n (lv' := [(3, .int (shw σ (σ.Dt (d)) (σ.tk))), (0, .ref (b 0)), (1, .int (zI (d))), (2, .int (zI (3)))]) S dX4_dotNow_14 hl rfl (by decide) rfl (fun ls hl => ?_)
    refine z_iload_n S dX4_dotNow_15 hl 3 rfl rfl ?_
    refine z_if_ne_T S 28 dX4_dotNow_16 (by decide) (by omega) (by omega) ?_
    refine z_iload_n S dX4_dotNow_28 hl 3 rfl rfl ?_
    refine z_iconst S dX4_dotNow_29 ?_
    refine z_icmp_ne_T S 37 dX4_dotNow_30 (by decide) (by omega) (by omega) (by omega) ?_
    refine z_iload_n S dX4_dotNow_37 hl 3 rfl rfl ?_
    refine z_iconst S dX4_dotNow_38 ?_
    refine z_icmp_ne_T S 49 dX4_dotNow_39 (by decide) (by omega) (by omega) (by omega) ?_
    refine z_aload_n S dX4_dotNow_49 hl 1 rfl rfl ?_
    refine z_iload_n S dX4_dotNow_50 hl 2 rfl rfl ?_
    refine z_callVs S hG (c_X4_flicker l G σ b th m1 m2 (d) (by omega) hdt hT) ok_X4_flicker hP.1 zc_X4 rfl q5_195 (hP) ⟨rfl, rfl, by decide, by decide⟩ ⟨Nat.zero_le _, Nat.zero_le _⟩ rfl (Nat.le_of_ble_eq_true rfl) hl.1 rfl dX4_dotNow_51 ?_
    exact ret _ _ _ dX4_dotNow_54 (by unfold dF; simp)
theorem dX4_ofEntryNow_0 : decode cX4_ofEntryNow 0 = .ok (.iload_n 2, 1) := by decide +kernel
theorem dX4_ofEntryNow_1 : decode cX4_ofEntryNow 1 = .ok (.ifCond .ne 10, 3) := by decide +kernel
theorem dX4_ofEntryNow_4 : decode cX4_ofEntryNow 4 = .ok (.aload_n 0, 1) := by decide +kernel
theorem dX4_ofEntryNow_5 : decode cX4_ofEntryNow 5 = .ok (.getfield 13, 3) := by decide +kernel
theorem dX4_ofEntryNow_8 : decode cX4_ofEntryNow 8 = .ok (.iload_n 1, 1) := by decide +kernel
theorem dX4_ofEntryNow_9 : decode cX4_ofEntryNow 9 = .ok (.iaload, 1) := by decide +kernel
theorem dX4_ofEntryNow_10 : decode cX4_ofEntryNow 10 = .ok (.ireturn, 1) := by decide +kernel
theorem dX4_ofEntryNow_11 : decode cX4_ofEntryNow 11 = .ok (.iload_n 2, 1) := by decide +kernel
theorem dX4_ofEntryNow_12 : decode cX4_ofEntryNow 12 = .ok (.iconst 1, 1) := by decide +kernel
theorem dX4_ofEntryNow_13 : decode cX4_ofEntryNow 13 = .ok (.if_icmp .ne 13, 3) := by decide +kernel
theorem dX4_ofEntryNow_16 : decode cX4_ofEntryNow 16 = .ok (.aload_n 0, 1) := by decide +kernel
theorem dX4_ofEntryNow_17 : decode cX4_ofEntryNow 17 = .ok (.iload_n 1, 1) := by decide +kernel
theorem dX4_ofEntryNow_18 : decode cX4_ofEntryNow 18 = .ok (.aload_n 0, 1) := by decide +kernel
theorem dX4_ofEntryNow_19 : decode cX4_ofEntryNow 19 = .ok (.getfield 108, 3) := by decide +kernel
theorem dX4_ofEntryNow_22 : decode cX4_ofEntryNow 22 = .ok (.invokevirtual 84, 3) := by decide +kernel
theorem dX4_ofEntryNow_25 : decode cX4_ofEntryNow 25 = .ok (.ireturn, 1) := by decide +kernel
theorem dX4_ofEntryNow_26 : decode cX4_ofEntryNow 26 = .ok (.iload_n 2, 1) := by decide +kernel
theorem dX4_ofEntryNow_27 : decode cX4_ofEntryNow 27 = .ok (.iconst 2, 1) := by decide +kernel
theorem dX4_ofEntryNow_28 : decode cX4_ofEntryNow 28 = .ok (.if_icmp .ne 9, 3) := by decide +kernel
theorem dX4_ofEntryNow_31 : decode cX4_ofEntryNow 31 = .ok (.aload_n 0, 1) := by decide +kernel
theorem dX4_ofEntryNow_32 : decode cX4_ofEntryNow 32 = .ok (.iload_n 1, 1) := by decide +kernel
theorem dX4_ofEntryNow_33 : decode cX4_ofEntryNow 33 = .ok (.invokevirtual 51, 3) := by decide +kernel
theorem dX4_ofEntryNow_36 : decode cX4_ofEntryNow 36 = .ok (.ireturn, 1) := by decide +kernel
theorem dX4_ofEntryNow_37 : decode cX4_ofEntryNow 37 = .ok (.iload_n 2, 1) := by decide +kernel
theorem dX4_ofEntryNow_38 : decode cX4_ofEntryNow 38 = .ok (.iconst 3, 1) := by decide +kernel
theorem dX4_ofEntryNow_39 : decode cX4_ofEntryNow 39 = .ok (.if_icmp .ne 17, 3) := by decide +kernel
theorem dX4_ofEntryNow_42 : decode cX4_ofEntryNow 42 = .ok (.aload_n 0, 1) := by decide +kernel
theorem dX4_ofEntryNow_43 : decode cX4_ofEntryNow 43 = .ok (.iload_n 1, 1) := by decide +kernel
theorem dX4_ofEntryNow_44 : decode cX4_ofEntryNow 44 = .ok (.invokevirtual 152, 3) := by decide +kernel
theorem dX4_ofEntryNow_47 : decode cX4_ofEntryNow 47 = .ok (.ifCond .eq 7, 3) := by decide +kernel
theorem dX4_ofEntryNow_50 : decode cX4_ofEntryNow 50 = .ok (.iconst 1, 1) := by decide +kernel
theorem dX4_ofEntryNow_51 : decode cX4_ofEntryNow 51 = .ok (.goto 4, 3) := by decide +kernel
theorem dX4_ofEntryNow_54 : decode cX4_ofEntryNow 54 = .ok (.iconst 0, 1) := by decide +kernel
theorem dX4_ofEntryNow_55 : decode cX4_ofEntryNow 55 = .ok (.ireturn, 1) := by decide +kernel
theorem dX4_ofEntryNow_56 : decode cX4_ofEntryNow 56 = .ok (.iload_n 2, 1) := by decide +kernel
theorem dX4_ofEntryNow_57 : decode cX4_ofEntryNow 57 = .ok (.iconst 4, 1) := by decide +kernel
theorem dX4_ofEntryNow_58 : decode cX4_ofEntryNow 58 = .ok (.if_icmp .ne 9, 3) := by decide +kernel
theorem dX4_ofEntryNow_61 : decode cX4_ofEntryNow 61 = .ok (.aload_n 0, 1) := by decide +kernel
theorem dX4_ofEntryNow_62 : decode cX4_ofEntryNow 62 = .ok (.iload_n 1, 1) := by decide +kernel
theorem dX4_ofEntryNow_63 : decode cX4_ofEntryNow 63 = .ok (.invokevirtual 91, 3) := by decide +kernel
theorem dX4_ofEntryNow_66 : decode cX4_ofEntryNow 66 = .ok (.ireturn, 1) := by decide +kernel
theorem dX4_ofEntryNow_67 : decode cX4_ofEntryNow 67 = .ok (.iconst 0, 1) := by decide +kernel
theorem dX4_ofEntryNow_68 : decode cX4_ofEntryNow 68 = .ok (.istore_n 3, 1) := by decide +kernel
theorem dX4_ofEntryNow_69 : decode cX4_ofEntryNow 69 = .ok (.aload_n 0, 1) := by decide +kernel
theorem dX4_ofEntryNow_70 : decode cX4_ofEntryNow 70 = .ok (.getfield 17, 3) := by decide +kernel
theorem dX4_ofEntryNow_73 : decode cX4_ofEntryNow 73 = .ok (.astore 4, 2) := by decide +kernel
theorem dX4_ofEntryNow_75 : decode cX4_ofEntryNow 75 = .ok (.aload 4, 2) := by decide +kernel
theorem dX4_ofEntryNow_77 : decode cX4_ofEntryNow 77 = .ok (.arraylength, 1) := by decide +kernel
theorem dX4_ofEntryNow_78 : decode cX4_ofEntryNow 78 = .ok (.istore 5, 2) := by decide +kernel
theorem dX4_ofEntryNow_80 : decode cX4_ofEntryNow 80 = .ok (.iconst 0, 1) := by decide +kernel
theorem dX4_ofEntryNow_81 : decode cX4_ofEntryNow 81 = .ok (.istore 6, 2) := by decide +kernel
theorem dX4_ofEntryNow_83 : decode cX4_ofEntryNow 83 = .ok (.iload 6, 2) := by decide +kernel
theorem dX4_ofEntryNow_85 : decode cX4_ofEntryNow 85 = .ok (.iload 5, 2) := by decide +kernel
theorem dX4_ofEntryNow_87 : decode cX4_ofEntryNow 87 = .ok (.if_icmp .ge 30, 3) := by decide +kernel
theorem dX4_ofEntryNow_90 : decode cX4_ofEntryNow 90 = .ok (.aload 4, 2) := by decide +kernel
theorem dX4_ofEntryNow_92 : decode cX4_ofEntryNow 92 = .ok (.iload 6, 2) := by decide +kernel
theorem dX4_ofEntryNow_94 : decode cX4_ofEntryNow 94 = .ok (.iaload, 1) := by decide +kernel
theorem dX4_ofEntryNow_95 : decode cX4_ofEntryNow 95 = .ok (.istore 7, 2) := by decide +kernel
theorem dX4_ofEntryNow_97 : decode cX4_ofEntryNow 97 = .ok (.iload_n 3, 1) := by decide +kernel
theorem dX4_ofEntryNow_98 : decode cX4_ofEntryNow 98 = .ok (.iload 7, 2) := by decide +kernel
theorem dX4_ofEntryNow_100 : decode cX4_ofEntryNow 100 = .ok (.iload_n 1, 1) := by decide +kernel
theorem dX4_ofEntryNow_101 : decode cX4_ofEntryNow 101 = .ok (.if_icmp .ne 7, 3) := by decide +kernel
theorem dX4_ofEntryNow_104 : decode cX4_ofEntryNow 104 = .ok (.iconst 1, 1) := by decide +kernel
theorem dX4_ofEntryNow_105 : decode cX4_ofEntryNow 105 = .ok (.goto 4, 3) := by decide +kernel
theorem dX4_ofEntryNow_108 : decode cX4_ofEntryNow 108 = .ok (.iconst 0, 1) := by decide +kernel
theorem dX4_ofEntryNow_109 : decode cX4_ofEntryNow 109 = .ok (.iadd, 1) := by decide +kernel
theorem dX4_ofEntryNow_110 : decode cX4_ofEntryNow 110 = .ok (.istore_n 3, 1) := by decide +kernel
theorem dX4_ofEntryNow_111 : decode cX4_ofEntryNow 111 = .ok (.iinc 6 1, 3) := by decide +kernel
theorem dX4_ofEntryNow_114 : decode cX4_ofEntryNow 114 = .ok (.goto (-31), 3) := by decide +kernel
theorem dX4_ofEntryNow_117 : decode cX4_ofEntryNow 117 = .ok (.iload_n 3, 1) := by decide +kernel
theorem dX4_ofEntryNow_118 : decode cX4_ofEntryNow 118 = .ok (.ireturn, 1) := by decide +kernel
theorem q5_222 : (Jvm.Cond.methodLink "CyclepaintModel" (152 : Nat) ({ cls := "CyclepaintModel", name := "isStill", desc := "(I)Z" } : Jvm.MethodName)) ∈ lw_g := zg_of (zin5 (List.mem_of_getElem? (i := 222) rfl)) rfl
theorem q5_221 : (Jvm.Cond.code ({ cls := "CyclepaintModel", name := "ofEntryNow", desc := "(II)I" } : Jvm.MethodName) prog_6_method_41_code (8 : Nat) (Option.some Jvm.ClassFile.FieldType.int)) ∈ lw_g := zg_of (zin5 (List.mem_of_getElem? (i := 221) rfl)) rfl
theorem q5_220 : (Jvm.Cond.instanceMethod ({ cls := "CyclepaintModel", name := "ofEntryNow", desc := "(II)I" } : Jvm.MethodName)) ∈ lw_g := zg_of (zin5 (List.mem_of_getElem? (i := 220) rfl)) rfl
theorem qs_37 : Cond.selects "CyclepaintModel" (⟨"CyclepaintModel", "ofEntryNow", "(II)I"⟩ : MethodName) (⟨"CyclepaintModel", "ofEntryNow", "(II)I"⟩ : MethodName) ∈ lw_g := zg_of (zinS (List.mem_of_getElem? (i := 37) rfl)) rfl
theorem ok_X4_ofEntryNow : zOV yX4_ofEntryNow cX4_ofEntryNow 8 ((Option.some Jvm.ClassFile.FieldType.int)) 2 := ⟨⟨q5_221, q1_3, by decide, by decide, by decide +kernel⟩, q5_220, qs_37⟩
set_option maxHeartbeats 4000000 in
set_option maxRecDepth 100000 in
theorem c_X4_ofEntryNow (l : Launch) (G : zG) (σ : St) (b : Nat → Nat) (th m1 m2 : Int32) (e wh : Int) (he : 0 ≤ e ∧ e < 16) (hw : 0 ≤ wh ∧ wh ≤ 5) (hdt : ∀ d : Int, 0 ≤ d → d < 32 → 0 ≤ σ.Dt d ∧ σ.Dt d < 16) (hT : 0 ≤ σ.tk ∧ σ.tk ≤ 99999) : Met l yX4_ofEntryNow (wq yX4_ofEntryNow cX4_ofEntryNow 8 ((Option.some Jvm.ClassFile.FieldType.int))) (rmR 7 157) (va_Pc [.ref (b 0), .int (zI (e)), .int (zI (wh))] (zK G (hMod G σ b th m1 m2))) (zQ (some (.int ((eM σ e wh))))) 0 0 zF := by
  refine z_enterI (by decide +kernel) (Nat.le_of_ble_eq_true rfl) ?_
  intro p env s m below meth cod Q S hG hP ret ls hl
  have hl : lv_has ls 8 [(0, .ref (b 0)), (1, .int (zI (e))), (2, .int (zI (wh)))] := hl
  have hO := hP.2.2.2.2.2.2.2.2.2
  have hrn := hO.1
  rcases (show wh = 0 ∨ wh = 1 ∨ wh = 2 ∨ wh = 3 ∨ wh = 4 ∨ wh = 5 by omega) with rfl | rfl | rfl | rfl | rfl | rfl
  · skip
    refine z_iload_n S dX4_ofEntryNow_0 hl 2 rfl rfl ?_
    refine z_if_ne_F S 11 dX4_ofEntryNow_1 (by decide) (by omega) (by omega) ?_
    refine z_aload_n S dX4_ofEntryNow_4 hl 0 rfl rfl ?_
    refine z_get S hG hP.1 zc_X4 4 (by decide) q4_230 rfl rfl dX4_ofEntryNow_5 ?_
    refine z_iload_n S dX4_ofEntryNow_8 hl 1 rfl rfl ?_
    refine z_iald S hG hP.2.1 (by omega) (by decide) dX4_ofEntryNow_9 ?_
    exact ret _ _ _ dX4_ofEntryNow_10 (by unfold eM; simp)
  · skip
    refine z_iload_n S dX4_ofEntryNow_0 hl 2 rfl rfl ?_
    refine z_if_ne_T S 11 dX4_ofEntryNow_1 (by decide) (by omega) (by omega) ?_
    refine z_iload_n S dX4_ofEntryNow_11 hl 2 rfl rfl ?_
    refine z_iconst S dX4_ofEntryNow_12 ?_
    refine z_icmp_ne_F S 26 dX4_ofEntryNow_13 (by decide) (by omega) (by omega) (by omega) ?_
    refine z_aload_n S dX4_ofEntryNow_16 hl 0 rfl rfl ?_
    refine z_iload_n S dX4_ofEntryNow_17 hl 1 rfl rfl ?_
    refine z_aload_n S dX4_ofEntryNow_18 hl 0 rfl rfl ?_
    refine z_get S hG hP.1 zc_X4 1 (by decide) q4_227 rfl rfl dX4_ofEntryNow_19 ?_
    refine z_callVs S hG (c_X4_show l G σ b th m1 m2 (e) (σ.tk) (by omega) (by omega)) ok_X4_show hP.1 zc_X4 rfl q5_163 (hP) ⟨rfl, rfl, by decide, by decide⟩ ⟨Nat.zero_le _, Nat.zero_le _⟩ rfl (Nat.le_of_ble_eq_true rfl) hl.1 rfl dX4_ofEntryNow_22 ?_
    exact ret _ _ _ dX4_ofEntryNow_25 (by unfold eM; simp)
  · skip
    refine z_iload_n S dX4_ofEntryNow_0 hl 2 rfl rfl ?_
    refine z_if_ne_T S 11 dX4_ofEntryNow_1 (by decide) (by omega) (by omega) ?_
    refine z_iload_n S dX4_ofEntryNow_11 hl 2 rfl rfl ?_
    refine z_iconst S dX4_ofEntryNow_12 ?_
    refine z_icmp_ne_T S 26 dX4_ofEntryNow_13 (by decide) (by omega) (by omega) (by omega) ?_
    refine z_iload_n S dX4_ofEntryNow_26 hl 2 rfl rfl ?_
    refine z_iconst S dX4_ofEntryNow_27 ?_
    refine z_icmp_ne_F S 37 dX4_ofEntryNow_28 (by decide) (by omega) (by omega) (by omega) ?_
    refine z_aload_n S dX4_ofEntryNow_31 hl 0 rfl rfl ?_
    refine z_iload_n S dX4_ofEntryNow_32 hl 1 rfl rfl ?_
    refine z_callVs S hG (c_X4_rangeOf l G σ b th m1 m2 (e) (by omega)) ok_X4_rangeOf hP.1 zc_X4 rfl q5_52 (hP) ⟨rfl, rfl, by decide, by decide⟩ ⟨Nat.zero_le _, Nat.zero_le _⟩ rfl (Nat.le_of_ble_eq_true rfl) hl.1 rfl dX4_ofEntryNow_33 ?_
    exact ret _ _ _ dX4_ofEntryNow_36 (by unfold eM; simp)
  · skip
    refine z_iload_n S dX4_ofEntryNow_0 hl 2 rfl rfl ?_
    refine z_if_ne_T S 11 dX4_ofEntryNow_1 (by decide) (by omega) (by omega) ?_
    refine z_iload_n S dX4_ofEntryNow_11 hl 2 rfl rfl ?_
    refine z_iconst S dX4_ofEntryNow_12 ?_
    refine z_icmp_ne_T S 26 dX4_ofEntryNow_13 (by decide) (by omega) (by omega) (by omega) ?_
    refine z_iload_n S dX4_ofEntryNow_26 hl 2 rfl rfl ?_
    refine z_iconst S dX4_ofEntryNow_27 ?_
    refine z_icmp_ne_T S 37 dX4_ofEntryNow_28 (by decide) (by omega) (by omega) (by omega) ?_
    refine z_iload_n S dX4_ofEntryNow_37 hl 2 rfl rfl ?_
    refine z_iconst S dX4_ofEntryNow_38 ?_
    refine z_icmp_ne_F S 56 dX4_ofEntryNow_39 (by decide) (by omega) (by omega) (by omega) ?_
    refine z_aload_n S dX4_ofEntryNow_42 hl 0 rfl rfl ?_
    refine z_iload_n S dX4_ofEntryNow_43 hl 1 rfl rfl ?_
    refine z_callVs S hG (c_X4_isStill l G σ b th m1 m2 (e) (by omega)) ok_X4_isStill hP.1 zc_X4 rfl q5_222 (hP) ⟨rfl, rfl, by decide, by decide⟩ ⟨Nat.zero_le _, Nat.zero_le _⟩ rfl (Nat.le_of_ble_eq_true rfl) hl.1 rfl dX4_ofEntryNow_44 ?_
    refine z_bif_eq S 54 dX4_ofEntryNow_47 (by decide) (fun c_47 => ?_) (fun c_47 => ?_)
    · skip
      refine z_iconst S dX4_ofEntryNow_54 ?_
      exact ret _ _ _ dX4_ofEntryNow_55 (by unfold eM; simp [c_47]; rfl)
    · skip
      refine z_iconst S dX4_ofEntryNow_50 ?_
      refine z_goto S 55 dX4_ofEntryNow_51 (by decide) ?_
      exact ret _ _ _ dX4_ofEntryNow_55 (by unfold eM; simp [c_47]; rfl)
  · skip
    refine z_iload_n S dX4_ofEntryNow_0 hl 2 rfl rfl ?_
    refine z_if_ne_T S 11 dX4_ofEntryNow_1 (by decide) (by omega) (by omega) ?_
    refine z_iload_n S dX4_ofEntryNow_11 hl 2 rfl rfl ?_
    refine z_iconst S dX4_ofEntryNow_12 ?_
    refine z_icmp_ne_T S 26 dX4_ofEntryNow_13 (by decide) (by omega) (by omega) (by omega) ?_
    refine z_iload_n S dX4_ofEntryNow_26 hl 2 rfl rfl ?_
    refine z_iconst S dX4_ofEntryNow_27 ?_
    refine z_icmp_ne_T S 37 dX4_ofEntryNow_28 (by decide) (by omega) (by omega) (by omega) ?_
    refine z_iload_n S dX4_ofEntryNow_37 hl 2 rfl rfl ?_
    refine z_iconst S dX4_ofEntryNow_38 ?_
    refine z_icmp_ne_T S 56 dX4_ofEntryNow_39 (by decide) (by omega) (by omega) (by omega) ?_
    refine z_iload_n S dX4_ofEntryNow_56 hl 2 rfl rfl ?_
    refine z_iconst S dX4_ofEntryNow_57 ?_
    refine z_icmp_ne_F S 67 dX4_ofEntryNow_58 (by decide) (by omega) (by omega) (by omega) ?_
    refine z_aload_n S dX4_ofEntryNow_61 hl 0 rfl rfl ?_
    refine z_iload_n S dX4_ofEntryNow_62 hl 1 rfl rfl ?_
    refine z_callVs S hG (c_X4_twins l G σ b th m1 m2 (e) (by omega)) ok_X4_twins hP.1 zc_X4 rfl q5_145 (hP) ⟨rfl, rfl, by decide, by decide⟩ ⟨Nat.zero_le _, Nat.zero_le _⟩ rfl (Nat.le_of_ble_eq_true rfl) hl.1 rfl dX4_ofEntryNow_63 ?_
    exact ret _ _ _ dX4_ofEntryNow_66 (by unfold eM; simp)
  · skip
    refine z_iload_n S dX4_ofEntryNow_0 hl 2 rfl rfl ?_
    refine z_if_ne_T S 11 dX4_ofEntryNow_1 (by decide) (by omega) (by omega) ?_
    refine z_iload_n S dX4_ofEntryNow_11 hl 2 rfl rfl ?_
    refine z_iconst S dX4_ofEntryNow_12 ?_
    refine z_icmp_ne_T S 26 dX4_ofEntryNow_13 (by decide) (by omega) (by omega) (by omega) ?_
    refine z_iload_n S dX4_ofEntryNow_26 hl 2 rfl rfl ?_
    refine z_iconst S dX4_ofEntryNow_27 ?_
    refine z_icmp_ne_T S 37 dX4_ofEntryNow_28 (by decide) (by omega) (by omega) (by omega) ?_
    refine z_iload_n S dX4_ofEntryNow_37 hl 2 rfl rfl ?_
    refine z_iconst S dX4_ofEntryNow_38 ?_
    refine z_icmp_ne_T S 56 dX4_ofEntryNow_39 (by decide) (by omega) (by omega) (by omega) ?_
    refine z_iload_n S dX4_ofEntryNow_56 hl 2 rfl rfl ?_
    refine z_iconst S dX4_ofEntryNow_57 ?_
    refine z_icmp_ne_T S 67 dX4_ofEntryNow_58 (by decide) (by omega) (by omega) (by omega) ?_
    refine z_iconst S dX4_ofEntryNow_67 ?_
    refine z_istore_n (lv' := [(3, .int (zI (0))), (0, .ref (b 0)), (1, .int (zI (e))), (2, .int (zI (5)))]) S dX4_ofEntryNow_68 hl rfl (by decide) rfl (fun ls hl => ?_)
    refine z_aload_n S dX4_ofEntryNow_69 hl 1 rfl rfl ?_
    refine z_get S hG hP.1 zc_X4 5 (by decide) q4_231 rfl rfl dX4_ofEntryNow_70 ?_
    refine z_astore (lv' := [(4, .ref (b 2)), (3, .int (zI (0))), (0, .ref (b 0)), (1, .int (zI (e))), (2, .int (zI (5)))]) S dX4_ofEntryNow_73 hl (by decide) rfl (fun ls hl => ?_)
    refine z_aload S dX4_ofEntryNow_75 hl 0 rfl ?_
    refine z_alenI S hG hP.2.2.1 dX4_ofEntryNow_77 ?_
    refine z_istore (lv' := [(5, .int (zI (32))), (4, .ref (b 2)), (3, .int (zI (0))), (0, .ref (b 0)), (1, .int (zI (e))), (2, .int (zI (5)))]) S dX4_ofEntryNow_78 hl (by decide) rfl (fun ls hl => ?_)
    refine z_iconst S dX4_ofEntryNow_80 ?_
    refine z_istore (lv' := [(6, .int (zI (0))), (5, .int (zI (32))), (4, .ref (b 2)), (3, .int (zI (0))), (0, .ref (b 0)), (1, .int (zI (e))), (2, .int (zI (5)))]) S dX4_ofEntryNow_81 hl (by decide) rfl (fun ls hl => ?_)
    have loop_83 : ∀ (nn : Nat) (k : Int) (ch : Int), (0 ≤ k ∧ k ≤ 32) → (ch = cntI (fun d => decide (σ.Dt d = e)) k) → ((32 - k).toNat) < nn → ∀ ls, lv_has ls 8 [(6, .int (zI (k))), (5, .int (zI (32))), (4, .ref (b 2)), (3, .int (zI (ch))), (0, .ref (b 0)), (1, .int (zI (e))), (2, .int (zI (5)))] → W p l env (rmR 7 157) s m ([.ref (b 0), .int (zI (e)), .int (zI (5))] : List Value).toArray below meth cod s.heap [] 0 0 Q (F0 m 83 ls []) := by
      intro nn
      induction nn with
      | zero => intro _ _ _ _ h; exact absurd h (Nat.not_lt_zero _)
      | succ nn ih_83 =>
        intro k ch hk hch hm_83 ls hl
        refine z_iload S dX4_ofEntryNow_83 hl 0 rfl ?_
        refine z_iload S dX4_ofEntryNow_85 hl 1 rfl ?_
        refine z_icmp_ge S 117 dX4_ofEntryNow_87 (by decide) (by omega) (by omega) (fun c_87 => ?_) (fun c_87 => ?_)
        · skip
          refine z_iload_n S dX4_ofEntryNow_117 hl 3 rfl rfl ?_
          exact ret _ _ _ dX4_ofEntryNow_118 (by rw [hch, show k = 32 by omega]; unfold eM; simp; rfl)
        · skip
          refine z_aload S dX4_ofEntryNow_90 hl 2 rfl ?_
          refine z_iload S dX4_ofEntryNow_92 hl 0 rfl ?_
          refine z_ialdB S hG hP.2.2.1 (by omega) (by decide) dX4_ofEntryNow_94 ?_
          refine z_istore (lv' := [(7, .int (zI (σ.Dt (k)))), (6, .int (zI (k))), (5, .int (zI (32))), (4, .ref (b 2)), (3, .int (zI (ch))), (0, .ref (b 0)), (1, .int (zI (e))), (2, .int (zI (5)))]) S dX4_ofEntryNow_95 hl (by decide) rfl (fun ls hl => ?_)
          refine z_iload_n S dX4_ofEntryNow_97 hl 4 rfl rfl ?_
          refine z_iload S dX4_ofEntryNow_98 hl 0 rfl ?_
          refine z_iload_n S dX4_ofEntryNow_100 hl 6 rfl rfl ?_
          have hdt0 := hdt k hk.1 (by omega)
          refine z_icmp_ne S 108 dX4_ofEntryNow_101 (by decide) (by omega) (by omega) (fun c_101 => ?_) (fun c_101 => ?_)
          · skip
            refine z_iconst S dX4_ofEntryNow_108 ?_
            refine z_iadd S dX4_ofEntryNow_109 ?_
            refine z_istore_n (lv' := [(3, .int (zI ((ch) + (0)))), (7, .int (zI (σ.Dt (k)))), (6, .int (zI (k))), (5, .int (zI (32))), (4, .ref (b 2)), (0, .ref (b 0)), (1, .int (zI (e))), (2, .int (zI (5)))]) S dX4_ofEntryNow_110 hl rfl (by decide) rfl (fun ls hl => ?_)
            refine z_iinc (lv' := [(6, .int (zI (k + 1))), (3, .int (zI ((ch) + (0)))), (7, .int (zI (σ.Dt (k)))), (5, .int (zI (32))), (4, .ref (b 2)), (0, .ref (b 0)), (1, .int (zI (e))), (2, .int (zI (5)))]) S dX4_ofEntryNow_111 hl 2 rfl (by decide) rfl (fun ls hl => ?_)
            refine z_goto S 83 dX4_ofEntryNow_114 (by decide) ?_
            exact ih_83 (k + 1) ((ch) + (0)) (by omega) (by rw [cntI_f hk.1 (by simpa using c_101), ← hch]; omega) (by omega) ls (lv_sub hl [0, 3, 4, 1, 5, 6, 7] rfl)
          · skip
            refine z_iconst S dX4_ofEntryNow_104 ?_
            refine z_goto S 109 dX4_ofEntryNow_105 (by decide) ?_
            refine z_iadd S dX4_ofEntryNow_109 ?_
            refine z_istore_n (lv' := [(3, .int (zI ((ch) + (1)))), (7, .int (zI (σ.Dt (k)))), (6, .int (zI (k))), (5, .int (zI (32))), (4, .ref (b 2)), (0, .ref (b 0)), (1, .int (zI (e))), (2, .int (zI (5)))]) S dX4_ofEntryNow_110 hl rfl (by decide) rfl (fun ls hl => ?_)
            refine z_iinc (lv' := [(6, .int (zI (k + 1))), (3, .int (zI ((ch) + (1)))), (7, .int (zI (σ.Dt (k)))), (5, .int (zI (32))), (4, .ref (b 2)), (0, .ref (b 0)), (1, .int (zI (e))), (2, .int (zI (5)))]) S dX4_ofEntryNow_111 hl 2 rfl (by decide) rfl (fun ls hl => ?_)
            refine z_goto S 83 dX4_ofEntryNow_114 (by decide) ?_
            exact ih_83 (k + 1) ((ch) + (1)) (by omega) (by rw [cntI_t hk.1 (by simp; omega), ← hch]) (by omega) ls (lv_sub hl [0, 3, 4, 1, 5, 6, 7] rfl)
    exact loop_83 _ (0) (0) (by omega) (rfl) (Nat.lt_succ_self _) ls (lv_sub hl [0, 1, 2, 3, 4, 5, 6] rfl)
theorem allI_s {f : Int → Bool} {k : Int} (h : 0 ≤ k) : allI f (k + 1) = (allI f k && f k) := by
  unfold allI
  rw [show (k + 1).toNat = k.toNat + 1 by omega, allF, Int.toNat_of_nonneg h]
theorem sk_no {σ : St} {n w q : Int} {v : Bool} (hv : v = allI (skB σ n w) q) (h : v = false) (h0 : 0 ≤ q) (h1 : q ≤ 32) : v = sk σ n w := by
  rw [h]
  cases r : sk σ n w
  · rfl
  · exfalso
    have := (allI_iff (f := skB σ n w) (k := q)).mpr (fun t t0 t1 => allI_iff.mp r t t0 (by omega))
    rw [← hv, h] at this
    exact absurd this (by decide)
theorem dX4_whenNow_0 : decode cX4_whenNow 0 = .ok (.aload_n 0, 1) := by decide +kernel
theorem dX4_whenNow_1 : decode cX4_whenNow 1 = .ok (.getfield 27, 3) := by decide +kernel
theorem dX4_whenNow_4 : decode cX4_whenNow 4 = .ok (.iload_n 1, 1) := by decide +kernel
theorem dX4_whenNow_5 : decode cX4_whenNow 5 = .ok (.invokevirtual 46, 3) := by decide +kernel
theorem dX4_whenNow_8 : decode cX4_whenNow 8 = .ok (.checkcast 50, 3) := by decide +kernel
theorem dX4_whenNow_11 : decode cX4_whenNow 11 = .ok (.astore_n 2, 1) := by decide +kernel
theorem dX4_whenNow_12 : decode cX4_whenNow 12 = .ok (.iconst 0, 1) := by decide +kernel
theorem dX4_whenNow_13 : decode cX4_whenNow 13 = .ok (.istore_n 3, 1) := by decide +kernel
theorem dX4_whenNow_14 : decode cX4_whenNow 14 = .ok (.iload_n 3, 1) := by decide +kernel
theorem dX4_whenNow_15 : decode cX4_whenNow 15 = .ok (.sipush 400, 3) := by decide +kernel
theorem dX4_whenNow_18 : decode cX4_whenNow 18 = .ok (.if_icmp .gt 71, 3) := by decide +kernel
theorem dX4_whenNow_21 : decode cX4_whenNow 21 = .ok (.iconst 1, 1) := by decide +kernel
theorem dX4_whenNow_22 : decode cX4_whenNow 22 = .ok (.istore 4, 2) := by decide +kernel
theorem dX4_whenNow_24 : decode cX4_whenNow 24 = .ok (.iconst 0, 1) := by decide +kernel
theorem dX4_whenNow_25 : decode cX4_whenNow 25 = .ok (.istore 5, 2) := by decide +kernel
theorem dX4_whenNow_27 : decode cX4_whenNow 27 = .ok (.iload 5, 2) := by decide +kernel
theorem dX4_whenNow_29 : decode cX4_whenNow 29 = .ok (.aload_n 2, 1) := by decide +kernel
theorem dX4_whenNow_30 : decode cX4_whenNow 30 = .ok (.arraylength, 1) := by decide +kernel
theorem dX4_whenNow_31 : decode cX4_whenNow 31 = .ok (.if_icmp .ge 45, 3) := by decide +kernel
theorem dX4_whenNow_34 : decode cX4_whenNow 34 = .ok (.iload 4, 2) := by decide +kernel
theorem dX4_whenNow_36 : decode cX4_whenNow 36 = .ok (.ifCond .eq 40, 3) := by decide +kernel
theorem dX4_whenNow_39 : decode cX4_whenNow 39 = .ok (.aload_n 0, 1) := by decide +kernel
theorem dX4_whenNow_40 : decode cX4_whenNow 40 = .ok (.aload_n 0, 1) := by decide +kernel
theorem dX4_whenNow_41 : decode cX4_whenNow 41 = .ok (.getfield 17, 3) := by decide +kernel
theorem dX4_whenNow_44 : decode cX4_whenNow 44 = .ok (.iload 5, 2) := by decide +kernel
theorem dX4_whenNow_46 : decode cX4_whenNow 46 = .ok (.iaload, 1) := by decide +kernel
theorem dX4_whenNow_47 : decode cX4_whenNow 47 = .ok (.aload_n 0, 1) := by decide +kernel
theorem dX4_whenNow_48 : decode cX4_whenNow 48 = .ok (.getfield 108, 3) := by decide +kernel
theorem dX4_whenNow_51 : decode cX4_whenNow 51 = .ok (.iload_n 3, 1) := by decide +kernel
theorem dX4_whenNow_52 : decode cX4_whenNow 52 = .ok (.iadd, 1) := by decide +kernel
theorem dX4_whenNow_53 : decode cX4_whenNow 53 = .ok (.invokevirtual 84, 3) := by decide +kernel
theorem dX4_whenNow_56 : decode cX4_whenNow 56 = .ok (.aload_n 2, 1) := by decide +kernel
theorem dX4_whenNow_57 : decode cX4_whenNow 57 = .ok (.iload 5, 2) := by decide +kernel
theorem dX4_whenNow_59 : decode cX4_whenNow 59 = .ok (.iaload, 1) := by decide +kernel
theorem dX4_whenNow_60 : decode cX4_whenNow 60 = .ok (.if_icmp .ne 7, 3) := by decide +kernel
theorem dX4_whenNow_63 : decode cX4_whenNow 63 = .ok (.iconst 1, 1) := by decide +kernel
theorem dX4_whenNow_64 : decode cX4_whenNow 64 = .ok (.goto 4, 3) := by decide +kernel
theorem dX4_whenNow_67 : decode cX4_whenNow 67 = .ok (.iconst 0, 1) := by decide +kernel
theorem dX4_whenNow_68 : decode cX4_whenNow 68 = .ok (.istore 4, 2) := by decide +kernel
theorem dX4_whenNow_70 : decode cX4_whenNow 70 = .ok (.iinc 5 1, 3) := by decide +kernel
theorem dX4_whenNow_73 : decode cX4_whenNow 73 = .ok (.goto (-46), 3) := by decide +kernel
theorem dX4_whenNow_76 : decode cX4_whenNow 76 = .ok (.iload 4, 2) := by decide +kernel
theorem dX4_whenNow_78 : decode cX4_whenNow 78 = .ok (.ifCond .eq 5, 3) := by decide +kernel
theorem dX4_whenNow_81 : decode cX4_whenNow 81 = .ok (.iload_n 3, 1) := by decide +kernel
theorem dX4_whenNow_82 : decode cX4_whenNow 82 = .ok (.ireturn, 1) := by decide +kernel
theorem dX4_whenNow_83 : decode cX4_whenNow 83 = .ok (.iinc 3 1, 3) := by decide +kernel
theorem dX4_whenNow_86 : decode cX4_whenNow 86 = .ok (.goto (-72), 3) := by decide +kernel
theorem dX4_whenNow_89 : decode cX4_whenNow 89 = .ok (.iconst (-1), 1) := by decide +kernel
theorem dX4_whenNow_90 : decode cX4_whenNow 90 = .ok (.ireturn, 1) := by decide +kernel
theorem q4_233 : (Jvm.Cond.fieldLink "CyclepaintModel" (27 : Nat) "CyclepaintModel" "kept" "Ljava/util/ArrayList;") ∈ lw_g := zg_of (zin4 (List.mem_of_getElem? (i := 233) rfl)) rfl
theorem q6_121 : (Jvm.Cond.code ({ cls := "CyclepaintModel", name := "whenNow", desc := "(I)I" } : Jvm.MethodName) prog_6_method_57_code (6 : Nat) (Option.some Jvm.ClassFile.FieldType.int)) ∈ lw_g := zg_of (zin6 (List.mem_of_getElem? (i := 121) rfl)) rfl
theorem q6_120 : (Jvm.Cond.instanceMethod ({ cls := "CyclepaintModel", name := "whenNow", desc := "(I)I" } : Jvm.MethodName)) ∈ lw_g := zg_of (zin6 (List.mem_of_getElem? (i := 120) rfl)) rfl
theorem qs_49 : Cond.selects "CyclepaintModel" (⟨"CyclepaintModel", "whenNow", "(I)I"⟩ : MethodName) (⟨"CyclepaintModel", "whenNow", "(I)I"⟩ : MethodName) ∈ lw_g := zg_of (zinS (List.mem_of_getElem? (i := 49) rfl)) rfl
theorem ok_X4_whenNow : zOV yX4_whenNow cX4_whenNow 6 ((Option.some Jvm.ClassFile.FieldType.int)) 1 := ⟨⟨q6_121, q1_3, by decide, by decide, by decide +kernel⟩, q6_120, qs_49⟩
set_option maxHeartbeats 4000000 in
set_option maxRecDepth 100000 in
theorem c_X4_whenNow (l : Launch) (G : zG) (σ : St) (b : Nat → Nat) (th m1 m2 : Int32) (n : Int) (hn : 0 ≤ n ∧ n < σ.kn) (hkn : σ.kn ≤ 5) (hdt : ∀ d : Int, 0 ≤ d → d < 32 → 0 ≤ σ.Dt d ∧ σ.Dt d < 16) (hT : 0 ≤ σ.tk ∧ σ.tk ≤ 99999) : Met l yX4_whenNow (wq yX4_whenNow cX4_whenNow 6 ((Option.some Jvm.ClassFile.FieldType.int))) (rmR 5 110) (va_Pc [.ref (b 0), .int (zI (n))] (zK G (hMod G σ b th m1 m2))) (zQ (some (.int ((zI (whn σ n)))))) 0 0 zF := by
  refine z_enterI (by decide +kernel) (Nat.le_of_ble_eq_true rfl) ?_
  intro p env s m below meth cod Q S hG hP ret ls hl
  have hl : lv_has ls 6 [(0, .ref (b 0)), (1, .int (zI (n)))] := hl
  refine z_aload_n S dX4_whenNow_0 hl 0 rfl rfl ?_
  refine z_get S hG hP.1 zc_X4 7 (by decide) q4_233 rfl rfl dX4_whenNow_1 ?_
  refine z_iload_n S dX4_whenNow_4 hl 1 rfl rfl ?_
  refine z_callVs S hG (c_alGet l G (b 4) (b 6) m2 σ.kn (elK σ b) (n) (b (16 + Int.toNat (n))) (if_pos (by omega)) (by omega) (by omega)) ok_Jx4a65c_get_915e3 hP.2.2.2.2.1 zc_Jx4a65c rfl q5_56 (⟨hP.2.2.2.2.1, hP.2.2.2.2.2.2.1 (by omega)⟩) ⟨rfl, rfl, by decide, by decide⟩ ⟨Nat.zero_le _, Nat.zero_le _⟩ rfl (Nat.le_of_ble_eq_true rfl) hl.1 rfl dX4_whenNow_5 ?_
  refine z_castI S hG (hP.2.2.2.2.2.2.2.2.1 (n) (by omega) (by omega)) q5_68 dX4_whenNow_8 ?_
  refine z_astore_n (lv' := [(2, .ref (b (16 + Int.toNat (n)))), (0, .ref (b 0)), (1, .int (zI (n)))]) S dX4_whenNow_11 hl rfl (by decide) rfl (fun ls hl => ?_)
  refine z_iconst S dX4_whenNow_12 ?_
  refine z_istore_n (lv' := [(3, .int (zI (0))), (2, .ref (b (16 + Int.toNat (n)))), (0, .ref (b 0)), (1, .int (zI (n)))]) S dX4_whenNow_13 hl rfl (by decide) rfl (fun ls hl => ?_)
  have loop_14 : ∀ (nn : Nat) (k : Int), (0 ≤ k ∧ k ≤ 401) → (∀ t : Int, 0 ≤ t → t < k → (fun t => sk σ n (σ.tk + t)) t = false) → ((401 - k).toNat) < nn → ∀ ls, lv_has ls 6 [(3, .int (zI (k))), (2, .ref (b (16 + Int.toNat (n)))), (0, .ref (b 0)), (1, .int (zI (n)))] → W p l env (rmR 5 110) s m ([.ref (b 0), .int (zI (n))] : List Value).toArray below meth cod s.heap [] 0 0 Q (F0 m 14 ls []) := by
    intro nn
    induction nn with
    | zero => intro _ _ _ h; exact absurd h (Nat.not_lt_zero _)
    | succ nn ih_14 =>
      intro k hk hI hm_14 ls hl
      refine z_iload_n S dX4_whenNow_14 hl 0 rfl rfl ?_
      refine z_sipush S dX4_whenNow_15 rfl ?_
      refine z_icmp_gt S 89 dX4_whenNow_18 (by decide) (by omega) (by omega) (fun c_18 => ?_) (fun c_18 => ?_)
      · skip
        refine z_iconst S dX4_whenNow_89 ?_
        exact ret _ _ _ dX4_whenNow_90 (by unfold whn; rw [fstI_none (f := fun t => sk σ n (σ.tk + t)) (fun t h0 h1 => hI t h0 (by omega))])
      · skip
        refine z_iconst S dX4_whenNow_21 ?_
        refine z_istore (lv' := [(4, .int (zI (1))), (3, .int (zI (k))), (2, .ref (b (16 + Int.toNat (n)))), (0, .ref (b 0)), (1, .int (zI (n)))]) S dX4_whenNow_22 hl (by decide) rfl (fun ls hl => ?_)
        refine z_iconst S dX4_whenNow_24 ?_
        refine z_istore (lv' := [(5, .int (zI (0))), (4, .int (zI (1))), (3, .int (zI (k))), (2, .ref (b (16 + Int.toNat (n)))), (0, .ref (b 0)), (1, .int (zI (n)))]) S dX4_whenNow_25 hl (by decide) rfl (fun ls hl => ?_)
        have loop_27 : ∀ (nn : Nat) (q : Int) (v : Bool), (0 ≤ q ∧ q ≤ 32) → (v = allI (skB σ n (σ.tk + k)) q) → ((32 - q).toNat) < nn → ∀ ls, lv_has ls 6 [(5, .int (zI (q))), (4, .int (bI (v))), (3, .int (zI (k))), (2, .ref (b (16 + Int.toNat (n)))), (0, .ref (b 0)), (1, .int (zI (n)))] → W p l env (rmR 5 110) s m ([.ref (b 0), .int (zI (n))] : List Value).toArray below meth cod s.heap [] 0 0 Q (F0 m 27 ls []) := by
          intro nn
          induction nn with
          | zero => intro _ _ _ _ h; exact absurd h (Nat.not_lt_zero _)
          | succ nn ih_27 =>
            intro q v hq hv hm_27 ls hl
            refine z_iload S dX4_whenNow_27 hl 0 rfl ?_
            refine z_aload_n S dX4_whenNow_29 hl 3 rfl rfl ?_
            refine z_alenI S hG (hP.2.2.2.2.2.2.2.2.1 (n) (by omega) (by omega)) dX4_whenNow_30 ?_
            refine z_icmp_ge S 76 dX4_whenNow_31 (by decide) (by omega) (by omega) (fun c_31 => ?_) (fun c_31 => ?_)
            · skip
              have hsk : v = sk σ n (σ.tk + k) := by first | (rw [hv, show q = 32 by omega]; rfl) | exact sk_no hv c_36 (by omega) (by omega)
              refine z_iload S dX4_whenNow_76 hl 1 rfl ?_
              refine z_bif_eq S 83 dX4_whenNow_78 (by decide) (fun c_78 => ?_) (fun c_78 => ?_)
              · skip
                refine z_iinc (lv' := [(3, .int (zI (k + 1))), (5, .int (zI (q))), (4, .int (bI (v))), (2, .ref (b (16 + Int.toNat (n)))), (0, .ref (b 0)), (1, .int (zI (n)))]) S dX4_whenNow_83 hl 2 rfl (by decide) rfl (fun ls hl => ?_)
                refine z_goto S 14 dX4_whenNow_86 (by decide) ?_
                exact ih_14 (k + 1) (by omega) (lt_stp hI (hsk.symm.trans c_78)) (by omega) ls (lv_sub hl [0, 3, 4, 5] rfl)
              · skip
                refine z_iload_n S dX4_whenNow_81 hl 2 rfl rfl ?_
                exact ret _ _ _ dX4_whenNow_82 (by unfold whn; rw [fstI_some (f := fun t => sk σ n (σ.tk + t)) hk.1 (by omega) hI (hsk.symm.trans c_78)])
            · skip
              refine z_iload S dX4_whenNow_34 hl 1 rfl ?_
              refine z_bif_eq S 76 dX4_whenNow_36 (by decide) (fun c_36 => ?_) (fun c_36 => ?_)
              · skip
                have hsk : v = sk σ n (σ.tk + k) := by first | (rw [hv, show q = 32 by omega]; rfl) | exact sk_no hv c_36 (by omega) (by omega)
                refine z_iload S dX4_whenNow_76 hl 1 rfl ?_
                refine z_bif_eq S 83 dX4_whenNow_78 (by decide) (fun c_78 => ?_) (fun c_78 => ?_)
                · skip
                  refine z_iinc (lv' := [(3, .int (zI (k + 1))), (5, .int (zI (q))), (4, .int (bI (v))), (2, .ref (b (16 + Int.toNat (n)))), (0, .ref (b 0)), (1, .int (zI (n)))]) S dX4_whenNow_83 hl 2 rfl (by decide) rfl (fun ls hl => ?_)
                  refine z_goto S 14 dX4_whenNow_86 (by decide) ?_
                  exact ih_14 (k + 1) (by omega) (lt_stp hI (hsk.symm.trans c_78)) (by omega) ls (lv_sub hl [0, 3, 4, 5] rfl)
                · skip
                  refine z_iload_n S dX4_whenNow_81 hl 2 rfl rfl ?_
                  exact ret _ _ _ dX4_whenNow_82 (by unfold whn; rw [fstI_some (f := fun t => sk σ n (σ.tk + t)) hk.1 (by omega) hI (hsk.symm.trans c_78)])
              · skip
                have hdt0 := hdt q hq.1 (by omega)
                refine z_aload_n S dX4_whenNow_39 hl 4 rfl rfl ?_
                refine z_aload_n S dX4_whenNow_40 hl 4 rfl rfl ?_
                refine z_get S hG hP.1 zc_X4 5 (by decide) q4_231 rfl rfl dX4_whenNow_41 ?_
                refine z_iload S dX4_whenNow_44 hl 0 rfl ?_
                refine z_ialdB S hG hP.2.2.1 (by omega) (by decide) dX4_whenNow_46 ?_
                refine z_aload_n S dX4_whenNow_47 hl 4 rfl rfl ?_
                refine z_get S hG hP.1 zc_X4 1 (by decide) q4_227 rfl rfl dX4_whenNow_48 ?_
                refine z_iload_n S dX4_whenNow_51 hl 2 rfl rfl ?_
                refine z_iadd S dX4_whenNow_52 ?_
                refine z_callVs S hG (c_X4_show l G σ b th m1 m2 (σ.Dt (q)) ((σ.tk) + (k)) (by omega) (by omega)) ok_X4_show hP.1 zc_X4 rfl q5_163 (hP) ⟨rfl, rfl, by decide, by decide⟩ ⟨Nat.zero_le _, Nat.zero_le _⟩ rfl (Nat.le_of_ble_eq_true rfl) hl.1 rfl dX4_whenNow_53 ?_
                refine z_aload_n S dX4_whenNow_56 hl 3 rfl rfl ?_
                refine z_iload S dX4_whenNow_57 hl 0 rfl ?_
                refine z_iald S hG (hP.2.2.2.2.2.2.2.2.1 (n) (by omega) (by omega)) (by omega) (by decide) dX4_whenNow_59 ?_
                refine lv_icmp_ne (tgt := 67) S.1 S.2.1 dX4_whenNow_60 (by decide) (fun c_60 => ?_) (fun c_60 => ?_)
                · skip
                  refine z_iconst S dX4_whenNow_67 ?_
                  refine z_istore (lv' := [(4, .int (zI (0))), (5, .int (zI (q))), (3, .int (zI (k))), (2, .ref (b (16 + Int.toNat (n)))), (0, .ref (b 0)), (1, .int (zI (n)))]) S dX4_whenNow_68 hl (by decide) rfl (fun ls hl => ?_)
                  refine z_iinc (lv' := [(5, .int (zI (q + 1))), (4, .int (zI (0))), (3, .int (zI (k))), (2, .ref (b (16 + Int.toNat (n)))), (0, .ref (b 0)), (1, .int (zI (n)))]) S dX4_whenNow_70 hl 1 rfl (by decide) rfl (fun ls hl => ?_)
                  refine z_goto S 27 dX4_whenNow_73 (by decide) ?_
                  exact ih_27 (q + 1) (false) (by omega) (by rw [allI_s hq.1, ← hv, c_36]; unfold skB; simp [c_60]) (by omega) ls (lv_sub hl [0, 1, 2, 3, 4, 5] rfl)
                · skip
                  refine z_iconst S dX4_whenNow_63 ?_
                  refine z_goto S 68 dX4_whenNow_64 (by decide) ?_
                  refine z_istore (lv' := [(4, .int (zI (1))), (5, .int (zI (q))), (3, .int (zI (k))), (2, .ref (b (16 + Int.toNat (n)))), (0, .ref (b 0)), (1, .int (zI (n)))]) S dX4_whenNow_68 hl (by decide) rfl (fun ls hl => ?_)
                  refine z_iinc (lv' := [(5, .int (zI (q + 1))), (4, .int (zI (1))), (3, .int (zI (k))), (2, .ref (b (16 + Int.toNat (n)))), (0, .ref (b 0)), (1, .int (zI (n)))]) S dX4_whenNow_70 hl 1 rfl (by decide) rfl (fun ls hl => ?_)
                  refine z_goto S 27 dX4_whenNow_73 (by decide) ?_
                  exact ih_27 (q + 1) (true) (by omega) (by rw [allI_s hq.1, ← hv, c_36]; unfold skB; simp [c_60]) (by omega) ls (lv_sub hl [0, 1, 2, 3, 4, 5] rfl)
        exact loop_27 _ (0) (true) (by omega) (rfl) (Nat.lt_succ_self _) ls (lv_sub hl [0, 1, 2, 3, 4, 5] rfl)
  exact loop_14 _ (0) (by omega) (lt_st0) (Nat.lt_succ_self _) ls (lv_sub hl [0, 1, 2, 3] rfl)
def pM (σ : St) (wh : Int) : Int32 := if wh = 0 then zI σ.tk else if wh = 1 then zI σ.rn else if wh = 2 then bcR (enM σ) else if wh = 3 then bcR (ksM σ) else if wh = 4 then liM σ σ.tk else if wh = 5 then mrM σ else if wh = 6 then zI (flM σ) else if wh = 7 then bI (decide (σ.lim < flM σ)) else if wh = 8 then zI σ.lim else if wh = 9 then zI σ.kn else if wh = 10 then bcL (csM σ) else σ.rf
theorem flM_b (σ : St) : 0 ≤ flM σ ∧ flM σ ≤ 32 := cntI_b _ (by omega)
theorem dX4_pictureNow_0 : decode cX4_pictureNow 0 = .ok (.iload_n 1, 1) := by decide +kernel
theorem dX4_pictureNow_1 : decode cX4_pictureNow 1 = .ok (.tableswitch 139 0 10 #[59, 64, 72, 80, 85, 94, 99, 104, 121, 126, 134], 59) := by decide +kernel
theorem dX4_pictureNow_60 : decode cX4_pictureNow 60 = .ok (.aload_n 0, 1) := by decide +kernel
theorem dX4_pictureNow_61 : decode cX4_pictureNow 61 = .ok (.getfield 108, 3) := by decide +kernel
theorem dX4_pictureNow_64 : decode cX4_pictureNow 64 = .ok (.ireturn, 1) := by decide +kernel
theorem dX4_pictureNow_65 : decode cX4_pictureNow 65 = .ok (.aload_n 0, 1) := by decide +kernel
theorem dX4_pictureNow_66 : decode cX4_pictureNow 66 = .ok (.getfield 23, 3) := by decide +kernel
theorem dX4_pictureNow_69 : decode cX4_pictureNow 69 = .ok (.invokevirtual 41, 3) := by decide +kernel
theorem dX4_pictureNow_72 : decode cX4_pictureNow 72 = .ok (.ireturn, 1) := by decide +kernel
theorem dX4_pictureNow_73 : decode cX4_pictureNow 73 = .ok (.aload_n 0, 1) := by decide +kernel
theorem dX4_pictureNow_74 : decode cX4_pictureNow 74 = .ok (.invokevirtual 99, 3) := by decide +kernel
theorem dX4_pictureNow_77 : decode cX4_pictureNow 77 = .ok (.invokestatic 105, 3) := by decide +kernel
theorem dX4_pictureNow_80 : decode cX4_pictureNow 80 = .ok (.ireturn, 1) := by decide +kernel
theorem dX4_pictureNow_81 : decode cX4_pictureNow 81 = .ok (.aload_n 0, 1) := by decide +kernel
theorem dX4_pictureNow_82 : decode cX4_pictureNow 82 = .ok (.invokevirtual 171, 3) := by decide +kernel
theorem dX4_pictureNow_85 : decode cX4_pictureNow 85 = .ok (.ireturn, 1) := by decide +kernel
theorem dX4_pictureNow_86 : decode cX4_pictureNow 86 = .ok (.aload_n 0, 1) := by decide +kernel
theorem dX4_pictureNow_87 : decode cX4_pictureNow 87 = .ok (.aload_n 0, 1) := by decide +kernel
theorem dX4_pictureNow_88 : decode cX4_pictureNow 88 = .ok (.getfield 108, 3) := by decide +kernel
theorem dX4_pictureNow_91 : decode cX4_pictureNow 91 = .ok (.invokevirtual 174, 3) := by decide +kernel
theorem dX4_pictureNow_94 : decode cX4_pictureNow 94 = .ok (.ireturn, 1) := by decide +kernel
theorem dX4_pictureNow_95 : decode cX4_pictureNow 95 = .ok (.aload_n 0, 1) := by decide +kernel
theorem dX4_pictureNow_96 : decode cX4_pictureNow 96 = .ok (.invokevirtual 177, 3) := by decide +kernel
theorem dX4_pictureNow_99 : decode cX4_pictureNow 99 = .ok (.ireturn, 1) := by decide +kernel
theorem dX4_pictureNow_100 : decode cX4_pictureNow 100 = .ok (.aload_n 0, 1) := by decide +kernel
theorem dX4_pictureNow_101 : decode cX4_pictureNow 101 = .ok (.invokevirtual 143, 3) := by decide +kernel
theorem dX4_pictureNow_104 : decode cX4_pictureNow 104 = .ok (.ireturn, 1) := by decide +kernel
theorem dX4_pictureNow_105 : decode cX4_pictureNow 105 = .ok (.aload_n 0, 1) := by decide +kernel
theorem dX4_pictureNow_106 : decode cX4_pictureNow 106 = .ok (.invokevirtual 143, 3) := by decide +kernel
theorem dX4_pictureNow_109 : decode cX4_pictureNow 109 = .ok (.aload_n 0, 1) := by decide +kernel
theorem dX4_pictureNow_110 : decode cX4_pictureNow 110 = .ok (.getfield 7, 3) := by decide +kernel
theorem dX4_pictureNow_113 : decode cX4_pictureNow 113 = .ok (.if_icmp .le 7, 3) := by decide +kernel
theorem dX4_pictureNow_116 : decode cX4_pictureNow 116 = .ok (.iconst 1, 1) := by decide +kernel
theorem dX4_pictureNow_117 : decode cX4_pictureNow 117 = .ok (.goto 4, 3) := by decide +kernel
theorem dX4_pictureNow_120 : decode cX4_pictureNow 120 = .ok (.iconst 0, 1) := by decide +kernel
theorem dX4_pictureNow_121 : decode cX4_pictureNow 121 = .ok (.ireturn, 1) := by decide +kernel
theorem dX4_pictureNow_122 : decode cX4_pictureNow 122 = .ok (.aload_n 0, 1) := by decide +kernel
theorem dX4_pictureNow_123 : decode cX4_pictureNow 123 = .ok (.getfield 7, 3) := by decide +kernel
theorem dX4_pictureNow_126 : decode cX4_pictureNow 126 = .ok (.ireturn, 1) := by decide +kernel
theorem dX4_pictureNow_127 : decode cX4_pictureNow 127 = .ok (.aload_n 0, 1) := by decide +kernel
theorem dX4_pictureNow_128 : decode cX4_pictureNow 128 = .ok (.getfield 27, 3) := by decide +kernel
theorem dX4_pictureNow_131 : decode cX4_pictureNow 131 = .ok (.invokevirtual 41, 3) := by decide +kernel
theorem dX4_pictureNow_134 : decode cX4_pictureNow 134 = .ok (.ireturn, 1) := by decide +kernel
theorem dX4_pictureNow_135 : decode cX4_pictureNow 135 = .ok (.aload_n 0, 1) := by decide +kernel
theorem dX4_pictureNow_136 : decode cX4_pictureNow 136 = .ok (.invokevirtual 180, 3) := by decide +kernel
theorem dX4_pictureNow_139 : decode cX4_pictureNow 139 = .ok (.ireturn, 1) := by decide +kernel
theorem dX4_pictureNow_140 : decode cX4_pictureNow 140 = .ok (.aload_n 0, 1) := by decide +kernel
theorem dX4_pictureNow_141 : decode cX4_pictureNow 141 = .ok (.getfield 146, 3) := by decide +kernel
theorem dX4_pictureNow_144 : decode cX4_pictureNow 144 = .ok (.ireturn, 1) := by decide +kernel
theorem q6_7 : (Jvm.Cond.methodLink "CyclepaintModel" (171 : Nat) ({ cls := "CyclepaintModel", name := "kinds", desc := "()I" } : Jvm.MethodName)) ∈ lw_g := zg_of (zin6 (List.mem_of_getElem? (i := 7) rfl)) rfl
theorem q6_15 : (Jvm.Cond.methodLink "CyclepaintModel" (177 : Nat) ({ cls := "CyclepaintModel", name := "mostOfRows", desc := "()I" } : Jvm.MethodName)) ∈ lw_g := zg_of (zin6 (List.mem_of_getElem? (i := 15) rfl)) rfl
theorem q5_191 : (Jvm.Cond.methodLink "CyclepaintModel" (143 : Nat) ({ cls := "CyclepaintModel", name := "flickering", desc := "()I" } : Jvm.MethodName)) ∈ lw_g := zg_of (zin5 (List.mem_of_getElem? (i := 191) rfl)) rfl
theorem q4_229 : (Jvm.Cond.fieldLink "CyclepaintModel" (7 : Nat) "CyclepaintModel" "limit" "I") ∈ lw_g := zg_of (zin4 (List.mem_of_getElem? (i := 229) rfl)) rfl
theorem q6_20 : (Jvm.Cond.methodLink "CyclepaintModel" (180 : Nat) ({ cls := "CyclepaintModel", name := "unlike", desc := "()I" } : Jvm.MethodName)) ∈ lw_g := zg_of (zin6 (List.mem_of_getElem? (i := 20) rfl)) rfl
theorem q4_228 : (Jvm.Cond.fieldLink "CyclepaintModel" (146 : Nat) "CyclepaintModel" "refused" "I") ∈ lw_g := zg_of (zin4 (List.mem_of_getElem? (i := 228) rfl)) rfl
theorem q6_1 : (Jvm.Cond.code ({ cls := "CyclepaintModel", name := "pictureNow", desc := "(I)I" } : Jvm.MethodName) prog_6_method_47_code (2 : Nat) (Option.some Jvm.ClassFile.FieldType.int)) ∈ lw_g := zg_of (zin6 (List.mem_of_getElem? (i := 1) rfl)) rfl
theorem q6_0 : (Jvm.Cond.instanceMethod ({ cls := "CyclepaintModel", name := "pictureNow", desc := "(I)I" } : Jvm.MethodName)) ∈ lw_g := zg_of (zin6 (List.mem_of_getElem? (i := 0) rfl)) rfl
theorem qs_40 : Cond.selects "CyclepaintModel" (⟨"CyclepaintModel", "pictureNow", "(I)I"⟩ : MethodName) (⟨"CyclepaintModel", "pictureNow", "(I)I"⟩ : MethodName) ∈ lw_g := zg_of (zinS (List.mem_of_getElem? (i := 40) rfl)) rfl
theorem ok_X4_pictureNow : zOV yX4_pictureNow cX4_pictureNow 2 ((Option.some Jvm.ClassFile.FieldType.int)) 1 := ⟨⟨q6_1, q1_3, by decide, by decide, by decide +kernel⟩, q6_0, qs_40⟩
set_option maxHeartbeats 4000000 in
set_option maxRecDepth 100000 in
theorem c_X4_pictureNow (l : Launch) (G : zG) (σ : St) (b : Nat → Nat) (th m1 m2 : Int32) (wh : Int) (hw : 0 ≤ wh ∧ wh ≤ 11) (hdt : ∀ d : Int, 0 ≤ d → d < 32 → 0 ≤ σ.Dt d ∧ σ.Dt d < 16) (hT : 0 ≤ σ.tk ∧ σ.tk ≤ 99999) (hlm : 0 ≤ σ.lim ∧ σ.lim ≤ 32) : Met l yX4_pictureNow (wq yX4_pictureNow cX4_pictureNow 2 ((Option.some Jvm.ClassFile.FieldType.int))) (rmR 9 200) (va_Pc [.ref (b 0), .int (zI (wh))] (zK G (hMod G σ b th m1 m2))) (zQ (some (.int ((pM σ wh))))) 0 0 zF := by
  refine z_enterI (by decide +kernel) (Nat.le_of_ble_eq_true rfl) ?_
  intro p env s m below meth cod Q S hG hP ret ls hl
  have hl : lv_has ls 2 [(0, .ref (b 0)), (1, .int (zI (wh)))] := hl
  rcases (show wh = 0 ∨ wh = 1 ∨ wh = 2 ∨ wh = 3 ∨ wh = 4 ∨ wh = 5 ∨ wh = 6 ∨ wh = 7 ∨ wh = 8 ∨ wh = 9 ∨ wh = 10 ∨ wh = 11 by omega) with rfl | rfl | rfl | rfl | rfl | rfl | rfl | rfl | rfl | rfl | rfl | rfl
  · skip
    refine z_iload_n S dX4_pictureNow_0 hl 1 rfl rfl ?_
    refine lv_tableIn (tgt := 60) S.1 S.2.1 dX4_pictureNow_1 (by decide) (by decide) rfl (by decide) ?_
    refine z_aload_n S dX4_pictureNow_60 hl 0 rfl rfl ?_
    refine z_get S hG hP.1 zc_X4 1 (by decide) q4_227 rfl rfl dX4_pictureNow_61 ?_
    exact ret _ _ _ dX4_pictureNow_64 (by unfold pM; simp)
  · skip
    refine z_iload_n S dX4_pictureNow_0 hl 1 rfl rfl ?_
    refine lv_tableIn (tgt := 65) S.1 S.2.1 dX4_pictureNow_1 (by decide) (by decide) rfl (by decide) ?_
    refine z_aload_n S dX4_pictureNow_65 hl 0 rfl rfl ?_
    refine z_get S hG hP.1 zc_X4 6 (by decide) q4_232 rfl rfl dX4_pictureNow_66 ?_
    refine z_callVs S hG (c_alSize l G (b 3) (b 5) m1 σ.rn) ok_Jx4a65c_size_8abf5 hP.2.2.2.1 zc_Jx4a65c rfl q5_44 (hP.2.2.2.1) ⟨rfl, rfl, by decide, by decide⟩ ⟨Nat.zero_le _, Nat.zero_le _⟩ rfl (Nat.le_of_ble_eq_true rfl) hl.1 rfl dX4_pictureNow_69 ?_
    exact ret _ _ _ dX4_pictureNow_72 (by unfold pM; simp)
  · skip
    refine z_iload_n S dX4_pictureNow_0 hl 1 rfl rfl ?_
    refine lv_tableIn (tgt := 73) S.1 S.2.1 dX4_pictureNow_1 (by decide) (by decide) rfl (by decide) ?_
    refine z_aload_n S dX4_pictureNow_73 hl 0 rfl rfl ?_
    refine z_callVs S hG (c_X4_entries l G σ b th m1 m2) ok_X4_entries hP.1 zc_X4 rfl q6_2 (hP) ⟨rfl, rfl, by decide, by decide⟩ ⟨Nat.zero_le _, Nat.zero_le _⟩ rfl (Nat.le_of_ble_eq_true rfl) hl.1 rfl dX4_pictureNow_74 ?_
    refine z_callSs S hG (c_bitCount l G (enM σ)) ok_J6_bitCount_0f7a4 q6_6 (trivial) ⟨rfl, rfl, by decide, by decide⟩ ⟨Nat.zero_le _, Nat.zero_le _⟩ rfl (Nat.le_of_ble_eq_true rfl) hl.1 rfl dX4_pictureNow_77 ?_
    exact ret _ _ _ dX4_pictureNow_80 (by unfold pM; simp)
  · skip
    refine z_iload_n S dX4_pictureNow_0 hl 1 rfl rfl ?_
    refine lv_tableIn (tgt := 81) S.1 S.2.1 dX4_pictureNow_1 (by decide) (by decide) rfl (by decide) ?_
    refine z_aload_n S dX4_pictureNow_81 hl 0 rfl rfl ?_
    refine z_callVs S hG (c_X4_kinds l G σ b th m1 m2) ok_X4_kinds hP.1 zc_X4 rfl q6_7 (hP) ⟨rfl, rfl, by decide, by decide⟩ ⟨Nat.zero_le _, Nat.zero_le _⟩ rfl (Nat.le_of_ble_eq_true rfl) hl.1 rfl dX4_pictureNow_82 ?_
    exact ret _ _ _ dX4_pictureNow_85 (by unfold pM; simp)
  · skip
    refine z_iload_n S dX4_pictureNow_0 hl 1 rfl rfl ?_
    refine lv_tableIn (tgt := 86) S.1 S.2.1 dX4_pictureNow_1 (by decide) (by decide) rfl (by decide) ?_
    refine z_aload_n S dX4_pictureNow_86 hl 0 rfl rfl ?_
    refine z_aload_n S dX4_pictureNow_87 hl 0 rfl rfl ?_
    refine z_get S hG hP.1 zc_X4 1 (by decide) q4_227 rfl rfl dX4_pictureNow_88 ?_
    refine z_callVs S hG (c_X4_lightAt l G σ b th m1 m2 (σ.tk) (by omega) hdt) ok_X4_lightAt hP.1 zc_X4 rfl q6_11 (hP) ⟨rfl, rfl, by decide, by decide⟩ ⟨Nat.zero_le _, Nat.zero_le _⟩ rfl (Nat.le_of_ble_eq_true rfl) hl.1 rfl dX4_pictureNow_91 ?_
    exact ret _ _ _ dX4_pictureNow_94 (by unfold pM; simp)
  · skip
    refine z_iload_n S dX4_pictureNow_0 hl 1 rfl rfl ?_
    refine lv_tableIn (tgt := 95) S.1 S.2.1 dX4_pictureNow_1 (by decide) (by decide) rfl (by decide) ?_
    refine z_aload_n S dX4_pictureNow_95 hl 0 rfl rfl ?_
    refine z_callVs S hG (c_X4_mostOfRows l G σ b th m1 m2 hdt hT) ok_X4_mostOfRows hP.1 zc_X4 rfl q6_15 (hP) ⟨rfl, rfl, by decide, by decide⟩ ⟨Nat.zero_le _, Nat.zero_le _⟩ rfl (Nat.le_of_ble_eq_true rfl) hl.1 rfl dX4_pictureNow_96 ?_
    exact ret _ _ _ dX4_pictureNow_99 (by unfold pM; simp)
  · skip
    refine z_iload_n S dX4_pictureNow_0 hl 1 rfl rfl ?_
    refine lv_tableIn (tgt := 100) S.1 S.2.1 dX4_pictureNow_1 (by decide) (by decide) rfl (by decide) ?_
    refine z_aload_n S dX4_pictureNow_100 hl 0 rfl rfl ?_
    refine z_callVs S hG (c_X4_flickering l G σ b th m1 m2 hdt hT) ok_X4_flickering hP.1 zc_X4 rfl q5_191 (hP) ⟨rfl, rfl, by decide, by decide⟩ ⟨Nat.zero_le _, Nat.zero_le _⟩ rfl (Nat.le_of_ble_eq_true rfl) hl.1 rfl dX4_pictureNow_101 ?_
    exact ret _ _ _ dX4_pictureNow_104 (by unfold pM; simp)
  · skip
    refine z_iload_n S dX4_pictureNow_0 hl 1 rfl rfl ?_
    refine lv_tableIn (tgt := 105) S.1 S.2.1 dX4_pictureNow_1 (by decide) (by decide) rfl (by decide) ?_
    refine z_aload_n S dX4_pictureNow_105 hl 0 rfl rfl ?_
    refine z_callVs S hG (c_X4_flickering l G σ b th m1 m2 hdt hT) ok_X4_flickering hP.1 zc_X4 rfl q5_191 (hP) ⟨rfl, rfl, by decide, by decide⟩ ⟨Nat.zero_le _, Nat.zero_le _⟩ rfl (Nat.le_of_ble_eq_true rfl) hl.1 rfl dX4_pictureNow_106 ?_
    refine z_aload_n S dX4_pictureNow_109 hl 0 rfl rfl ?_
    refine z_get S hG hP.1 zc_X4 3 (by decide) q4_229 rfl rfl dX4_pictureNow_110 ?_
    have hfb := flM_b σ
    refine z_icmp_le S 120 dX4_pictureNow_113 (by decide) (by omega) (by omega) (fun c_113 => ?_) (fun c_113 => ?_)
    · skip
      refine z_iconst S dX4_pictureNow_120 ?_
      exact ret _ _ _ dX4_pictureNow_121 (by unfold pM; simp [show decide (σ.lim < flM σ) = false from by simp; omega]; rfl)
    · skip
      refine z_iconst S dX4_pictureNow_116 ?_
      refine z_goto S 121 dX4_pictureNow_117 (by decide) ?_
      exact ret _ _ _ dX4_pictureNow_121 (by unfold pM; simp [show decide (σ.lim < flM σ) = true from by simp; omega]; rfl)
  · skip
    refine z_iload_n S dX4_pictureNow_0 hl 1 rfl rfl ?_
    refine lv_tableIn (tgt := 122) S.1 S.2.1 dX4_pictureNow_1 (by decide) (by decide) rfl (by decide) ?_
    refine z_aload_n S dX4_pictureNow_122 hl 0 rfl rfl ?_
    refine z_get S hG hP.1 zc_X4 3 (by decide) q4_229 rfl rfl dX4_pictureNow_123 ?_
    exact ret _ _ _ dX4_pictureNow_126 (by unfold pM; simp)
  · skip
    refine z_iload_n S dX4_pictureNow_0 hl 1 rfl rfl ?_
    refine lv_tableIn (tgt := 127) S.1 S.2.1 dX4_pictureNow_1 (by decide) (by decide) rfl (by decide) ?_
    refine z_aload_n S dX4_pictureNow_127 hl 0 rfl rfl ?_
    refine z_get S hG hP.1 zc_X4 7 (by decide) q4_233 rfl rfl dX4_pictureNow_128 ?_
    refine z_callVs S hG (c_alSize l G (b 4) (b 6) m2 σ.kn) ok_Jx4a65c_size_8abf5 hP.2.2.2.2.1 zc_Jx4a65c rfl q5_44 (hP.2.2.2.2.1) ⟨rfl, rfl, by decide, by decide⟩ ⟨Nat.zero_le _, Nat.zero_le _⟩ rfl (Nat.le_of_ble_eq_true rfl) hl.1 rfl dX4_pictureNow_131 ?_
    exact ret _ _ _ dX4_pictureNow_134 (by unfold pM; simp)
  · skip
    refine z_iload_n S dX4_pictureNow_0 hl 1 rfl rfl ?_
    refine lv_tableIn (tgt := 135) S.1 S.2.1 dX4_pictureNow_1 (by decide) (by decide) rfl (by decide) ?_
    refine z_aload_n S dX4_pictureNow_135 hl 0 rfl rfl ?_
    refine z_callVs S hG (c_X4_unlike l G σ b th m1 m2 hdt hT) ok_X4_unlike hP.1 zc_X4 rfl q6_20 (hP) ⟨rfl, rfl, by decide, by decide⟩ ⟨Nat.zero_le _, Nat.zero_le _⟩ rfl (Nat.le_of_ble_eq_true rfl) hl.1 rfl dX4_pictureNow_136 ?_
    exact ret _ _ _ dX4_pictureNow_139 (by unfold pM; simp)
  · skip
    refine z_iload_n S dX4_pictureNow_0 hl 1 rfl rfl ?_
    refine lv_tableOut (tgt := 140) S.1 S.2.1 dX4_pictureNow_1 (by decide) (by decide) ?_
    refine z_aload_n S dX4_pictureNow_140 hl 0 rfl rfl ?_
    refine z_get S hG hP.1 zc_X4 2 (by decide) q4_228 rfl rfl dX4_pictureNow_141 ?_
    exact ret _ _ _ dX4_pictureNow_144 (by unfold pM; simp)
theorem dX4_isNoEntry_0 : decode cX4_isNoEntry 0 = .ok (.iload_n 0, 1) := by decide +kernel
theorem dX4_isNoEntry_1 : decode cX4_isNoEntry 1 = .ok (.iconst 0, 1) := by decide +kernel
theorem dX4_isNoEntry_2 : decode cX4_isNoEntry 2 = .ok (.bipush 15, 2) := by decide +kernel
theorem dX4_isNoEntry_4 : decode cX4_isNoEntry 4 = .ok (.invokestatic 37, 3) := by decide +kernel
theorem dX4_isNoEntry_7 : decode cX4_isNoEntry 7 = .ok (.ifCond .ne 7, 3) := by decide +kernel
theorem dX4_isNoEntry_10 : decode cX4_isNoEntry 10 = .ok (.iconst 1, 1) := by decide +kernel
theorem dX4_isNoEntry_11 : decode cX4_isNoEntry 11 = .ok (.goto 4, 3) := by decide +kernel
theorem dX4_isNoEntry_14 : decode cX4_isNoEntry 14 = .ok (.iconst 0, 1) := by decide +kernel
theorem dX4_isNoEntry_15 : decode cX4_isNoEntry 15 = .ok (.ireturn, 1) := by decide +kernel
theorem q5_22 : (Jvm.Cond.methodLink "CyclepaintModel" (37 : Nat) ({ cls := "CyclepaintModel", name := "isIn", desc := "(III)Z" } : Jvm.MethodName)) ∈ lw_g := zg_of (zin5 (List.mem_of_getElem? (i := 22) rfl)) rfl
theorem q5_21 : (Jvm.Cond.code ({ cls := "CyclepaintModel", name := "isNoEntry", desc := "(I)Z" } : Jvm.MethodName) prog_6_method_6_code (1 : Nat) (Option.some Jvm.ClassFile.FieldType.boolean)) ∈ lw_g := zg_of (zin5 (List.mem_of_getElem? (i := 21) rfl)) rfl
theorem q5_20 : (Jvm.Cond.static ({ cls := "CyclepaintModel", name := "isNoEntry", desc := "(I)Z" } : Jvm.MethodName)) ∈ lw_g := zg_of (zin5 (List.mem_of_getElem? (i := 20) rfl)) rfl
theorem ok_X4_isNoEntry : zOS yX4_isNoEntry cX4_isNoEntry 1 ((Option.some Jvm.ClassFile.FieldType.boolean)) 1 := ⟨⟨q5_21, q1_3, by decide, by decide, by decide +kernel⟩, q5_20⟩
set_option maxHeartbeats 4000000 in
set_option maxRecDepth 100000 in
theorem c_X4_isNoEntry (l : Launch) (G : zG) (x : Int) (hr : rg x) : Met l yX4_isNoEntry (wq yX4_isNoEntry cX4_isNoEntry 1 ((Option.some Jvm.ClassFile.FieldType.boolean))) (rmR 1 22) (va_Pc [.int (zI (x))] (zK G (fun _ => True))) (zQ (some (.int (bI (!(decide (0 ≤ x) && decide (x ≤ 15))))))) 0 0 zF := by
  refine z_enterB (by decide +kernel) (Nat.le_of_ble_eq_true rfl) ?_
  intro p env s m below meth cod Q S hG hP ret ls hl
  have hl : lv_has ls 1 [(0, .int (zI (x)))] := hl
  refine z_iload_n S dX4_isNoEntry_0 hl 0 rfl rfl ?_
  refine z_iconst S dX4_isNoEntry_1 ?_
  refine z_bipush S dX4_isNoEntry_2 rfl ?_
  refine z_callSs S hG (c_X4_isIn l G (x) (0) (15) (by omega)) ok_X4_isIn q5_22 (trivial) ⟨rfl, rfl, by decide, by decide⟩ ⟨Nat.zero_le _, Nat.zero_le _⟩ rfl (Nat.le_of_ble_eq_true rfl) hl.1 rfl dX4_isNoEntry_4 ?_
  refine z_bif_ne S 14 dX4_isNoEntry_7 (by decide) (fun c_7 => ?_) (fun c_7 => ?_)
  · skip
    refine z_iconst S dX4_isNoEntry_14 ?_
    exact ret _ _ _ dX4_isNoEntry_15 (by rw [c_7]; rfl)
  · skip
    refine z_iconst S dX4_isNoEntry_10 ?_
    refine z_goto S 15 dX4_isNoEntry_11 (by decide) ?_
    exact ret _ _ _ dX4_isNoEntry_15 (by rw [c_7]; rfl)
theorem dX4_isNoColour_0 : decode cX4_isNoColour 0 = .ok (.iload_n 0, 1) := by decide +kernel
theorem dX4_isNoColour_1 : decode cX4_isNoColour 1 = .ok (.iconst 0, 1) := by decide +kernel
theorem dX4_isNoColour_2 : decode cX4_isNoColour 2 = .ok (.bipush 63, 2) := by decide +kernel
theorem dX4_isNoColour_4 : decode cX4_isNoColour 4 = .ok (.invokestatic 37, 3) := by decide +kernel
theorem dX4_isNoColour_7 : decode cX4_isNoColour 7 = .ok (.ifCond .ne 7, 3) := by decide +kernel
theorem dX4_isNoColour_10 : decode cX4_isNoColour 10 = .ok (.iconst 1, 1) := by decide +kernel
theorem dX4_isNoColour_11 : decode cX4_isNoColour 11 = .ok (.goto 4, 3) := by decide +kernel
theorem dX4_isNoColour_14 : decode cX4_isNoColour 14 = .ok (.iconst 0, 1) := by decide +kernel
theorem dX4_isNoColour_15 : decode cX4_isNoColour 15 = .ok (.ireturn, 1) := by decide +kernel
theorem q5_35 : (Jvm.Cond.code ({ cls := "CyclepaintModel", name := "isNoColour", desc := "(I)Z" } : Jvm.MethodName) prog_6_method_8_code (1 : Nat) (Option.some Jvm.ClassFile.FieldType.boolean)) ∈ lw_g := zg_of (zin5 (List.mem_of_getElem? (i := 35) rfl)) rfl
theorem q5_34 : (Jvm.Cond.static ({ cls := "CyclepaintModel", name := "isNoColour", desc := "(I)Z" } : Jvm.MethodName)) ∈ lw_g := zg_of (zin5 (List.mem_of_getElem? (i := 34) rfl)) rfl
theorem ok_X4_isNoColour : zOS yX4_isNoColour cX4_isNoColour 1 ((Option.some Jvm.ClassFile.FieldType.boolean)) 1 := ⟨⟨q5_35, q1_3, by decide, by decide, by decide +kernel⟩, q5_34⟩
set_option maxHeartbeats 4000000 in
set_option maxRecDepth 100000 in
theorem c_X4_isNoColour (l : Launch) (G : zG) (x : Int) (hr : rg x) : Met l yX4_isNoColour (wq yX4_isNoColour cX4_isNoColour 1 ((Option.some Jvm.ClassFile.FieldType.boolean))) (rmR 1 22) (va_Pc [.int (zI (x))] (zK G (fun _ => True))) (zQ (some (.int (bI (!(decide (0 ≤ x) && decide (x ≤ 63))))))) 0 0 zF := by
  refine z_enterB (by decide +kernel) (Nat.le_of_ble_eq_true rfl) ?_
  intro p env s m below meth cod Q S hG hP ret ls hl
  have hl : lv_has ls 1 [(0, .int (zI (x)))] := hl
  refine z_iload_n S dX4_isNoColour_0 hl 0 rfl rfl ?_
  refine z_iconst S dX4_isNoColour_1 ?_
  refine z_bipush S dX4_isNoColour_2 rfl ?_
  refine z_callSs S hG (c_X4_isIn l G (x) (0) (63) (by omega)) ok_X4_isIn q5_22 (trivial) ⟨rfl, rfl, by decide, by decide⟩ ⟨Nat.zero_le _, Nat.zero_le _⟩ rfl (Nat.le_of_ble_eq_true rfl) hl.1 rfl dX4_isNoColour_4 ?_
  refine z_bif_ne S 14 dX4_isNoColour_7 (by decide) (fun c_7 => ?_) (fun c_7 => ?_)
  · skip
    refine z_iconst S dX4_isNoColour_14 ?_
    exact ret _ _ _ dX4_isNoColour_15 (by rw [c_7]; rfl)
  · skip
    refine z_iconst S dX4_isNoColour_10 ?_
    refine z_goto S 15 dX4_isNoColour_11 (by decide) ?_
    exact ret _ _ _ dX4_isNoColour_15 (by rw [c_7]; rfl)
theorem dX4_isNoTick_0 : decode cX4_isNoTick 0 = .ok (.iload_n 0, 1) := by decide +kernel
theorem dX4_isNoTick_1 : decode cX4_isNoTick 1 = .ok (.iconst 0, 1) := by decide +kernel
theorem dX4_isNoTick_2 : decode cX4_isNoTick 2 = .ok (.ldc 45, 2) := by decide +kernel
theorem dX4_isNoTick_4 : decode cX4_isNoTick 4 = .ok (.invokestatic 37, 3) := by decide +kernel
theorem dX4_isNoTick_7 : decode cX4_isNoTick 7 = .ok (.ifCond .ne 7, 3) := by decide +kernel
theorem dX4_isNoTick_10 : decode cX4_isNoTick 10 = .ok (.iconst 1, 1) := by decide +kernel
theorem dX4_isNoTick_11 : decode cX4_isNoTick 11 = .ok (.goto 4, 3) := by decide +kernel
theorem dX4_isNoTick_14 : decode cX4_isNoTick 14 = .ok (.iconst 0, 1) := by decide +kernel
theorem dX4_isNoTick_15 : decode cX4_isNoTick 15 = .ok (.ireturn, 1) := by decide +kernel
theorem q5_175 : (Jvm.Cond.constant "CyclepaintModel" (45 : Nat) (99999 : Int32)) ∈ lw_g := zg_of (zin5 (List.mem_of_getElem? (i := 175) rfl)) rfl
theorem q5_182 : (Jvm.Cond.code ({ cls := "CyclepaintModel", name := "isNoTick", desc := "(I)Z" } : Jvm.MethodName) prog_6_method_9_code (1 : Nat) (Option.some Jvm.ClassFile.FieldType.boolean)) ∈ lw_g := zg_of (zin5 (List.mem_of_getElem? (i := 182) rfl)) rfl
theorem q5_181 : (Jvm.Cond.static ({ cls := "CyclepaintModel", name := "isNoTick", desc := "(I)Z" } : Jvm.MethodName)) ∈ lw_g := zg_of (zin5 (List.mem_of_getElem? (i := 181) rfl)) rfl
theorem ok_X4_isNoTick : zOS yX4_isNoTick cX4_isNoTick 1 ((Option.some Jvm.ClassFile.FieldType.boolean)) 1 := ⟨⟨q5_182, q1_3, by decide, by decide, by decide +kernel⟩, q5_181⟩
set_option maxHeartbeats 4000000 in
set_option maxRecDepth 100000 in
theorem c_X4_isNoTick (l : Launch) (G : zG) (x : Int) (hr : rg x) : Met l yX4_isNoTick (wq yX4_isNoTick cX4_isNoTick 1 ((Option.some Jvm.ClassFile.FieldType.boolean))) (rmR 1 22) (va_Pc [.int (zI (x))] (zK G (fun _ => True))) (zQ (some (.int (bI (!(decide (0 ≤ x) && decide (x ≤ 99999))))))) 0 0 zF := by
  refine z_enterB (by decide +kernel) (Nat.le_of_ble_eq_true rfl) ?_
  intro p env s m below meth cod Q S hG hP ret ls hl
  have hl : lv_has ls 1 [(0, .int (zI (x)))] := hl
  refine z_iload_n S dX4_isNoTick_0 hl 0 rfl rfl ?_
  refine z_iconst S dX4_isNoTick_1 ?_
  refine z_ldc S (99999) q5_175 rfl dX4_isNoTick_2 ?_
  refine z_callSs S hG (c_X4_isIn l G (x) (0) (99999) (by omega)) ok_X4_isIn q5_22 (trivial) ⟨rfl, rfl, by decide, by decide⟩ ⟨Nat.zero_le _, Nat.zero_le _⟩ rfl (Nat.le_of_ble_eq_true rfl) hl.1 rfl dX4_isNoTick_4 ?_
  refine z_bif_ne S 14 dX4_isNoTick_7 (by decide) (fun c_7 => ?_) (fun c_7 => ?_)
  · skip
    refine z_iconst S dX4_isNoTick_14 ?_
    exact ret _ _ _ dX4_isNoTick_15 (by rw [c_7]; rfl)
  · skip
    refine z_iconst S dX4_isNoTick_10 ?_
    refine z_goto S 15 dX4_isNoTick_11 (by decide) ?_
    exact ret _ _ _ dX4_isNoTick_15 (by rw [c_7]; rfl)
theorem dX4_isNoRange_0 : decode cX4_isNoRange 0 = .ok (.iload_n 1, 1) := by decide +kernel
theorem dX4_isNoRange_1 : decode cX4_isNoRange 1 = .ok (.iconst 0, 1) := by decide +kernel
theorem dX4_isNoRange_2 : decode cX4_isNoRange 2 = .ok (.aload_n 0, 1) := by decide +kernel
theorem dX4_isNoRange_3 : decode cX4_isNoRange 3 = .ok (.getfield 23, 3) := by decide +kernel
theorem dX4_isNoRange_6 : decode cX4_isNoRange 6 = .ok (.invokevirtual 41, 3) := by decide +kernel
theorem dX4_isNoRange_9 : decode cX4_isNoRange 9 = .ok (.iconst 1, 1) := by decide +kernel
theorem dX4_isNoRange_10 : decode cX4_isNoRange 10 = .ok (.isub, 1) := by decide +kernel
theorem dX4_isNoRange_11 : decode cX4_isNoRange 11 = .ok (.invokestatic 37, 3) := by decide +kernel
theorem dX4_isNoRange_14 : decode cX4_isNoRange 14 = .ok (.ifCond .ne 7, 3) := by decide +kernel
theorem dX4_isNoRange_17 : decode cX4_isNoRange 17 = .ok (.iconst 1, 1) := by decide +kernel
theorem dX4_isNoRange_18 : decode cX4_isNoRange 18 = .ok (.goto 4, 3) := by decide +kernel
theorem dX4_isNoRange_21 : decode cX4_isNoRange 21 = .ok (.iconst 0, 1) := by decide +kernel
theorem dX4_isNoRange_22 : decode cX4_isNoRange 22 = .ok (.ireturn, 1) := by decide +kernel
theorem q5_120 : (Jvm.Cond.code ({ cls := "CyclepaintModel", name := "isNoRange", desc := "(I)Z" } : Jvm.MethodName) prog_6_method_7_code (2 : Nat) (Option.some Jvm.ClassFile.FieldType.boolean)) ∈ lw_g := zg_of (zin5 (List.mem_of_getElem? (i := 120) rfl)) rfl
theorem q5_119 : (Jvm.Cond.instanceMethod ({ cls := "CyclepaintModel", name := "isNoRange", desc := "(I)Z" } : Jvm.MethodName)) ∈ lw_g := zg_of (zin5 (List.mem_of_getElem? (i := 119) rfl)) rfl
theorem qs_27 : Cond.selects "CyclepaintModel" (⟨"CyclepaintModel", "isNoRange", "(I)Z"⟩ : MethodName) (⟨"CyclepaintModel", "isNoRange", "(I)Z"⟩ : MethodName) ∈ lw_g := zg_of (zinS (List.mem_of_getElem? (i := 27) rfl)) rfl
theorem ok_X4_isNoRange : zOV yX4_isNoRange cX4_isNoRange 2 ((Option.some Jvm.ClassFile.FieldType.boolean)) 1 := ⟨⟨q5_120, q1_3, by decide, by decide, by decide +kernel⟩, q5_119, qs_27⟩
set_option maxHeartbeats 4000000 in
set_option maxRecDepth 100000 in
theorem c_X4_isNoRange (l : Launch) (G : zG) (σ : St) (b : Nat → Nat) (th m1 m2 : Int32) (x : Int) (hr : rg x) : Met l yX4_isNoRange (wq yX4_isNoRange cX4_isNoRange 2 ((Option.some Jvm.ClassFile.FieldType.boolean))) (rmR 1 22) (va_Pc [.ref (b 0), .int (zI (x))] (zK G (hMod G σ b th m1 m2))) (zQ (some (.int (bI (!(decide (0 ≤ x) && decide (x ≤ σ.rn - 1))))))) 0 0 zF := by
  refine z_enterB (by decide +kernel) (Nat.le_of_ble_eq_true rfl) ?_
  intro p env s m below meth cod Q S hG hP ret ls hl
  have hl : lv_has ls 2 [(0, .ref (b 0)), (1, .int (zI (x)))] := hl
  have hO := hP.2.2.2.2.2.2.2.2.2
  have hrn := hO.1
  refine z_iload_n S dX4_isNoRange_0 hl 1 rfl rfl ?_
  refine z_iconst S dX4_isNoRange_1 ?_
  refine z_aload_n S dX4_isNoRange_2 hl 0 rfl rfl ?_
  refine z_get S hG hP.1 zc_X4 6 (by decide) q4_232 rfl rfl dX4_isNoRange_3 ?_
  refine z_callVs S hG (c_alSize l G (b 3) (b 5) m1 σ.rn) ok_Jx4a65c_size_8abf5 hP.2.2.2.1 zc_Jx4a65c rfl q5_44 (hP.2.2.2.1) ⟨rfl, rfl, by decide, by decide⟩ ⟨Nat.zero_le _, Nat.zero_le _⟩ rfl (Nat.le_of_ble_eq_true rfl) hl.1 rfl dX4_isNoRange_6 ?_
  refine z_iconst S dX4_isNoRange_9 ?_
  refine z_isub S dX4_isNoRange_10 ?_
  refine z_callSs S hG (c_X4_isIn l G (x) (0) ((σ.rn) - (1)) (by omega)) ok_X4_isIn q5_22 (trivial) ⟨rfl, rfl, by decide, by decide⟩ ⟨Nat.zero_le _, Nat.zero_le _⟩ rfl (Nat.le_of_ble_eq_true rfl) hl.1 rfl dX4_isNoRange_11 ?_
  refine z_bif_ne S 21 dX4_isNoRange_14 (by decide) (fun c_14 => ?_) (fun c_14 => ?_)
  · skip
    refine z_iconst S dX4_isNoRange_21 ?_
    exact ret _ _ _ dX4_isNoRange_22 (by rw [c_14]; rfl)
  · skip
    refine z_iconst S dX4_isNoRange_17 ?_
    refine z_goto S 22 dX4_isNoRange_18 (by decide) ?_
    exact ret _ _ _ dX4_isNoRange_22 (by rw [c_14]; rfl)
end
section
/-! ===== the two ways of reckoning are one ===== -/
theorem src_per {σ : St} (hO : okR σ) {e t : Int} (ht : 0 ≤ t) : src σ e (t + rndE σ e) = src σ e t := by
  unfold src
  by_cases h : rgOf σ e = -1
  · rw [if_pos h, if_pos h]
  · rw [if_neg h, if_neg h]
    have h1 := rgOf_in h
    have h2 := hO.2 _ h1.1 h1.2.2.1
    have e1 : rndE σ e = σ.S (rgOf σ e) * cyc (σ.K (rgOf σ e)) (σ.L (rgOf σ e)) := by unfold rndE; rw [if_neg h]; rfl
    have e2 : shiftR (σ.K (rgOf σ e)) (σ.L (rgOf σ e)) (σ.S (rgOf σ e)) (t + rndE σ e) = shiftR (σ.K (rgOf σ e)) (σ.L (rgOf σ e)) (σ.S (rgOf σ e)) t := by
      unfold shiftR
      rw [e1, Int.add_mul_ediv_left _ _ (by omega), Int.add_emod_right]
    rw [e2]
theorem shw_per {σ : St} (hO : okR σ) {e t : Int} (ht : 0 ≤ t) : shw σ e (t + rndE σ e) = shw σ e t := by unfold shw; rw [src_per hO ht]
theorem per_mul {u : Int → Int32} {p : Int} (hp : 0 ≤ p) (h : ∀ t : Int, 0 ≤ t → u (t + p) = u t) : ∀ (n : Nat) (t : Int), 0 ≤ t → u (t + p * n) = u t
  | 0, t, _ => by rw [show ((0 : Nat) : Int) = 0 from rfl, Int.mul_zero, Int.add_zero]
  | n + 1, t, ht => by
    have h1 : 0 ≤ p * n := Int.mul_nonneg hp (by omega)
    rw [Int.natCast_add, Int.mul_add, ← Int.add_assoc, show p * ((1 : Nat) : Int) = p by rw [show ((1 : Nat) : Int) = 1 from rfl, Int.mul_one], h _ (by omega), per_mul hp h n t ht]
theorem per_mod {u : Int → Int32} {p : Int} (hp : 0 < p) (h : ∀ t : Int, 0 ≤ t → u (t + p) = u t) {t : Int} (ht : 0 ≤ t) : u t = u (t % p) := by
  have h0 := Int.emod_nonneg t (show p ≠ 0 by omega)
  have h1 : 0 ≤ t / p := Int.ediv_nonneg ht (by omega)
  have h2 := per_mul (by omega) h (t / p).toNat (t % p) h0
  rw [Int.toNat_of_nonneg h1, Int.emod_add_mul_ediv] at h2
  exact h2
/-- two rows that come round after p and q ticks, the same in the first p + q: the same -/
theorem fine_wilf {u v : Int → Int32} {p q : Int} (hp : 0 < p) (hq : 0 < q) (hu : ∀ t : Int, 0 ≤ t → u (t + p) = u t) (hv : ∀ t : Int, 0 ≤ t → v (t + q) = v t) (h : ∀ t : Int, 0 ≤ t → t < p + q → u t = v t) : ∀ t : Int, 0 ≤ t → u t = v t := by
  have huq : ∀ t : Int, 0 ≤ t → u (t + q) = u t := by
    intro t ht
    have m0 := Int.emod_nonneg t (show p ≠ 0 by omega)
    have m1 := Int.emod_lt_of_pos t hp
    have d0 : 0 ≤ t / p := Int.ediv_nonneg ht (by omega)
    have e1 : u (t + q) = u (t % p + q) := by
      have h2 := per_mul (by omega) hu (t / p).toNat (t % p + q) (by omega)
      rw [Int.toNat_of_nonneg d0, show t % p + q + p * (t / p) = t + q by have := Int.emod_add_mul_ediv t p; omega] at h2
      exact h2
    rw [e1, h _ (by omega) (by omega), hv _ m0, ← h _ m0 (by omega), ← per_mod hp hu ht]
  intro t ht
  have m0 := Int.emod_nonneg t (show q ≠ 0 by omega)
  have m1 := Int.emod_lt_of_pos t hq
  rw [per_mod hq huq ht, per_mod hq hv ht, h _ m0 (by omega)]
theorem gI_dvd {a b : Int} (ha : 0 < a) (hb : 0 < b) : gI a b ∣ a ∧ gI a b ∣ b := by
  unfold gI
  have h1 := Int.natCast_dvd_natCast.mpr (Nat.gcd_dvd_left a.toNat b.toNat)
  have h2 := Int.natCast_dvd_natCast.mpr (Nat.gcd_dvd_right a.toNat b.toNat)
  rw [Int.toNat_of_nonneg (show 0 ≤ a by omega)] at h1
  rw [Int.toNat_of_nonneg (show 0 ≤ b by omega)] at h2
  exact ⟨h1, h2⟩
theorem lcI_dvd {a b : Int} (ha : 0 < a) (hb : 0 < b) : (∃ n : Nat, lcI a b = a * n) ∧ (∃ n : Nat, lcI a b = b * n) := by
  obtain ⟨⟨x, hx⟩, ⟨y, hy⟩⟩ := gI_dvd ha hb
  have hg := gI_b ha (show 0 ≤ b by omega)
  have e1 : a / gI a b = x := by
    conv => lhs; lhs; rw [hx]
    rw [Int.mul_ediv_cancel_left _ (by omega)]
  have hx0 : 0 ≤ x := by rw [← e1]; exact Int.ediv_nonneg (by omega) (by omega)
  have hy0 : 0 ≤ y := by
    have : b / gI a b = y := by
      conv => lhs; lhs; rw [hy]
      rw [Int.mul_ediv_cancel_left _ (by omega)]
    rw [← this]; exact Int.ediv_nonneg (by omega) (by omega)
  refine ⟨⟨y.toNat, ?_⟩, ⟨x.toNat, ?_⟩⟩
  · rw [Int.toNat_of_nonneg hy0]
    unfold lcI
    rw [e1]
    have : x * b = x * (gI a b * y) := by rw [← hy]
    rw [this, ← Int.mul_assoc, Int.mul_comm x, ← hx]
  · rw [Int.toNat_of_nonneg hx0]
    unfold lcI
    rw [e1, Int.mul_comm]
theorem twn_all {σ : St} (hO : okR σ) {x y : Int} : twnC σ x y = true ↔ ∀ t : Int, 0 ≤ t → shw σ x t = shw σ y t := by
  have hx := rndE_b hO x
  have hy := rndE_b hO y
  unfold twnC
  rw [allI_iff]
  constructor
  · intro h
    refine fine_wilf (p := rndE σ x) (q := rndE σ y) (by omega) (by omega) (fun t ht => shw_per hO ht) (fun t ht => shw_per hO ht) (fun t h0 h1 => ?_)
    have := h t h0 h1
    unfold twnB at this
    exact of_decide_eq_true this
  · intro h t h0 _
    unfold twnB
    exact decide_eq_true (h t h0)
theorem twnM_all {σ : St} (hO : okR σ) {x y : Int} : twnM σ x y = true ↔ ∀ t : Int, 0 ≤ t → shw σ x t = shw σ y t := by
  have hx := rndE_b hO x
  have hy := rndE_b hO y
  have hl := lcI_b (a := rndE σ x) (b := rndE σ y) hx.1 hy.1
  obtain ⟨⟨n1, e1⟩, ⟨n2, e2⟩⟩ := lcI_dvd (a := rndE σ x) (b := rndE σ y) (by omega) (by omega)
  unfold twnM
  rw [allI_iff]
  constructor
  · intro h t ht
    have p1 : ∀ t : Int, 0 ≤ t → shw σ x (t + lcI (rndE σ x) (rndE σ y)) = shw σ x t := fun t ht => by
      rw [e1]; exact per_mul (u := shw σ x) (by omega) (fun t ht => shw_per hO ht) n1 t ht
    have p2 : ∀ t : Int, 0 ≤ t → shw σ y (t + lcI (rndE σ x) (rndE σ y)) = shw σ y t := fun t ht => by
      rw [e2]; exact per_mul (u := shw σ y) (by omega) (fun t ht => shw_per hO ht) n2 t ht
    have m0 := Int.emod_nonneg t (show lcI (rndE σ x) (rndE σ y) ≠ 0 by omega)
    have m1 := Int.emod_lt_of_pos t (show 0 < lcI (rndE σ x) (rndE σ y) by omega)
    rw [per_mod (by omega) p1 ht, per_mod (by omega) p2 ht]
    have := h _ m0 m1
    unfold twnB at this
    exact of_decide_eq_true this
  · intro h t h0 _
    unfold twnB
    exact decide_eq_true (h t h0)
theorem b_iff {x y : Bool} (h : x = true ↔ y = true) : x = y := by cases x <;> cases y <;> simp_all
theorem twn_CM {σ : St} (hO : okR σ) (x y : Int) : twnC σ x y = twnM σ x y := b_iff ((twn_all hO).trans (twnM_all hO).symm)
theorem twn_sym {σ : St} (hO : okR σ) (x y : Int) : twnC σ x y = twnC σ y x := b_iff ((twn_all hO).trans ⟨fun h t ht => (h t ht).symm, fun h t ht => (h t ht).symm⟩ |>.trans (twn_all hO).symm)
theorem sml_CM {σ : St} (hO : okR σ) {e : Int} (he : 0 ≤ e ∧ e < 16) : smlC σ e = smM σ e := by
  have hf : (fun o => twnC σ o e) = (fun o => twnM σ e o) := by funext o; rw [twn_sym hO, twn_CM hO]
  unfold smlC smM
  rw [hf]
  rcases fstF_cases (fun o => twnM σ e o) e.toNat with ⟨h1, h2⟩ | ⟨h1, h2, h3⟩
  · have h4 : fstI (fun o => twnM σ e o) e = -1 := h1
    rw [if_pos h4]
    exact (fstI_some (f := fun o => twnM σ e o) he.1 he.2 (fun t h0 ht => h2 t h0 (by omega)) (twnM_rf σ e)).symm
  · have h4 : fstI (fun o => twnM σ e o) e = fstF (fun o => twnM σ e o) e.toNat := rfl
    rw [if_neg (by omega), h4]
    exact (fstI_some (f := fun o => twnM σ e o) h1.1 (by omega) h3 h2).symm
theorem bst_c {p q : Int → Bool} (h : p = q) (k : Int) : bstI p k = bstI q k := by rw [h]
theorem bstw_CM {σ : St} (hO : okR σ) (e : Int) : bstI (fun o => twnC σ o e) 16 = bstI (fun o => twnM σ e o) 16 := bst_c (by funext o; rw [twn_sym hO, twn_CM hO]) 16
theorem shw_0 {σ : St} (hO : okR σ) (e : Int) : shw σ e 0 = σ.B e := by
  unfold shw src
  by_cases h : rgOf σ e = -1
  · rw [if_pos h]
  · rw [if_neg h]
    have h1 := rgOf_in h
    have h2 := hO.2 _ h1.1 h1.2.2.1
    have e1 : shiftR (σ.K (rgOf σ e)) (σ.L (rgOf σ e)) (σ.S (rgOf σ e)) 0 = 0 := by
      unfold shiftR
      rw [Int.zero_ediv, Int.zero_emod]
      by_cases q : σ.K (rgOf σ e) = 1
      · rw [if_pos q, if_pos rfl]
      · rw [if_neg q, if_pos (by omega)]
    rw [e1]
    congr 1
    unfold srcR
    rw [if_neg (by omega)]
    omega
/-- each place of a range comes to the entry at some time of its round -/
theorem reach {σ : St} (hO : okR σ) {e o : Int} (h : ¬ rgOf σ e = -1) (ho : σ.F (rgOf σ e) ≤ o ∧ o < σ.F (rgOf σ e) + σ.L (rgOf σ e)) : ∃ t : Int, 0 ≤ t ∧ t < rndE σ e ∧ src σ e t = o := by
  have h1 := rgOf_in h
  have h2 := hO.2 _ h1.1 h1.2.2.1
  have e1 : rndE σ e = σ.S (rgOf σ e) * cyc (σ.K (rgOf σ e)) (σ.L (rgOf σ e)) := by unfold rndE; rw [if_neg h]; rfl
  unfold src
  rw [e1]
  simp only [if_neg h]
  generalize rgOf σ e = j at *
  generalize σ.S j = sp at *
  generalize σ.K j = k at *
  generalize σ.L j = len at *
  generalize σ.F j = f at *
  have hc := cyc_b (k := k) (len := len) ⟨h2.1.2.1, by omega⟩
  have key : ∀ s d : Int, 0 ≤ s → s < cyc k len → shiftR k len sp (sp * s) = d → srcR f len d e = o → ∃ t : Int, 0 ≤ t ∧ t < sp * cyc k len ∧ srcR f len (shiftR k len sp t) e = o := by
    intro s d s0 s1 e2 e3
    refine ⟨sp * s, Int.mul_nonneg (by omega) s0, Int.mul_lt_mul_of_pos_left s1 (by omega), ?_⟩
    rw [e2]; exact e3
  have st : ∀ s : Int, 0 ≤ s → s < cyc k len → sp * s / sp % cyc k len = s := fun s s0 s1 => by
    rw [Int.mul_ediv_cancel_left _ (by omega), Int.emod_eq_of_lt s0 s1]
  obtain ⟨d, d0, d1, d2⟩ : ∃ d : Int, 0 ≤ d ∧ d < len ∧ srcR f len d e = o := by
    by_cases q : o ≤ e
    · exact ⟨e - o, by omega, by omega, by unfold srcR; rw [if_neg (by omega)]; omega⟩
    · exact ⟨e - o + len, by omega, by omega, by unfold srcR; rw [if_pos (by omega)]; omega⟩
  by_cases k1 : k = 1
  · have hcl : cyc k len = len := by unfold cyc; rw [if_neg (by omega)]
    by_cases dz : d = 0
    · refine key 0 d (by omega) (by omega) ?_ d2
      unfold shiftR; rw [if_pos k1, st 0 (by omega) (by omega), if_pos rfl, dz]
    · refine key (len - d) d (by omega) (by omega) ?_ d2
      unfold shiftR; rw [if_pos k1, st (len - d) (by omega) (by omega), if_neg (by omega)]; omega
  · refine key d d d0 (by omega) ?_ d2
    unfold shiftR; rw [if_neg k1, st d d0 (by omega), if_pos d1]
theorem stl_CM {σ : St} (hO : okR σ) {e : Int} (he : 0 ≤ e ∧ e < 16) : stl σ e = stlM σ e := by
  refine b_iff ?_
  unfold stl stlM
  rw [allI_iff, allI_iff]
  by_cases h : rgOf σ e = -1
  · constructor
    · intro _ t h0 _
      unfold shw src
      simp [h]
    · intro _ t h0 _
      simp [stlB, h]
  · have h1 := rgOf_in h
    have h2 := hO.2 _ h1.1 h1.2.2.1
    constructor
    · intro hh t h0 _
      rw [decide_eq_true_iff, shw_0 hO]
      have hs := shiftR_b (w := t) h2.2.2 ⟨h2.1.2.1, by omega⟩ h2.2.1.1 h0
      have hb := srcR_b (f := σ.F (rgOf σ e)) (len := σ.L (rgOf σ e)) (e := e) ⟨h1.2.2.2.1, h1.2.2.2.2⟩ hs
      have e1 : src σ e t = srcR (σ.F (rgOf σ e)) (σ.L (rgOf σ e)) (shiftR (σ.K (rgOf σ e)) (σ.L (rgOf σ e)) (σ.S (rgOf σ e)) t) e := by unfold src; rw [if_neg h]
      have h3 := hh (src σ e t) (by omega) (by omega)
      rw [e1] at h3
      unfold shw
      rw [e1]
      unfold stlB at h3
      rw [decide_eq_true (show ¬ rgOf σ e = -1 from h), decide_eq_true hb.1, decide_eq_true hb.2] at h3
      simpa using h3
    · intro hh o h0 _
      unfold stlB
      by_cases q : σ.F (rgOf σ e) ≤ o ∧ o < σ.F (rgOf σ e) + σ.L (rgOf σ e)
      · obtain ⟨t, t0, t1, t2⟩ := reach hO h q
        have h3 := of_decide_eq_true (hh t t0 t1)
        rw [shw_0 hO] at h3
        unfold shw at h3
        rw [t2] at h3
        simp [h3]
      · have : (decide (σ.F (rgOf σ e) ≤ o) && decide (o < σ.F (rgOf σ e) + σ.L (rgOf σ e))) = false := by
          rw [← Bool.not_eq_true]; simpa using q
        rw [this]; simp
theorem cntF_sz (f : Int → Bool) : ∀ n : Nat, cntF f n = szF (fun d => if f d = true then 1 else 0) n
  | 0 => rfl
  | n + 1 => by rw [cntF, szF, cntF_sz f n]
theorem fl_CM {σ : St} (h : ∀ d : Int, 0 ≤ d → d < 32 → 0 ≤ σ.Dt d ∧ σ.Dt d < 16) : flC σ = flM σ := by
  unfold flC flM szI cntI
  rw [cntF_sz]
  have e1 := exchZ (D := σ.Dt) (f := fun e => if decide (10 < chg σ e σ.tk 30) = true then 1 else 0) (m := 16) 32 (fun d h0 h1 => h d h0 (by omega))
  refine (szF_c (fun t _ _ => ?_)).trans e1
  unfold flG usz cntI
  by_cases q : 10 < chg σ t σ.tk 30
  · rw [if_pos q, if_pos (decide_eq_true q)]; exact (Int.mul_one _).symm
  · rw [if_neg q, if_neg (by simpa using q)]; exact (Int.mul_zero _).symm
theorem orF_c {p p' : Int → Bool} {g g' : Int → Int32} : ∀ {n : Nat}, (∀ t : Int, 0 ≤ t → t < n → p t = p' t ∧ g t = g' t) → orF p g n = orF p' g' n
  | 0, _ => rfl
  | n + 1, h => by
    have h1 := h n (by omega) (by omega)
    rw [orF, orF, orF_c (fun t h0 ht => h t h0 (by omega)), h1.1, h1.2]
theorem ks_CM {σ : St} (hO : okR σ) (h : ∀ d : Int, 0 ≤ d → d < 32 → 0 ≤ σ.Dt d ∧ σ.Dt d < 16) : ksC σ = ksM σ :=
  orF_c (n := 16) (fun t h0 h1 => ⟨(in_us h ⟨h0, h1⟩).symm, by rw [sml_CM hO ⟨h0, h1⟩]⟩)
theorem mxF_c {g g' : Int → Int32} : ∀ {n : Nat}, (∀ t : Int, 0 ≤ t → t < n → g t = g' t) → mxF g n = mxF g' n
  | 0, _ => rfl
  | n + 1, h => by rw [mxF, mxF, mxF_c (fun t h0 ht => h t h0 (by omega)), h n (by omega) (by omega)]
theorem mr_CM (σ : St) : mrL σ = mrM σ := mxF_c (n := 4) (fun t _ _ => smF_c (n := 8) (fun q _ _ => by rw [Int.mul_comm t 8]))
theorem lt_CM {σ : St} (h : ∀ d : Int, 0 ≤ d → d < 32 → 0 ≤ σ.Dt d ∧ σ.Dt d < 16) : ∀ n : Nat, ltF σ n = ltFM σ n
  | 0 => by rw [ltF, ltFM, li_CM h]
  | n + 1 => by rw [ltF, ltFM, lt_CM h n, li_CM h]
theorem ltI_CM {σ : St} (h : ∀ d : Int, 0 ≤ d → d < 32 → 0 ≤ σ.Dt d ∧ σ.Dt d < 16) (n : Int) : ltC σ n = ltM σ n := by unfold ltC ltM; rw [lt_CM h]
def btL (x : Int64) (i : Nat) : Bool := x.toBitVec.getLsbD i
theorem bL_any {p : Int → Bool} {g : Int → Int64} {i : Nat} : ∀ n : Nat, btL (orLF p g n) i = true ↔ ∃ d : Int, (0 ≤ d ∧ d < n) ∧ p d = true ∧ btL (g d) i = true
  | 0 => by rw [show orLF p g 0 = 0 from rfl]; exact ⟨fun h => by simp [btL] at h, fun ⟨d, h, _⟩ => absurd h (by omega)⟩
  | n + 1 => by
    have ih := bL_any (p := p) (g := g) (i := i) n
    rw [orLF]
    by_cases q : p n = true
    · rw [if_pos q, show btL (orLF p g n ||| g n) i = (btL (orLF p g n) i || btL (g n) i) by unfold btL; rw [Int64.toBitVec_or, BitVec.getLsbD_or], Bool.or_eq_true, ih]
      refine ⟨fun h => ?_, fun ⟨d, h, h1, h2⟩ => ?_⟩
      · rcases h with ⟨d, h, h1, h2⟩ | h
        · exact ⟨d, by omega, h1, h2⟩
        · exact ⟨n, by omega, q, h⟩
      · by_cases r : d = n
        · subst r; exact Or.inr h2
        · exact Or.inl ⟨d, by omega, h1, h2⟩
    · rw [if_neg q, ih]
      refine ⟨fun ⟨d, h, h1, h2⟩ => ⟨d, by omega, h1, h2⟩, fun ⟨d, h, h1, h2⟩ => ⟨d, ?_, h1, h2⟩⟩
      by_cases r : d = n
      · subst r; exact absurd h1 q
      · omega
theorem cs_CM {σ : St} (h : ∀ d : Int, 0 ≤ d → d < 32 → 0 ≤ σ.Dt d ∧ σ.Dt d < 16) : csC σ = csM σ := by
  unfold csC csM orL
  refine Int64.toBitVec_inj.mp (BitVec.eq_of_getLsbD_eq (fun i _ => b_iff ?_))
  show btL (orLF _ _ _) i = true ↔ btL (orLF _ _ _) i = true
  rw [bL_any, bL_any]
  constructor
  · rintro ⟨e, h0, h1, h2⟩
    obtain ⟨d, hd, rfl⟩ := us_iff.mp h1
    exact ⟨d, hd, rfl, h2⟩
  · rintro ⟨d, h0, _, h2⟩
    have hd := h d h0.1 h0.2
    exact ⟨σ.Dt d, by omega, us_iff.mpr ⟨d, h0, rfl⟩, h2⟩
theorem fr_CM {σ : St} {f u : Int} (hf : 0 ≤ f ∧ f < 16) (hu : 0 ≤ u ∧ u < 16) (hfu : f ≤ u) : allI (frB σ f u) 16 = !(tkM σ f u) := by
  unfold tkM
  rw [Bool.not_not]
  refine b_iff ?_
  rw [allI_iff, allI_iff]
  constructor
  · intro h i h0 h1
    have := h (f + i) (by omega) (by omega)
    unfold frB at this
    rw [decide_eq_true (show f ≤ f + i by omega), decide_eq_true (show f + i ≤ u by omega)] at this
    simpa using this
  · intro h e h0 h1
    unfold frB
    by_cases q : f ≤ e ∧ e ≤ u
    · have := h (e - f) (by omega) (by omega)
      rw [show f + (e - f) = e by omega] at this
      simp [of_decide_eq_true this]
    · have : (decide (f ≤ e) && decide (e ≤ u)) = false := by rw [← Bool.not_eq_true]; simpa using q
      rw [this]; rfl
end
section
/-! ===== methods that write, or make cells ===== -/
/-- it answers v, B holds of the heap behind it, nothing old but what A names has changed -/
def zM (A : Nat → Prop) (v : Option Value) (B : Heap → Prop) : Array Value → State → Outcome → State → Prop := fun _ st o t => o = .returned v ∧ B t.heap ∧ st.heap.size ≤ t.heap.size ∧ ∀ q : Nat, q < st.heap.size → ¬ A q → t.heap[q]? = st.heap[q]?
abbrev rmM (f lo mc ms : Nat) : Room := { frames := f, cells := mc, slots := ms, locals := lo }
def zRM (R rm : Room) (maxL mc ms : Nat) : Prop := rm.cells = mc ∧ rm.slots = ms ∧ rm.frames + 1 ≤ R.frames ∧ 8 + (maxL + 11) + rm.locals ≤ R.locals
section ZW
variable {p : Program} {l : Launch} {e : Env} {R : Room} {s : State} {m : MethodId} {args : Array Value} {below : List Frame} {meth : Method} {c : Code} {H : Heap} {locs : List Loc} {cells slots : Nat} {Q : State → Prop}
variable {cc : ByteArray} {nL : Nat} {own : String} {pc : Nat} {ls : Array Slot} {rest : List Value} {G : zG} {A : Nat → Prop} {H0 : Heap}
theorem z_put (S : CallFix p m c cc nL s args lw_g own) (hG : zKn G s) {a ci : Nat} {fs : List Value} (hat : va_at G.1 vwCl (a, .inr (ci, fs)) H) {C : String} {T : u_T} {N index : Nat} (hC : zCl ci C T N) (ty0 : Nat → FieldType) (hty : ∀ k, k < N → parseFieldDescriptor (T k).2.2.1 = some (ty0 k)) (hnm : ∀ a, a < N → ∀ b, b < N → a ≠ b → (T a).2.1 ≠ (T b).2.1) (hS0 : va_S A H0 H locs) (ha : A a) (k : Nat) (hk : k < N) (hl : Cond.fieldLink own index C (T k).2.1 (T k).2.2.1 ∈ lw_g) (hsm : (T k).1 = C) (hfin : (T k).2.2.2 = false) {ty : FieldType} {v : Value} (hd : parseFieldDescriptor (T k).2.2.1 = some ty) (hn : narrow ty v = v) (hfit : fits ty v = true) (hlen : k < fs.length)
    (d : decode cc pc = .ok (.putfield index, 3)) (kk : ∀ (H1 : Heap) (locs1 : List Loc), va_at G.1 vwCl (a, .inr (ci, fs.set k v)) H1 → H1.size = H.size → (∀ q : Nat, q ≠ a → H1[q]? = H[q]?) → va_S A H0 H1 locs1 → W p l e R s m args below meth c H1 locs1 cells slots Q (F0 m (pc + 3) ls rest)) : W p l e R s m args below meth c H locs cells slots Q (F0 m pc ls (v :: .ref a :: rest)) := by
  have hts := S.2.2.2.2
  have hap := va_apart (own := own) hts hC.2 ty0 hty hnm hG hC.1
  obtain ⟨r, h1, cell, q1, q2, q3, q4⟩ := hat
  have hr : r = (C, T, N) := Option.some.inj (h1.symm.trans hC.1)
  subst hr
  obtain ⟨hS, hfc, kC, hkC, hkind⟩ := hG.1 ci _ hC.1
  obtain ⟨cf, kf, fi, f, hi, hsl⟩ := hS k hk
  have hlay := hts _ (hC.2 _ (u_in_lay hk))
  unfold u_lay at hlay
  rw [if_neg (by rw [hfin]; decide)] at hlay
  have hst := (u_facts hfc hkC (u_lays hts hC.2 hk) hi).1
  have h6 := u_store hfc hkC hkind hlay hi hd hn hfit
  have hi2 : s.fieldFound? C (T k).2.1 (T k).2.2.1 = some (cf, kf, fi, f) := by rw [← hsm]; exact hi
  refine W.putK S.1 S.2.1 (f := f) ⟨S.2.2.2.1, hts _ hl, ⟨_, _, _, hi2⟩, hst⟩ (by rw [q2]; exact h6) q1 q3 (by rw [hsl]; exact k2_hasslot (q4 k hk)) rfl rfl d fun H' e1 e2 e3 => ?_
  rw [hsl] at e1 ⊢
  exact kk H' _ ⟨_, hC.1, t_OB.to (V := updV (vp_V fs) k v) ⟨_, e1, q2, q3, t_set q4 hap hk v⟩ (fun j _ => vp_updV_set hlen v j)⟩ e2 e3 (hS0.put e2 e3 ha)
theorem z_iastK (S : CallFix p m c cc nL s args lw_g own) (hG : zKn G s) {a n : Nat} {f : Nat → Int32} (hat : va_at G.1 vwCl (a, .inl (G.2 0, n, .inl f)) H) (hS : va_S A H0 H locs) (ha : A a) {i x : Int32} (hin : vp_in i n) (d : decode cc pc = .ok (.iastore, 1))
    (kk : ∀ (H1 : Heap) (locs1 : List Loc), va_at G.1 vwCl (a, .inl (G.2 0, n, .inl (upd f i.toNatClampNeg x))) H1 → H1.size = H.size → (∀ q : Nat, q ≠ a → H1[q]? = H[q]?) → va_S A H0 H1 locs1 → W p l e R s m args below meth c H1 locs1 cells slots Q (F0 m (pc + 1) ls rest)) : W p l e R s m args below meth c H locs cells slots Q (F0 m pc ls (.int x :: .int i :: .ref a :: rest)) := by
  refine W.iast S.1 S.2.1 hat ((hG.2 0 (G.2 0, .int) rfl).1 n (fun j => .int (f j))) (fun q => by cases q) (by show ¬ (i < 0 ∨ (arrV _ _ _).slots.size ≤ _); rw [arrV_size]; exact hin) rfl rfl d fun H1 e z oq => ?_
  refine kk H1 _ ?_ z oq (hS.put z oq ha)
  show H1[a]? = some (vp_cell _ _)
  rw [e]
  rw [show vp_cell (G.2 0, n, Sum.inl f).1 (G.2 0, n, Sum.inl f).2 = arrV (G.2 0) n (fun j => .int (f j)) from rfl, vp_cell_i, arrV_store]
  congr 2
  funext q
  by_cases hq : q = i.toNatClampNeg
  · subst hq
    simp [updV, upd]
  · simp [updV, upd, hq]
theorem z_iast (S : CallFix p m c cc nL s args lw_g own) (hG : zKn G s) {a n : Nat} {g : Int → Int32} (hat : va_at G.1 vwCl (a, .inl (G.2 0, n, .inl (zA g))) H) (hS : va_S A H0 H locs) (ha : A a) {i : Int} {x : Int32} (hi : 0 ≤ i ∧ i < n) (hn : n < 2147483648) (d : decode cc pc = .ok (.iastore, 1))
    (kk : ∀ (H1 : Heap) (locs1 : List Loc), va_at G.1 vwCl (a, .inl (G.2 0, n, .inl (zA (up g i x)))) H1 → H1.size = H.size → (∀ q : Nat, q ≠ a → H1[q]? = H[q]?) → va_S A H0 H1 locs1 → W p l e R s m args below meth c H1 locs1 cells slots Q (F0 m (pc + 1) ls rest)) : W p l e R s m args below meth c H locs cells slots Q (F0 m pc ls (.int x :: .int (zI i) :: .ref a :: rest)) :=
  z_iastK S hG hat hS ha (zI_in hi hn) d (fun H1 locs1 h1 h2 h3 h4 => kk H1 locs1 (by rw [← zA_up (by omega)]; exact h1) h2 h3 h4)
theorem z_iastB (S : CallFix p m c cc nL s args lw_g own) (hG : zKn G s) {a n : Nat} {g : Int → Int} (hat : va_at G.1 vwCl (a, .inl (G.2 0, n, .inl (zB g))) H) (hS : va_S A H0 H locs) (ha : A a) {i x : Int} (hi : 0 ≤ i ∧ i < n) (hn : n < 2147483648) (d : decode cc pc = .ok (.iastore, 1))
    (kk : ∀ (H1 : Heap) (locs1 : List Loc), va_at G.1 vwCl (a, .inl (G.2 0, n, .inl (zB (up g i x)))) H1 → H1.size = H.size → (∀ q : Nat, q ≠ a → H1[q]? = H[q]?) → va_S A H0 H1 locs1 → W p l e R s m args below meth c H1 locs1 cells slots Q (F0 m (pc + 1) ls rest)) : W p l e R s m args below meth c H locs cells slots Q (F0 m pc ls (.int (zI x) :: .int (zI i) :: .ref a :: rest)) :=
  z_iastK S hG hat hS ha (zI_in hi hn) d (fun H1 locs1 h1 h2 h3 h4 => kk H1 locs1 (by rw [← zB_up (by omega)]; exact h1) h2 h3 h4)
/-- the end of a call of a method that writes -/
theorem z_mend {v : Option Value} {B : Heap → Prop} {A1 : Nat → Prop} {mc ms : Nat} {a : Array Value} {st0 : List Value} (hr : va_Run p l e R s m args below meth c H locs cells slots mc ms (F0 m pc ls st0) rest (zM A1 v B a) A1) (hS : va_S A H0 H locs) (hA : ∀ q, A1 q → A q)
    (kk : ∀ (H1 : Heap) (locs1 : List Loc), B H1 → H.size ≤ H1.size → (∀ q : Nat, q < H.size → ¬ A1 q → H1[q]? = H[q]?) → va_S A H0 H1 locs1 → W p l e R s m args below meth c H1 locs1 (cells + mc) (slots + ms) Q (F0 m (pc + 3) ls (v.toList ++ rest))) : W p l e R s m args below meth c H locs cells slots Q (F0 m pc ls st0) := by
  intro T hT X
  obtain ⟨v', st₀, t, T', L, h0, X', hL, e1, e2, ⟨hv, hb, hz, hk⟩, st⟩ := hr T hT X
  cases hv
  rw [h0] at hz hk
  obtain ⟨t2, a1, b1⟩ := kk T'.heap (locs ++ L) (by rw [e1]; exact hb) (by rw [e1]; exact hz) (fun q h1 h2 => by rw [e1]; exact hk q h1 h2)
    ⟨Nat.le_trans hS.1 (by rw [e1]; exact hz), fun q h1 h2 => by rw [e1, hk q (Nat.lt_of_lt_of_le h1 hS.1) (fun z => h2 (hA q z))]; exact hS.2.1 q h1 h2, fun q hq => by
      rcases List.mem_append.mp hq with h | h
      · exact hS.2.2 q h
      · exact hA _ (hL q h)⟩ T' rfl X'
  exact ⟨t2, st t2 a1, b1⟩
theorem z_cbM (S : CallFix p m c cc nL s args lw_g own) {y : MethodName} {bytes : ByteArray} {maxL na index mc ms : Nat} {ret : Option FieldType} {rm : Room} (hY : zOK y bytes maxL ret na) (hl : Cond.methodLink own index y ∈ lw_g) (hR : zRM R rm maxL mc ms) : CallB R s args own index y bytes maxL ret (wq y bytes maxL ret) rm mc ms na :=
  callB_of na S.2.2.2.2 (zgood_wq hY.1) rfl hR.1 hR.2.1 (S.2.2.2.2 _ hY.2.1) (S.2.2.2.2 _ hl) hY.2.2 ⟨hR.2.2.1, hR.2.2.2⟩
theorem z_callM (S : CallFix p m c cc nL s args lw_g own) (hG : zKn G s) (hS : va_S A H0 H locs) {y : MethodName} {bytes : ByteArray} {maxL na index mc ms : Nat} {ret : Option FieldType} {rm : Room} {P B : Heap → Prop} {A1 : Nat → Prop} {v : Option Value} {As st : List Value} {b ci N : Nat} {fs : List Value} {C : String} {T : u_T} (hM : Met l y (wq y bytes maxL ret) rm (va_Pc (.ref b :: As) (zK G P)) (zM A1 v B) mc ms A1) (hA : ∀ q, A1 q → A q) (hY : zOV y bytes maxL ret na) (hat : va_at G.1 vwCl (b, .inr (ci, fs)) H) (hC : zCl ci C T N) (hc : y.cls = C) (hl : Cond.methodLink own index y ∈ lw_g) (hP : P H) (hR : zRM R rm maxL mc ms) (hcs : cells + mc ≤ R.cells ∧ slots + ms ≤ R.slots) (hn : As.length = na) (hrest : (rest.map fun v => v.category).sum ≤ 8) (hlz : ls.size = nL) (hst : st = As.reverse ++ .ref b :: rest) (d : decode cc pc = .ok (.invokevirtual index, 3))
    (kk : ∀ (H1 : Heap) (locs1 : List Loc), B H1 → H.size ≤ H1.size → (∀ q : Nat, q < H.size → ¬ A1 q → H1[q]? = H[q]?) → va_S A H0 H1 locs1 → W p l e R s m args below meth c H1 locs1 (cells + mc) (slots + ms) Q (F0 m (pc + 3) ls (v.toList ++ rest))) : W p l e R s m args below meth c H locs cells slots Q (F0 m pc ls st) := by
  subst hc
  exact z_mend (va_runV S hM (C := y.cls) ⟨z_cbM S hY.1 hl hR, S.2.2.2.2 _ hY.2.1, S.2.2.2.2 _ hY.2.2⟩ ⟨z_blind, va_recv hG (va_one hat) hC.1 (q0 := 0) rfl, fun U hU hW => ⟨rfl, by rw [hU]; exact hP, va_K.moved hW.alike hG⟩⟩ rfl hn hlz hst (lv_room hrest) d hcs) hS hA kk
theorem z_callMI (S : CallFix p m c cc nL s args lw_g own) (hG : zKn G s) (hS : va_S A H0 H locs) {y : MethodName} {bytes : ByteArray} {maxL na index mc ms : Nat} {rm : Room} {P B : Heap → Prop} {A1 : Nat → Prop} {v : Option Value} {As st : List Value} {b : Nat} (hM : Met l y (wq y bytes maxL none) rm (va_Pc (.ref b :: As) (zK G P)) (zM A1 v B) mc ms A1) (hA : ∀ q, A1 q → A q) (hY : zOK y bytes maxL none na) (hin : Cond.instanceMethod y ∈ lw_g) (hy1 : y.name = "<init>") (hl : Cond.methodLink own index y ∈ lw_g) (hP : P H) (hR : zRM R rm maxL mc ms) (hcs : cells + mc ≤ R.cells ∧ slots + ms ≤ R.slots) (hn : As.length = na) (hrest : (rest.map fun v => v.category).sum ≤ 8) (hlz : ls.size = nL) (hst : st = As.reverse ++ .ref b :: rest) (d : decode cc pc = .ok (.invokespecial index, 3))
    (kk : ∀ (H1 : Heap) (locs1 : List Loc), B H1 → H.size ≤ H1.size → (∀ q : Nat, q < H.size → ¬ A1 q → H1[q]? = H[q]?) → va_S A H0 H1 locs1 → W p l e R s m args below meth c H1 locs1 (cells + mc) (slots + ms) Q (F0 m (pc + 3) ls (v.toList ++ rest))) : W p l e R s m args below meth c H locs cells slots Q (F0 m pc ls st) :=
  z_mend (va_runI S hM ⟨z_cbM S hY hl hR, hy1, S.2.2.2.2 _ hin⟩ ⟨z_blind, fun U hU hW => ⟨rfl, by rw [hU]; exact hP, va_K.moved hW.alike hG⟩⟩ rfl hn hlz hst (lv_room hrest) d hcs) hS hA kk
end ZW
/-- entry of a method that writes: 'ret' is its end -/
theorem z_enterM {l : Launch} {y : MethodName} {cc : ByteArray} {maxL mc ms : Nat} {rt : Option FieldType} {rm : Room} {G : zG} {P B : Heap → Prop} {A : Nat → Prop} {v : Option Value} {av : List Value} (hy : plainName y.cls = true) (hav : (lg_sl av).length ≤ maxL)
    (body : ∀ (p : Program) (e : Env) (s : State) (m : MethodId) (below : List Frame) (meth : Method) (c : Code), CallFix p m c cc maxL s av.toArray lw_g y.cls → meth.sig.returnType = rt → meth.locks = false → meth.name = y.name → zKn G s → P s.heap → ∀ ls, lv_has ls maxL (lv_args 0 av) →
      W p l e rm s m av.toArray below meth c s.heap [] 0 0 (MQ below (zM A v B) av.toArray s mc ms A) (F0 m 0 ls [])) : Met l y (wq y cc maxL rt) rm (va_Pc av (zK G P)) (zM A v B) mc ms A := by
  refine Met.ofW (cc := cc) (maxL := maxL) (ret := rt) hy rfl ?_
  intro p e s m args below meth c s₁ B0 hml hv
  obtain ⟨rfl, hP, hG⟩ := hv
  have hl := lv_entry av (n := maxL) hav
  rw [lg_entry_eq]
  exact body p e s m below meth c ⟨B0.exec, B0.bytes, hml, findClass_of_methodNamed B0.named, fun w hw => atoms_spec B0.pre w (List.mem_cons_of_mem _ hw)⟩ B0.returns B0.notSynchronized (name_of_methodNamed B0.named B0.method).1 hG hP _ hl
theorem z_enterMI {l : Launch} {y : MethodName} {cc : ByteArray} {maxL mc ms : Nat} {rm : Room} {G : zG} {P B : Heap → Prop} {A : Nat → Prop} {E : Int32} {av : List Value} (hy : plainName y.cls = true) (hav : (lg_sl av).length ≤ maxL)
    (body : ∀ (p : Program) (e : Env) (s : State) (m : MethodId) (below : List Frame) (meth : Method) (c : Code) (Q : State → Prop), CallFix p m c cc maxL s av.toArray lw_g y.cls → zKn G s → P s.heap → va_S A s.heap s.heap [] →
      (∀ (pc : Nat) (ls : Array Slot) (x : Int32) (H : Heap) (locs : List Loc) (k n : Nat), decode cc pc = .ok (.ireturn, 1) → x = E → va_S A s.heap H locs → B H → k ≤ mc → n ≤ ms → W p l e rm s m av.toArray below meth c H locs k n Q (F0 m pc ls [.int x])) → ∀ ls, lv_has ls maxL (lv_args 0 av) →
      W p l e rm s m av.toArray below meth c s.heap [] 0 0 Q (F0 m 0 ls [])) : Met l y (wq y cc maxL (some .int)) rm (va_Pc av (zK G P)) (zM A (some (.int E)) B) mc ms A :=
  z_enterM hy hav fun p e s m below meth c S hr hlk _ hG hP ls hl => body p e s m below meth c _ S hG hP va_S.rf (fun pc ls x H locs k n d hx hS hB hk hn => by
    subst hx
    exact W.widen hk hn (W.iret S.1 S.2.1 hr (fun t ht _ => ⟨rfl, by rw [ht]; exact hB, (hS.F ht).1, (hS.F ht).2⟩) hS.2.2 d hlk)) ls hl
theorem z_enterMB {l : Launch} {y : MethodName} {cc : ByteArray} {maxL mc ms : Nat} {rm : Room} {G : zG} {P B : Heap → Prop} {A : Nat → Prop} {E : Bool} {av : List Value} (hy : plainName y.cls = true) (hav : (lg_sl av).length ≤ maxL)
    (body : ∀ (p : Program) (e : Env) (s : State) (m : MethodId) (below : List Frame) (meth : Method) (c : Code) (Q : State → Prop), CallFix p m c cc maxL s av.toArray lw_g y.cls → zKn G s → P s.heap → va_S A s.heap s.heap [] →
      (∀ (pc : Nat) (ls : Array Slot) (x : Int32) (H : Heap) (locs : List Loc) (k n : Nat), decode cc pc = .ok (.ireturn, 1) → x = bI E → va_S A s.heap H locs → B H → k ≤ mc → n ≤ ms → W p l e rm s m av.toArray below meth c H locs k n Q (F0 m pc ls [.int x])) → ∀ ls, lv_has ls maxL (lv_args 0 av) →
      W p l e rm s m av.toArray below meth c s.heap [] 0 0 Q (F0 m 0 ls [])) : Met l y (wq y cc maxL (some .boolean)) rm (va_Pc av (zK G P)) (zM A (some (.int (bI E))) B) mc ms A :=
  z_enterM hy hav fun p e s m below meth c S hr hlk _ hG hP ls hl => body p e s m below meth c _ S hG hP va_S.rf (fun pc ls x H locs k n d hx hS hB hk hn => by
    subst hx
    exact W.widen hk hn (W.zret S.1 S.2.1 hr (bI_nar E) (fun t ht _ => ⟨rfl, by rw [ht]; exact hB, (hS.F ht).1, (hS.F ht).2⟩) hS.2.2 d hlk)) ls hl
theorem z_enterMV {l : Launch} {y : MethodName} {cc : ByteArray} {maxL mc ms : Nat} {rm : Room} {G : zG} {P B : Heap → Prop} {A : Nat → Prop} {av : List Value} (hy : plainName y.cls = true) (hav : (lg_sl av).length ≤ maxL)
    (body : ∀ (p : Program) (e : Env) (s : State) (m : MethodId) (below : List Frame) (meth : Method) (c : Code) (Q : State → Prop), CallFix p m c cc maxL s av.toArray lw_g y.cls → meth.name = y.name → zKn G s → P s.heap → va_S A s.heap s.heap [] →
      (∀ (pc : Nat) (ls : Array Slot) (H : Heap) (locs : List Loc) (k n : Nat), decode cc pc = .ok (.return_, 1) → va_S A s.heap H locs → B H → k ≤ mc → n ≤ ms → W p l e rm s m av.toArray below meth c H locs k n Q (F0 m pc ls [])) → ∀ ls, lv_has ls maxL (lv_args 0 av) →
      W p l e rm s m av.toArray below meth c s.heap [] 0 0 Q (F0 m 0 ls [])) : Met l y (wq y cc maxL none) rm (va_Pc av (zK G P)) (zM A none B) mc ms A :=
  z_enterM hy hav fun p e s m below meth c S hr hlk hnm hG hP ls hl => body p e s m below meth c _ S hnm hG hP va_S.rf (fun pc ls H locs k n d hS hB hk hn => by
    exact W.widen hk hn (W.vret S.1 S.2.1 hr (fun t ht _ => ⟨rfl, by rw [ht]; exact hB, (hS.F ht).1, (hS.F ht).2⟩) hS.2.2 d hlk)) ls hl
/-! cells by number -/
def cellsAt (G : zG) (a : Nat → Nat) (L : Nat → Prop) (E : Nat → va_E) (H : Heap) : Prop := ∀ i : Nat, L i → va_at G.1 vwCl (a i, E i) H
def upE (E : Nat → va_E) (i0 : Nat) (x : va_E) : Nat → va_E := fun i => if i = i0 then x else E i
def inj (a : Nat → Nat) (L : Nat → Prop) : Prop := ∀ i j : Nat, L i → L j → a i = a j → i = j
theorem cells_put {G : zG} {a : Nat → Nat} {L : Nat → Prop} {E : Nat → va_E} {H H1 : Heap} {i0 : Nat} {x : va_E} (h : cellsAt G a L E H) (hd : inj a L) (h0 : L i0) (hn : va_at G.1 vwCl (a i0, x) H1) (oq : ∀ q : Nat, q ≠ a i0 → H1[q]? = H[q]?) : cellsAt G a L (upE E i0 x) H1 := by
  intro i hi
  unfold upE
  by_cases q : i = i0
  · rw [if_pos q, q]; exact hn
  · rw [if_neg q]; exact (h i hi).kept (oq _ (fun z => q (hd i i0 hi h0 z)))
theorem cells_kept {G : zG} {a : Nat → Nat} {L : Nat → Prop} {E : Nat → va_E} {H H1 : Heap} (h : cellsAt G a L E H) (oq : ∀ i : Nat, L i → H1[a i]? = H[a i]?) : cellsAt G a L E H1 := fun i hi => (h i hi).kept (oq i hi)
theorem cells_to {G : zG} {a : Nat → Nat} {L L' : Nat → Prop} {E E' : Nat → va_E} {H : Heap} (h : cellsAt G a L E H) (hL : ∀ i, L' i → L i) (hE : ∀ i, L' i → E' i = E i) : cellsAt G a L' E' H := fun i hi => by rw [hE i hi]; exact h i (hL i hi)
end
