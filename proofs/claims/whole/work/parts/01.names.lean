-- ===== PART A: goes FIRST, ahead of the names: the tables' words, and 'selects' of the private methods out of them =====
/-- a private method of a class that the tables say can be made, by its rows of tables_1 -/
def lw_okq (q : MethodName × Nat) : Prop := (q.1.cls ≠ "java/lang/invoke/MethodHandle" ∧ q.1.cls ≠ "java/lang/invoke/VarHandle") ∧ Cond.instantiable q.1.cls q.2 ∈ tables_1 ∧ Cond.privateMethod q.1 ∈ tables_1 ∧ Cond.instanceMethod q.1 ∈ tables_1
theorem lw_p0 : lw_okq (⟨"WallHarbour", "bodiesOf", "(I)I"⟩, 12) := ⟨⟨by decide +kernel, by decide +kernel⟩, List.mem_of_getElem? (i := 30) (by decide +kernel), List.mem_of_getElem? (i := 483) (by decide +kernel), List.mem_of_getElem? (i := 484) (by decide +kernel)⟩
theorem lw_p1 : lw_okq (⟨"WallHarbour$Tape", "pass", "(I)V"⟩, 4) := ⟨⟨by decide +kernel, by decide +kernel⟩, List.mem_of_getElem? (i := 292) (by decide +kernel), List.mem_of_getElem? (i := 605) (by decide +kernel), List.mem_of_getElem? (i := 606) (by decide +kernel)⟩
theorem lw_p2 : lw_okq (⟨"WallHarbour$HarbourText", "readLine", "(LWallHarbour$Tape;)V"⟩, 1) := ⟨⟨by decide +kernel, by decide +kernel⟩, List.mem_of_getElem? (i := 38) (by decide +kernel), List.mem_of_getElem? (i := 613) (by decide +kernel), List.mem_of_getElem? (i := 614) (by decide +kernel)⟩
theorem lw_p3 : lw_okq (⟨"WallHarbour$Tape", "runEnd", "(CC)I"⟩, 4) := ⟨⟨by decide +kernel, by decide +kernel⟩, List.mem_of_getElem? (i := 292) (by decide +kernel), List.mem_of_getElem? (i := 632) (by decide +kernel), List.mem_of_getElem? (i := 633) (by decide +kernel)⟩
theorem lw_p4 : lw_okq (⟨"WallHarbour$HarbourText", "readThing", "(LWallHarbour$Tape;I)V"⟩, 1) := ⟨⟨by decide +kernel, by decide +kernel⟩, List.mem_of_getElem? (i := 38) (by decide +kernel), List.mem_of_getElem? (i := 674) (by decide +kernel), List.mem_of_getElem? (i := 675) (by decide +kernel)⟩
theorem lw_p5 : lw_okq (⟨"WallHarbour$HarbourText", "readShape", "(LWallHarbour$Tape;I)V"⟩, 1) := ⟨⟨by decide +kernel, by decide +kernel⟩, List.mem_of_getElem? (i := 38) (by decide +kernel), List.mem_of_getElem? (i := 692) (by decide +kernel), List.mem_of_getElem? (i := 693) (by decide +kernel)⟩
theorem lw_p6 : lw_okq (⟨"WallHarbour$HarbourText", "readShip", "(LWallHarbour$Tape;I)V"⟩, 1) := ⟨⟨by decide +kernel, by decide +kernel⟩, List.mem_of_getElem? (i := 38) (by decide +kernel), List.mem_of_getElem? (i := 704) (by decide +kernel), List.mem_of_getElem? (i := 705) (by decide +kernel)⟩
theorem lw_p7 : lw_okq (⟨"WallHarbour$HarbourText", "readHole", "(LWallHarbour$Tape;I)V"⟩, 1) := ⟨⟨by decide +kernel, by decide +kernel⟩, List.mem_of_getElem? (i := 38) (by decide +kernel), List.mem_of_getElem? (i := 710) (by decide +kernel), List.mem_of_getElem? (i := 711) (by decide +kernel)⟩
theorem lw_p8 : lw_okq (⟨"WallHarbour$HarbourText", "readWall", "(LWallHarbour$Tape;)V"⟩, 1) := ⟨⟨by decide +kernel, by decide +kernel⟩, List.mem_of_getElem? (i := 38) (by decide +kernel), List.mem_of_getElem? (i := 715) (by decide +kernel), List.mem_of_getElem? (i := 716) (by decide +kernel)⟩
theorem lw_p9 : lw_okq (⟨"WallHarbour$HarbourText", "readClouds", "(LWallHarbour$Tape;)V"⟩, 1) := ⟨⟨by decide +kernel, by decide +kernel⟩, List.mem_of_getElem? (i := 38) (by decide +kernel), List.mem_of_getElem? (i := 721) (by decide +kernel), List.mem_of_getElem? (i := 722) (by decide +kernel)⟩
theorem lw_p10 : lw_okq (⟨"WallHarbour$HarbourText", "readTide", "(LWallHarbour$Tape;)V"⟩, 1) := ⟨⟨by decide +kernel, by decide +kernel⟩, List.mem_of_getElem? (i := 38) (by decide +kernel), List.mem_of_getElem? (i := 733) (by decide +kernel), List.mem_of_getElem? (i := 734) (by decide +kernel)⟩
theorem lw_p11 : lw_okq (⟨"java/lang/Throwable", "fillInStackTrace", "(I)Ljava/lang/Throwable;"⟩, 6) := ⟨⟨by decide +kernel, by decide +kernel⟩, List.mem_of_getElem? (i := 790) (by decide +kernel), List.mem_of_getElem? (i := 788) (by decide +kernel), List.mem_of_getElem? (i := 789) (by decide +kernel)⟩
theorem lw_p12 : lw_okq (⟨"WallHarbour$LawText", "readAny", "(LWallHarbour$Tape;I)V"⟩, 1) := ⟨⟨by decide +kernel, by decide +kernel⟩, List.mem_of_getElem? (i := 279) (by decide +kernel), List.mem_of_getElem? (i := 858) (by decide +kernel), List.mem_of_getElem? (i := 859) (by decide +kernel)⟩
theorem lw_p13 : lw_okq (⟨"WallHarbour$LawText", "readAtom", "(LWallHarbour$Tape;I)V"⟩, 1) := ⟨⟨by decide +kernel, by decide +kernel⟩, List.mem_of_getElem? (i := 279) (by decide +kernel), List.mem_of_getElem? (i := 863) (by decide +kernel), List.mem_of_getElem? (i := 864) (by decide +kernel)⟩
theorem lw_p14 : lw_okq (⟨"WallHarbour$LawText", "readSum", "(LWallHarbour$Tape;)V"⟩, 1) := ⟨⟨by decide +kernel, by decide +kernel⟩, List.mem_of_getElem? (i := 279) (by decide +kernel), List.mem_of_getElem? (i := 885) (by decide +kernel), List.mem_of_getElem? (i := 886) (by decide +kernel)⟩
theorem lw_p15 : lw_okq (⟨"WallHarbour$LawText", "readPart", "(LWallHarbour$Tape;)V"⟩, 1) := ⟨⟨by decide +kernel, by decide +kernel⟩, List.mem_of_getElem? (i := 279) (by decide +kernel), List.mem_of_getElem? (i := 889) (by decide +kernel), List.mem_of_getElem? (i := 890) (by decide +kernel)⟩
def lw_privs_1 : List (MethodName × Nat) := [(⟨"WallHarbour", "bodiesOf", "(I)I"⟩, 12), (⟨"WallHarbour$Tape", "pass", "(I)V"⟩, 4), (⟨"WallHarbour$HarbourText", "readLine", "(LWallHarbour$Tape;)V"⟩, 1), (⟨"WallHarbour$Tape", "runEnd", "(CC)I"⟩, 4), (⟨"WallHarbour$HarbourText", "readThing", "(LWallHarbour$Tape;I)V"⟩, 1), (⟨"WallHarbour$HarbourText", "readShape", "(LWallHarbour$Tape;I)V"⟩, 1), (⟨"WallHarbour$HarbourText", "readShip", "(LWallHarbour$Tape;I)V"⟩, 1), (⟨"WallHarbour$HarbourText", "readHole", "(LWallHarbour$Tape;I)V"⟩, 1), (⟨"WallHarbour$HarbourText", "readWall", "(LWallHarbour$Tape;)V"⟩, 1), (⟨"WallHarbour$HarbourText", "readClouds", "(LWallHarbour$Tape;)V"⟩, 1), (⟨"WallHarbour$HarbourText", "readTide", "(LWallHarbour$Tape;)V"⟩, 1), (⟨"java/lang/Throwable", "fillInStackTrace", "(I)Ljava/lang/Throwable;"⟩, 6), (⟨"WallHarbour$LawText", "readAny", "(LWallHarbour$Tape;I)V"⟩, 1), (⟨"WallHarbour$LawText", "readAtom", "(LWallHarbour$Tape;I)V"⟩, 1), (⟨"WallHarbour$LawText", "readSum", "(LWallHarbour$Tape;)V"⟩, 1), (⟨"WallHarbour$LawText", "readPart", "(LWallHarbour$Tape;)V"⟩, 1)]
theorem lw_r1 : ∀ q ∈ lw_privs_1, lw_okq q := List.forall_mem_cons.mpr ⟨lw_p0, List.forall_mem_cons.mpr ⟨lw_p1, List.forall_mem_cons.mpr ⟨lw_p2, List.forall_mem_cons.mpr ⟨lw_p3, List.forall_mem_cons.mpr ⟨lw_p4, List.forall_mem_cons.mpr ⟨lw_p5, List.forall_mem_cons.mpr ⟨lw_p6, List.forall_mem_cons.mpr ⟨lw_p7, List.forall_mem_cons.mpr ⟨lw_p8, List.forall_mem_cons.mpr ⟨lw_p9, List.forall_mem_cons.mpr ⟨lw_p10, List.forall_mem_cons.mpr ⟨lw_p11, List.forall_mem_cons.mpr ⟨lw_p12, List.forall_mem_cons.mpr ⟨lw_p13, List.forall_mem_cons.mpr ⟨lw_p14, List.forall_mem_cons.mpr ⟨lw_p15, fun _ h => absurd h List.not_mem_nil⟩⟩⟩⟩⟩⟩⟩⟩⟩⟩⟩⟩⟩⟩⟩⟩
theorem lw_p16 : lw_okq (⟨"WallHarbour", "needTime", "(II)V"⟩, 12) := ⟨⟨by decide +kernel, by decide +kernel⟩, List.mem_of_getElem? (i := 30) (by decide +kernel), List.mem_of_getElem? (i := 913) (by decide +kernel), List.mem_of_getElem? (i := 914) (by decide +kernel)⟩
theorem lw_p17 : lw_okq (⟨"WallHarbour", "needBody", "(I)V"⟩, 12) := ⟨⟨by decide +kernel, by decide +kernel⟩, List.mem_of_getElem? (i := 30) (by decide +kernel), List.mem_of_getElem? (i := 927) (by decide +kernel), List.mem_of_getElem? (i := 928) (by decide +kernel)⟩
theorem lw_p18 : lw_okq (⟨"WallHarbour", "needHole", "(I)V"⟩, 12) := ⟨⟨by decide +kernel, by decide +kernel⟩, List.mem_of_getElem? (i := 30) (by decide +kernel), List.mem_of_getElem? (i := 980) (by decide +kernel), List.mem_of_getElem? (i := 981) (by decide +kernel)⟩
theorem lw_p19 : lw_okq (⟨"WallHarbour$Sight", "seesPoint", "(III)Z"⟩, 8) := ⟨⟨by decide +kernel, by decide +kernel⟩, List.mem_of_getElem? (i := 315) (by decide +kernel), List.mem_of_getElem? (i := 1004) (by decide +kernel), List.mem_of_getElem? (i := 1005) (by decide +kernel)⟩
theorem lw_p20 : lw_okq (⟨"WallHarbour$Sight", "isOnWall", "(III)Z"⟩, 8) := ⟨⟨by decide +kernel, by decide +kernel⟩, List.mem_of_getElem? (i := 315) (by decide +kernel), List.mem_of_getElem? (i := 1013) (by decide +kernel), List.mem_of_getElem? (i := 1014) (by decide +kernel)⟩
theorem lw_p21 : lw_okq (⟨"WallHarbour$Sight", "firstHider", "(III)I"⟩, 8) := ⟨⟨by decide +kernel, by decide +kernel⟩, List.mem_of_getElem? (i := 315) (by decide +kernel), List.mem_of_getElem? (i := 1017) (by decide +kernel), List.mem_of_getElem? (i := 1018) (by decide +kernel)⟩
theorem lw_p22 : lw_okq (⟨"WallHarbour$Sight", "hides", "(IIII)Z"⟩, 8) := ⟨⟨by decide +kernel, by decide +kernel⟩, List.mem_of_getElem? (i := 315) (by decide +kernel), List.mem_of_getElem? (i := 1021) (by decide +kernel), List.mem_of_getElem? (i := 1022) (by decide +kernel)⟩
theorem lw_p23 : lw_okq (⟨"WallHarbour", "chargeThen", "(I)I"⟩, 12) := ⟨⟨by decide +kernel, by decide +kernel⟩, List.mem_of_getElem? (i := 30) (by decide +kernel), List.mem_of_getElem? (i := 1044) (by decide +kernel), List.mem_of_getElem? (i := 1045) (by decide +kernel)⟩
theorem lw_p24 : lw_okq (⟨"WallHarbour$Law", "holds", "(II[I)Z"⟩, 6) := ⟨⟨by decide +kernel, by decide +kernel⟩, List.mem_of_getElem? (i := 115) (by decide +kernel), List.mem_of_getElem? (i := 1060) (by decide +kernel), List.mem_of_getElem? (i := 1061) (by decide +kernel)⟩
theorem lw_p25 : lw_okq (⟨"WallHarbour$Law", "push", "(II)I"⟩, 6) := ⟨⟨by decide +kernel, by decide +kernel⟩, List.mem_of_getElem? (i := 115) (by decide +kernel), List.mem_of_getElem? (i := 1064) (by decide +kernel), List.mem_of_getElem? (i := 1065) (by decide +kernel)⟩
theorem lw_p26 : lw_okq (⟨"WallHarbour$Law", "workOff", "(II)I"⟩, 6) := ⟨⟨by decide +kernel, by decide +kernel⟩, List.mem_of_getElem? (i := 115) (by decide +kernel), List.mem_of_getElem? (i := 1068) (by decide +kernel), List.mem_of_getElem? (i := 1069) (by decide +kernel)⟩
theorem lw_p27 : lw_okq (⟨"WallHarbour", "needRoomForTracing", "()V"⟩, 12) := ⟨⟨by decide +kernel, by decide +kernel⟩, List.mem_of_getElem? (i := 30) (by decide +kernel), List.mem_of_getElem? (i := 1099) (by decide +kernel), List.mem_of_getElem? (i := 1100) (by decide +kernel)⟩
theorem lw_p28 : lw_okq (⟨"WallHarbour", "needTracing", "(I)V"⟩, 12) := ⟨⟨by decide +kernel, by decide +kernel⟩, List.mem_of_getElem? (i := 30) (by decide +kernel), List.mem_of_getElem? (i := 1124) (by decide +kernel), List.mem_of_getElem? (i := 1125) (by decide +kernel)⟩
theorem lw_p29 : lw_okq (⟨"WallHarbour$Finder", "markRanges", "(LWallHarbour$Sight;III)I"⟩, 4) := ⟨⟨by decide +kernel, by decide +kernel⟩, List.mem_of_getElem? (i := 356) (by decide +kernel), List.mem_of_getElem? (i := 1153) (by decide +kernel), List.mem_of_getElem? (i := 1154) (by decide +kernel)⟩
theorem lw_p30 : lw_okq (⟨"WallHarbour$Finder", "keepPlaces", "(II)V"⟩, 4) := ⟨⟨by decide +kernel, by decide +kernel⟩, List.mem_of_getElem? (i := 356) (by decide +kernel), List.mem_of_getElem? (i := 1175) (by decide +kernel), List.mem_of_getElem? (i := 1176) (by decide +kernel)⟩
theorem lw_p31 : lw_okq (⟨"WallHarbour$Finder", "keep", "(II)V"⟩, 4) := ⟨⟨by decide +kernel, by decide +kernel⟩, List.mem_of_getElem? (i := 356) (by decide +kernel), List.mem_of_getElem? (i := 1179) (by decide +kernel), List.mem_of_getElem? (i := 1180) (by decide +kernel)⟩
def lw_privs_2 : List (MethodName × Nat) := [(⟨"WallHarbour", "needTime", "(II)V"⟩, 12), (⟨"WallHarbour", "needBody", "(I)V"⟩, 12), (⟨"WallHarbour", "needHole", "(I)V"⟩, 12), (⟨"WallHarbour$Sight", "seesPoint", "(III)Z"⟩, 8), (⟨"WallHarbour$Sight", "isOnWall", "(III)Z"⟩, 8), (⟨"WallHarbour$Sight", "firstHider", "(III)I"⟩, 8), (⟨"WallHarbour$Sight", "hides", "(IIII)Z"⟩, 8), (⟨"WallHarbour", "chargeThen", "(I)I"⟩, 12), (⟨"WallHarbour$Law", "holds", "(II[I)Z"⟩, 6), (⟨"WallHarbour$Law", "push", "(II)I"⟩, 6), (⟨"WallHarbour$Law", "workOff", "(II)I"⟩, 6), (⟨"WallHarbour", "needRoomForTracing", "()V"⟩, 12), (⟨"WallHarbour", "needTracing", "(I)V"⟩, 12), (⟨"WallHarbour$Finder", "markRanges", "(LWallHarbour$Sight;III)I"⟩, 4), (⟨"WallHarbour$Finder", "keepPlaces", "(II)V"⟩, 4), (⟨"WallHarbour$Finder", "keep", "(II)V"⟩, 4)]
theorem lw_r2 : ∀ q ∈ lw_privs_2, lw_okq q := List.forall_mem_cons.mpr ⟨lw_p16, List.forall_mem_cons.mpr ⟨lw_p17, List.forall_mem_cons.mpr ⟨lw_p18, List.forall_mem_cons.mpr ⟨lw_p19, List.forall_mem_cons.mpr ⟨lw_p20, List.forall_mem_cons.mpr ⟨lw_p21, List.forall_mem_cons.mpr ⟨lw_p22, List.forall_mem_cons.mpr ⟨lw_p23, List.forall_mem_cons.mpr ⟨lw_p24, List.forall_mem_cons.mpr ⟨lw_p25, List.forall_mem_cons.mpr ⟨lw_p26, List.forall_mem_cons.mpr ⟨lw_p27, List.forall_mem_cons.mpr ⟨lw_p28, List.forall_mem_cons.mpr ⟨lw_p29, List.forall_mem_cons.mpr ⟨lw_p30, List.forall_mem_cons.mpr ⟨lw_p31, fun _ h => absurd h List.not_mem_nil⟩⟩⟩⟩⟩⟩⟩⟩⟩⟩⟩⟩⟩⟩⟩⟩
theorem lw_p32 : lw_okq (⟨"WallHarbour$Setting", "clearOf", "(LWallHarbour$Sight;I)I"⟩, 4) := ⟨⟨by decide +kernel, by decide +kernel⟩, List.mem_of_getElem? (i := 378) (by decide +kernel), List.mem_of_getElem? (i := 1230) (by decide +kernel), List.mem_of_getElem? (i := 1231) (by decide +kernel)⟩
theorem lw_p33 : lw_okq (⟨"WallHarbour$Setting", "openOf", "(LWallHarbour$Sight;I)I"⟩, 4) := ⟨⟨by decide +kernel, by decide +kernel⟩, List.mem_of_getElem? (i := 378) (by decide +kernel), List.mem_of_getElem? (i := 1237) (by decide +kernel), List.mem_of_getElem? (i := 1238) (by decide +kernel)⟩
theorem lw_p34 : lw_okq (⟨"WallHarbour$Setting", "onWallOf", "(LWallHarbour$Sight;I)I"⟩, 4) := ⟨⟨by decide +kernel, by decide +kernel⟩, List.mem_of_getElem? (i := 378) (by decide +kernel), List.mem_of_getElem? (i := 1242) (by decide +kernel), List.mem_of_getElem? (i := 1243) (by decide +kernel)⟩
theorem lw_p35 : lw_okq (⟨"WallHarbour$Setting", "keep", "(IIII)V"⟩, 4) := ⟨⟨by decide +kernel, by decide +kernel⟩, List.mem_of_getElem? (i := 378) (by decide +kernel), List.mem_of_getElem? (i := 1251) (by decide +kernel), List.mem_of_getElem? (i := 1252) (by decide +kernel)⟩
theorem lw_p36 : lw_okq (⟨"WallHarbour$Way", "laneBeside", "(II)I"⟩, 3) := ⟨⟨by decide +kernel, by decide +kernel⟩, List.mem_of_getElem? (i := 401) (by decide +kernel), List.mem_of_getElem? (i := 1269) (by decide +kernel), List.mem_of_getElem? (i := 1270) (by decide +kernel)⟩
theorem lw_p37 : lw_okq (⟨"WallHarbour$Way", "bestLane", "(III)I"⟩, 3) := ⟨⟨by decide +kernel, by decide +kernel⟩, List.mem_of_getElem? (i := 401) (by decide +kernel), List.mem_of_getElem? (i := 1275) (by decide +kernel), List.mem_of_getElem? (i := 1276) (by decide +kernel)⟩
theorem lw_p38 : lw_okq (⟨"WallHarbour$Way", "restOf", "(II)I"⟩, 3) := ⟨⟨by decide +kernel, by decide +kernel⟩, List.mem_of_getElem? (i := 401) (by decide +kernel), List.mem_of_getElem? (i := 1279) (by decide +kernel), List.mem_of_getElem? (i := 1280) (by decide +kernel)⟩
theorem lw_p39 : lw_okq (⟨"WallHarbourModel", "begins", "()V"⟩, 22) := ⟨⟨by decide +kernel, by decide +kernel⟩, List.mem_of_getElem? (i := 1299) (by decide +kernel), List.mem_of_getElem? (i := 1391) (by decide +kernel), List.mem_of_getElem? (i := 1392) (by decide +kernel)⟩
theorem lw_p40 : lw_okq (⟨"WallHarbourModel", "read", "(Z)I"⟩, 22) := ⟨⟨by decide +kernel, by decide +kernel⟩, List.mem_of_getElem? (i := 1299) (by decide +kernel), List.mem_of_getElem? (i := 1395) (by decide +kernel), List.mem_of_getElem? (i := 1396) (by decide +kernel)⟩
theorem lw_p41 : lw_okq (⟨"WallHarbourModel", "skip", "()V"⟩, 22) := ⟨⟨by decide +kernel, by decide +kernel⟩, List.mem_of_getElem? (i := 1299) (by decide +kernel), List.mem_of_getElem? (i := 1399) (by decide +kernel), List.mem_of_getElem? (i := 1400) (by decide +kernel)⟩
theorem lw_p42 : lw_okq (⟨"WallHarbourModel", "letter", "(I)I"⟩, 22) := ⟨⟨by decide +kernel, by decide +kernel⟩, List.mem_of_getElem? (i := 1299) (by decide +kernel), List.mem_of_getElem? (i := 1403) (by decide +kernel), List.mem_of_getElem? (i := 1404) (by decide +kernel)⟩
theorem lw_p43 : lw_okq (⟨"WallHarbourModel", "wrong", "(I)V"⟩, 22) := ⟨⟨by decide +kernel, by decide +kernel⟩, List.mem_of_getElem? (i := 1299) (by decide +kernel), List.mem_of_getElem? (i := 1407) (by decide +kernel), List.mem_of_getElem? (i := 1408) (by decide +kernel)⟩
theorem lw_p44 : lw_okq (⟨"WallHarbourModel", "lawLine", "()V"⟩, 22) := ⟨⟨by decide +kernel, by decide +kernel⟩, List.mem_of_getElem? (i := 1299) (by decide +kernel), List.mem_of_getElem? (i := 1411) (by decide +kernel), List.mem_of_getElem? (i := 1412) (by decide +kernel)⟩
theorem lw_p45 : lw_okq (⟨"WallHarbourModel", "has", "(Ljava/lang/String;)Z"⟩, 22) := ⟨⟨by decide +kernel, by decide +kernel⟩, List.mem_of_getElem? (i := 1299) (by decide +kernel), List.mem_of_getElem? (i := 1416) (by decide +kernel), List.mem_of_getElem? (i := 1417) (by decide +kernel)⟩
theorem lw_p46 : lw_okq (⟨"WallHarbourModel", "figures", "(III)I"⟩, 22) := ⟨⟨by decide +kernel, by decide +kernel⟩, List.mem_of_getElem? (i := 1299) (by decide +kernel), List.mem_of_getElem? (i := 1422) (by decide +kernel), List.mem_of_getElem? (i := 1423) (by decide +kernel)⟩
theorem lw_p47 : lw_okq (⟨"WallHarbourModel", "some", "()Z"⟩, 22) := ⟨⟨by decide +kernel, by decide +kernel⟩, List.mem_of_getElem? (i := 1299) (by decide +kernel), List.mem_of_getElem? (i := 1427) (by decide +kernel), List.mem_of_getElem? (i := 1428) (by decide +kernel)⟩
def lw_privs_3 : List (MethodName × Nat) := [(⟨"WallHarbour$Setting", "clearOf", "(LWallHarbour$Sight;I)I"⟩, 4), (⟨"WallHarbour$Setting", "openOf", "(LWallHarbour$Sight;I)I"⟩, 4), (⟨"WallHarbour$Setting", "onWallOf", "(LWallHarbour$Sight;I)I"⟩, 4), (⟨"WallHarbour$Setting", "keep", "(IIII)V"⟩, 4), (⟨"WallHarbour$Way", "laneBeside", "(II)I"⟩, 3), (⟨"WallHarbour$Way", "bestLane", "(III)I"⟩, 3), (⟨"WallHarbour$Way", "restOf", "(II)I"⟩, 3), (⟨"WallHarbourModel", "begins", "()V"⟩, 22), (⟨"WallHarbourModel", "read", "(Z)I"⟩, 22), (⟨"WallHarbourModel", "skip", "()V"⟩, 22), (⟨"WallHarbourModel", "letter", "(I)I"⟩, 22), (⟨"WallHarbourModel", "wrong", "(I)V"⟩, 22), (⟨"WallHarbourModel", "lawLine", "()V"⟩, 22), (⟨"WallHarbourModel", "has", "(Ljava/lang/String;)Z"⟩, 22), (⟨"WallHarbourModel", "figures", "(III)I"⟩, 22), (⟨"WallHarbourModel", "some", "()Z"⟩, 22)]
theorem lw_r3 : ∀ q ∈ lw_privs_3, lw_okq q := List.forall_mem_cons.mpr ⟨lw_p32, List.forall_mem_cons.mpr ⟨lw_p33, List.forall_mem_cons.mpr ⟨lw_p34, List.forall_mem_cons.mpr ⟨lw_p35, List.forall_mem_cons.mpr ⟨lw_p36, List.forall_mem_cons.mpr ⟨lw_p37, List.forall_mem_cons.mpr ⟨lw_p38, List.forall_mem_cons.mpr ⟨lw_p39, List.forall_mem_cons.mpr ⟨lw_p40, List.forall_mem_cons.mpr ⟨lw_p41, List.forall_mem_cons.mpr ⟨lw_p42, List.forall_mem_cons.mpr ⟨lw_p43, List.forall_mem_cons.mpr ⟨lw_p44, List.forall_mem_cons.mpr ⟨lw_p45, List.forall_mem_cons.mpr ⟨lw_p46, List.forall_mem_cons.mpr ⟨lw_p47, fun _ h => absurd h List.not_mem_nil⟩⟩⟩⟩⟩⟩⟩⟩⟩⟩⟩⟩⟩⟩⟩⟩
theorem lw_p48 : lw_okq (⟨"WallHarbourModel", "every", "()Z"⟩, 22) := ⟨⟨by decide +kernel, by decide +kernel⟩, List.mem_of_getElem? (i := 1299) (by decide +kernel), List.mem_of_getElem? (i := 1431) (by decide +kernel), List.mem_of_getElem? (i := 1432) (by decide +kernel)⟩
theorem lw_p49 : lw_okq (⟨"WallHarbourModel", "atom", "()Z"⟩, 22) := ⟨⟨by decide +kernel, by decide +kernel⟩, List.mem_of_getElem? (i := 1299) (by decide +kernel), List.mem_of_getElem? (i := 1435) (by decide +kernel), List.mem_of_getElem? (i := 1436) (by decide +kernel)⟩
theorem lw_p50 : lw_okq (⟨"WallHarbourModel", "isSign", "(I)Z"⟩, 22) := ⟨⟨by decide +kernel, by decide +kernel⟩, List.mem_of_getElem? (i := 1299) (by decide +kernel), List.mem_of_getElem? (i := 1440) (by decide +kernel), List.mem_of_getElem? (i := 1441) (by decide +kernel)⟩
theorem lw_p51 : lw_okq (⟨"WallHarbourModel", "plain", "()Z"⟩, 22) := ⟨⟨by decide +kernel, by decide +kernel⟩, List.mem_of_getElem? (i := 1299) (by decide +kernel), List.mem_of_getElem? (i := 1444) (by decide +kernel), List.mem_of_getElem? (i := 1445) (by decide +kernel)⟩
theorem lw_p52 : lw_okq (⟨"WallHarbourModel", "sum", "()I"⟩, 22) := ⟨⟨by decide +kernel, by decide +kernel⟩, List.mem_of_getElem? (i := 1299) (by decide +kernel), List.mem_of_getElem? (i := 1450) (by decide +kernel), List.mem_of_getElem? (i := 1451) (by decide +kernel)⟩
theorem lw_p53 : lw_okq (⟨"WallHarbourModel", "part", "()I"⟩, 22) := ⟨⟨by decide +kernel, by decide +kernel⟩, List.mem_of_getElem? (i := 1299) (by decide +kernel), List.mem_of_getElem? (i := 1454) (by decide +kernel), List.mem_of_getElem? (i := 1455) (by decide +kernel)⟩
theorem lw_p54 : lw_okq (⟨"WallHarbourModel", "isFigure", "()Z"⟩, 22) := ⟨⟨by decide +kernel, by decide +kernel⟩, List.mem_of_getElem? (i := 1299) (by decide +kernel), List.mem_of_getElem? (i := 1458) (by decide +kernel), List.mem_of_getElem? (i := 1459) (by decide +kernel)⟩
theorem lw_p55 : lw_okq (⟨"WallHarbourModel", "harbourLine", "()V"⟩, 22) := ⟨⟨by decide +kernel, by decide +kernel⟩, List.mem_of_getElem? (i := 1299) (by decide +kernel), List.mem_of_getElem? (i := 1470) (by decide +kernel), List.mem_of_getElem? (i := 1471) (by decide +kernel)⟩
theorem lw_p56 : lw_okq (⟨"WallHarbourModel", "bodyLine", "(IZ)V"⟩, 22) := ⟨⟨by decide +kernel, by decide +kernel⟩, List.mem_of_getElem? (i := 1299) (by decide +kernel), List.mem_of_getElem? (i := 1475) (by decide +kernel), List.mem_of_getElem? (i := 1476) (by decide +kernel)⟩
theorem lw_p57 : lw_okq (⟨"WallHarbourModel", "signed", "(II)I"⟩, 22) := ⟨⟨by decide +kernel, by decide +kernel⟩, List.mem_of_getElem? (i := 1299) (by decide +kernel), List.mem_of_getElem? (i := 1479) (by decide +kernel), List.mem_of_getElem? (i := 1480) (by decide +kernel)⟩
theorem lw_p58 : lw_okq (⟨"WallHarbourModel", "must", "(Ljava/lang/String;)V"⟩, 22) := ⟨⟨by decide +kernel, by decide +kernel⟩, List.mem_of_getElem? (i := 1299) (by decide +kernel), List.mem_of_getElem? (i := 1485) (by decide +kernel), List.mem_of_getElem? (i := 1486) (by decide +kernel)⟩
theorem lw_p59 : lw_okq (⟨"WallHarbourModel", "wallLine", "()V"⟩, 22) := ⟨⟨by decide +kernel, by decide +kernel⟩, List.mem_of_getElem? (i := 1299) (by decide +kernel), List.mem_of_getElem? (i := 1493) (by decide +kernel), List.mem_of_getElem? (i := 1494) (by decide +kernel)⟩
theorem lw_p60 : lw_okq (⟨"WallHarbourModel", "isBody", "(I)Z"⟩, 22) := ⟨⟨by decide +kernel, by decide +kernel⟩, List.mem_of_getElem? (i := 1299) (by decide +kernel), List.mem_of_getElem? (i := 1520) (by decide +kernel), List.mem_of_getElem? (i := 1521) (by decide +kernel)⟩
theorem lw_p61 : lw_okq (⟨"WallHarbourModel", "isThing", "(I)Z"⟩, 22) := ⟨⟨by decide +kernel, by decide +kernel⟩, List.mem_of_getElem? (i := 1299) (by decide +kernel), List.mem_of_getElem? (i := 1524) (by decide +kernel), List.mem_of_getElem? (i := 1525) (by decide +kernel)⟩
theorem lw_p62 : lw_okq (⟨"WallHarbourModel", "looksNow", "()V"⟩, 22) := ⟨⟨by decide +kernel, by decide +kernel⟩, List.mem_of_getElem? (i := 1299) (by decide +kernel), List.mem_of_getElem? (i := 1528) (by decide +kernel), List.mem_of_getElem? (i := 1529) (by decide +kernel)⟩
theorem lw_p63 : lw_okq (⟨"WallHarbourModel", "xOf", "(I)I"⟩, 22) := ⟨⟨by decide +kernel, by decide +kernel⟩, List.mem_of_getElem? (i := 1299) (by decide +kernel), List.mem_of_getElem? (i := 1532) (by decide +kernel), List.mem_of_getElem? (i := 1533) (by decide +kernel)⟩
def lw_privs_4 : List (MethodName × Nat) := [(⟨"WallHarbourModel", "every", "()Z"⟩, 22), (⟨"WallHarbourModel", "atom", "()Z"⟩, 22), (⟨"WallHarbourModel", "isSign", "(I)Z"⟩, 22), (⟨"WallHarbourModel", "plain", "()Z"⟩, 22), (⟨"WallHarbourModel", "sum", "()I"⟩, 22), (⟨"WallHarbourModel", "part", "()I"⟩, 22), (⟨"WallHarbourModel", "isFigure", "()Z"⟩, 22), (⟨"WallHarbourModel", "harbourLine", "()V"⟩, 22), (⟨"WallHarbourModel", "bodyLine", "(IZ)V"⟩, 22), (⟨"WallHarbourModel", "signed", "(II)I"⟩, 22), (⟨"WallHarbourModel", "must", "(Ljava/lang/String;)V"⟩, 22), (⟨"WallHarbourModel", "wallLine", "()V"⟩, 22), (⟨"WallHarbourModel", "isBody", "(I)Z"⟩, 22), (⟨"WallHarbourModel", "isThing", "(I)Z"⟩, 22), (⟨"WallHarbourModel", "looksNow", "()V"⟩, 22), (⟨"WallHarbourModel", "xOf", "(I)I"⟩, 22)]
theorem lw_r4 : ∀ q ∈ lw_privs_4, lw_okq q := List.forall_mem_cons.mpr ⟨lw_p48, List.forall_mem_cons.mpr ⟨lw_p49, List.forall_mem_cons.mpr ⟨lw_p50, List.forall_mem_cons.mpr ⟨lw_p51, List.forall_mem_cons.mpr ⟨lw_p52, List.forall_mem_cons.mpr ⟨lw_p53, List.forall_mem_cons.mpr ⟨lw_p54, List.forall_mem_cons.mpr ⟨lw_p55, List.forall_mem_cons.mpr ⟨lw_p56, List.forall_mem_cons.mpr ⟨lw_p57, List.forall_mem_cons.mpr ⟨lw_p58, List.forall_mem_cons.mpr ⟨lw_p59, List.forall_mem_cons.mpr ⟨lw_p60, List.forall_mem_cons.mpr ⟨lw_p61, List.forall_mem_cons.mpr ⟨lw_p62, List.forall_mem_cons.mpr ⟨lw_p63, fun _ h => absurd h List.not_mem_nil⟩⟩⟩⟩⟩⟩⟩⟩⟩⟩⟩⟩⟩⟩⟩⟩
theorem lw_p64 : lw_okq (⟨"WallHarbourModel", "of", "(II)I"⟩, 22) := ⟨⟨by decide +kernel, by decide +kernel⟩, List.mem_of_getElem? (i := 1299) (by decide +kernel), List.mem_of_getElem? (i := 1536) (by decide +kernel), List.mem_of_getElem? (i := 1537) (by decide +kernel)⟩
theorem lw_p65 : lw_okq (⟨"WallHarbourModel", "lowOf", "(I)I"⟩, 22) := ⟨⟨by decide +kernel, by decide +kernel⟩, List.mem_of_getElem? (i := 1299) (by decide +kernel), List.mem_of_getElem? (i := 1540) (by decide +kernel), List.mem_of_getElem? (i := 1541) (by decide +kernel)⟩
theorem lw_p66 : lw_okq (⟨"WallHarbourModel", "tideNow", "()I"⟩, 22) := ⟨⟨by decide +kernel, by decide +kernel⟩, List.mem_of_getElem? (i := 1299) (by decide +kernel), List.mem_of_getElem? (i := 1544) (by decide +kernel), List.mem_of_getElem? (i := 1545) (by decide +kernel)⟩
theorem lw_p67 : lw_okq (⟨"WallHarbourModel", "highOf", "(I)I"⟩, 22) := ⟨⟨by decide +kernel, by decide +kernel⟩, List.mem_of_getElem? (i := 1299) (by decide +kernel), List.mem_of_getElem? (i := 1548) (by decide +kernel), List.mem_of_getElem? (i := 1549) (by decide +kernel)⟩
theorem lw_p68 : lw_okq (⟨"WallHarbourModel", "isThere", "(I)Z"⟩, 22) := ⟨⟨by decide +kernel, by decide +kernel⟩, List.mem_of_getElem? (i := 1299) (by decide +kernel), List.mem_of_getElem? (i := 1552) (by decide +kernel), List.mem_of_getElem? (i := 1553) (by decide +kernel)⟩
theorem lw_p69 : lw_okq (⟨"WallHarbourModel", "isHole", "(I)Z"⟩, 22) := ⟨⟨by decide +kernel, by decide +kernel⟩, List.mem_of_getElem? (i := 1299) (by decide +kernel), List.mem_of_getElem? (i := 1560) (by decide +kernel), List.mem_of_getElem? (i := 1561) (by decide +kernel)⟩
theorem lw_p70 : lw_okq (⟨"WallHarbourModel", "looksBy", "(I)V"⟩, 22) := ⟨⟨by decide +kernel, by decide +kernel⟩, List.mem_of_getElem? (i := 1299) (by decide +kernel), List.mem_of_getElem? (i := 1564) (by decide +kernel), List.mem_of_getElem? (i := 1565) (by decide +kernel)⟩
theorem lw_p71 : lw_okq (⟨"WallHarbourModel", "above", "(IIIZ)I"⟩, 22) := ⟨⟨by decide +kernel, by decide +kernel⟩, List.mem_of_getElem? (i := 1299) (by decide +kernel), List.mem_of_getElem? (i := 1568) (by decide +kernel), List.mem_of_getElem? (i := 1569) (by decide +kernel)⟩
theorem lw_p72 : lw_okq (⟨"WallHarbourModel", "sees", "(I)Z"⟩, 22) := ⟨⟨by decide +kernel, by decide +kernel⟩, List.mem_of_getElem? (i := 1299) (by decide +kernel), List.mem_of_getElem? (i := 1582) (by decide +kernel), List.mem_of_getElem? (i := 1583) (by decide +kernel)⟩
theorem lw_p73 : lw_okq (⟨"WallHarbourModel", "isPointSeen", "(IIII)Z"⟩, 22) := ⟨⟨by decide +kernel, by decide +kernel⟩, List.mem_of_getElem? (i := 1299) (by decide +kernel), List.mem_of_getElem? (i := 1586) (by decide +kernel), List.mem_of_getElem? (i := 1587) (by decide +kernel)⟩
theorem lw_p74 : lw_okq (⟨"WallHarbourModel", "isLight", "()Z"⟩, 22) := ⟨⟨by decide +kernel, by decide +kernel⟩, List.mem_of_getElem? (i := 1299) (by decide +kernel), List.mem_of_getElem? (i := 1590) (by decide +kernel), List.mem_of_getElem? (i := 1591) (by decide +kernel)⟩
theorem lw_p75 : lw_okq (⟨"WallHarbourModel", "isOnWall", "(III)Z"⟩, 22) := ⟨⟨by decide +kernel, by decide +kernel⟩, List.mem_of_getElem? (i := 1299) (by decide +kernel), List.mem_of_getElem? (i := 1594) (by decide +kernel), List.mem_of_getElem? (i := 1595) (by decide +kernel)⟩
theorem lw_p76 : lw_okq (⟨"WallHarbourModel", "hiderOf", "(IIII)I"⟩, 22) := ⟨⟨by decide +kernel, by decide +kernel⟩, List.mem_of_getElem? (i := 1299) (by decide +kernel), List.mem_of_getElem? (i := 1598) (by decide +kernel), List.mem_of_getElem? (i := 1599) (by decide +kernel)⟩
theorem lw_p77 : lw_okq (⟨"WallHarbourModel", "hides", "(IIII)Z"⟩, 22) := ⟨⟨by decide +kernel, by decide +kernel⟩, List.mem_of_getElem? (i := 1299) (by decide +kernel), List.mem_of_getElem? (i := 1602) (by decide +kernel), List.mem_of_getElem? (i := 1603) (by decide +kernel)⟩
theorem lw_p78 : lw_okq (⟨"WallHarbourModel", "chargeOf", "(I)I"⟩, 22) := ⟨⟨by decide +kernel, by decide +kernel⟩, List.mem_of_getElem? (i := 1299) (by decide +kernel), List.mem_of_getElem? (i := 1614) (by decide +kernel), List.mem_of_getElem? (i := 1615) (by decide +kernel)⟩
theorem lw_p79 : lw_okq (⟨"WallHarbourModel", "isSeenBySome", "(I)Z"⟩, 22) := ⟨⟨by decide +kernel, by decide +kernel⟩, List.mem_of_getElem? (i := 1299) (by decide +kernel), List.mem_of_getElem? (i := 1618) (by decide +kernel), List.mem_of_getElem? (i := 1619) (by decide +kernel)⟩
def lw_privs_5 : List (MethodName × Nat) := [(⟨"WallHarbourModel", "of", "(II)I"⟩, 22), (⟨"WallHarbourModel", "lowOf", "(I)I"⟩, 22), (⟨"WallHarbourModel", "tideNow", "()I"⟩, 22), (⟨"WallHarbourModel", "highOf", "(I)I"⟩, 22), (⟨"WallHarbourModel", "isThere", "(I)Z"⟩, 22), (⟨"WallHarbourModel", "isHole", "(I)Z"⟩, 22), (⟨"WallHarbourModel", "looksBy", "(I)V"⟩, 22), (⟨"WallHarbourModel", "above", "(IIIZ)I"⟩, 22), (⟨"WallHarbourModel", "sees", "(I)Z"⟩, 22), (⟨"WallHarbourModel", "isPointSeen", "(IIII)Z"⟩, 22), (⟨"WallHarbourModel", "isLight", "()Z"⟩, 22), (⟨"WallHarbourModel", "isOnWall", "(III)Z"⟩, 22), (⟨"WallHarbourModel", "hiderOf", "(IIII)I"⟩, 22), (⟨"WallHarbourModel", "hides", "(IIII)Z"⟩, 22), (⟨"WallHarbourModel", "chargeOf", "(I)I"⟩, 22), (⟨"WallHarbourModel", "isSeenBySome", "(I)Z"⟩, 22)]
theorem lw_r5 : ∀ q ∈ lw_privs_5, lw_okq q := List.forall_mem_cons.mpr ⟨lw_p64, List.forall_mem_cons.mpr ⟨lw_p65, List.forall_mem_cons.mpr ⟨lw_p66, List.forall_mem_cons.mpr ⟨lw_p67, List.forall_mem_cons.mpr ⟨lw_p68, List.forall_mem_cons.mpr ⟨lw_p69, List.forall_mem_cons.mpr ⟨lw_p70, List.forall_mem_cons.mpr ⟨lw_p71, List.forall_mem_cons.mpr ⟨lw_p72, List.forall_mem_cons.mpr ⟨lw_p73, List.forall_mem_cons.mpr ⟨lw_p74, List.forall_mem_cons.mpr ⟨lw_p75, List.forall_mem_cons.mpr ⟨lw_p76, List.forall_mem_cons.mpr ⟨lw_p77, List.forall_mem_cons.mpr ⟨lw_p78, List.forall_mem_cons.mpr ⟨lw_p79, fun _ h => absurd h List.not_mem_nil⟩⟩⟩⟩⟩⟩⟩⟩⟩⟩⟩⟩⟩⟩⟩⟩
theorem lw_p80 : lw_okq (⟨"WallHarbourModel", "adds", "(IIIII)I"⟩, 22) := ⟨⟨by decide +kernel, by decide +kernel⟩, List.mem_of_getElem? (i := 1299) (by decide +kernel), List.mem_of_getElem? (i := 1634) (by decide +kernel), List.mem_of_getElem? (i := 1635) (by decide +kernel)⟩
theorem lw_p81 : lw_okq (⟨"WallHarbourModel", "isTracing", "(I)Z"⟩, 22) := ⟨⟨by decide +kernel, by decide +kernel⟩, List.mem_of_getElem? (i := 1299) (by decide +kernel), List.mem_of_getElem? (i := 1650) (by decide +kernel), List.mem_of_getElem? (i := 1651) (by decide +kernel)⟩
theorem lw_p82 : lw_okq (⟨"WallHarbourModel", "whichOf", "(I)I"⟩, 22) := ⟨⟨by decide +kernel, by decide +kernel⟩, List.mem_of_getElem? (i := 1299) (by decide +kernel), List.mem_of_getElem? (i := 1654) (by decide +kernel), List.mem_of_getElem? (i := 1655) (by decide +kernel)⟩
theorem lw_p83 : lw_okq (⟨"WallHarbourModel", "fits", "(II)Z"⟩, 22) := ⟨⟨by decide +kernel, by decide +kernel⟩, List.mem_of_getElem? (i := 1299) (by decide +kernel), List.mem_of_getElem? (i := 1658) (by decide +kernel), List.mem_of_getElem? (i := 1659) (by decide +kernel)⟩
theorem lw_p84 : lw_okq (⟨"WallHarbourModel", "traced", "(II)I"⟩, 22) := ⟨⟨by decide +kernel, by decide +kernel⟩, List.mem_of_getElem? (i := 1299) (by decide +kernel), List.mem_of_getElem? (i := 1662) (by decide +kernel), List.mem_of_getElem? (i := 1663) (by decide +kernel)⟩
theorem lw_p85 : lw_okq (⟨"WallHarbourModel", "isAt", "(IIIII)Z"⟩, 22) := ⟨⟨by decide +kernel, by decide +kernel⟩, List.mem_of_getElem? (i := 1299) (by decide +kernel), List.mem_of_getElem? (i := 1666) (by decide +kernel), List.mem_of_getElem? (i := 1667) (by decide +kernel)⟩
theorem lw_p86 : lw_okq (⟨"WallHarbourModel", "boatSeen", "(II)I"⟩, 22) := ⟨⟨by decide +kernel, by decide +kernel⟩, List.mem_of_getElem? (i := 1299) (by decide +kernel), List.mem_of_getElem? (i := 1698) (by decide +kernel), List.mem_of_getElem? (i := 1699) (by decide +kernel)⟩
def lw_privs_6 : List (MethodName × Nat) := [(⟨"WallHarbourModel", "adds", "(IIIII)I"⟩, 22), (⟨"WallHarbourModel", "isTracing", "(I)Z"⟩, 22), (⟨"WallHarbourModel", "whichOf", "(I)I"⟩, 22), (⟨"WallHarbourModel", "fits", "(II)Z"⟩, 22), (⟨"WallHarbourModel", "traced", "(II)I"⟩, 22), (⟨"WallHarbourModel", "isAt", "(IIIII)Z"⟩, 22), (⟨"WallHarbourModel", "boatSeen", "(II)I"⟩, 22)]
theorem lw_r6 : ∀ q ∈ lw_privs_6, lw_okq q := List.forall_mem_cons.mpr ⟨lw_p80, List.forall_mem_cons.mpr ⟨lw_p81, List.forall_mem_cons.mpr ⟨lw_p82, List.forall_mem_cons.mpr ⟨lw_p83, List.forall_mem_cons.mpr ⟨lw_p84, List.forall_mem_cons.mpr ⟨lw_p85, List.forall_mem_cons.mpr ⟨lw_p86, fun _ h => absurd h List.not_mem_nil⟩⟩⟩⟩⟩⟩⟩
def lw_privs : List (MethodName × Nat) := lw_privs_1 ++ (lw_privs_2 ++ (lw_privs_3 ++ (lw_privs_4 ++ (lw_privs_5 ++ (lw_privs_6)))))
def lw_tbl : List Cond := k2_sels lw_privs ++ tables_1
theorem lw_privs_ok : ∀ q ∈ lw_privs, lw_okq q := by
  show ∀ q ∈ lw_privs_1 ++ (lw_privs_2 ++ (lw_privs_3 ++ (lw_privs_4 ++ (lw_privs_5 ++ (lw_privs_6))))), lw_okq q
  exact List.forall_mem_append.mpr ⟨lw_r1, List.forall_mem_append.mpr ⟨lw_r2, List.forall_mem_append.mpr ⟨lw_r3, List.forall_mem_append.mpr ⟨lw_r4, List.forall_mem_append.mpr ⟨lw_r5, lw_r6⟩⟩⟩⟩⟩
-- ===== end of PART A; then your names; then what follows =====
section VXA
/-- where a method has thrown q: the class by its name, the cell, what was written, the world -/
def vx_T (XC : String → State → State → Prop) (st : State) (q : Addr) (t : State) (mc ms : Nat) (free : Addr → Prop) : Prop :=
  ∃ (E : String) (ce : Cell) (L : List Loc), XC E st t ∧ t.heap[q]? = some ce ∧ ce.vm = .none ∧ st.vm.findClass E = some ce.cls ∧ st.WarmedH t.vm ∧ st.sameButNew ({ t with vm := st.vm } : State) L mc ms ∧ ∀ z ∈ L, free z.base
def vx_Q (Qc : Array Value → State → Outcome → State → Prop) (XC : String → State → State → Prop) (mc ms : Nat) (free : Addr → Prop) : Array Value → State → Outcome → State → Prop := fun a st o t =>
  (Qc a st o t ∧ ∃ L, FrameEnd st o t L mc ms ∧ ∀ q ∈ L, free q.base) ∨ ∃ q, o = .threw q ∧ vx_T XC st q t mc ms free
section Payer
variable {l : Launch} {R : Room} {p : Program} {e : Env} {below : List Frame} {s : State} {sargs : Array Value} {y : MethodName} {len W9 : Nat}
end Payer
section Calls
variable {p : Program} {l : Launch} {e : Env} {R : Room} {s : State} {m : MethodId} {args : Array Value} {below : List Frame} {meth : Method} {c : Code} {T : State} {locs : List Loc} {cells slots : Nat}
end Calls
section Runs
variable {p : Program} {l : Launch} {e : Env} {R : Room} {s : State} {m : MethodId} {args : Array Value} {below : List Frame} {meth : Method} {c : Code} {H : Heap} {locs : List Loc} {cells slots : Nat}
variable {y : MethodName} {bytes cc : ByteArray} {maxL nL mc ms n index : Nat} {ret : Option FieldType} {ws : List Cond} {rm : Room} {Pc : Array Value → State → Prop} {Qc : Array Value → State → Outcome → State → Prop} {XC : String → State → State → Prop} {free : Addr → Prop} {Ts : List Cond} {own C : String} {b : Addr} {As rest : List Value} {g : JFrame}
end Runs
section Rows
variable {p : Program} {l : Launch} {e : Env} {R : Room} {s : State} {m : MethodId} {args : Array Value} {below : List Frame} {meth : Method} {c : Code} {H : Heap} {locs : List Loc} {cells slots : Nat} {Q : State → Prop}
variable {mc ms : Nat} {free : Addr → Prop} {A0 A1 : Nat → Prop} {H0 : Heap} {a : Array Value} {pc : Nat} {ls : Array Slot} {st0 rest : List Value}
end Rows
section Ends
variable {p : Program} {l : Launch} {e : Env} {R : Room} {s : State} {m : MethodId} {args : Array Value} {below : List Frame} {meth : Method} {c : Code} {H : Heap} {locs : List Loc} {cells slots : Nat} {Q : State → Prop}
variable {mc ms : Nat} {free : Addr → Prop} {A0 A1 : Nat → Prop} {H0 : Heap} {a : Array Value} {ls : Array Slot} {st0 rest : List Value}
variable {Qc : Array Value → State → Outcome → State → Prop} {XC : String → State → State → Prop}
/-- what a body that may throw owes at its end -/
def vx_MQ (below : List Frame) (Qc : Array Value → State → Outcome → State → Prop) (XC : String → State → State → Prop) (a : Array Value) (s : State) (mc ms : Nat) (free : Addr → Prop) : State → Prop := fun t =>
  ∃ o, t.status = .running ∧ Ended t below o ∧ vx_Q Qc XC mc ms free a s o t
theorem vx_frame {U : State} {k n : Nat} (h : s.sameButNew ({ U with vm := s.vm } : State) locs k n) : s.heap.size ≤ U.heap.size ∧ ∀ q : Nat, q < s.heap.size → (∀ z ∈ locs, z.base ≠ q) → U.heap[q]? = s.heap[q]? := by
  obtain ⟨-, h2, -, -, -, h6⟩ := h
  refine ⟨h2, fun q hq hz => ?_⟩
  obtain ⟨c9, e1, e2, e3, e4⟩ := h6 q _ (Array.getElem?_eq_getElem hq)
  have hs : c9.slots = (s.heap[q]).slots := Array.ext_getElem? fun i => e4 i fun hm => hz _ hm rfl
  have h9 : c9 = s.heap[q] := by
    rw [hs] at e2
    exact e2
  have e5 : U.heap[q]? = some c9 := e1
  rw [e5, h9, Array.getElem?_eq_getElem hq]
/-- the words of a throw but the four that speak of the heap -/
def vx_no (w : Cond) : Bool := decide (w ≠ .isRef (.static Bundle.tN "UNASSIGNED_STACK" Bundle.steD)) && decide (w ≠ .isRef (.static Bundle.tN "SUPPRESSED_SENTINEL" Bundle.listD)) && decide (w ≠ .laysStatic Bundle.tN "UNASSIGNED_STACK" Bundle.steD) && decide (w ≠ .laysStatic Bundle.tN "SUPPRESSED_SENTINEL" Bundle.listD)
def vx_at0 (own : String) (ic : Nat) (X : String) (names : List String) : List Cond := (Bundle.ownAtoms0 own ic X names).filter vx_no
def vx_atS (own : String) (ic : Nat) (X : String) (names : List String) : List Cond := (Bundle.ownAtoms own ic X names).filter vx_no
/-- a word that the tables alone decide, or a good one -/
def vx_ot (w : Cond) : Bool := w.onTables || goodWord w
theorem vx_ot_at {args a' : Array Value} {s U : State} {w : Cond} (hW : s.WarmedH U.vm) (hvm : s.vm = U.vm) (hg : vx_ot w = true) (h : w.before args s = true) : w.before a' U = true := by
  simp only [vx_ot, Bool.or_eq_true] at hg
  rcases hg with hg | hg
  · exact va_tabs hg hvm h
  · exact word_at hW (good_of_word hg) h
theorem vx_own {args : Array Value} {s : State} {L : List Cond} (h1 : ∀ w ∈ L.filter vx_no, w.before args s = true)
    (hU : (Cond.isRef (.static Bundle.tN "UNASSIGNED_STACK" Bundle.steD)).before args s = true) (hN : (Cond.isRef (.static Bundle.tN "SUPPRESSED_SENTINEL" Bundle.listD)).before args s = true)
    (lU : (Cond.laysStatic Bundle.tN "UNASSIGNED_STACK" Bundle.steD).before args s = true) (lN : (Cond.laysStatic Bundle.tN "SUPPRESSED_SENTINEL" Bundle.listD).before args s = true) : ∀ w ∈ L, w.before args s = true := by
  intro w hw
  by_cases e1 : w = .isRef (.static Bundle.tN "UNASSIGNED_STACK" Bundle.steD)
  · rw [e1]; exact hU
  · by_cases e2 : w = .isRef (.static Bundle.tN "SUPPRESSED_SENTINEL" Bundle.listD)
    · rw [e2]; exact hN
    · by_cases e3 : w = .laysStatic Bundle.tN "UNASSIGNED_STACK" Bundle.steD
      · rw [e3]; exact lU
      · by_cases e4 : w = .laysStatic Bundle.tN "SUPPRESSED_SENTINEL" Bundle.listD
        · rw [e4]; exact lN
        · exact h1 w (List.mem_filter.mpr ⟨hw, by unfold vx_no; rw [decide_eq_true e1, decide_eq_true e2, decide_eq_true e3, decide_eq_true e4]; rfl⟩)
/-- where a static field lies, its class's statics cell in H -/
def vx_L (C n d : String) (A : Nat → Prop) (U : State) (H : Heap) : Prop := ∃ (c : ClassId) (k : Class) (i : Nat) (f : Field) (a : Nat) (cell : Cell), U.vm.findClass C = some c ∧ U.fieldFound? C n d = some (c, k, i, f) ∧ f.isStatic = true ∧ k.statics = some a ∧ H[a]? = some cell ∧ cell.vm.isStatics = true ∧ cell.cls = c ∧ f.slot < cell.slots.size ∧ k.staticTypes[f.slot]? = some f.type ∧ ¬ A a
theorem vx_L.moved {C n d : String} {A : Nat → Prop} {u U : State} {H : Heap} (hvm : u.vm.Alike U.vm) (h : vx_L C n d A u H) : vx_L C n d A U H := by
  obtain ⟨c, k, i, f, a, cell, h1, h2, h3, h4, h5, h6, h7, h8, h9, h10⟩ := h
  obtain ⟨k', hi', he⟩ := State.fieldFound?_setVm hvm h2
  exact ⟨c, k', i, f, a, cell, by rw [hvm.findClass]; exact h1, hi', h3, by rw [he]; exact h4, h5, h6, h7, h8, by rw [he]; exact h9, h10⟩
theorem vx_L.kept {C n d : String} {A : Nat → Prop} {U : State} {H H1 : Heap} (h : vx_L C n d A U H) (hq : ∀ a : Nat, a < H.size → ¬ A a → H1[a]? = H[a]?) : vx_L C n d A U H1 := by
  obtain ⟨c, k, i, f, a, cell, h1, h2, h3, h4, h5, h6, h7, h8, h9, h10⟩ := h
  exact ⟨c, k, i, f, a, cell, h1, h2, h3, h4, by rw [hq a (Array.getElem?_eq_some_iff.mp h5).1 h10]; exact h5, h6, h7, h8, h9, h10⟩
theorem vx_L.narrow {C n d : String} {A B : Nat → Prop} {U : State} {H : Heap} (h : vx_L C n d A U H) (hAB : ∀ q, B q → A q) : vx_L C n d B U H := by
  obtain ⟨c, k, i, f, a, cell, h1, h2, h3, h4, h5, h6, h7, h8, h9, h10⟩ := h
  exact ⟨c, k, i, f, a, cell, h1, h2, h3, h4, h5, h6, h7, h8, h9, fun z => h10 (hAB _ z)⟩
theorem vx_L.word {C n d : String} {A : Nat → Prop} {s : State} {args : Array Value} (h : vx_L C n d A s s.heap) : (Cond.laysStatic C n d).before args s = true := by
  obtain ⟨c, k, i, f, a, cell, h1, h2, h3, h4, h5, h6, h7, h8, h9, -⟩ := h
  show (Cond.laysStatic C n d).holds args s none s [] = true
  exact Cond.laysStatic_of h1 h2 h3 h4 h5 h6 h7 h8 h9
/-- .. and what it holds: null or some reference -/
def vx_Zq (C n d : String) (A : Nat → Prop) (U : State) (H : Heap) : Prop := va_Zq C n d A U H ∧ vx_L C n d A U H
theorem vx_Zq.moved {C n d : String} {A : Nat → Prop} {u U : State} {H : Heap} (hvm : u.vm.Alike U.vm) (h : vx_Zq C n d A u H) : vx_Zq C n d A U H := ⟨va_Zq.moved hvm h.1, vx_L.moved hvm h.2⟩
theorem vx_Zq.kept {C n d : String} {A : Nat → Prop} {U : State} {H H1 : Heap} (h : vx_Zq C n d A U H) (hq : ∀ a : Nat, a < H.size → ¬ A a → H1[a]? = H[a]?) : vx_Zq C n d A U H1 := ⟨va_Zq.kept h.1 hq, vx_L.kept h.2 hq⟩
theorem vx_Zq.narrow {C n d : String} {A B : Nat → Prop} {U : State} {H : Heap} (h : vx_Zq C n d A U H) (hAB : ∀ q, B q → A q) : vx_Zq C n d B U H := ⟨va_Zq.narrow h.1 hAB, vx_L.narrow h.2 hAB⟩
theorem vx_Zqof {args : Array Value} {s : State} {C n d : String} {A : Nat → Prop} (hl : (Cond.laysStatic C n d).before args s = true) (hini : (Cond.initialized C).before args s = true) (h : (Cond.isRef (.static C n d)).before args s = true) (hA : ∀ a : Nat, a < s.heap.size → ¬ A a) : vx_Zq C n d A s s.heap := by
  refine ⟨va_Zqof hl hini h hA, ?_⟩
  obtain ⟨c, k, i, f, a, cell, h1, h2, h3, h4, h5, h6, h7, h8, h9⟩ := Cond.laysStatic_spec hl
  exact ⟨c, k, i, f, a, cell, h1, h2, h3, h4, h5, h6, h7, h8, h9, hA a (Array.getElem?_eq_some_iff.mp h5).1⟩
theorem vx_isRef {C n d : String} {v : Value} {A : Nat → Prop} {s : State} {args : Array Value} (h : va_Z C n d v A s s.heap) (hv : v.isRef = true) : (Cond.isRef (.static C n d)).before args s = true := by
  obtain ⟨cf, kf, fi, f, a, cell, h1, h2, h3, h4, h5, h6, h7, -⟩ := h
  have he : (Term.static C n d).eval args s none [] s = some v := by
    simp [Term.eval, State.fieldNamed?, h1, h2, h4, h5, h6, h7]
  simp only [Cond.before, Cond.holds, Cond.value, he]
  cases v <;> simp_all [Value.isRef]
theorem vx_isRefq {C n d : String} {A : Nat → Prop} {s : State} {args : Array Value} (h : va_Zq C n d A s s.heap) : (Cond.isRef (.static C n d)).before args s = true := by
  rcases h with h | ⟨t, h⟩
  · exact vx_isRef h rfl
  · exact vx_isRef h rfl
/-- the same frame, seen from here: as if the method were called anew in this heap -/
theorem vx_rebase {T : State} (X : Stand p l e R s m args below meth c T locs cells slots) {R' : Room} (hf : R'.frames ≤ R.frames) (hl : R'.locals ≤ R.locals) (hc : cells + R'.cells ≤ R.cells) (hs : slots + R'.slots ≤ R.slots) :
    Stand p l e R' ((T.setVm s.vm).setFrames (.invoking m args :: below)) m args below meth c T [] 0 0 := by
  have htop : (T.setVm s.vm).topJava?.isSome := X.here.top
  have hF : ((T.setVm s.vm).setFrames (.invoking m args :: below)).frames = .invoking m args :: below := State.frames_setFrames _ (State.cur_lt_of_top htop)
  obtain ⟨g₀, hg0⟩ := Option.isSome_iff_exists.mp htop
  obtain ⟨r, hr⟩ := State.topJava?_eq_some.mp hg0
  have hl9 : e.platform.stackLimits (T.setVm s.vm).me = e.platform.stackLimits s.me := X.limits
  have hb9 : (T.setVm s.vm).me.stackBytes = s.me.stackBytes := X.bytes
  refine ⟨X.admits, X.cas, X.clock, hF, ?_, X.hears, X.method, X.code, X.here, X.tail, X.warmed, ?_, ?_, ?_⟩
  · have h := X.room
    have hU : ((T.setVm s.vm).setFrames (.invoking m args :: below)).localsInUse = s.localsInUse := by
      rw [State.localsInUse_invoking hF (meth := meth) (c := c) X.method X.code, State.localsInUse_invoking X.frames X.method X.code]
    simp only [State.hasRoom, Bool.and_eq_true, decide_eq_true_eq] at h ⊢
    obtain ⟨⟨⟨⟨h1, h2, h3, h4, h5, h6⟩, h7⟩, h8⟩, h9⟩ := h
    rw [X.frames, List.length_cons] at h2 h3
    have q1 := X.heapSize
    have q2 := X.used
    simp only [hF, hU, List.length_cons, State.stackLimits_setFrames, State.stackBytes_setFrames, hl9, hb9]
    refine ⟨⟨⟨⟨by omega, by omega, by omega, by omega, by omega, h6⟩, ?_⟩, ?_⟩, X.book⟩
    · show T.heap.size + R'.cells ≤ e.platform.maxCells
      omega
    · show T.slotsUsed + R'.slots ≤ e.platform.maxSlots
      omega
  · rw [State.stackLimits_setFrames]; rfl
  · rw [State.stackBytes_setFrames]; rfl
  · refine ⟨?_, Nat.le_refl _, Nat.le_refl _, ?_, ?_, fun a c9 h9 => ⟨c9, h9, rfl, rfl, fun _ _ => rfl⟩⟩
    · obtain ⟨t, ht, -⟩ := State.frames_cons hr
      show T.setVm s.vm = { ((T.setVm s.vm).setFrames (.invoking m args :: below)).setFrames (T.setVm s.vm).frames with heap := T.heap, slotsUsed := T.slotsUsed }
      rw [State.setFrames_setFrames, State.setFrames_self ht]
      rfl
    · show T.slotsUsed = T.slotsUsed + ((T.heap.toList.drop T.heap.size).map (·.slots.size)).sum
      rw [List.drop_eq_nil_of_le (Nat.le_of_eq Array.length_toList)]
      rfl
    · show ((T.heap.toList.drop T.heap.size).map (·.slots.size)).sum ≤ 0
      rw [List.drop_eq_nil_of_le (Nat.le_of_eq Array.length_toList)]
      exact Nat.le_refl _
/-- 'throw new E("text")': new; dup; ldc; invokespecial; athrow -/
theorem vx_throwS {cc : ByteArray} {pc : Nat} (hexec : p.tables.exec = Jvm.exec) (hb : c.code = cc) (hl : l.stackTraces = false) {own cls text : String} {names : List String} {ik is ic mc ms sa : Nat} {A : Nat → Prop}
    (hown : s.vm.findClass own = some m.cls) (hcls : Bundle.fit cls = true) (hnames : ∀ n ∈ names, Bundle.fit n = true)
    (hk : (Cond.classLink own ik cls).before args s = true) (hini : (Cond.initialized cls).before args s = true) (hstr : vk_R own is text sa s) (hat : ∀ w ∈ vx_atS own ic cls names, w.before args s = true)
    (hgood : ∀ w ∈ Cond.classLink own ik cls :: Cond.initialized cls :: vx_atS own ic cls names, vx_ot w = true)
    (hU : vx_Zq Bundle.tN "UNASSIGNED_STACK" Bundle.steD A s s.heap) (hN : vx_Zq Bundle.tN "SUPPRESSED_SENTINEL" Bundle.listD A s s.heap) (hS : va_S A s.heap H locs) (hsize : ls.size = c.maxLocals)
    (d0 : decode cc pc = .ok (.new ik, 3)) (d3 : decode cc (pc + 3) = .ok (.dup, 1)) (d4 : decode cc (pc + 4) = .ok (.ldc is, 2)) (d6 : decode cc (pc + 6) = .ok (.invokespecial ic, 3)) (d9 : decode cc (pc + 9) = .ok (.athrow, 1))
    (hout : ∀ x ∈ c.exceptionTable.toList, covers x (pc + 9) = false)
    (hRframes : names.length + 3 < R.frames) (hRlocals : (rest.map fun v => v.category).sum + (13 * (names.length + 1) + 43) ≤ R.locals) (hRcells : cells + 1 ≤ R.cells) (hRslots : slots + 6 ≤ R.slots) (hlocks : meth.locks = false)
    (hx : ∀ t : State, s.vm.Alike t.vm → H.size ≤ t.heap.size → (∀ q : Nat, q < H.size → t.heap[q]? = H[q]?) → XC cls s t)
    (hf : ∀ z ∈ locs, free z.base) (hc : cells + 1 ≤ mc) (hs : slots + 6 ≤ ms) :
    W p l e R s m args below meth c H locs cells slots (vx_MQ below Qc XC args s mc ms free) (F0 m pc ls rest) := by
  intro T hT X
  have htr : e.platform.stackTraces = false := (show e.platform.stackTraces = l.stackTraces by rw [X.admits.platform]).trans hl
  have Y := vx_rebase X (R' := { frames := R.frames, locals := R.locals, cells := 1, slots := 6 }) (Nat.le_refl _) (Nat.le_refl _) hRcells hRslots
  obtain ⟨s', hA⟩ : ∃ z, z = (T.setVm s.vm).setFrames (.invoking m args :: below) := ⟨_, rfl⟩
  rw [← hA] at Y
  have hvm : s'.vm = s.vm := by rw [hA]; rfl
  have hhp : s'.heap = H := by rw [hA]; exact hT
  have hW0 : s.WarmedH s'.vm := by rw [hvm]; exact State.WarmedH.refl s
  have hat' : ∀ w ∈ vx_atS own ic cls names, w.before args s' = true := fun w hw => vx_ot_at hW0 hvm.symm (hgood w (List.mem_cons_of_mem _ (List.mem_cons_of_mem _ hw))) (hat w hw)
  have hk' : (Cond.classLink own ik cls).before args s' = true := vx_ot_at hW0 hvm.symm (hgood _ List.mem_cons_self) hk
  have hini' : (Cond.initialized cls).before args s' = true := vx_ot_at hW0 hvm.symm (hgood _ (List.mem_cons_of_mem _ List.mem_cons_self)) hini
  have hU' : vx_Zq Bundle.tN "UNASSIGNED_STACK" Bundle.steD A s' s'.heap := by rw [hhp]; exact vx_Zq.moved hW0.alike (hU.kept hS.2.1)
  have hN' : vx_Zq Bundle.tN "SUPPRESSED_SENTINEL" Bundle.listD A s' s'.heap := by rw [hhp]; exact vx_Zq.moved hW0.alike (hN.kept hS.2.1)
  have h : ∀ w ∈ Bundle.ownAtoms own ic cls names, w.before args s' = true := vx_own hat' (vx_isRefq hU'.1) (vx_isRefq hN'.1) hU'.2.word hN'.2.word
  have hown' : s'.vm.findClass own = some m.cls := by rw [hvm]; exact hown
  have hins : (Cond.instantiable cls 6).before args s' = true := h _ (by simp [Bundle.ownAtoms])
  obtain ⟨vm₁, cX, kX, hfX, hkX, -, -, X₁, st1⟩ := Y.newCold hexec (own := own) (C := cls) (index := ik) (n := 6) hown' hk' hins hini'
    (g := F0 m pc ls rest) rfl (by rw [hb]; exact d0) (Nat.le_refl _) (Nat.le_refl _)
  generalize hT1 : (T.setVm vm₁).pushCell { cls := cX, slots := kX.instanceTypes.map defaultValue, vm := .none } = T1 at X₁ st1
  have hcat : (Value.ref T.heap.size).category = 1 := rfl
  have hcellA : T1.heap[T.heap.size]? = some (freshCell cX kX) := by rw [← hT1]; exact State.heap_pushCell_size _ _
  have d3' : decode c.code (pc + 3) = .ok (.dup, 1) := by rw [hb]; exact d3
  have d4' : decode c.code (pc + 4) = .ok (.ldc is, 2) := by rw [hb]; exact d4
  have hstr' : vk_R own is text sa s' := vk_R.warm hW0 hstr
  obtain ⟨U, hsteps, hrun, hend, hW, hsame, ce, hce, hO⟩ := X₁.ctorThrowS hexec htr (own := own) (cls := cls) (names := names) (ic := ic) hown' hcls hnames h (fun x hx => nomatch hx) hfX hkX hcellA (by rw [hhp, hT]; exact Nat.le_refl _) (msg := .ref sa) rfl
    (g := { method := m, pc := pc + 6, locals := ls, stack := .ref sa :: .ref T.heap.size :: .ref T.heap.size :: rest, locked := none }) rfl hsize rfl rfl (rest := rest) rfl
    (by rw [hb]; exact d6) (by rw [hb]; exact d9) hout hRframes (by simp only [List.map_cons, List.sum_cons, hcat]; omega) hlocks
  obtain ⟨f1, f2⟩ := vx_frame hsame
  rw [hhp] at f1 f2
  have hWs : s.WarmedH U.vm := State.WarmedH.trans hW0 hW
  have hcl : s.vm.findClass cls = some ce.cls := by
    have h9 := hO.cls
    rw [hvm] at h9
    exact h9
  have hall : s.sameButNew ({ U with vm := s.vm } : State) locs mc ms := by
    subst hA
    obtain ⟨e1, e2⟩ := hsame
    rw [State.setFrames_setFrames] at e1
    have h2 : (T.setVm s.vm).sameButNew ({ U with vm := s.vm } : State) [] (0 + 1) (0 + 6) := ⟨e1, e2⟩
    have h3 := X.same.trans h2
    rw [List.append_nil] at h3
    exact h3.mono hc hs
  refine ⟨U, ?_, .threw T.heap.size, hrun, hend, Or.inr ⟨T.heap.size, rfl, cls, ce, locs, hx U hWs.alike f1 (fun q hq => f2 q hq (fun z hz => nomatch hz)), hce, hO.vm, hcl, hWs, hall, hf⟩⟩
  refine st1 _ ?_
  show Steps p.tables e below (T1.setTop { method := m, pc := pc + 3, locals := ls, stack := .ref T.heap.size :: rest, locked := none }) _
  jvm_step X₁.here [X₁.here.top, hexec, d3', Value.category]
  exact X₁.ldcString hexec (own := own) (text := text) (index := is) (a := sa) hown' hstr'.1 hstr'.2
    (g := { method := m, pc := pc + 4, locals := ls, stack := .ref T.heap.size :: .ref T.heap.size :: rest, locked := none }) rfl d4' _ hsteps
/-- 'throw new E("text")', the text by a wide index -/
theorem vx_throwSW {cc : ByteArray} {pc : Nat} (hexec : p.tables.exec = Jvm.exec) (hb : c.code = cc) (hl : l.stackTraces = false) {own cls text : String} {names : List String} {ik is ic mc ms sa : Nat} {A : Nat → Prop}
    (hown : s.vm.findClass own = some m.cls) (hcls : Bundle.fit cls = true) (hnames : ∀ n ∈ names, Bundle.fit n = true)
    (hk : (Cond.classLink own ik cls).before args s = true) (hini : (Cond.initialized cls).before args s = true) (hstr : vk_R own is text sa s) (hat : ∀ w ∈ vx_atS own ic cls names, w.before args s = true)
    (hgood : ∀ w ∈ Cond.classLink own ik cls :: Cond.initialized cls :: vx_atS own ic cls names, vx_ot w = true)
    (hU : vx_Zq Bundle.tN "UNASSIGNED_STACK" Bundle.steD A s s.heap) (hN : vx_Zq Bundle.tN "SUPPRESSED_SENTINEL" Bundle.listD A s s.heap) (hS : va_S A s.heap H locs) (hsize : ls.size = c.maxLocals)
    (d0 : decode cc pc = .ok (.new ik, 3)) (d3 : decode cc (pc + 3) = .ok (.dup, 1)) (d4 : decode cc (pc + 4) = .ok (.ldc_w is, 3)) (d7 : decode cc (pc + 7) = .ok (.invokespecial ic, 3)) (d10 : decode cc (pc + 10) = .ok (.athrow, 1))
    (hout : ∀ x ∈ c.exceptionTable.toList, covers x (pc + 10) = false)
    (hRframes : names.length + 3 < R.frames) (hRlocals : (rest.map fun v => v.category).sum + (13 * (names.length + 1) + 43) ≤ R.locals) (hRcells : cells + 1 ≤ R.cells) (hRslots : slots + 6 ≤ R.slots) (hlocks : meth.locks = false)
    (hx : ∀ t : State, s.vm.Alike t.vm → H.size ≤ t.heap.size → (∀ q : Nat, q < H.size → t.heap[q]? = H[q]?) → XC cls s t)
    (hf : ∀ z ∈ locs, free z.base) (hc : cells + 1 ≤ mc) (hs : slots + 6 ≤ ms) :
    W p l e R s m args below meth c H locs cells slots (vx_MQ below Qc XC args s mc ms free) (F0 m pc ls rest) := by
  intro T hT X
  have htr : e.platform.stackTraces = false := (show e.platform.stackTraces = l.stackTraces by rw [X.admits.platform]).trans hl
  have Y := vx_rebase X (R' := { frames := R.frames, locals := R.locals, cells := 1, slots := 6 }) (Nat.le_refl _) (Nat.le_refl _) hRcells hRslots
  obtain ⟨s', hA⟩ : ∃ z, z = (T.setVm s.vm).setFrames (.invoking m args :: below) := ⟨_, rfl⟩
  rw [← hA] at Y
  have hvm : s'.vm = s.vm := by rw [hA]; rfl
  have hhp : s'.heap = H := by rw [hA]; exact hT
  have hW0 : s.WarmedH s'.vm := by rw [hvm]; exact State.WarmedH.refl s
  have hat' : ∀ w ∈ vx_atS own ic cls names, w.before args s' = true := fun w hw => vx_ot_at hW0 hvm.symm (hgood w (List.mem_cons_of_mem _ (List.mem_cons_of_mem _ hw))) (hat w hw)
  have hk' : (Cond.classLink own ik cls).before args s' = true := vx_ot_at hW0 hvm.symm (hgood _ List.mem_cons_self) hk
  have hini' : (Cond.initialized cls).before args s' = true := vx_ot_at hW0 hvm.symm (hgood _ (List.mem_cons_of_mem _ List.mem_cons_self)) hini
  have hU' : vx_Zq Bundle.tN "UNASSIGNED_STACK" Bundle.steD A s' s'.heap := by rw [hhp]; exact vx_Zq.moved hW0.alike (hU.kept hS.2.1)
  have hN' : vx_Zq Bundle.tN "SUPPRESSED_SENTINEL" Bundle.listD A s' s'.heap := by rw [hhp]; exact vx_Zq.moved hW0.alike (hN.kept hS.2.1)
  have h : ∀ w ∈ Bundle.ownAtoms own ic cls names, w.before args s' = true := vx_own hat' (vx_isRefq hU'.1) (vx_isRefq hN'.1) hU'.2.word hN'.2.word
  have hown' : s'.vm.findClass own = some m.cls := by rw [hvm]; exact hown
  have hins : (Cond.instantiable cls 6).before args s' = true := h _ (by simp [Bundle.ownAtoms])
  obtain ⟨vm₁, cX, kX, hfX, hkX, -, -, X₁, st1⟩ := Y.newCold hexec (own := own) (C := cls) (index := ik) (n := 6) hown' hk' hins hini'
    (g := F0 m pc ls rest) rfl (by rw [hb]; exact d0) (Nat.le_refl _) (Nat.le_refl _)
  generalize hT1 : (T.setVm vm₁).pushCell { cls := cX, slots := kX.instanceTypes.map defaultValue, vm := .none } = T1 at X₁ st1
  have hcat : (Value.ref T.heap.size).category = 1 := rfl
  have hcellA : T1.heap[T.heap.size]? = some (freshCell cX kX) := by rw [← hT1]; exact State.heap_pushCell_size _ _
  have d3' : decode c.code (pc + 3) = .ok (.dup, 1) := by rw [hb]; exact d3
  have d4' : decode c.code (pc + 4) = .ok (.ldc_w is, 3) := by rw [hb]; exact d4
  have hstr' : vk_R own is text sa s' := vk_R.warm hW0 hstr
  obtain ⟨U, hsteps, hrun, hend, hW, hsame, ce, hce, hO⟩ := X₁.ctorThrowS hexec htr (own := own) (cls := cls) (names := names) (ic := ic) hown' hcls hnames h (fun x hx => nomatch hx) hfX hkX hcellA (by rw [hhp, hT]; exact Nat.le_refl _) (msg := .ref sa) rfl
    (g := { method := m, pc := pc + 7, locals := ls, stack := .ref sa :: .ref T.heap.size :: .ref T.heap.size :: rest, locked := none }) rfl hsize rfl rfl (rest := rest) rfl
    (by rw [hb]; exact d7) (by rw [hb]; exact d10) hout hRframes (by simp only [List.map_cons, List.sum_cons, hcat]; omega) hlocks
  obtain ⟨f1, f2⟩ := vx_frame hsame
  rw [hhp] at f1 f2
  have hWs : s.WarmedH U.vm := State.WarmedH.trans hW0 hW
  have hcl : s.vm.findClass cls = some ce.cls := by
    have h9 := hO.cls
    rw [hvm] at h9
    exact h9
  have hall : s.sameButNew ({ U with vm := s.vm } : State) locs mc ms := by
    subst hA
    obtain ⟨e1, e2⟩ := hsame
    rw [State.setFrames_setFrames] at e1
    have h2 : (T.setVm s.vm).sameButNew ({ U with vm := s.vm } : State) [] (0 + 1) (0 + 6) := ⟨e1, e2⟩
    have h3 := X.same.trans h2
    rw [List.append_nil] at h3
    exact h3.mono hc hs
  refine ⟨U, ?_, .threw T.heap.size, hrun, hend, Or.inr ⟨T.heap.size, rfl, cls, ce, locs, hx U hWs.alike f1 (fun q hq => f2 q hq (fun z hz => nomatch hz)), hce, hO.vm, hcl, hWs, hall, hf⟩⟩
  refine st1 _ ?_
  show Steps p.tables e below (T1.setTop { method := m, pc := pc + 3, locals := ls, stack := .ref T.heap.size :: rest, locked := none }) _
  jvm_step X₁.here [X₁.here.top, hexec, d3', Value.category]
  exact X₁.ldcStringW hexec (own := own) (text := text) (index := is) (a := sa) hown' hstr'.1 hstr'.2
    (g := { method := m, pc := pc + 4, locals := ls, stack := .ref T.heap.size :: .ref T.heap.size :: rest, locked := none }) rfl d4' _ hsteps
end Ends
section Bodies
variable {l : Launch}
/-- the table of a body with handlers -/
theorem vx_table {p : Program} {x y : MethodName} {S : Spec} {cc bytes : ByteArray} {maxL maxL' : Nat} {ret ret' : Option FieldType} {e : Env} {s s₁ : State} {m : MethodId} {args : Array Value} {below : List Frame} {meth : Method} {c : Code} {hh : List (Nat × Nat × Nat × Nat)}
    (B : BodyLoose p l y S cc maxL ret e s m args below meth c s₁) (h : (Cond.codeWith y bytes maxL' ret' hh).before args s = true) : c.exceptionTable.toList = tableOf hh := by
  obtain ⟨m9, meth9, c9, hn9, h1, h2, -, -, h6, -⟩ := Cond.codeWith_spec h
  cases Option.some.inj (hn9.symm.trans B.named)
  cases Option.some.inj (h1.symm.trans B.method)
  cases Option.some.inj (h2.symm.trans (Stand.of_body B).code)
  rw [← h6, table_eq]
end Bodies
end VXA
section VXS
variable {p : Program} {l : Launch} {e : Env} {R : Room} {s : State} {m : MethodId} {args : Array Value} {below : List Frame} {meth : Method} {c : Code} {T : State} {H : Heap} {locs : List Loc} {cells slots : Nat}
end VXS
def RX0 : String := "WallHarbour$Bodies"
def TX0 : u_T := fun k => match k with
  | 0 => ("WallHarbour$Bodies", "x", "[I", true)
  | 1 => ("WallHarbour$Bodies", "pace", "[I", true)
  | 2 => ("WallHarbour$Bodies", "y", "[I", true)
  | 3 => ("WallHarbour$Bodies", "wide", "[I", true)
  | 4 => ("WallHarbour$Bodies", "low", "[I", true)
  | 5 => ("WallHarbour$Bodies", "high", "[I", true)
  | 6 => ("WallHarbour$Bodies", "from", "[I", true)
  | 7 => ("WallHarbour$Bodies", "to", "[I", true)
  | 8 => ("WallHarbour$Bodies", "things", "I", false)
  | _ => ("WallHarbour$Bodies", "ships", "I", false)
def tyX0 : Nat → FieldType := fun k => match k with
  | 0 => .array .int
  | 1 => .array .int
  | 2 => .array .int
  | 3 => .array .int
  | 4 => .array .int
  | 5 => .array .int
  | 6 => .array .int
  | 7 => .array .int
  | 8 => .int
  | _ => .int
abbrev wsX00 : List Cond := u_ws RX0 TX0 10
theorem nmX0 : ∀ a, a < 10 → ∀ b, b < 10 → a ≠ b → (TX0 a).2.1 ≠ (TX0 b).2.1 := by decide +kernel
theorem tyX0_ok : ∀ k, k < 10 → parseFieldDescriptor (TX0 k).2.2.1 = some (tyX0 k) := by decide +kernel
abbrev cX0_init : ByteArray := prog_2_method_1_code
def yX0_init : MethodName := ⟨RX0, "<init>", "()V"⟩
abbrev cX0_has : ByteArray := prog_2_method_2_code
def yX0_has : MethodName := ⟨RX0, "has", "(I)Z"⟩
abbrev cX0_copyFrom : ByteArray := prog_2_method_3_code
def yX0_copyFrom : MethodName := ⟨RX0, "copyFrom", "(LWallHarbour$Bodies;)V"⟩
def RX1 : String := "WallHarbour$Finder"
def TX1 : u_T := fun k => match k with
  | 0 => ("WallHarbour$Finder", "steps", "[I", true)
  | 1 => ("WallHarbour$Finder", "count", "I", false)
  | 2 => ("WallHarbour$Finder", "first", "I", false)
  | _ => ("WallHarbour$Finder", "second", "I", false)
def tyX1 : Nat → FieldType := fun k => match k with
  | 0 => .array .int
  | 1 => .int
  | 2 => .int
  | _ => .int
abbrev wsX10 : List Cond := u_ws RX1 TX1 4
theorem nmX1 : ∀ a, a < 4 → ∀ b, b < 4 → a ≠ b → (TX1 a).2.1 ≠ (TX1 b).2.1 := by decide +kernel
theorem tyX1_ok : ∀ k, k < 4 → parseFieldDescriptor (TX1 k).2.2.1 = some (tyX1 k) := by decide +kernel
abbrev cX1_init : ByteArray := prog_3_method_1_code
def yX1_init : MethodName := ⟨RX1, "<init>", "()V"⟩
abbrev cX1_findPlaces : ByteArray := prog_3_method_2_code
def yX1_findPlaces : MethodName := ⟨RX1, "findPlaces", "(LWallHarbour$Sight;III)V"⟩
abbrev cX1_markRanges : ByteArray := prog_3_method_3_code
def yX1_markRanges : MethodName := ⟨RX1, "markRanges", "(LWallHarbour$Sight;III)I"⟩
abbrev cX1_keepPlaces : ByteArray := prog_3_method_4_code
def yX1_keepPlaces : MethodName := ⟨RX1, "keepPlaces", "(II)V"⟩
abbrev cX1_findPaces : ByteArray := prog_3_method_5_code
def yX1_findPaces : MethodName := ⟨RX1, "findPaces", "(LWallHarbour$Sight;III)V"⟩
abbrev cX1_findTides : ByteArray := prog_3_method_6_code
def yX1_findTides : MethodName := ⟨RX1, "findTides", "(LWallHarbour$Sight;II)V"⟩
abbrev cX1_keep : ByteArray := prog_3_method_7_code
def yX1_keep : MethodName := ⟨RX1, "keep", "(II)V"⟩
def RX2 : String := "WallHarbour$HarbourText"
def TX2 : u_T := fun k => match k with
  | _ => ("WallHarbour$HarbourText", "draft", "LWallHarbour$State;", true)
def tyX2 : Nat → FieldType := fun k => match k with
  | _ => .object "WallHarbour$State"
abbrev wsX20 : List Cond := u_ws RX2 TX2 1
theorem nmX2 : ∀ a, a < 1 → ∀ b, b < 1 → a ≠ b → (TX2 a).2.1 ≠ (TX2 b).2.1 := by decide +kernel
theorem tyX2_ok : ∀ k, k < 1 → parseFieldDescriptor (TX2 k).2.2.1 = some (tyX2 k) := by decide +kernel
abbrev cX2_init : ByteArray := prog_4_method_1_code
def yX2_init : MethodName := ⟨RX2, "<init>", "()V"⟩
abbrev cX2_read : ByteArray := prog_4_method_2_code
def yX2_read : MethodName := ⟨RX2, "read", "(LWallHarbour$Tape;LWallHarbour$State;)V"⟩
abbrev cX2_readLine : ByteArray := prog_4_method_3_code
def yX2_readLine : MethodName := ⟨RX2, "readLine", "(LWallHarbour$Tape;)V"⟩
abbrev cX2_readThing : ByteArray := prog_4_method_4_code
def yX2_readThing : MethodName := ⟨RX2, "readThing", "(LWallHarbour$Tape;I)V"⟩
abbrev cX2_readShip : ByteArray := prog_4_method_5_code
def yX2_readShip : MethodName := ⟨RX2, "readShip", "(LWallHarbour$Tape;I)V"⟩
abbrev cX2_readShape : ByteArray := prog_4_method_6_code
def yX2_readShape : MethodName := ⟨RX2, "readShape", "(LWallHarbour$Tape;I)V"⟩
abbrev cX2_readHole : ByteArray := prog_4_method_7_code
def yX2_readHole : MethodName := ⟨RX2, "readHole", "(LWallHarbour$Tape;I)V"⟩
abbrev cX2_readWall : ByteArray := prog_4_method_8_code
def yX2_readWall : MethodName := ⟨RX2, "readWall", "(LWallHarbour$Tape;)V"⟩
abbrev cX2_readClouds : ByteArray := prog_4_method_9_code
def yX2_readClouds : MethodName := ⟨RX2, "readClouds", "(LWallHarbour$Tape;)V"⟩
abbrev cX2_readTide : ByteArray := prog_4_method_10_code
def yX2_readTide : MethodName := ⟨RX2, "readTide", "(LWallHarbour$Tape;)V"⟩
def RX3 : String := "WallHarbour$Law"
def TX3 : u_T := fun k => match k with
  | 0 => ("WallHarbour$Law", "amounts", "[I", true)
  | 1 => ("WallHarbour$Law", "ends", "[I", true)
  | 2 => ("WallHarbour$Law", "code", "[I", true)
  | 3 => ("WallHarbour$Law", "stack", "[I", true)
  | 4 => ("WallHarbour$Law", "lines", "I", false)
  | _ => ("WallHarbour$Law", "size", "I", false)
def tyX3 : Nat → FieldType := fun k => match k with
  | 0 => .array .int
  | 1 => .array .int
  | 2 => .array .int
  | 3 => .array .int
  | 4 => .int
  | _ => .int
abbrev wsX30 : List Cond := u_ws RX3 TX3 6
theorem nmX3 : ∀ a, a < 6 → ∀ b, b < 6 → a ≠ b → (TX3 a).2.1 ≠ (TX3 b).2.1 := by decide +kernel
theorem tyX3_ok : ∀ k, k < 6 → parseFieldDescriptor (TX3 k).2.2.1 = some (tyX3 k) := by decide +kernel
abbrev cX3_init : ByteArray := prog_5_method_1_code
def yX3_init : MethodName := ⟨RX3, "<init>", "()V"⟩
abbrev cX3_clear : ByteArray := prog_5_method_2_code
def yX3_clear : MethodName := ⟨RX3, "clear", "()V"⟩
abbrev cX3_put : ByteArray := prog_5_method_3_code
def yX3_put : MethodName := ⟨RX3, "put", "(I)V"⟩
abbrev cX3_putFact : ByteArray := prog_5_method_4_code
def yX3_putFact : MethodName := ⟨RX3, "putFact", "(I)V"⟩
abbrev cX3_endLine : ByteArray := prog_5_method_5_code
def yX3_endLine : MethodName := ⟨RX3, "endLine", "(I)V"⟩
abbrev cX3_chargeBy : ByteArray := prog_5_method_6_code
def yX3_chargeBy : MethodName := ⟨RX3, "chargeBy", "([I)I"⟩
abbrev cX3_holds : ByteArray := prog_5_method_7_code
def yX3_holds : MethodName := ⟨RX3, "holds", "(II[I)Z"⟩
abbrev cX3_push : ByteArray := prog_5_method_8_code
def yX3_push : MethodName := ⟨RX3, "push", "(II)I"⟩
abbrev cX3_workOff : ByteArray := prog_5_method_9_code
def yX3_workOff : MethodName := ⟨RX3, "workOff", "(II)I"⟩
abbrev cX3_joined : ByteArray := prog_5_method_10_code
def yX3_joined : MethodName := ⟨RX3, "joined", "(III)I"⟩
abbrev cX3_copyFrom : ByteArray := prog_5_method_11_code
def yX3_copyFrom : MethodName := ⟨RX3, "copyFrom", "(LWallHarbour$Law;)V"⟩
def RX4 : String := "WallHarbour$LawText"
def TX4 : u_T := fun k => match k with
  | _ => ("WallHarbour$LawText", "draft", "LWallHarbour$Law;", true)
def tyX4 : Nat → FieldType := fun k => match k with
  | _ => .object "WallHarbour$Law"
abbrev wsX40 : List Cond := u_ws RX4 TX4 1
theorem nmX4 : ∀ a, a < 1 → ∀ b, b < 1 → a ≠ b → (TX4 a).2.1 ≠ (TX4 b).2.1 := by decide +kernel
theorem tyX4_ok : ∀ k, k < 1 → parseFieldDescriptor (TX4 k).2.2.1 = some (tyX4 k) := by decide +kernel
abbrev cX4_init : ByteArray := prog_6_method_1_code
def yX4_init : MethodName := ⟨RX4, "<init>", "()V"⟩
abbrev cX4_read : ByteArray := prog_6_method_2_code
def yX4_read : MethodName := ⟨RX4, "read", "(LWallHarbour$Tape;)V"⟩
abbrev cX4_readAny : ByteArray := prog_6_method_3_code
def yX4_readAny : MethodName := ⟨RX4, "readAny", "(LWallHarbour$Tape;I)V"⟩
abbrev cX4_readAtom : ByteArray := prog_6_method_4_code
def yX4_readAtom : MethodName := ⟨RX4, "readAtom", "(LWallHarbour$Tape;I)V"⟩
abbrev cX4_readSum : ByteArray := prog_6_method_5_code
def yX4_readSum : MethodName := ⟨RX4, "readSum", "(LWallHarbour$Tape;)V"⟩
abbrev cX4_readPart : ByteArray := prog_6_method_6_code
def yX4_readPart : MethodName := ⟨RX4, "readPart", "(LWallHarbour$Tape;)V"⟩
def RX5 : String := "WallHarbour$Setting"
def TX5 : u_T := fun k => match k with
  | 0 => ("WallHarbour$Setting", "most", "I", false)
  | 1 => ("WallHarbour$Setting", "p", "I", false)
  | 2 => ("WallHarbour$Setting", "h", "I", false)
  | _ => ("WallHarbour$Setting", "deep", "I", false)
def tyX5 : Nat → FieldType := fun k => match k with
  | 0 => .int
  | 1 => .int
  | 2 => .int
  | _ => .int
abbrev wsX50 : List Cond := u_ws RX5 TX5 4
theorem nmX5 : ∀ a, a < 4 → ∀ b, b < 4 → a ≠ b → (TX5 a).2.1 ≠ (TX5 b).2.1 := by decide +kernel
theorem tyX5_ok : ∀ k, k < 4 → parseFieldDescriptor (TX5 k).2.2.1 = some (tyX5 k) := by decide +kernel
abbrev cX5_init : ByteArray := prog_7_method_1_code
def yX5_init : MethodName := ⟨RX5, "<init>", "()V"⟩
abbrev cX5_find : ByteArray := prog_7_method_2_code
def yX5_find : MethodName := ⟨RX5, "find", "(LWallHarbour$Sight;II)V"⟩
abbrev cX5_keep : ByteArray := prog_7_method_3_code
def yX5_keep : MethodName := ⟨RX5, "keep", "(IIII)V"⟩
abbrev cX5_clearOf : ByteArray := prog_7_method_4_code
def yX5_clearOf : MethodName := ⟨RX5, "clearOf", "(LWallHarbour$Sight;I)I"⟩
abbrev cX5_openOf : ByteArray := prog_7_method_5_code
def yX5_openOf : MethodName := ⟨RX5, "openOf", "(LWallHarbour$Sight;I)I"⟩
abbrev cX5_onWallOf : ByteArray := prog_7_method_6_code
def yX5_onWallOf : MethodName := ⟨RX5, "onWallOf", "(LWallHarbour$Sight;I)I"⟩
def RX6 : String := "WallHarbour$Sight"
def TX6 : u_T := fun k => match k with
  | 0 => ("WallHarbour$Sight", "state", "LWallHarbour$State;", true)
  | 1 => ("WallHarbour$Sight", "bodies", "LWallHarbour$Bodies;", true)
  | 2 => ("WallHarbour$Sight", "day", "I", false)
  | 3 => ("WallHarbour$Sight", "minute", "I", false)
  | 4 => ("WallHarbour$Sight", "tide", "I", false)
  | 5 => ("WallHarbour$Sight", "p", "I", false)
  | 6 => ("WallHarbour$Sight", "h", "I", false)
  | _ => ("WallHarbour$Sight", "deep", "I", false)
def tyX6 : Nat → FieldType := fun k => match k with
  | 0 => .object "WallHarbour$State"
  | 1 => .object "WallHarbour$Bodies"
  | 2 => .int
  | 3 => .int
  | 4 => .int
  | 5 => .int
  | 6 => .int
  | _ => .int
abbrev wsX60 : List Cond := u_ws RX6 TX6 8
theorem nmX6 : ∀ a, a < 8 → ∀ b, b < 8 → a ≠ b → (TX6 a).2.1 ≠ (TX6 b).2.1 := by decide +kernel
theorem tyX6_ok : ∀ k, k < 8 → parseFieldDescriptor (TX6 k).2.2.1 = some (tyX6 k) := by decide +kernel
abbrev cX6_init : ByteArray := prog_8_method_1_code
def yX6_init : MethodName := ⟨RX6, "<init>", "()V"⟩
abbrev cX6_goToNow : ByteArray := prog_8_method_2_code
def yX6_goToNow : MethodName := ⟨RX6, "goToNow", "()V"⟩
abbrev cX6_goTo : ByteArray := prog_8_method_3_code
def yX6_goTo : MethodName := ⟨RX6, "goTo", "(II)V"⟩
abbrev cX6_lookThrough : ByteArray := prog_8_method_4_code
def yX6_lookThrough : MethodName := ⟨RX6, "lookThrough", "(I)V"⟩
abbrev cX6_lookThroughNew : ByteArray := prog_8_method_5_code
def yX6_lookThroughNew : MethodName := ⟨RX6, "lookThroughNew", "(III)V"⟩
abbrev cX6_xOf : ByteArray := prog_8_method_6_code
def yX6_xOf : MethodName := ⟨RX6, "xOf", "(I)I"⟩
abbrev cX6_lowOf : ByteArray := prog_8_method_7_code
def yX6_lowOf : MethodName := ⟨RX6, "lowOf", "(I)I"⟩
abbrev cX6_highOf : ByteArray := prog_8_method_8_code
def yX6_highOf : MethodName := ⟨RX6, "highOf", "(I)I"⟩
abbrev cX6_isThere : ByteArray := prog_8_method_9_code
def yX6_isThere : MethodName := ⟨RX6, "isThere", "(I)Z"⟩
abbrev cX6_across : ByteArray := prog_8_method_10_code
def yX6_across : MethodName := ⟨RX6, "across", "(II)I"⟩
abbrev cX6_upward : ByteArray := prog_8_method_11_code
def yX6_upward : MethodName := ⟨RX6, "upward", "(II)I"⟩
abbrev cX6_tipU : ByteArray := prog_8_method_12_code
def yX6_tipU : MethodName := ⟨RX6, "tipU", "(I)I"⟩
abbrev cX6_tipV : ByteArray := prog_8_method_13_code
def yX6_tipV : MethodName := ⟨RX6, "tipV", "(I)I"⟩
abbrev cX6_isOnWall : ByteArray := prog_8_method_14_code
def yX6_isOnWall : MethodName := ⟨RX6, "isOnWall", "(III)Z"⟩
abbrev cX6_isTipOnWall : ByteArray := prog_8_method_15_code
def yX6_isTipOnWall : MethodName := ⟨RX6, "isTipOnWall", "(I)Z"⟩
abbrev cX6_isClear : ByteArray := prog_8_method_16_code
def yX6_isClear : MethodName := ⟨RX6, "isClear", "(I)Z"⟩
abbrev cX6_hides : ByteArray := prog_8_method_17_code
def yX6_hides : MethodName := ⟨RX6, "hides", "(IIII)Z"⟩
abbrev cX6_hidesTip : ByteArray := prog_8_method_18_code
def yX6_hidesTip : MethodName := ⟨RX6, "hidesTip", "(II)Z"⟩
abbrev cX6_firstHider : ByteArray := prog_8_method_19_code
def yX6_firstHider : MethodName := ⟨RX6, "firstHider", "(III)I"⟩
abbrev cX6_firstHiderOfTip : ByteArray := prog_8_method_20_code
def yX6_firstHiderOfTip : MethodName := ⟨RX6, "firstHiderOfTip", "(I)I"⟩
abbrev cX6_seesPoint : ByteArray := prog_8_method_21_code
def yX6_seesPoint : MethodName := ⟨RX6, "seesPoint", "(III)Z"⟩
abbrev cX6_sees : ByteArray := prog_8_method_22_code
def yX6_sees : MethodName := ⟨RX6, "sees", "(I)Z"⟩
abbrev cX6_isPointSeenBySome : ByteArray := prog_8_method_23_code
def yX6_isPointSeenBySome : MethodName := ⟨RX6, "isPointSeenBySome", "(III)Z"⟩
abbrev cX6_isSeenBySome : ByteArray := prog_8_method_24_code
def yX6_isSeenBySome : MethodName := ⟨RX6, "isSeenBySome", "(I)Z"⟩
abbrev cX6_fits : ByteArray := prog_8_method_25_code
def yX6_fits : MethodName := ⟨RX6, "fits", "(II)Z"⟩
abbrev cX6_leastX : ByteArray := prog_8_method_26_code
def yX6_leastX : MethodName := ⟨RX6, "leastX", "(II)I"⟩
abbrev cX6_mostX : ByteArray := prog_8_method_27_code
def yX6_mostX : MethodName := ⟨RX6, "mostX", "(II)I"⟩
def RX7 : String := "WallHarbour$State"
def TX7 : u_T := fun k => match k with
  | 0 => ("WallHarbour$State", "bodies", "LWallHarbour$Bodies;", true)
  | 1 => ("WallHarbour$State", "law", "LWallHarbour$Law;", true)
  | 2 => ("WallHarbour$State", "tracings", "LWallHarbour$Tracings;", true)
  | 3 => ("WallHarbour$State", "holeX", "[I", true)
  | 4 => ("WallHarbour$State", "holeZ", "[I", true)
  | 5 => ("WallHarbour$State", "tides", "[I", true)
  | 6 => ("WallHarbour$State", "holes", "I", false)
  | 7 => ("WallHarbour$State", "deep", "I", false)
  | 8 => ("WallHarbour$State", "left", "I", false)
  | 9 => ("WallHarbour$State", "right", "I", false)
  | 10 => ("WallHarbour$State", "top", "I", false)
  | 11 => ("WallHarbour$State", "clouds", "I", false)
  | 12 => ("WallHarbour$State", "fog", "I", false)
  | 13 => ("WallHarbour$State", "moon", "I", false)
  | 14 => ("WallHarbour$State", "texts", "I", false)
  | 15 => ("WallHarbour$State", "day", "I", false)
  | _ => ("WallHarbour$State", "minute", "I", false)
def tyX7 : Nat → FieldType := fun k => match k with
  | 0 => .object "WallHarbour$Bodies"
  | 1 => .object "WallHarbour$Law"
  | 2 => .object "WallHarbour$Tracings"
  | 3 => .array .int
  | 4 => .array .int
  | 5 => .array .int
  | 6 => .int
  | 7 => .int
  | 8 => .int
  | 9 => .int
  | 10 => .int
  | 11 => .int
  | 12 => .int
  | 13 => .int
  | 14 => .int
  | 15 => .int
  | _ => .int
abbrev wsX70 : List Cond := u_ws RX7 TX7 17
theorem nmX7 : ∀ a, a < 17 → ∀ b, b < 17 → a ≠ b → (TX7 a).2.1 ≠ (TX7 b).2.1 := by decide +kernel
theorem tyX7_ok : ∀ k, k < 17 → parseFieldDescriptor (TX7 k).2.2.1 = some (tyX7 k) := by decide +kernel
abbrev cX7_init : ByteArray := prog_9_method_1_code
def yX7_init : MethodName := ⟨RX7, "<init>", "()V"⟩
abbrev cX7_isLight : ByteArray := prog_9_method_2_code
def yX7_isLight : MethodName := ⟨RX7, "isLight", "(I)Z"⟩
abbrev cX7_tideAt : ByteArray := prog_9_method_3_code
def yX7_tideAt : MethodName := ⟨RX7, "tideAt", "(II)I"⟩
abbrev cX7_copyFrom : ByteArray := prog_9_method_4_code
def yX7_copyFrom : MethodName := ⟨RX7, "copyFrom", "(LWallHarbour$State;)V"⟩
def RX8 : String := "WallHarbour$Tape"
def TX8 : u_T := fun k => match k with
  | 0 => ("WallHarbour$Tape", "bytes", "[I", true)
  | 1 => ("WallHarbour$Tape", "length", "I", false)
  | 2 => ("WallHarbour$Tape", "at", "I", false)
  | _ => ("WallHarbour$Tape", "wrong", "Z", false)
def tyX8 : Nat → FieldType := fun k => match k with
  | 0 => .array .int
  | 1 => .int
  | 2 => .int
  | _ => .boolean
abbrev wsX80 : List Cond := u_ws RX8 TX8 4
theorem nmX8 : ∀ a, a < 4 → ∀ b, b < 4 → a ≠ b → (TX8 a).2.1 ≠ (TX8 b).2.1 := by decide +kernel
theorem tyX8_ok : ∀ k, k < 4 → parseFieldDescriptor (TX8 k).2.2.1 = some (tyX8 k) := by decide +kernel
abbrev cX8_init : ByteArray := prog_10_method_1_code
def yX8_init : MethodName := ⟨RX8, "<init>", "()V"⟩
abbrev cX8_hasRoomFor : ByteArray := prog_10_method_2_code
def yX8_hasRoomFor : MethodName := ⟨RX8, "hasRoomFor", "(I)Z"⟩
abbrev cX8_add : ByteArray := prog_10_method_3_code
def yX8_add : MethodName := ⟨RX8, "add", "(I)V"⟩
abbrev cX8_open : ByteArray := prog_10_method_4_code
def yX8_open : MethodName := ⟨RX8, "open", "()V"⟩
abbrev cX8_useUp : ByteArray := prog_10_method_5_code
def yX8_useUp : MethodName := ⟨RX8, "useUp", "()I"⟩
abbrev cX8_failAt : ByteArray := prog_10_method_6_code
def yX8_failAt : MethodName := ⟨RX8, "failAt", "(I)V"⟩
abbrev cX8_isOver : ByteArray := prog_10_method_7_code
def yX8_isOver : MethodName := ⟨RX8, "isOver", "()Z"⟩
abbrev cX8_needEnd : ByteArray := prog_10_method_8_code
def yX8_needEnd : MethodName := ⟨RX8, "needEnd", "()V"⟩
abbrev cX8_takeSign : ByteArray := prog_10_method_9_code
def yX8_takeSign : MethodName := ⟨RX8, "takeSign", "(C)Z"⟩
abbrev cX8_needSign : ByteArray := prog_10_method_10_code
def yX8_needSign : MethodName := ⟨RX8, "needSign", "(C)V"⟩
abbrev cX8_takeWord : ByteArray := prog_10_method_11_code
def yX8_takeWord : MethodName := ⟨RX8, "takeWord", "(Ljava/lang/String;)Z"⟩
abbrev cX8_needWord : ByteArray := prog_10_method_12_code
def yX8_needWord : MethodName := ⟨RX8, "needWord", "(Ljava/lang/String;)V"⟩
abbrev cX8_isAtNumber : ByteArray := prog_10_method_13_code
def yX8_isAtNumber : MethodName := ⟨RX8, "isAtNumber", "()Z"⟩
abbrev cX8_takeSideways : ByteArray := prog_10_method_14_code
def yX8_takeSideways : MethodName := ⟨RX8, "takeSideways", "(III)I"⟩
abbrev cX8_takeNumber : ByteArray := prog_10_method_15_code
def yX8_takeNumber : MethodName := ⟨RX8, "takeNumber", "(IIII)I"⟩
abbrev cX8_runEnd : ByteArray := prog_10_method_16_code
def yX8_runEnd : MethodName := ⟨RX8, "runEnd", "(CC)I"⟩
abbrev cX8_pass : ByteArray := prog_10_method_17_code
def yX8_pass : MethodName := ⟨RX8, "pass", "(I)V"⟩
def RX9 : String := "WallHarbour$Tracings"
def TX9 : u_T := fun k => match k with
  | 0 => ("WallHarbour$Tracings", "day", "[I", true)
  | 1 => ("WallHarbour$Tracings", "minute", "[I", true)
  | 2 => ("WallHarbour$Tracings", "hole", "[I", true)
  | 3 => ("WallHarbour$Tracings", "u", "[I", true)
  | 4 => ("WallHarbour$Tracings", "v", "[I", true)
  | _ => ("WallHarbour$Tracings", "count", "I", false)
def tyX9 : Nat → FieldType := fun k => match k with
  | 0 => .array .int
  | 1 => .array .int
  | 2 => .array .int
  | 3 => .array .int
  | 4 => .array .int
  | _ => .int
abbrev wsX90 : List Cond := u_ws RX9 TX9 6
theorem nmX9 : ∀ a, a < 6 → ∀ b, b < 6 → a ≠ b → (TX9 a).2.1 ≠ (TX9 b).2.1 := by decide +kernel
theorem tyX9_ok : ∀ k, k < 6 → parseFieldDescriptor (TX9 k).2.2.1 = some (tyX9 k) := by decide +kernel
abbrev cX9_init : ByteArray := prog_11_method_1_code
def yX9_init : MethodName := ⟨RX9, "<init>", "()V"⟩
abbrev cX9_add : ByteArray := prog_11_method_2_code
def yX9_add : MethodName := ⟨RX9, "add", "(IIIII)I"⟩
abbrev cX9_copyFrom : ByteArray := prog_11_method_3_code
def yX9_copyFrom : MethodName := ⟨RX9, "copyFrom", "(LWallHarbour$Tracings;)V"⟩
def RX10 : String := "WallHarbour$Way"
def TX10 : u_T := fun k => match k with
  | 0 => ("WallHarbour$Way", "rest", "[I", true)
  | 1 => ("WallHarbour$Way", "lanes", "[I", true)
  | _ => ("WallHarbour$Way", "least", "I", false)
def tyX10 : Nat → FieldType := fun k => match k with
  | 0 => .array .int
  | 1 => .array .int
  | _ => .int
abbrev wsX100 : List Cond := u_ws RX10 TX10 3
theorem nmX10 : ∀ a, a < 3 → ∀ b, b < 3 → a ≠ b → (TX10 a).2.1 ≠ (TX10 b).2.1 := by decide +kernel
theorem tyX10_ok : ∀ k, k < 3 → parseFieldDescriptor (TX10 k).2.2.1 = some (tyX10 k) := by decide +kernel
abbrev cX10_init : ByteArray := prog_12_method_1_code
def yX10_init : MethodName := ⟨RX10, "<init>", "()V"⟩
abbrev cX10_find : ByteArray := prog_12_method_2_code
def yX10_find : MethodName := ⟨RX10, "find", "(LWallHarbour$Sight;)V"⟩
abbrev cX10_laneBeside : ByteArray := prog_12_method_3_code
def yX10_laneBeside : MethodName := ⟨RX10, "laneBeside", "(II)I"⟩
abbrev cX10_bestLane : ByteArray := prog_12_method_4_code
def yX10_bestLane : MethodName := ⟨RX10, "bestLane", "(III)I"⟩
abbrev cX10_restOf : ByteArray := prog_12_method_5_code
def yX10_restOf : MethodName := ⟨RX10, "restOf", "(II)I"⟩
abbrev cX10_laneOf : ByteArray := prog_12_method_6_code
def yX10_laneOf : MethodName := ⟨RX10, "laneOf", "(I)I"⟩
def RX11 : String := "WallHarbour"
def TX11 : u_T := fun k => match k with
  | 0 => ("WallHarbour", "harbourText", "LWallHarbour$HarbourText;", true)
  | 1 => ("WallHarbour", "lawText", "LWallHarbour$LawText;", true)
  | 2 => ("WallHarbour", "tape", "LWallHarbour$Tape;", true)
  | 3 => ("WallHarbour", "sight", "LWallHarbour$Sight;", true)
  | 4 => ("WallHarbour", "state", "LWallHarbour$State;", true)
  | 5 => ("WallHarbour", "kept", "LWallHarbour$State;", true)
  | 6 => ("WallHarbour", "finder", "LWallHarbour$Finder;", true)
  | 7 => ("WallHarbour", "bestSetting", "LWallHarbour$Setting;", true)
  | 8 => ("WallHarbour", "bestWay", "LWallHarbour$Way;", true)
  | 9 => ("WallHarbour", "facts", "[I", true)
  | 10 => ("WallHarbour", "isKept", "Z", false)
  | _ => ("WallHarbour", "wrongByte", "I", false)
def tyX11 : Nat → FieldType := fun k => match k with
  | 0 => .object "WallHarbour$HarbourText"
  | 1 => .object "WallHarbour$LawText"
  | 2 => .object "WallHarbour$Tape"
  | 3 => .object "WallHarbour$Sight"
  | 4 => .object "WallHarbour$State"
  | 5 => .object "WallHarbour$State"
  | 6 => .object "WallHarbour$Finder"
  | 7 => .object "WallHarbour$Setting"
  | 8 => .object "WallHarbour$Way"
  | 9 => .array .int
  | 10 => .boolean
  | _ => .int
abbrev wsX110 : List Cond := u_ws RX11 TX11 12
theorem nmX11 : ∀ a, a < 12 → ∀ b, b < 12 → a ≠ b → (TX11 a).2.1 ≠ (TX11 b).2.1 := by decide +kernel
theorem tyX11_ok : ∀ k, k < 12 → parseFieldDescriptor (TX11 k).2.2.1 = some (tyX11 k) := by decide +kernel
abbrev cX11_init : ByteArray := prog_1_method_1_code
def yX11_init : MethodName := ⟨RX11, "<init>", "()V"⟩
abbrev cX11_feed : ByteArray := prog_1_method_2_code
def yX11_feed : MethodName := ⟨RX11, "feed", "(IIIII)I"⟩
abbrev cX11_end : ByteArray := prog_1_method_3_code
def yX11_end : MethodName := ⟨RX11, "end", "(I)Z"⟩
abbrev cX11_harbour : ByteArray := prog_1_method_4_code
def yX11_harbour : MethodName := ⟨RX11, "harbour", "()I"⟩
abbrev cX11_law : ByteArray := prog_1_method_5_code
def yX11_law : MethodName := ⟨RX11, "law", "()I"⟩
abbrev cX11_fault : ByteArray := prog_1_method_6_code
def yX11_fault : MethodName := ⟨RX11, "fault", "()I"⟩
abbrev cX11_now : ByteArray := prog_1_method_7_code
def yX11_now : MethodName := ⟨RX11, "now", "(II)I"⟩
abbrev cX11_body : ByteArray := prog_1_method_8_code
def yX11_body : MethodName := ⟨RX11, "body", "(II)I"⟩
abbrev cX11_spot : ByteArray := prog_1_method_9_code
def yX11_spot : MethodName := ⟨RX11, "spot", "(IIZI)I"⟩
abbrev cX11_seen : ByteArray := prog_1_method_10_code
def yX11_seen : MethodName := ⟨RX11, "seen", "(II)Z"⟩
abbrev cX11_hider : ByteArray := prog_1_method_11_code
def yX11_hider : MethodName := ⟨RX11, "hider", "(II)I"⟩
abbrev cX11_charge : ByteArray := prog_1_method_12_code
def yX11_charge : MethodName := ⟨RX11, "charge", "(I)I"⟩
abbrev cX11_charges : ByteArray := prog_1_method_13_code
def yX11_charges : MethodName := ⟨RX11, "charges", "(I)I"⟩
abbrev cX11_tide : ByteArray := prog_1_method_14_code
def yX11_tide : MethodName := ⟨RX11, "tide", "(II)I"⟩
abbrev cX11_trace : ByteArray := prog_1_method_15_code
def yX11_trace : MethodName := ⟨RX11, "trace", "(IIIII)I"⟩
abbrev cX11_draw : ByteArray := prog_1_method_16_code
def yX11_draw : MethodName := ⟨RX11, "draw", "(II)I"⟩
abbrev cX11_undo : ByteArray := prog_1_method_17_code
def yX11_undo : MethodName := ⟨RX11, "undo", "()I"⟩
abbrev cX11_which : ByteArray := prog_1_method_18_code
def yX11_which : MethodName := ⟨RX11, "which", "(I)I"⟩
abbrev cX11_slips : ByteArray := prog_1_method_19_code
def yX11_slips : MethodName := ⟨RX11, "slips", "()I"⟩
abbrev cX11_places : ByteArray := prog_1_method_20_code
def yX11_places : MethodName := ⟨RX11, "places", "(IIII)I"⟩
abbrev cX11_when : ByteArray := prog_1_method_21_code
def yX11_when : MethodName := ⟨RX11, "when", "(IZ)I"⟩
abbrev cX11_paces : ByteArray := prog_1_method_22_code
def yX11_paces : MethodName := ⟨RX11, "paces", "(IIII)I"⟩
abbrev cX11_mark : ByteArray := prog_1_method_23_code
def yX11_mark : MethodName := ⟨RX11, "mark", "(IIIIZ)I"⟩
abbrev cX11_setting : ByteArray := prog_1_method_24_code
def yX11_setting : MethodName := ⟨RX11, "setting", "(III)I"⟩
abbrev cX11_way : ByteArray := prog_1_method_25_code
def yX11_way : MethodName := ⟨RX11, "way", "(I)I"⟩
abbrev cX11_met : ByteArray := prog_1_method_26_code
def yX11_met : MethodName := ⟨RX11, "met", "(III)I"⟩
abbrev cX11_image : ByteArray := prog_1_method_27_code
def yX11_image : MethodName := ⟨RX11, "image", "()V"⟩
abbrev cX11_back : ByteArray := prog_1_method_28_code
def yX11_back : MethodName := ⟨RX11, "back", "()Z"⟩
abbrev cX11_count : ByteArray := prog_1_method_29_code
def yX11_count : MethodName := ⟨RX11, "count", "(I)I"⟩
abbrev cX11_needBody : ByteArray := prog_1_method_30_code
def yX11_needBody : MethodName := ⟨RX11, "needBody", "(I)V"⟩
abbrev cX11_needHole : ByteArray := prog_1_method_31_code
def yX11_needHole : MethodName := ⟨RX11, "needHole", "(I)V"⟩
abbrev cX11_needTracing : ByteArray := prog_1_method_32_code
def yX11_needTracing : MethodName := ⟨RX11, "needTracing", "(I)V"⟩
abbrev cX11_needTime : ByteArray := prog_1_method_33_code
def yX11_needTime : MethodName := ⟨RX11, "needTime", "(II)V"⟩
abbrev cX11_needRoomForTracing : ByteArray := prog_1_method_34_code
def yX11_needRoomForTracing : MethodName := ⟨RX11, "needRoomForTracing", "()V"⟩
abbrev cX11_chargeThen : ByteArray := prog_1_method_35_code
def yX11_chargeThen : MethodName := ⟨RX11, "chargeThen", "(I)I"⟩
abbrev cX11_bodiesOf : ByteArray := prog_1_method_36_code
def yX11_bodiesOf : MethodName := ⟨RX11, "bodiesOf", "(I)I"⟩
abbrev cX11_isAhead : ByteArray := prog_1_method_37_code
def yX11_isAhead : MethodName := ⟨RX11, "isAhead", "(I)Z"⟩
abbrev cX11_lowBits : ByteArray := prog_1_method_38_code
def yX11_lowBits : MethodName := ⟨RX11, "lowBits", "(I)I"⟩
abbrev cX11_roundDown : ByteArray := prog_1_method_39_code
def yX11_roundDown : MethodName := ⟨RX11, "roundDown", "(II)I"⟩
abbrev cX11_commonDivisor : ByteArray := prog_1_method_40_code
def yX11_commonDivisor : MethodName := ⟨RX11, "commonDivisor", "(II)I"⟩
def RX12 : String := "WallHarbourModel"
def TX12 : u_T := fun k => match k with
  | 0 => ("WallHarbourModel", "thrown", "I", false)
  | 1 => ("WallHarbourModel", "m", "[I", true)
  | 2 => ("WallHarbourModel", "kept", "[I", true)
  | 3 => ("WallHarbourModel", "hasImage", "Z", false)
  | 4 => ("WallHarbourModel", "before", "[I", true)
  | 5 => ("WallHarbourModel", "tape", "[I", true)
  | 6 => ("WallHarbourModel", "taped", "I", false)
  | 7 => ("WallHarbourModel", "base", "I", false)
  | 8 => ("WallHarbourModel", "end", "I", false)
  | 9 => ("WallHarbourModel", "at", "I", false)
  | 10 => ("WallHarbourModel", "fault", "I", false)
  | 11 => ("WallHarbourModel", "deep", "I", false)
  | 12 => ("WallHarbourModel", "fact", "[I", true)
  | 13 => ("WallHarbourModel", "isSeen", "Z", false)
  | 14 => ("WallHarbourModel", "isShip", "Z", false)
  | 15 => ("WallHarbourModel", "added", "I", false)
  | 16 => ("WallHarbourModel", "day", "I", false)
  | 17 => ("WallHarbourModel", "minute", "I", false)
  | 18 => ("WallHarbourModel", "p", "I", false)
  | 19 => ("WallHarbourModel", "h", "I", false)
  | 20 => ("WallHarbourModel", "depth", "I", false)
  | _ => ("WallHarbourModel", "worst", "[I", true)
def tyX12 : Nat → FieldType := fun k => match k with
  | 0 => .int
  | 1 => .array .int
  | 2 => .array .int
  | 3 => .boolean
  | 4 => .array .int
  | 5 => .array .int
  | 6 => .int
  | 7 => .int
  | 8 => .int
  | 9 => .int
  | 10 => .int
  | 11 => .int
  | 12 => .array .int
  | 13 => .boolean
  | 14 => .boolean
  | 15 => .int
  | 16 => .int
  | 17 => .int
  | 18 => .int
  | 19 => .int
  | 20 => .int
  | _ => .array .int
abbrev wsX120 : List Cond := u_ws RX12 TX12 22
theorem nmX12 : ∀ a, a < 22 → ∀ b, b < 22 → a ≠ b → (TX12 a).2.1 ≠ (TX12 b).2.1 := by decide +kernel
theorem tyX12_ok : ∀ k, k < 22 → parseFieldDescriptor (TX12 k).2.2.1 = some (tyX12 k) := by decide +kernel
abbrev cX12_init : ByteArray := prog_14_method_1_code
def yX12_init : MethodName := ⟨RX12, "<init>", "()V"⟩
abbrev cX12_thrown : ByteArray := prog_14_method_2_code
def yX12_thrown : MethodName := ⟨RX12, "thrown", "()I"⟩
abbrev cX12_isIn : ByteArray := prog_14_method_3_code
def yX12_isIn : MethodName := ⟨RX12, "isIn", "(III)Z"⟩
abbrev cX12_of : ByteArray := prog_14_method_4_code
def yX12_of : MethodName := ⟨RX12, "of", "(II)I"⟩
abbrev cX12_isThing : ByteArray := prog_14_method_5_code
def yX12_isThing : MethodName := ⟨RX12, "isThing", "(I)Z"⟩
abbrev cX12_isBody : ByteArray := prog_14_method_6_code
def yX12_isBody : MethodName := ⟨RX12, "isBody", "(I)Z"⟩
abbrev cX12_isHole : ByteArray := prog_14_method_7_code
def yX12_isHole : MethodName := ⟨RX12, "isHole", "(I)Z"⟩
abbrev cX12_isTracing : ByteArray := prog_14_method_8_code
def yX12_isTracing : MethodName := ⟨RX12, "isTracing", "(I)Z"⟩
abbrev cX12_traced : ByteArray := prog_14_method_9_code
def yX12_traced : MethodName := ⟨RX12, "traced", "(II)I"⟩
abbrev cX12_down : ByteArray := prog_14_method_10_code
def yX12_down : MethodName := ⟨RX12, "down", "(II)I"⟩
abbrev cX12_feed : ByteArray := prog_14_method_11_code
def yX12_feed : MethodName := ⟨RX12, "feed", "(IIIII)I"⟩
abbrev cX12_end : ByteArray := prog_14_method_12_code
def yX12_end : MethodName := ⟨RX12, "end", "(I)Z"⟩
abbrev cX12_letter : ByteArray := prog_14_method_13_code
def yX12_letter : MethodName := ⟨RX12, "letter", "(I)I"⟩
abbrev cX12_skip : ByteArray := prog_14_method_14_code
def yX12_skip : MethodName := ⟨RX12, "skip", "()V"⟩
abbrev cX12_isSign : ByteArray := prog_14_method_15_code
def yX12_isSign : MethodName := ⟨RX12, "isSign", "(I)Z"⟩
abbrev cX12_isFigure : ByteArray := prog_14_method_16_code
def yX12_isFigure : MethodName := ⟨RX12, "isFigure", "()Z"⟩
abbrev cX12_has : ByteArray := prog_14_method_17_code
def yX12_has : MethodName := ⟨RX12, "has", "(Ljava/lang/String;)Z"⟩
abbrev cX12_wrong : ByteArray := prog_14_method_18_code
def yX12_wrong : MethodName := ⟨RX12, "wrong", "(I)V"⟩
abbrev cX12_must : ByteArray := prog_14_method_19_code
def yX12_must : MethodName := ⟨RX12, "must", "(Ljava/lang/String;)V"⟩
abbrev cX12_figures : ByteArray := prog_14_method_20_code
def yX12_figures : MethodName := ⟨RX12, "figures", "(III)I"⟩
abbrev cX12_signed : ByteArray := prog_14_method_21_code
def yX12_signed : MethodName := ⟨RX12, "signed", "(II)I"⟩
abbrev cX12_bodyLine : ByteArray := prog_14_method_22_code
def yX12_bodyLine : MethodName := ⟨RX12, "bodyLine", "(IZ)V"⟩
abbrev cX12_wallLine : ByteArray := prog_14_method_23_code
def yX12_wallLine : MethodName := ⟨RX12, "wallLine", "()V"⟩
abbrev cX12_harbourLine : ByteArray := prog_14_method_24_code
def yX12_harbourLine : MethodName := ⟨RX12, "harbourLine", "()V"⟩
abbrev cX12_begins : ByteArray := prog_14_method_25_code
def yX12_begins : MethodName := ⟨RX12, "begins", "()V"⟩
abbrev cX12_read : ByteArray := prog_14_method_26_code
def yX12_read : MethodName := ⟨RX12, "read", "(Z)I"⟩
abbrev cX12_harbour : ByteArray := prog_14_method_27_code
def yX12_harbour : MethodName := ⟨RX12, "harbour", "()I"⟩
abbrev cX12_part : ByteArray := prog_14_method_28_code
def yX12_part : MethodName := ⟨RX12, "part", "()I"⟩
abbrev cX12_sum : ByteArray := prog_14_method_29_code
def yX12_sum : MethodName := ⟨RX12, "sum", "()I"⟩
abbrev cX12_plain : ByteArray := prog_14_method_30_code
def yX12_plain : MethodName := ⟨RX12, "plain", "()Z"⟩
abbrev cX12_atom : ByteArray := prog_14_method_31_code
def yX12_atom : MethodName := ⟨RX12, "atom", "()Z"⟩
abbrev cX12_every : ByteArray := prog_14_method_32_code
def yX12_every : MethodName := ⟨RX12, "every", "()Z"⟩
abbrev cX12_some : ByteArray := prog_14_method_33_code
def yX12_some : MethodName := ⟨RX12, "some", "()Z"⟩
abbrev cX12_lawLine : ByteArray := prog_14_method_34_code
def yX12_lawLine : MethodName := ⟨RX12, "lawLine", "()V"⟩
abbrev cX12_law : ByteArray := prog_14_method_35_code
def yX12_law : MethodName := ⟨RX12, "law", "()I"⟩
abbrev cX12_fault : ByteArray := prog_14_method_36_code
def yX12_fault : MethodName := ⟨RX12, "fault", "()I"⟩
abbrev cX12_looksNow : ByteArray := prog_14_method_37_code
def yX12_looksNow : MethodName := ⟨RX12, "looksNow", "()V"⟩
abbrev cX12_looksBy : ByteArray := prog_14_method_38_code
def yX12_looksBy : MethodName := ⟨RX12, "looksBy", "(I)V"⟩
abbrev cX12_tideNow : ByteArray := prog_14_method_39_code
def yX12_tideNow : MethodName := ⟨RX12, "tideNow", "()I"⟩
abbrev cX12_xOf : ByteArray := prog_14_method_40_code
def yX12_xOf : MethodName := ⟨RX12, "xOf", "(I)I"⟩
abbrev cX12_lowOf : ByteArray := prog_14_method_41_code
def yX12_lowOf : MethodName := ⟨RX12, "lowOf", "(I)I"⟩
abbrev cX12_highOf : ByteArray := prog_14_method_42_code
def yX12_highOf : MethodName := ⟨RX12, "highOf", "(I)I"⟩
abbrev cX12_isThere : ByteArray := prog_14_method_43_code
def yX12_isThere : MethodName := ⟨RX12, "isThere", "(I)Z"⟩
abbrev cX12_isLight : ByteArray := prog_14_method_44_code
def yX12_isLight : MethodName := ⟨RX12, "isLight", "()Z"⟩
abbrev cX12_above : ByteArray := prog_14_method_45_code
def yX12_above : MethodName := ⟨RX12, "above", "(IIIZ)I"⟩
abbrev cX12_hides : ByteArray := prog_14_method_46_code
def yX12_hides : MethodName := ⟨RX12, "hides", "(IIII)Z"⟩
abbrev cX12_hiderOf : ByteArray := prog_14_method_47_code
def yX12_hiderOf : MethodName := ⟨RX12, "hiderOf", "(IIII)I"⟩
abbrev cX12_isOnWall : ByteArray := prog_14_method_48_code
def yX12_isOnWall : MethodName := ⟨RX12, "isOnWall", "(III)Z"⟩
abbrev cX12_isPointSeen : ByteArray := prog_14_method_49_code
def yX12_isPointSeen : MethodName := ⟨RX12, "isPointSeen", "(IIII)Z"⟩
abbrev cX12_sees : ByteArray := prog_14_method_50_code
def yX12_sees : MethodName := ⟨RX12, "sees", "(I)Z"⟩
abbrev cX12_isSeenBySome : ByteArray := prog_14_method_51_code
def yX12_isSeenBySome : MethodName := ⟨RX12, "isSeenBySome", "(I)Z"⟩
abbrev cX12_now : ByteArray := prog_14_method_52_code
def yX12_now : MethodName := ⟨RX12, "now", "(II)I"⟩
abbrev cX12_body : ByteArray := prog_14_method_53_code
def yX12_body : MethodName := ⟨RX12, "body", "(II)I"⟩
abbrev cX12_divisor : ByteArray := prog_14_method_54_code
def yX12_divisor : MethodName := ⟨RX12, "divisor", "(II)I"⟩
abbrev cX12_spot : ByteArray := prog_14_method_55_code
def yX12_spot : MethodName := ⟨RX12, "spot", "(IIZI)I"⟩
abbrev cX12_seen : ByteArray := prog_14_method_56_code
def yX12_seen : MethodName := ⟨RX12, "seen", "(II)Z"⟩
abbrev cX12_hider : ByteArray := prog_14_method_57_code
def yX12_hider : MethodName := ⟨RX12, "hider", "(II)I"⟩
abbrev cX12_chargeOf : ByteArray := prog_14_method_58_code
def yX12_chargeOf : MethodName := ⟨RX12, "chargeOf", "(I)I"⟩
abbrev cX12_charge : ByteArray := prog_14_method_59_code
def yX12_charge : MethodName := ⟨RX12, "charge", "(I)I"⟩
abbrev cX12_charges : ByteArray := prog_14_method_60_code
def yX12_charges : MethodName := ⟨RX12, "charges", "(I)I"⟩
abbrev cX12_tide : ByteArray := prog_14_method_61_code
def yX12_tide : MethodName := ⟨RX12, "tide", "(II)I"⟩
abbrev cX12_adds : ByteArray := prog_14_method_62_code
def yX12_adds : MethodName := ⟨RX12, "adds", "(IIIII)I"⟩
abbrev cX12_trace : ByteArray := prog_14_method_63_code
def yX12_trace : MethodName := ⟨RX12, "trace", "(IIIII)I"⟩
abbrev cX12_draw : ByteArray := prog_14_method_64_code
def yX12_draw : MethodName := ⟨RX12, "draw", "(II)I"⟩
abbrev cX12_undo : ByteArray := prog_14_method_65_code
def yX12_undo : MethodName := ⟨RX12, "undo", "()I"⟩
abbrev cX12_isAt : ByteArray := prog_14_method_66_code
def yX12_isAt : MethodName := ⟨RX12, "isAt", "(IIIII)Z"⟩
abbrev cX12_fits : ByteArray := prog_14_method_67_code
def yX12_fits : MethodName := ⟨RX12, "fits", "(II)Z"⟩
abbrev cX12_whichOf : ByteArray := prog_14_method_68_code
def yX12_whichOf : MethodName := ⟨RX12, "whichOf", "(I)I"⟩
abbrev cX12_which : ByteArray := prog_14_method_69_code
def yX12_which : MethodName := ⟨RX12, "which", "(I)I"⟩
abbrev cX12_slips : ByteArray := prog_14_method_70_code
def yX12_slips : MethodName := ⟨RX12, "slips", "()I"⟩
abbrev cX12_places : ByteArray := prog_14_method_71_code
def yX12_places : MethodName := ⟨RX12, "places", "(IIII)I"⟩
abbrev cX12_when : ByteArray := prog_14_method_72_code
def yX12_when : MethodName := ⟨RX12, "when", "(IZ)I"⟩
abbrev cX12_paces : ByteArray := prog_14_method_73_code
def yX12_paces : MethodName := ⟨RX12, "paces", "(IIII)I"⟩
abbrev cX12_mark : ByteArray := prog_14_method_74_code
def yX12_mark : MethodName := ⟨RX12, "mark", "(IIIIZ)I"⟩
abbrev cX12_setting : ByteArray := prog_14_method_75_code
def yX12_setting : MethodName := ⟨RX12, "setting", "(III)I"⟩
abbrev cX12_boatSeen : ByteArray := prog_14_method_76_code
def yX12_boatSeen : MethodName := ⟨RX12, "boatSeen", "(II)I"⟩
abbrev cX12_way : ByteArray := prog_14_method_77_code
def yX12_way : MethodName := ⟨RX12, "way", "(I)I"⟩
abbrev cX12_met : ByteArray := prog_14_method_78_code
def yX12_met : MethodName := ⟨RX12, "met", "(III)I"⟩
abbrev cX12_image : ByteArray := prog_14_method_79_code
def yX12_image : MethodName := ⟨RX12, "image", "()V"⟩
abbrev cX12_back : ByteArray := prog_14_method_80_code
def yX12_back : MethodName := ⟨RX12, "back", "()Z"⟩
abbrev cX12_count : ByteArray := prog_14_method_81_code
def yX12_count : MethodName := ⟨RX12, "count", "(I)I"⟩
def RJx145de : String := "java/io/Serializable"
def TJx145de : u_T := fun k => match k with
  | _ => ("", "", "", false)
def tyJx145de : Nat → FieldType := fun k => match k with
  | _ => .int
abbrev wsJx145de0 : List Cond := u_ws RJx145de TJx145de 0
theorem nmJx145de : ∀ a, a < 0 → ∀ b, b < 0 → a ≠ b → (TJx145de a).2.1 ≠ (TJx145de b).2.1 := by decide +kernel
theorem tyJx145de_ok : ∀ k, k < 0 → parseFieldDescriptor (TJx145de k).2.2.1 = some (tyJx145de k) := by decide +kernel
def RJx9f9b0 : String := "java/lang/CharSequence"
def TJx9f9b0 : u_T := fun k => match k with
  | _ => ("", "", "", false)
def tyJx9f9b0 : Nat → FieldType := fun k => match k with
  | _ => .int
abbrev wsJx9f9b00 : List Cond := u_ws RJx9f9b0 TJx9f9b0 0
theorem nmJx9f9b0 : ∀ a, a < 0 → ∀ b, b < 0 → a ≠ b → (TJx9f9b0 a).2.1 ≠ (TJx9f9b0 b).2.1 := by decide +kernel
theorem tyJx9f9b0_ok : ∀ k, k < 0 → parseFieldDescriptor (TJx9f9b0 k).2.2.1 = some (tyJx9f9b0 k) := by decide +kernel
def RJxb160c : String := "java/lang/Comparable"
def TJxb160c : u_T := fun k => match k with
  | _ => ("", "", "", false)
def tyJxb160c : Nat → FieldType := fun k => match k with
  | _ => .int
abbrev wsJxb160c0 : List Cond := u_ws RJxb160c TJxb160c 0
theorem nmJxb160c : ∀ a, a < 0 → ∀ b, b < 0 → a ≠ b → (TJxb160c a).2.1 ≠ (TJxb160c b).2.1 := by decide +kernel
theorem tyJxb160c_ok : ∀ k, k < 0 → parseFieldDescriptor (TJxb160c k).2.2.1 = some (tyJxb160c k) := by decide +kernel
def RJ6 : String := "java/lang/Integer"
def TJ6 : u_T := fun k => match k with
  | _ => ("", "", "", false)
def tyJ6 : Nat → FieldType := fun k => match k with
  | _ => .int
abbrev wsJ60 : List Cond := u_ws RJ6 TJ6 0
theorem nmJ6 : ∀ a, a < 0 → ∀ b, b < 0 → a ≠ b → (TJ6 a).2.1 ≠ (TJ6 b).2.1 := by decide +kernel
theorem tyJ6_ok : ∀ k, k < 0 → parseFieldDescriptor (TJ6 k).2.2.1 = some (tyJ6 k) := by decide +kernel
abbrev cJ6_bitCount_0f7a4 : ByteArray := prog_21_method_49_code
def yJ6_bitCount_0f7a4 : MethodName := ⟨RJ6, "bitCount", "(I)I"⟩
def RJ9 : String := "java/lang/Math"
def TJ9 : u_T := fun k => match k with
  | _ => ("", "", "", false)
def tyJ9 : Nat → FieldType := fun k => match k with
  | _ => .int
abbrev wsJ90 : List Cond := u_ws RJ9 TJ9 0
theorem nmJ9 : ∀ a, a < 0 → ∀ b, b < 0 → a ≠ b → (TJ9 a).2.1 ≠ (TJ9 b).2.1 := by decide +kernel
theorem tyJ9_ok : ∀ k, k < 0 → parseFieldDescriptor (TJ9 k).2.2.1 = some (tyJ9 k) := by decide +kernel
abbrev cJ9_floorDiv_7cf53 : ByteArray := prog_22_method_47_code
def yJ9_floorDiv_7cf53 : MethodName := ⟨RJ9, "floorDiv", "(II)I"⟩
abbrev cJ9_floorMod_7cf53 : ByteArray := prog_22_method_50_code
def yJ9_floorMod_7cf53 : MethodName := ⟨RJ9, "floorMod", "(II)I"⟩
abbrev cJ9_max_7cf53 : ByteArray := prog_22_method_65_code
def yJ9_max_7cf53 : MethodName := ⟨RJ9, "max", "(II)I"⟩
abbrev cJ9_min_7cf53 : ByteArray := prog_22_method_69_code
def yJ9_min_7cf53 : MethodName := ⟨RJ9, "min", "(II)I"⟩
def RJ0 : String := "java/lang/String"
def TJ0 : u_T := fun k => match k with
  | _ => ("", "", "", false)
def tyJ0 : Nat → FieldType := fun k => match k with
  | _ => .int
abbrev wsJ00 : List Cond := u_ws RJ0 TJ0 0
theorem nmJ0 : ∀ a, a < 0 → ∀ b, b < 0 → a ≠ b → (TJ0 a).2.1 ≠ (TJ0 b).2.1 := by decide +kernel
theorem tyJ0_ok : ∀ k, k < 0 → parseFieldDescriptor (TJ0 k).2.2.1 = some (tyJ0 k) := by decide +kernel
abbrev cJ0_length_8abf5 : ByteArray := prog_24_method_54_code
def yJ0_length_8abf5 : MethodName := ⟨RJ0, "length", "()I"⟩
abbrev cJ0_charAt_5068e : ByteArray := prog_24_method_56_code
def yJ0_charAt_5068e : MethodName := ⟨RJ0, "charAt", "(I)C"⟩
abbrev cJ0_coder_7d493 : ByteArray := prog_24_method_152_code
def yJ0_coder_7d493 : MethodName := ⟨RJ0, "coder", "()B"⟩
abbrev cJ0_isLatin1_aae02 : ByteArray := prog_24_method_154_code
def yJ0_isLatin1_aae02 : MethodName := ⟨RJ0, "isLatin1", "()Z"⟩
abbrev cJ0_checkIndex_df160 : ByteArray := prog_24_method_155_code
def yJ0_checkIndex_df160 : MethodName := ⟨RJ0, "checkIndex", "(II)V"⟩
def RJ1 : String := "java/lang/StringLatin1"
def TJ1 : u_T := fun k => match k with
  | _ => ("", "", "", false)
def tyJ1 : Nat → FieldType := fun k => match k with
  | _ => .int
abbrev wsJ10 : List Cond := u_ws RJ1 TJ1 0
theorem nmJ1 : ∀ a, a < 0 → ∀ b, b < 0 → a ≠ b → (TJ1 a).2.1 ≠ (TJ1 b).2.1 := by decide +kernel
theorem tyJ1_ok : ∀ k, k < 0 → parseFieldDescriptor (TJ1 k).2.2.1 = some (tyJ1 k) := by decide +kernel
abbrev cJ1_charAt_3b067 : ByteArray := prog_25_method_2_code
def yJ1_charAt_3b067 : MethodName := ⟨RJ1, "charAt", "([BI)C"⟩
def RJ2 : String := "java/lang/StringUTF16"
def TJ2 : u_T := fun k => match k with
  | _ => ("", "", "", false)
def tyJ2 : Nat → FieldType := fun k => match k with
  | _ => .int
abbrev wsJ20 : List Cond := u_ws RJ2 TJ2 0
theorem nmJ2 : ∀ a, a < 0 → ∀ b, b < 0 → a ≠ b → (TJ2 a).2.1 ≠ (TJ2 b).2.1 := by decide +kernel
theorem tyJ2_ok : ∀ k, k < 0 → parseFieldDescriptor (TJ2 k).2.2.1 = some (tyJ2 k) := by decide +kernel
abbrev cJ2_getChar_3b067 : ByteArray := prog_26_method_5_code
def yJ2_getChar_3b067 : MethodName := ⟨RJ2, "getChar", "([BI)C"⟩
abbrev cJ2_length_9d52b : ByteArray := prog_26_method_6_code
def yJ2_length_9d52b : MethodName := ⟨RJ2, "length", "([B)I"⟩
abbrev cJ2_charAt_3b067 : ByteArray := prog_26_method_83_code
def yJ2_charAt_3b067 : MethodName := ⟨RJ2, "charAt", "([BI)C"⟩
abbrev cJ2_checkIndex_2214a : ByteArray := prog_26_method_91_code
def yJ2_checkIndex_2214a : MethodName := ⟨RJ2, "checkIndex", "(I[B)V"⟩
def RJ10 : String := "java/lang/System"
def TJ10 : u_T := fun k => match k with
  | _ => ("", "", "", false)
def tyJ10 : Nat → FieldType := fun k => match k with
  | _ => .int
abbrev wsJ100 : List Cond := u_ws RJ10 TJ10 0
theorem nmJ10 : ∀ a, a < 0 → ∀ b, b < 0 → a ≠ b → (TJ10 a).2.1 ≠ (TJ10 b).2.1 := by decide +kernel
theorem tyJ10_ok : ∀ k, k < 0 → parseFieldDescriptor (TJ10 k).2.2.1 = some (tyJ10 k) := by decide +kernel
def RJxfd54e : String := "java/lang/constant/Constable"
def TJxfd54e : u_T := fun k => match k with
  | _ => ("", "", "", false)
def tyJxfd54e : Nat → FieldType := fun k => match k with
  | _ => .int
abbrev wsJxfd54e0 : List Cond := u_ws RJxfd54e TJxfd54e 0
theorem nmJxfd54e : ∀ a, a < 0 → ∀ b, b < 0 → a ≠ b → (TJxfd54e a).2.1 ≠ (TJxfd54e b).2.1 := by decide +kernel
theorem tyJxfd54e_ok : ∀ k, k < 0 → parseFieldDescriptor (TJxfd54e k).2.2.1 = some (tyJxfd54e k) := by decide +kernel
def RJx3cf43 : String := "java/lang/constant/ConstantDesc"
def TJx3cf43 : u_T := fun k => match k with
  | _ => ("", "", "", false)
def tyJx3cf43 : Nat → FieldType := fun k => match k with
  | _ => .int
abbrev wsJx3cf430 : List Cond := u_ws RJx3cf43 TJx3cf43 0
theorem nmJx3cf43 : ∀ a, a < 0 → ∀ b, b < 0 → a ≠ b → (TJx3cf43 a).2.1 ≠ (TJx3cf43 b).2.1 := by decide +kernel
theorem tyJx3cf43_ok : ∀ k, k < 0 → parseFieldDescriptor (TJx3cf43 k).2.2.1 = some (tyJx3cf43 k) := by decide +kernel
def RJ7 : String := "java/util/Arrays"
def TJ7 : u_T := fun k => match k with
  | _ => ("", "", "", false)
def tyJ7 : Nat → FieldType := fun k => match k with
  | _ => .int
abbrev wsJ70 : List Cond := u_ws RJ7 TJ7 0
theorem nmJ7 : ∀ a, a < 0 → ∀ b, b < 0 → a ≠ b → (TJ7 a).2.1 ≠ (TJ7 b).2.1 := by decide +kernel
theorem tyJ7_ok : ∀ k, k < 0 → parseFieldDescriptor (TJ7 k).2.2.1 = some (tyJ7 k) := by decide +kernel
abbrev cJ7_fill_53178 : ByteArray := prog_32_method_103_code
def yJ7_fill_53178 : MethodName := ⟨RJ7, "fill", "([II)V"⟩
def RJ3 : String := "jdk/internal/util/Preconditions"
def TJ3 : u_T := fun k => match k with
  | _ => ("", "", "", false)
def tyJ3 : Nat → FieldType := fun k => match k with
  | _ => .int
abbrev wsJ30 : List Cond := u_ws RJ3 TJ3 0
theorem nmJ3 : ∀ a, a < 0 → ∀ b, b < 0 → a ≠ b → (TJ3 a).2.1 ≠ (TJ3 b).2.1 := by decide +kernel
theorem tyJ3_ok : ∀ k, k < 0 → parseFieldDescriptor (TJ3 k).2.2.1 = some (tyJ3 k) := by decide +kernel
abbrev cJ3_checkIndex_8e157 : ByteArray := prog_34_method_11_code
def yJ3_checkIndex_8e157 : MethodName := ⟨RJ3, "checkIndex", "(IILjava/util/function/BiFunction;)I"⟩
def RL : String := "WallHarbourLaw"
abbrev cL_harbour : ByteArray := method_3_code
def yL_harbour : MethodName := ⟨RL, "harbour", "(LWallHarbour;[J)I"⟩
abbrev cL_law : ByteArray := method_4_code
def yL_law : MethodName := ⟨RL, "law", "(LWallHarbour;[J)I"⟩
abbrev cL_now : ByteArray := method_5_code
def yL_now : MethodName := ⟨RL, "now", "(LWallHarbour;II[J)I"⟩
abbrev cL_body : ByteArray := method_6_code
def yL_body : MethodName := ⟨RL, "body", "(LWallHarbour;II[J)I"⟩
abbrev cL_spot : ByteArray := method_7_code
def yL_spot : MethodName := ⟨RL, "spot", "(LWallHarbour;IIZI[J)I"⟩
abbrev cL_seen : ByteArray := method_8_code
def yL_seen : MethodName := ⟨RL, "seen", "(LWallHarbour;II[J)I"⟩
abbrev cL_hider : ByteArray := method_9_code
def yL_hider : MethodName := ⟨RL, "hider", "(LWallHarbour;II[J)I"⟩
abbrev cL_charge : ByteArray := method_10_code
def yL_charge : MethodName := ⟨RL, "charge", "(LWallHarbour;I[J)I"⟩
abbrev cL_charges : ByteArray := method_11_code
def yL_charges : MethodName := ⟨RL, "charges", "(LWallHarbour;I[J)I"⟩
abbrev cL_tide : ByteArray := method_12_code
def yL_tide : MethodName := ⟨RL, "tide", "(LWallHarbour;II[J)I"⟩
abbrev cL_trace : ByteArray := method_13_code
def yL_trace : MethodName := ⟨RL, "trace", "(LWallHarbour;IIIII[J)I"⟩
abbrev cL_draw : ByteArray := method_14_code
def yL_draw : MethodName := ⟨RL, "draw", "(LWallHarbour;II[J)I"⟩
abbrev cL_which : ByteArray := method_15_code
def yL_which : MethodName := ⟨RL, "which", "(LWallHarbour;I[J)I"⟩
abbrev cL_places : ByteArray := method_16_code
def yL_places : MethodName := ⟨RL, "places", "(LWallHarbour;IIII[J)I"⟩
abbrev cL_when : ByteArray := method_17_code
def yL_when : MethodName := ⟨RL, "when", "(LWallHarbour;IZ[J)I"⟩
abbrev cL_paces : ByteArray := method_18_code
def yL_paces : MethodName := ⟨RL, "paces", "(LWallHarbour;IIII[J)I"⟩
abbrev cL_mark : ByteArray := method_19_code
def yL_mark : MethodName := ⟨RL, "mark", "(LWallHarbour;IIIIZ[J)I"⟩
abbrev cL_setting : ByteArray := method_20_code
def yL_setting : MethodName := ⟨RL, "setting", "(LWallHarbour;III[J)I"⟩
abbrev cL_way : ByteArray := method_21_code
def yL_way : MethodName := ⟨RL, "way", "(LWallHarbour;I[J)I"⟩
abbrev cL_met : ByteArray := method_22_code
def yL_met : MethodName := ⟨RL, "met", "(LWallHarbour;III[J)I"⟩
abbrev cL_law_ : ByteArray := code
def yL_law_ : MethodName := ⟨RL, "law", "([I)Z"⟩
abbrev vwCl : List vw_C := [(RX0, TX0, 10), (RX1, TX1, 4), (RX2, TX2, 1), (RX3, TX3, 6), (RX4, TX4, 1), (RX5, TX5, 4), (RX6, TX6, 8), (RX7, TX7, 17), (RX8, TX8, 4), (RX9, TX9, 6), (RX10, TX10, 3), (RX11, TX11, 12), (RX12, TX12, 22)]
