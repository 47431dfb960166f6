section
-- ===== PART A: goes FIRST, ahead of the names: the tables' words, and 'selects' of the private methods out of them =====
/-- a private method of a class that the tables say can be made, by its rows of tables_1 -/
def lw_okq (q : MethodName × Nat) : Prop := (q.1.cls ≠ "java/lang/invoke/MethodHandle" ∧ q.1.cls ≠ "java/lang/invoke/VarHandle") ∧ Cond.instantiable q.1.cls q.2 ∈ tables_1 ∧ Cond.privateMethod q.1 ∈ tables_1 ∧ Cond.instanceMethod q.1 ∈ tables_1
theorem lw_p0 : lw_okq (⟨"NeedsALoser", "refuse", "(I)I"⟩, 9) := ⟨⟨by decide +kernel, by decide +kernel⟩, List.mem_of_getElem? (i := 16) (by decide +kernel), List.mem_of_getElem? (i := 231) (by decide +kernel), List.mem_of_getElem? (i := 232) (by decide +kernel)⟩
theorem lw_p1 : lw_okq (⟨"NeedsALoser", "thirdByShelf", "(III)I"⟩, 9) := ⟨⟨by decide +kernel, by decide +kernel⟩, List.mem_of_getElem? (i := 16) (by decide +kernel), List.mem_of_getElem? (i := 340) (by decide +kernel), List.mem_of_getElem? (i := 341) (by decide +kernel)⟩
theorem lw_p2 : lw_okq (⟨"NeedsALoser$Reader", "step", "()V"⟩, 6) := ⟨⟨by decide +kernel, by decide +kernel⟩, List.mem_of_getElem? (i := 128) (by decide +kernel), List.mem_of_getElem? (i := 507) (by decide +kernel), List.mem_of_getElem? (i := 508) (by decide +kernel)⟩
theorem lw_p3 : lw_okq (⟨"NeedsALoser$Reader", "tokenOf", "(I)I"⟩, 6) := ⟨⟨by decide +kernel, by decide +kernel⟩, List.mem_of_getElem? (i := 128) (by decide +kernel), List.mem_of_getElem? (i := 512) (by decide +kernel), List.mem_of_getElem? (i := 513) (by decide +kernel)⟩
theorem lw_p4 : lw_okq (⟨"NeedsALoser$Reader", "readStatement", "(LNeedsALoser$Town;)V"⟩, 6) := ⟨⟨by decide +kernel, by decide +kernel⟩, List.mem_of_getElem? (i := 128) (by decide +kernel), List.mem_of_getElem? (i := 517) (by decide +kernel), List.mem_of_getElem? (i := 518) (by decide +kernel)⟩
theorem lw_p5 : lw_okq (⟨"NeedsALoser$Reader", "isWord", "(Ljava/lang/String;)Z"⟩, 6) := ⟨⟨by decide +kernel, by decide +kernel⟩, List.mem_of_getElem? (i := 128) (by decide +kernel), List.mem_of_getElem? (i := 522) (by decide +kernel), List.mem_of_getElem? (i := 523) (by decide +kernel)⟩
theorem lw_p6 : lw_okq (⟨"NeedsALoser$Reader", "readOne", "(LNeedsALoser$Town;)V"⟩, 6) := ⟨⟨by decide +kernel, by decide +kernel⟩, List.mem_of_getElem? (i := 128) (by decide +kernel), List.mem_of_getElem? (i := 574) (by decide +kernel), List.mem_of_getElem? (i := 575) (by decide +kernel)⟩
theorem lw_p7 : lw_okq (⟨"NeedsALoser$Reader", "fail", "()V"⟩, 6) := ⟨⟨by decide +kernel, by decide +kernel⟩, List.mem_of_getElem? (i := 128) (by decide +kernel), List.mem_of_getElem? (i := 578) (by decide +kernel), List.mem_of_getElem? (i := 579) (by decide +kernel)⟩
theorem lw_p8 : lw_okq (⟨"NeedsALoser$Reader", "readDeal", "(LNeedsALoser$Town;)V"⟩, 6) := ⟨⟨by decide +kernel, by decide +kernel⟩, List.mem_of_getElem? (i := 128) (by decide +kernel), List.mem_of_getElem? (i := 584) (by decide +kernel), List.mem_of_getElem? (i := 585) (by decide +kernel)⟩
theorem lw_p9 : lw_okq (⟨"NeedsALoser$Reader", "readNumber", "(III)I"⟩, 6) := ⟨⟨by decide +kernel, by decide +kernel⟩, List.mem_of_getElem? (i := 128) (by decide +kernel), List.mem_of_getElem? (i := 588) (by decide +kernel), List.mem_of_getElem? (i := 589) (by decide +kernel)⟩
theorem lw_p10 : lw_okq (⟨"NeedsALoser$Reader", "numberHere", "()I"⟩, 6) := ⟨⟨by decide +kernel, by decide +kernel⟩, List.mem_of_getElem? (i := 128) (by decide +kernel), List.mem_of_getElem? (i := 592) (by decide +kernel), List.mem_of_getElem? (i := 593) (by decide +kernel)⟩
theorem lw_p11 : lw_okq (⟨"NeedsALoser$Reader", "readGains", "(LNeedsALoser$Town;)V"⟩, 6) := ⟨⟨by decide +kernel, by decide +kernel⟩, List.mem_of_getElem? (i := 128) (by decide +kernel), List.mem_of_getElem? (i := 600) (by decide +kernel), List.mem_of_getElem? (i := 601) (by decide +kernel)⟩
theorem lw_p12 : lw_okq (⟨"NeedsALoser$Reader", "readBars", "(LNeedsALoser$Town;)V"⟩, 6) := ⟨⟨by decide +kernel, by decide +kernel⟩, List.mem_of_getElem? (i := 128) (by decide +kernel), List.mem_of_getElem? (i := 605) (by decide +kernel), List.mem_of_getElem? (i := 606) (by decide +kernel)⟩
theorem lw_p13 : lw_okq (⟨"NeedsALoser$Reader", "readLaw", "(LNeedsALoser$Town;I)V"⟩, 6) := ⟨⟨by decide +kernel, by decide +kernel⟩, List.mem_of_getElem? (i := 128) (by decide +kernel), List.mem_of_getElem? (i := 611) (by decide +kernel), List.mem_of_getElem? (i := 612) (by decide +kernel)⟩
theorem lw_p14 : lw_okq (⟨"NeedsALoser", "refuseBelow", "(I)I"⟩, 9) := ⟨⟨by decide +kernel, by decide +kernel⟩, List.mem_of_getElem? (i := 16) (by decide +kernel), List.mem_of_getElem? (i := 632) (by decide +kernel), List.mem_of_getElem? (i := 633) (by decide +kernel)⟩
theorem lw_p15 : lw_okq (⟨"NeedsALoser", "toldRefusal", "(I)I"⟩, 9) := ⟨⟨by decide +kernel, by decide +kernel⟩, List.mem_of_getElem? (i := 16) (by decide +kernel), List.mem_of_getElem? (i := 660) (by decide +kernel), List.mem_of_getElem? (i := 661) (by decide +kernel)⟩
def lw_privs_1 : List (MethodName × Nat) := [(⟨"NeedsALoser", "refuse", "(I)I"⟩, 9), (⟨"NeedsALoser", "thirdByShelf", "(III)I"⟩, 9), (⟨"NeedsALoser$Reader", "step", "()V"⟩, 6), (⟨"NeedsALoser$Reader", "tokenOf", "(I)I"⟩, 6), (⟨"NeedsALoser$Reader", "readStatement", "(LNeedsALoser$Town;)V"⟩, 6), (⟨"NeedsALoser$Reader", "isWord", "(Ljava/lang/String;)Z"⟩, 6), (⟨"NeedsALoser$Reader", "readOne", "(LNeedsALoser$Town;)V"⟩, 6), (⟨"NeedsALoser$Reader", "fail", "()V"⟩, 6), (⟨"NeedsALoser$Reader", "readDeal", "(LNeedsALoser$Town;)V"⟩, 6), (⟨"NeedsALoser$Reader", "readNumber", "(III)I"⟩, 6), (⟨"NeedsALoser$Reader", "numberHere", "()I"⟩, 6), (⟨"NeedsALoser$Reader", "readGains", "(LNeedsALoser$Town;)V"⟩, 6), (⟨"NeedsALoser$Reader", "readBars", "(LNeedsALoser$Town;)V"⟩, 6), (⟨"NeedsALoser$Reader", "readLaw", "(LNeedsALoser$Town;I)V"⟩, 6), (⟨"NeedsALoser", "refuseBelow", "(I)I"⟩, 9), (⟨"NeedsALoser", "toldRefusal", "(I)I"⟩, 9)]
theorem lw_r1 : ∀ q ∈ lw_privs_1, lw_okq q := List.forall_mem_cons.mpr ⟨lw_p0, List.forall_mem_cons.mpr ⟨lw_p1, List.forall_mem_cons.mpr ⟨lw_p2, List.forall_mem_cons.mpr ⟨lw_p3, List.forall_mem_cons.mpr ⟨lw_p4, List.forall_mem_cons.mpr ⟨lw_p5, List.forall_mem_cons.mpr ⟨lw_p6, List.forall_mem_cons.mpr ⟨lw_p7, List.forall_mem_cons.mpr ⟨lw_p8, List.forall_mem_cons.mpr ⟨lw_p9, List.forall_mem_cons.mpr ⟨lw_p10, List.forall_mem_cons.mpr ⟨lw_p11, List.forall_mem_cons.mpr ⟨lw_p12, List.forall_mem_cons.mpr ⟨lw_p13, List.forall_mem_cons.mpr ⟨lw_p14, List.forall_mem_cons.mpr ⟨lw_p15, fun _ h => absurd h List.not_mem_nil⟩⟩⟩⟩⟩⟩⟩⟩⟩⟩⟩⟩⟩⟩⟩⟩
theorem lw_p16 : lw_okq (⟨"NeedsALoser$Week", "begin", "()V"⟩, 3) := ⟨⟨by decide +kernel, by decide +kernel⟩, List.mem_of_getElem? (i := 154) (by decide +kernel), List.mem_of_getElem? (i := 668) (by decide +kernel), List.mem_of_getElem? (i := 669) (by decide +kernel)⟩
theorem lw_p17 : lw_okq (⟨"NeedsALoser$Week", "isBarred", "(LNeedsALoser$Town;I)Z"⟩, 3) := ⟨⟨by decide +kernel, by decide +kernel⟩, List.mem_of_getElem? (i := 154) (by decide +kernel), List.mem_of_getElem? (i := 673) (by decide +kernel), List.mem_of_getElem? (i := 674) (by decide +kernel)⟩
theorem lw_p18 : lw_okq (⟨"NeedsALoser$Week", "take", "(II)V"⟩, 3) := ⟨⟨by decide +kernel, by decide +kernel⟩, List.mem_of_getElem? (i := 154) (by decide +kernel), List.mem_of_getElem? (i := 680) (by decide +kernel), List.mem_of_getElem? (i := 681) (by decide +kernel)⟩
theorem lw_p19 : lw_okq (⟨"NeedsALoser$Week", "sumOfValues", "(LNeedsALoser$Town;)I"⟩, 3) := ⟨⟨by decide +kernel, by decide +kernel⟩, List.mem_of_getElem? (i := 154) (by decide +kernel), List.mem_of_getElem? (i := 699) (by decide +kernel), List.mem_of_getElem? (i := 700) (by decide +kernel)⟩
theorem lw_p20 : lw_okq (⟨"NeedsALoser", "tellByShelf", "(II)I"⟩, 9) := ⟨⟨by decide +kernel, by decide +kernel⟩, List.mem_of_getElem? (i := 16) (by decide +kernel), List.mem_of_getElem? (i := 709) (by decide +kernel), List.mem_of_getElem? (i := 710) (by decide +kernel)⟩
theorem lw_p21 : lw_okq (⟨"NeedsALoser$Search", "greatestKey", "(LNeedsALoser$Town;IZ)J"⟩, 5) := ⟨⟨by decide +kernel, by decide +kernel⟩, List.mem_of_getElem? (i := 170) (by decide +kernel), List.mem_of_getElem? (i := 773) (by decide +kernel), List.mem_of_getElem? (i := 774) (by decide +kernel)⟩
theorem lw_p22 : lw_okq (⟨"NeedsALoser$Search", "findApart", "(LNeedsALoser$Town;)I"⟩, 5) := ⟨⟨by decide +kernel, by decide +kernel⟩, List.mem_of_getElem? (i := 170) (by decide +kernel), List.mem_of_getElem? (i := 777) (by decide +kernel), List.mem_of_getElem? (i := 778) (by decide +kernel)⟩
theorem lw_p23 : lw_okq (⟨"NeedsALoser$Search", "fillKeys", "(LNeedsALoser$Town;IZ)V"⟩, 5) := ⟨⟨by decide +kernel, by decide +kernel⟩, List.mem_of_getElem? (i := 170) (by decide +kernel), List.mem_of_getElem? (i := 791) (by decide +kernel), List.mem_of_getElem? (i := 792) (by decide +kernel)⟩
theorem lw_p24 : lw_okq (⟨"NeedsALoser$Search", "addThird", "(IIZI)V"⟩, 5) := ⟨⟨by decide +kernel, by decide +kernel⟩, List.mem_of_getElem? (i := 170) (by decide +kernel), List.mem_of_getElem? (i := 804) (by decide +kernel), List.mem_of_getElem? (i := 805) (by decide +kernel)⟩
theorem lw_p25 : lw_okq (⟨"NeedsALoser$Search", "heaviest", "(LNeedsALoser$Town;)I"⟩, 5) := ⟨⟨by decide +kernel, by decide +kernel⟩, List.mem_of_getElem? (i := 170) (by decide +kernel), List.mem_of_getElem? (i := 887) (by decide +kernel), List.mem_of_getElem? (i := 888) (by decide +kernel)⟩
theorem lw_p26 : lw_okq (⟨"NeedsALoser", "greatestValue", "(II)I"⟩, 9) := ⟨⟨by decide +kernel, by decide +kernel⟩, List.mem_of_getElem? (i := 16) (by decide +kernel), List.mem_of_getElem? (i := 903) (by decide +kernel), List.mem_of_getElem? (i := 904) (by decide +kernel)⟩
theorem lw_p27 : lw_okq (⟨"NeedsALoser", "isRing", "(III)Z"⟩, 9) := ⟨⟨by decide +kernel, by decide +kernel⟩, List.mem_of_getElem? (i := 16) (by decide +kernel), List.mem_of_getElem? (i := 912) (by decide +kernel), List.mem_of_getElem? (i := 913) (by decide +kernel)⟩
theorem lw_p28 : lw_okq (⟨"NeedsALoserModel", "refuse", "(I)I"⟩, 33) := ⟨⟨by decide +kernel, by decide +kernel⟩, List.mem_of_getElem? (i := 994) (by decide +kernel), List.mem_of_getElem? (i := 1114) (by decide +kernel), List.mem_of_getElem? (i := 1115) (by decide +kernel)⟩
theorem lw_p29 : lw_okq (⟨"NeedsALoserModel", "noRow", "(I)I"⟩, 33) := ⟨⟨by decide +kernel, by decide +kernel⟩, List.mem_of_getElem? (i := 994) (by decide +kernel), List.mem_of_getElem? (i := 1122) (by decide +kernel), List.mem_of_getElem? (i := 1123) (by decide +kernel)⟩
theorem lw_p30 : lw_okq (⟨"NeedsALoserModel", "names", "(IIII)I"⟩, 33) := ⟨⟨by decide +kernel, by decide +kernel⟩, List.mem_of_getElem? (i := 994) (by decide +kernel), List.mem_of_getElem? (i := 1154) (by decide +kernel), List.mem_of_getElem? (i := 1155) (by decide +kernel)⟩
theorem lw_p31 : lw_okq (⟨"NeedsALoserModel", "mildest", "(II)I"⟩, 33) := ⟨⟨by decide +kernel, by decide +kernel⟩, List.mem_of_getElem? (i := 994) (by decide +kernel), List.mem_of_getElem? (i := 1158) (by decide +kernel), List.mem_of_getElem? (i := 1159) (by decide +kernel)⟩
def lw_privs_2 : List (MethodName × Nat) := [(⟨"NeedsALoser$Week", "begin", "()V"⟩, 3), (⟨"NeedsALoser$Week", "isBarred", "(LNeedsALoser$Town;I)Z"⟩, 3), (⟨"NeedsALoser$Week", "take", "(II)V"⟩, 3), (⟨"NeedsALoser$Week", "sumOfValues", "(LNeedsALoser$Town;)I"⟩, 3), (⟨"NeedsALoser", "tellByShelf", "(II)I"⟩, 9), (⟨"NeedsALoser$Search", "greatestKey", "(LNeedsALoser$Town;IZ)J"⟩, 5), (⟨"NeedsALoser$Search", "findApart", "(LNeedsALoser$Town;)I"⟩, 5), (⟨"NeedsALoser$Search", "fillKeys", "(LNeedsALoser$Town;IZ)V"⟩, 5), (⟨"NeedsALoser$Search", "addThird", "(IIZI)V"⟩, 5), (⟨"NeedsALoser$Search", "heaviest", "(LNeedsALoser$Town;)I"⟩, 5), (⟨"NeedsALoser", "greatestValue", "(II)I"⟩, 9), (⟨"NeedsALoser", "isRing", "(III)Z"⟩, 9), (⟨"NeedsALoserModel", "refuse", "(I)I"⟩, 33), (⟨"NeedsALoserModel", "noRow", "(I)I"⟩, 33), (⟨"NeedsALoserModel", "names", "(IIII)I"⟩, 33), (⟨"NeedsALoserModel", "mildest", "(II)I"⟩, 33)]
theorem lw_r2 : ∀ q ∈ lw_privs_2, lw_okq q := List.forall_mem_cons.mpr ⟨lw_p16, List.forall_mem_cons.mpr ⟨lw_p17, List.forall_mem_cons.mpr ⟨lw_p18, List.forall_mem_cons.mpr ⟨lw_p19, List.forall_mem_cons.mpr ⟨lw_p20, List.forall_mem_cons.mpr ⟨lw_p21, List.forall_mem_cons.mpr ⟨lw_p22, List.forall_mem_cons.mpr ⟨lw_p23, List.forall_mem_cons.mpr ⟨lw_p24, List.forall_mem_cons.mpr ⟨lw_p25, List.forall_mem_cons.mpr ⟨lw_p26, List.forall_mem_cons.mpr ⟨lw_p27, List.forall_mem_cons.mpr ⟨lw_p28, List.forall_mem_cons.mpr ⟨lw_p29, List.forall_mem_cons.mpr ⟨lw_p30, List.forall_mem_cons.mpr ⟨lw_p31, fun _ h => absurd h List.not_mem_nil⟩⟩⟩⟩⟩⟩⟩⟩⟩⟩⟩⟩⟩⟩⟩⟩
theorem lw_p32 : lw_okq (⟨"NeedsALoserModel", "may", "(III)Z"⟩, 33) := ⟨⟨by decide +kernel, by decide +kernel⟩, List.mem_of_getElem? (i := 994) (by decide +kernel), List.mem_of_getElem? (i := 1162) (by decide +kernel), List.mem_of_getElem? (i := 1163) (by decide +kernel)⟩
theorem lw_p33 : lw_okq (⟨"NeedsALoserModel", "isGood", "(II)Z"⟩, 33) := ⟨⟨by decide +kernel, by decide +kernel⟩, List.mem_of_getElem? (i := 994) (by decide +kernel), List.mem_of_getElem? (i := 1166) (by decide +kernel), List.mem_of_getElem? (i := 1167) (by decide +kernel)⟩
theorem lw_p34 : lw_okq (⟨"NeedsALoserModel", "isParty", "(II)Z"⟩, 33) := ⟨⟨by decide +kernel, by decide +kernel⟩, List.mem_of_getElem? (i := 994) (by decide +kernel), List.mem_of_getElem? (i := 1170) (by decide +kernel), List.mem_of_getElem? (i := 1171) (by decide +kernel)⟩
theorem lw_p35 : lw_okq (⟨"NeedsALoserModel", "isOne", "(J)Z"⟩, 33) := ⟨⟨by decide +kernel, by decide +kernel⟩, List.mem_of_getElem? (i := 994) (by decide +kernel), List.mem_of_getElem? (i := 1177) (by decide +kernel), List.mem_of_getElem? (i := 1178) (by decide +kernel)⟩
theorem lw_p36 : lw_okq (⟨"NeedsALoserModel", "valueOf", "(II)I"⟩, 33) := ⟨⟨by decide +kernel, by decide +kernel⟩, List.mem_of_getElem? (i := 994) (by decide +kernel), List.mem_of_getElem? (i := 1181) (by decide +kernel), List.mem_of_getElem? (i := 1182) (by decide +kernel)⟩
theorem lw_p37 : lw_okq (⟨"NeedsALoserModel", "gains", "(I)I"⟩, 33) := ⟨⟨by decide +kernel, by decide +kernel⟩, List.mem_of_getElem? (i := 994) (by decide +kernel), List.mem_of_getElem? (i := 1185) (by decide +kernel), List.mem_of_getElem? (i := 1186) (by decide +kernel)⟩
theorem lw_p38 : lw_okq (⟨"NeedsALoserModel", "isBargain", "(I)Z"⟩, 33) := ⟨⟨by decide +kernel, by decide +kernel⟩, List.mem_of_getElem? (i := 994) (by decide +kernel), List.mem_of_getElem? (i := 1201) (by decide +kernel), List.mem_of_getElem? (i := 1202) (by decide +kernel)⟩
theorem lw_p39 : lw_okq (⟨"NeedsALoserModel", "fresh", "()LNeedsALoserModel;"⟩, 33) := ⟨⟨by decide +kernel, by decide +kernel⟩, List.mem_of_getElem? (i := 994) (by decide +kernel), List.mem_of_getElem? (i := 1231) (by decide +kernel), List.mem_of_getElem? (i := 1232) (by decide +kernel)⟩
theorem lw_p40 : lw_okq (⟨"NeedsALoserModel", "takeFrom", "(LNeedsALoserModel;)V"⟩, 33) := ⟨⟨by decide +kernel, by decide +kernel⟩, List.mem_of_getElem? (i := 994) (by decide +kernel), List.mem_of_getElem? (i := 1237) (by decide +kernel), List.mem_of_getElem? (i := 1238) (by decide +kernel)⟩
theorem lw_p41 : lw_okq (⟨"NeedsALoserModel", "readAll", "()Z"⟩, 33) := ⟨⟨by decide +kernel, by decide +kernel⟩, List.mem_of_getElem? (i := 994) (by decide +kernel), List.mem_of_getElem? (i := 1244) (by decide +kernel), List.mem_of_getElem? (i := 1245) (by decide +kernel)⟩
theorem lw_p42 : lw_okq (⟨"NeedsALoserModel", "look", "()V"⟩, 33) := ⟨⟨by decide +kernel, by decide +kernel⟩, List.mem_of_getElem? (i := 994) (by decide +kernel), List.mem_of_getElem? (i := 1248) (by decide +kernel), List.mem_of_getElem? (i := 1249) (by decide +kernel)⟩
theorem lw_p43 : lw_okq (⟨"NeedsALoserModel", "statement", "()Z"⟩, 33) := ⟨⟨by decide +kernel, by decide +kernel⟩, List.mem_of_getElem? (i := 994) (by decide +kernel), List.mem_of_getElem? (i := 1259) (by decide +kernel), List.mem_of_getElem? (i := 1260) (by decide +kernel)⟩
theorem lw_p44 : lw_okq (⟨"NeedsALoserModel", "isWord", "(Ljava/lang/String;)Z"⟩, 33) := ⟨⟨by decide +kernel, by decide +kernel⟩, List.mem_of_getElem? (i := 994) (by decide +kernel), List.mem_of_getElem? (i := 1264) (by decide +kernel), List.mem_of_getElem? (i := 1265) (by decide +kernel)⟩
theorem lw_p45 : lw_okq (⟨"NeedsALoserModel", "dealTold", "()Z"⟩, 33) := ⟨⟨by decide +kernel, by decide +kernel⟩, List.mem_of_getElem? (i := 994) (by decide +kernel), List.mem_of_getElem? (i := 1272) (by decide +kernel), List.mem_of_getElem? (i := 1273) (by decide +kernel)⟩
theorem lw_p46 : lw_okq (⟨"NeedsALoserModel", "tells", "(Ljava/lang/String;III)Z"⟩, 33) := ⟨⟨by decide +kernel, by decide +kernel⟩, List.mem_of_getElem? (i := 994) (by decide +kernel), List.mem_of_getElem? (i := 1276) (by decide +kernel), List.mem_of_getElem? (i := 1277) (by decide +kernel)⟩
theorem lw_p47 : lw_okq (⟨"NeedsALoserModel", "wrong", "()Z"⟩, 33) := ⟨⟨by decide +kernel, by decide +kernel⟩, List.mem_of_getElem? (i := 994) (by decide +kernel), List.mem_of_getElem? (i := 1280) (by decide +kernel), List.mem_of_getElem? (i := 1281) (by decide +kernel)⟩
def lw_privs_3 : List (MethodName × Nat) := [(⟨"NeedsALoserModel", "may", "(III)Z"⟩, 33), (⟨"NeedsALoserModel", "isGood", "(II)Z"⟩, 33), (⟨"NeedsALoserModel", "isParty", "(II)Z"⟩, 33), (⟨"NeedsALoserModel", "isOne", "(J)Z"⟩, 33), (⟨"NeedsALoserModel", "valueOf", "(II)I"⟩, 33), (⟨"NeedsALoserModel", "gains", "(I)I"⟩, 33), (⟨"NeedsALoserModel", "isBargain", "(I)Z"⟩, 33), (⟨"NeedsALoserModel", "fresh", "()LNeedsALoserModel;"⟩, 33), (⟨"NeedsALoserModel", "takeFrom", "(LNeedsALoserModel;)V"⟩, 33), (⟨"NeedsALoserModel", "readAll", "()Z"⟩, 33), (⟨"NeedsALoserModel", "look", "()V"⟩, 33), (⟨"NeedsALoserModel", "statement", "()Z"⟩, 33), (⟨"NeedsALoserModel", "isWord", "(Ljava/lang/String;)Z"⟩, 33), (⟨"NeedsALoserModel", "dealTold", "()Z"⟩, 33), (⟨"NeedsALoserModel", "tells", "(Ljava/lang/String;III)Z"⟩, 33), (⟨"NeedsALoserModel", "wrong", "()Z"⟩, 33)]
theorem lw_r3 : ∀ q ∈ lw_privs_3, lw_okq q := List.forall_mem_cons.mpr ⟨lw_p32, List.forall_mem_cons.mpr ⟨lw_p33, List.forall_mem_cons.mpr ⟨lw_p34, List.forall_mem_cons.mpr ⟨lw_p35, List.forall_mem_cons.mpr ⟨lw_p36, List.forall_mem_cons.mpr ⟨lw_p37, List.forall_mem_cons.mpr ⟨lw_p38, List.forall_mem_cons.mpr ⟨lw_p39, List.forall_mem_cons.mpr ⟨lw_p40, List.forall_mem_cons.mpr ⟨lw_p41, List.forall_mem_cons.mpr ⟨lw_p42, List.forall_mem_cons.mpr ⟨lw_p43, List.forall_mem_cons.mpr ⟨lw_p44, List.forall_mem_cons.mpr ⟨lw_p45, List.forall_mem_cons.mpr ⟨lw_p46, List.forall_mem_cons.mpr ⟨lw_p47, fun _ h => absurd h List.not_mem_nil⟩⟩⟩⟩⟩⟩⟩⟩⟩⟩⟩⟩⟩⟩⟩⟩
theorem lw_p48 : lw_okq (⟨"NeedsALoserModel", "number", "(III)Z"⟩, 33) := ⟨⟨by decide +kernel, by decide +kernel⟩, List.mem_of_getElem? (i := 994) (by decide +kernel), List.mem_of_getElem? (i := 1284) (by decide +kernel), List.mem_of_getElem? (i := 1285) (by decide +kernel)⟩
theorem lw_p49 : lw_okq (⟨"NeedsALoserModel", "unlike", "(II)Z"⟩, 33) := ⟨⟨by decide +kernel, by decide +kernel⟩, List.mem_of_getElem? (i := 994) (by decide +kernel), List.mem_of_getElem? (i := 1288) (by decide +kernel), List.mem_of_getElem? (i := 1289) (by decide +kernel)⟩
theorem lw_p50 : lw_okq (⟨"NeedsALoserModel", "askedTold", "(Ljava/lang/String;I)Z"⟩, 33) := ⟨⟨by decide +kernel, by decide +kernel⟩, List.mem_of_getElem? (i := 994) (by decide +kernel), List.mem_of_getElem? (i := 1296) (by decide +kernel), List.mem_of_getElem? (i := 1297) (by decide +kernel)⟩
theorem lw_p51 : lw_okq (⟨"NeedsALoserModel", "goodBy", "(I)I"⟩, 33) := ⟨⟨by decide +kernel, by decide +kernel⟩, List.mem_of_getElem? (i := 994) (by decide +kernel), List.mem_of_getElem? (i := 1322) (by decide +kernel), List.mem_of_getElem? (i := 1323) (by decide +kernel)⟩
theorem lw_p52 : lw_okq (⟨"NeedsALoserModel", "noRule", "(I)I"⟩, 33) := ⟨⟨by decide +kernel, by decide +kernel⟩, List.mem_of_getElem? (i := 994) (by decide +kernel), List.mem_of_getElem? (i := 1334) (by decide +kernel), List.mem_of_getElem? (i := 1335) (by decide +kernel)⟩
theorem lw_p53 : lw_okq (⟨"NeedsALoserModel", "noWeek", "(I)I"⟩, 33) := ⟨⟨by decide +kernel, by decide +kernel⟩, List.mem_of_getElem? (i := 994) (by decide +kernel), List.mem_of_getElem? (i := 1342) (by decide +kernel), List.mem_of_getElem? (i := 1343) (by decide +kernel)⟩
theorem lw_p54 : lw_okq (⟨"NeedsALoserModel", "takeWeek", "(I)I"⟩, 33) := ⟨⟨by decide +kernel, by decide +kernel⟩, List.mem_of_getElem? (i := 994) (by decide +kernel), List.mem_of_getElem? (i := 1346) (by decide +kernel), List.mem_of_getElem? (i := 1347) (by decide +kernel)⟩
theorem lw_p55 : lw_okq (⟨"NeedsALoserModel", "ofWeek", "(I)I"⟩, 33) := ⟨⟨by decide +kernel, by decide +kernel⟩, List.mem_of_getElem? (i := 994) (by decide +kernel), List.mem_of_getElem? (i := 1355) (by decide +kernel), List.mem_of_getElem? (i := 1356) (by decide +kernel)⟩
theorem lw_p56 : lw_okq (⟨"NeedsALoserModel", "weekBy", "(I)V"⟩, 33) := ⟨⟨by decide +kernel, by decide +kernel⟩, List.mem_of_getElem? (i := 994) (by decide +kernel), List.mem_of_getElem? (i := 1363) (by decide +kernel), List.mem_of_getElem? (i := 1364) (by decide +kernel)⟩
theorem lw_p57 : lw_okq (⟨"NeedsALoserModel", "comes", "()I"⟩, 33) := ⟨⟨by decide +kernel, by decide +kernel⟩, List.mem_of_getElem? (i := 994) (by decide +kernel), List.mem_of_getElem? (i := 1375) (by decide +kernel), List.mem_of_getElem? (i := 1376) (by decide +kernel)⟩
theorem lw_p58 : lw_okq (⟨"NeedsALoserModel", "all", "()I"⟩, 33) := ⟨⟨by decide +kernel, by decide +kernel⟩, List.mem_of_getElem? (i := 994) (by decide +kernel), List.mem_of_getElem? (i := 1387) (by decide +kernel), List.mem_of_getElem? (i := 1388) (by decide +kernel)⟩
theorem lw_p59 : lw_okq (⟨"NeedsALoserModel", "bestBy", "(I)I"⟩, 33) := ⟨⟨by decide +kernel, by decide +kernel⟩, List.mem_of_getElem? (i := 994) (by decide +kernel), List.mem_of_getElem? (i := 1391) (by decide +kernel), List.mem_of_getElem? (i := 1392) (by decide +kernel)⟩
theorem lw_p60 : lw_okq (⟨"NeedsALoserModel", "seek", "(IIIII)V"⟩, 33) := ⟨⟨by decide +kernel, by decide +kernel⟩, List.mem_of_getElem? (i := 994) (by decide +kernel), List.mem_of_getElem? (i := 1395) (by decide +kernel), List.mem_of_getElem? (i := 1396) (by decide +kernel)⟩
theorem lw_p61 : lw_okq (⟨"NeedsALoserModel", "mildestOf", "(II)I"⟩, 33) := ⟨⟨by decide +kernel, by decide +kernel⟩, List.mem_of_getElem? (i := 994) (by decide +kernel), List.mem_of_getElem? (i := 1399) (by decide +kernel), List.mem_of_getElem? (i := 1400) (by decide +kernel)⟩
theorem lw_p62 : lw_okq (⟨"NeedsALoserModel", "worthOf", "(I)I"⟩, 33) := ⟨⟨by decide +kernel, by decide +kernel⟩, List.mem_of_getElem? (i := 994) (by decide +kernel), List.mem_of_getElem? (i := 1411) (by decide +kernel), List.mem_of_getElem? (i := 1412) (by decide +kernel)⟩
theorem lw_p63 : lw_okq (⟨"NeedsALoserModel", "isBarred", "(I)Z"⟩, 33) := ⟨⟨by decide +kernel, by decide +kernel⟩, List.mem_of_getElem? (i := 994) (by decide +kernel), List.mem_of_getElem? (i := 1454) (by decide +kernel), List.mem_of_getElem? (i := 1455) (by decide +kernel)⟩
def lw_privs_4 : List (MethodName × Nat) := [(⟨"NeedsALoserModel", "number", "(III)Z"⟩, 33), (⟨"NeedsALoserModel", "unlike", "(II)Z"⟩, 33), (⟨"NeedsALoserModel", "askedTold", "(Ljava/lang/String;I)Z"⟩, 33), (⟨"NeedsALoserModel", "goodBy", "(I)I"⟩, 33), (⟨"NeedsALoserModel", "noRule", "(I)I"⟩, 33), (⟨"NeedsALoserModel", "noWeek", "(I)I"⟩, 33), (⟨"NeedsALoserModel", "takeWeek", "(I)I"⟩, 33), (⟨"NeedsALoserModel", "ofWeek", "(I)I"⟩, 33), (⟨"NeedsALoserModel", "weekBy", "(I)V"⟩, 33), (⟨"NeedsALoserModel", "comes", "()I"⟩, 33), (⟨"NeedsALoserModel", "all", "()I"⟩, 33), (⟨"NeedsALoserModel", "bestBy", "(I)I"⟩, 33), (⟨"NeedsALoserModel", "seek", "(IIIII)V"⟩, 33), (⟨"NeedsALoserModel", "mildestOf", "(II)I"⟩, 33), (⟨"NeedsALoserModel", "worthOf", "(I)I"⟩, 33), (⟨"NeedsALoserModel", "isBarred", "(I)Z"⟩, 33)]
theorem lw_r4 : ∀ q ∈ lw_privs_4, lw_okq q := List.forall_mem_cons.mpr ⟨lw_p48, List.forall_mem_cons.mpr ⟨lw_p49, List.forall_mem_cons.mpr ⟨lw_p50, List.forall_mem_cons.mpr ⟨lw_p51, List.forall_mem_cons.mpr ⟨lw_p52, List.forall_mem_cons.mpr ⟨lw_p53, List.forall_mem_cons.mpr ⟨lw_p54, List.forall_mem_cons.mpr ⟨lw_p55, List.forall_mem_cons.mpr ⟨lw_p56, List.forall_mem_cons.mpr ⟨lw_p57, List.forall_mem_cons.mpr ⟨lw_p58, List.forall_mem_cons.mpr ⟨lw_p59, List.forall_mem_cons.mpr ⟨lw_p60, List.forall_mem_cons.mpr ⟨lw_p61, List.forall_mem_cons.mpr ⟨lw_p62, List.forall_mem_cons.mpr ⟨lw_p63, fun _ h => absurd h List.not_mem_nil⟩⟩⟩⟩⟩⟩⟩⟩⟩⟩⟩⟩⟩⟩⟩⟩
theorem lw_p64 : lw_okq (⟨"NeedsALoserModel", "partyFor", "(II)I"⟩, 33) := ⟨⟨by decide +kernel, by decide +kernel⟩, List.mem_of_getElem? (i := 994) (by decide +kernel), List.mem_of_getElem? (i := 1462) (by decide +kernel), List.mem_of_getElem? (i := 1463) (by decide +kernel)⟩
theorem lw_p65 : lw_okq (⟨"NeedsALoserModel", "isRing", "(III)Z"⟩, 33) := ⟨⟨by decide +kernel, by decide +kernel⟩, List.mem_of_getElem? (i := 994) (by decide +kernel), List.mem_of_getElem? (i := 1470) (by decide +kernel), List.mem_of_getElem? (i := 1471) (by decide +kernel)⟩
theorem lw_p66 : lw_okq (⟨"NeedsALoserModel", "harmOf", "(I)I"⟩, 33) := ⟨⟨by decide +kernel, by decide +kernel⟩, List.mem_of_getElem? (i := 994) (by decide +kernel), List.mem_of_getElem? (i := 1478) (by decide +kernel), List.mem_of_getElem? (i := 1479) (by decide +kernel)⟩
theorem lw_p67 : lw_okq (⟨"NeedsALoserModel", "hates", "(I)I"⟩, 33) := ⟨⟨by decide +kernel, by decide +kernel⟩, List.mem_of_getElem? (i := 994) (by decide +kernel), List.mem_of_getElem? (i := 1490) (by decide +kernel), List.mem_of_getElem? (i := 1491) (by decide +kernel)⟩
theorem lw_p68 : lw_okq (⟨"NeedsALoserModel", "saidBy", "(III)I"⟩, 33) := ⟨⟨by decide +kernel, by decide +kernel⟩, List.mem_of_getElem? (i := 994) (by decide +kernel), List.mem_of_getElem? (i := 1498) (by decide +kernel), List.mem_of_getElem? (i := 1499) (by decide +kernel)⟩
theorem lw_p69 : lw_okq (⟨"NeedsALoserModel", "daresBy", "(I)I"⟩, 33) := ⟨⟨by decide +kernel, by decide +kernel⟩, List.mem_of_getElem? (i := 994) (by decide +kernel), List.mem_of_getElem? (i := 1506) (by decide +kernel), List.mem_of_getElem? (i := 1507) (by decide +kernel)⟩
theorem lw_p70 : lw_okq (⟨"NeedsALoserModel", "underOf", "(I)I"⟩, 33) := ⟨⟨by decide +kernel, by decide +kernel⟩, List.mem_of_getElem? (i := 994) (by decide +kernel), List.mem_of_getElem? (i := 1518) (by decide +kernel), List.mem_of_getElem? (i := 1519) (by decide +kernel)⟩
theorem lw_p71 : lw_okq (⟨"NeedsALoserModel", "weekByDraws", "()I"⟩, 33) := ⟨⟨by decide +kernel, by decide +kernel⟩, List.mem_of_getElem? (i := 994) (by decide +kernel), List.mem_of_getElem? (i := 1534) (by decide +kernel), List.mem_of_getElem? (i := 1535) (by decide +kernel)⟩
theorem lw_p72 : lw_okq (⟨"NeedsALoserModel", "draw", "(I)I"⟩, 33) := ⟨⟨by decide +kernel, by decide +kernel⟩, List.mem_of_getElem? (i := 994) (by decide +kernel), List.mem_of_getElem? (i := 1538) (by decide +kernel), List.mem_of_getElem? (i := 1539) (by decide +kernel)⟩
def lw_privs_5 : List (MethodName × Nat) := [(⟨"NeedsALoserModel", "partyFor", "(II)I"⟩, 33), (⟨"NeedsALoserModel", "isRing", "(III)Z"⟩, 33), (⟨"NeedsALoserModel", "harmOf", "(I)I"⟩, 33), (⟨"NeedsALoserModel", "hates", "(I)I"⟩, 33), (⟨"NeedsALoserModel", "saidBy", "(III)I"⟩, 33), (⟨"NeedsALoserModel", "daresBy", "(I)I"⟩, 33), (⟨"NeedsALoserModel", "underOf", "(I)I"⟩, 33), (⟨"NeedsALoserModel", "weekByDraws", "()I"⟩, 33), (⟨"NeedsALoserModel", "draw", "(I)I"⟩, 33)]
theorem lw_r5 : ∀ q ∈ lw_privs_5, lw_okq q := List.forall_mem_cons.mpr ⟨lw_p64, List.forall_mem_cons.mpr ⟨lw_p65, List.forall_mem_cons.mpr ⟨lw_p66, List.forall_mem_cons.mpr ⟨lw_p67, List.forall_mem_cons.mpr ⟨lw_p68, List.forall_mem_cons.mpr ⟨lw_p69, List.forall_mem_cons.mpr ⟨lw_p70, List.forall_mem_cons.mpr ⟨lw_p71, List.forall_mem_cons.mpr ⟨lw_p72, fun _ h => absurd h List.not_mem_nil⟩⟩⟩⟩⟩⟩⟩⟩⟩
def lw_privs : List (MethodName × Nat) := lw_privs_1 ++ (lw_privs_2 ++ (lw_privs_3 ++ (lw_privs_4 ++ (lw_privs_5))))
def lw_tbl : List Cond := k2_sels lw_privs ++ tables_1
theorem lw_privs_ok : ∀ q ∈ lw_privs, lw_okq q := by
  show ∀ q ∈ lw_privs_1 ++ (lw_privs_2 ++ (lw_privs_3 ++ (lw_privs_4 ++ (lw_privs_5)))), lw_okq q
  exact List.forall_mem_append.mpr ⟨lw_r1, List.forall_mem_append.mpr ⟨lw_r2, List.forall_mem_append.mpr ⟨lw_r3, List.forall_mem_append.mpr ⟨lw_r4, lw_r5⟩⟩⟩⟩
end
section
-- THE TABLES: written by wip/whole/gen02.py out of the Statement
def mtb : List (MethodName × ByteArray × Nat × Option FieldType) := [
  (⟨"NeedsALoser", "<init>", "()V"⟩, prog_1_method_1_code, 1, none),
  (⟨"java/lang/Object", "<init>", "()V"⟩, object_method_1_code, 1, none),
  (⟨"NeedsALoser$Town", "<init>", "()V"⟩, prog_6_method_1_code, 1, none),
  (⟨"NeedsALoser$Shelves", "<init>", "()V"⟩, prog_5_method_1_code, 2, none),
  (⟨"NeedsALoser$Reader", "<init>", "()V"⟩, prog_2_method_1_code, 1, none),
  (⟨"NeedsALoser$Week", "<init>", "()V"⟩, prog_7_method_1_code, 1, none),
  (⟨"NeedsALoser$Search", "<init>", "()V"⟩, prog_4_method_1_code, 1, none),
  (⟨"NeedsALoser", "row", "(III)I"⟩, prog_1_method_2_code, 4, some (FieldType.int)),
  (⟨"NeedsALoser", "isBelow", "(II)Z"⟩, prog_1_method_68_code, 2, some (FieldType.boolean)),
  (⟨"NeedsALoser", "isWithin", "(III)Z"⟩, prog_1_method_67_code, 3, some (FieldType.boolean)),
  (⟨"NeedsALoser", "refuse", "(I)I"⟩, prog_1_method_59_code, 3, some (FieldType.int)),
  (⟨"NeedsALoser", "at", "([II)I"⟩, prog_1_method_70_code, 2, some (FieldType.int)),
  (⟨"NeedsALoser", "put", "([III)V"⟩, prog_1_method_71_code, 3, none),
  (⟨"NeedsALoser$Shelves", "putRow", "(III)V"⟩, prog_5_method_14_code, 5, none),
  (⟨"NeedsALoser$Shelves", "putElement", "(IIJ)V"⟩, prog_5_method_15_code, 6, none),
  (⟨"NeedsALoser$Shelves", "heldIn", "(I)I"⟩, prog_5_method_2_code, 2, some (FieldType.int)),
  (⟨"NeedsALoser$Shelves", "lowestBits", "(IJ)J"⟩, prog_5_method_18_code, 3, some (FieldType.long)),
  (⟨"NeedsALoser", "set", "(IIJ)I"⟩, prog_1_method_3_code, 6, some (FieldType.int)),
  (⟨"NeedsALoser$Shelves", "rowRefusal", "(I)I"⟩, prog_5_method_5_code, 2, some (FieldType.int)),
  (⟨"NeedsALoser$Shelves", "holdsRule", "(I)Z"⟩, prog_5_method_4_code, 2, some (FieldType.boolean)),
  (⟨"NeedsALoser$Shelves", "holdsRow", "(I)Z"⟩, prog_5_method_3_code, 2, some (FieldType.boolean)),
  (⟨"NeedsALoser$Shelves", "sizeOf", "(I)I"⟩, prog_5_method_9_code, 2, some (FieldType.int)),
  (⟨"NeedsALoser", "copy", "(IIIII)I"⟩, prog_1_method_4_code, 7, some (FieldType.int)),
  (⟨"NeedsALoser$Shelves", "copyRefusal", "(IIIII)I"⟩, prog_5_method_7_code, 7, some (FieldType.int)),
  (⟨"NeedsALoser$Shelves", "isSpan", "(III)Z"⟩, prog_5_method_8_code, 3, some (FieldType.boolean)),
  (⟨"NeedsALoser$Shelves", "move", "(IIIII)V"⟩, prog_5_method_17_code, 8, none),
  (⟨"NeedsALoser$Shelves", "elementAt", "(II)J"⟩, prog_5_method_16_code, 4, some (FieldType.long)),
  (⟨"NeedsALoser", "element", "(II)J"⟩, prog_1_method_5_code, 3, some (FieldType.long)),
  (⟨"NeedsALoser", "holds", "(I)I"⟩, prog_1_method_6_code, 2, some (FieldType.int)),
  (⟨"NeedsALoser", "rule", "(III)I"⟩, prog_1_method_7_code, 4, some (FieldType.int)),
  (⟨"NeedsALoser$Shelves", "putRule", "(III)V"⟩, prog_5_method_13_code, 4, none),
  (⟨"NeedsALoser", "says", "(II)I"⟩, prog_1_method_8_code, 4, some (FieldType.int)),
  (⟨"NeedsALoser$Shelves", "ruleRefusal", "(I)I"⟩, prog_5_method_6_code, 2, some (FieldType.int)),
  (⟨"NeedsALoser$Shelves", "kindIn", "(I)I"⟩, prog_5_method_10_code, 2, some (FieldType.int)),
  (⟨"NeedsALoser$Rules", "isUnder", "(II)Z"⟩, prog_3_method_2_code, 4, some (FieldType.boolean)),
  (⟨"NeedsALoser$Shelves", "numberIn", "(I)I"⟩, prog_5_method_11_code, 2, some (FieldType.int)),
  (⟨"NeedsALoser", "thirdByShelf", "(III)I"⟩, prog_1_method_62_code, 4, some (FieldType.int)),
  (⟨"NeedsALoser$Town", "mayBits", "(II)I"⟩, prog_6_method_26_code, 3, some (FieldType.int)),
  (⟨"NeedsALoser$Town", "goodBits", "(I)I"⟩, prog_6_method_24_code, 4, some (FieldType.int)),
  (⟨"NeedsALoser$Town", "isGoodBy", "(II)Z"⟩, prog_6_method_23_code, 3, some (FieldType.boolean)),
  (⟨"NeedsALoser$Town", "lossBy", "(II)I"⟩, prog_6_method_17_code, 4, some (FieldType.int)),
  (⟨"NeedsALoser$Town", "isParty", "(II)Z"⟩, prog_6_method_19_code, 3, some (FieldType.boolean)),
  (⟨"NeedsALoser$Rules", "thirdFor", "(LNeedsALoser$Town;IIII)I"⟩, prog_3_method_3_code, 7, some (FieldType.int)),
  (⟨"NeedsALoser", "hasBit", "(II)Z"⟩, prog_1_method_69_code, 2, some (FieldType.boolean)),
  (⟨"NeedsALoser$Rules", "foremost", "(LNeedsALoser$Town;IIII)I"⟩, prog_3_method_4_code, 9, some (FieldType.int)),
  (⟨"NeedsALoser$Rules", "score", "(LNeedsALoser$Town;IIII)I"⟩, prog_3_method_5_code, 5, some (FieldType.int)),
  (⟨"NeedsALoser$Rules", "stepsRound", "(III)I"⟩, prog_3_method_6_code, 3, some (FieldType.int)),
  (⟨"java/lang/Math", "floorMod", "(II)I"⟩, prog_11_method_50_code, 3, some (FieldType.int)),
  (⟨"NeedsALoser$Town", "valueBy", "(II)I"⟩, prog_6_method_22_code, 3, some (FieldType.int)),
  (⟨"NeedsALoser$Town", "gainsOf", "(I)I"⟩, prog_6_method_21_code, 2, some (FieldType.int)),
  (⟨"NeedsALoser", "one", "()I"⟩, prog_1_method_9_code, 1, some (FieldType.int)),
  (⟨"NeedsALoser$Town", "addPerson", "()I"⟩, prog_6_method_8_code, 1, some (FieldType.int)),
  (⟨"NeedsALoser", "bargain", "(IIII)I"⟩, prog_1_method_10_code, 5, some (FieldType.int)),
  (⟨"NeedsALoser$Town", "hasPerson", "(I)Z"⟩, prog_6_method_3_code, 2, some (FieldType.boolean)),
  (⟨"NeedsALoser$Town", "addBargain", "(IIII)I"⟩, prog_6_method_9_code, 6, some (FieldType.int)),
  (⟨"NeedsALoser", "hurts", "(III)I"⟩, prog_1_method_11_code, 4, some (FieldType.int)),
  (⟨"NeedsALoser$Town", "hasPair", "(II)Z"⟩, prog_6_method_5_code, 3, some (FieldType.boolean)),
  (⟨"NeedsALoser$Town", "hasBargain", "(I)Z"⟩, prog_6_method_4_code, 2, some (FieldType.boolean)),
  (⟨"NeedsALoser$Town", "putLoss", "(III)V"⟩, prog_6_method_10_code, 4, none),
  (⟨"NeedsALoser", "bars", "(IIZ)I"⟩, prog_1_method_12_code, 4, some (FieldType.int)),
  (⟨"NeedsALoser$Town", "hasUnlike", "(II)Z"⟩, prog_6_method_6_code, 3, some (FieldType.boolean)),
  (⟨"NeedsALoser$Town", "barredBy", "(I)I"⟩, prog_6_method_18_code, 2, some (FieldType.int)),
  (⟨"NeedsALoser$Town", "putBar", "(IIZ)V"⟩, prog_6_method_11_code, 4, none),
  (⟨"NeedsALoser$Town", "withBit", "(IIZ)I"⟩, prog_6_method_12_code, 3, some (FieldType.int)),
  (⟨"NeedsALoser", "ask", "(II)I"⟩, prog_1_method_13_code, 4, some (FieldType.int)),
  (⟨"NeedsALoser$Town", "leastOfLaw", "(I)I"⟩, prog_6_method_13_code, 1, some (FieldType.int)),
  (⟨"NeedsALoser$Town", "mostOfLaw", "(I)I"⟩, prog_6_method_14_code, 1, some (FieldType.int)),
  (⟨"NeedsALoser$Town", "law", "(I)I"⟩, prog_6_method_15_code, 2, some (FieldType.int)),
  (⟨"NeedsALoser$Town", "putLaw", "(II)V"⟩, prog_6_method_16_code, 3, none),
  (⟨"NeedsALoser", "feed", "(I)I"⟩, prog_1_method_14_code, 2, some (FieldType.int)),
  (⟨"NeedsALoser$Reader", "isFull", "()Z"⟩, prog_2_method_2_code, 1, some (FieldType.boolean)),
  (⟨"NeedsALoser$Reader", "add", "(I)I"⟩, prog_2_method_3_code, 2, some (FieldType.int)),
  (⟨"NeedsALoser", "wipe", "()I"⟩, prog_1_method_15_code, 1, some (FieldType.int)),
  (⟨"NeedsALoser$Reader", "clear", "()I"⟩, prog_2_method_4_code, 2, some (FieldType.int)),
  (⟨"NeedsALoser", "town", "()I"⟩, prog_1_method_16_code, 2, some (FieldType.int)),
  (⟨"NeedsALoser$Town", "become", "(LNeedsALoser$Town;)V"⟩, prog_6_method_2_code, 2, none),
  (⟨"NeedsALoser", "copyAll", "([I[I)V"⟩, prog_1_method_72_code, 3, none),
  (⟨"NeedsALoser$Reader", "read", "(LNeedsALoser$Town;)I"⟩, prog_2_method_5_code, 4, some (FieldType.int)),
  (⟨"NeedsALoser$Reader", "step", "()V"⟩, prog_2_method_16_code, 1, none),
  (⟨"NeedsALoser$Reader", "tokenOf", "(I)I"⟩, prog_2_method_17_code, 3, some (FieldType.int)),
  (⟨"NeedsALoser$Reader", "readStatement", "(LNeedsALoser$Town;)V"⟩, prog_2_method_6_code, 2, none),
  (⟨"NeedsALoser$Reader", "isWord", "(Ljava/lang/String;)Z"⟩, prog_2_method_15_code, 3, some (FieldType.boolean)),
  (⟨"java/lang/String", "length", "()I"⟩, prog_12_method_54_code, 1, some (FieldType.int)),
  (⟨"java/lang/String", "coder", "()B"⟩, prog_12_method_152_code, 1, some (FieldType.byte)),
  (⟨"java/lang/String", "charAt", "(I)C"⟩, prog_12_method_56_code, 2, some (FieldType.char)),
  (⟨"java/lang/String", "isLatin1", "()Z"⟩, prog_12_method_154_code, 1, some (FieldType.boolean)),
  (⟨"java/lang/StringLatin1", "charAt", "([BI)C"⟩, prog_13_method_2_code, 2, some (FieldType.char)),
  (⟨"java/lang/String", "checkIndex", "(II)V"⟩, prog_12_method_155_code, 2, none),
  (⟨"jdk/internal/util/Preconditions", "checkIndex", "(IILjava/util/function/BiFunction;)I"⟩, prog_15_method_11_code, 3, some (FieldType.int)),
  (⟨"java/lang/StringUTF16", "charAt", "([BI)C"⟩, prog_14_method_83_code, 2, some (FieldType.char)),
  (⟨"java/lang/StringUTF16", "checkIndex", "(I[B)V"⟩, prog_14_method_91_code, 2, none),
  (⟨"java/lang/StringUTF16", "length", "([B)I"⟩, prog_14_method_6_code, 1, some (FieldType.int)),
  (⟨"java/lang/StringUTF16", "getChar", "([BI)C"⟩, prog_14_method_5_code, 2, some (FieldType.char)),
  (⟨"NeedsALoser$Reader", "readOne", "(LNeedsALoser$Town;)V"⟩, prog_2_method_7_code, 2, none),
  (⟨"NeedsALoser$Reader", "fail", "()V"⟩, prog_2_method_14_code, 1, none),
  (⟨"NeedsALoser$Reader", "readDeal", "(LNeedsALoser$Town;)V"⟩, prog_2_method_8_code, 10, none),
  (⟨"NeedsALoser$Reader", "readNumber", "(III)I"⟩, prog_2_method_12_code, 5, some (FieldType.int)),
  (⟨"NeedsALoser$Reader", "numberHere", "()I"⟩, prog_2_method_13_code, 3, some (FieldType.int)),
  (⟨"NeedsALoser$Reader", "readGains", "(LNeedsALoser$Town;)V"⟩, prog_2_method_9_code, 5, none),
  (⟨"NeedsALoser$Reader", "readBars", "(LNeedsALoser$Town;)V"⟩, prog_2_method_10_code, 4, none),
  (⟨"NeedsALoser$Reader", "readLaw", "(LNeedsALoser$Town;I)V"⟩, prog_2_method_11_code, 4, none),
  (⟨"NeedsALoser", "bargainOf", "(II)I"⟩, prog_1_method_17_code, 3, some (FieldType.int)),
  (⟨"NeedsALoser", "lossOf", "(II)I"⟩, prog_1_method_18_code, 3, some (FieldType.int)),
  (⟨"NeedsALoser", "refuseBelow", "(I)I"⟩, prog_1_method_60_code, 2, some (FieldType.int)),
  (⟨"NeedsALoser", "standing", "(I)I"⟩, prog_1_method_19_code, 2, some (FieldType.int)),
  (⟨"NeedsALoser", "good", "(I)I"⟩, prog_1_method_20_code, 2, some (FieldType.int)),
  (⟨"NeedsALoser", "value", "(II)I"⟩, prog_1_method_21_code, 3, some (FieldType.int)),
  (⟨"NeedsALoser", "name", "(III)I"⟩, prog_1_method_22_code, 5, some (FieldType.int)),
  (⟨"NeedsALoser", "judge", "(I)I"⟩, prog_1_method_23_code, 3, some (FieldType.int)),
  (⟨"NeedsALoser", "toldRefusal", "(I)I"⟩, prog_1_method_61_code, 3, some (FieldType.int)),
  (⟨"NeedsALoser$Week", "fillTold", "(LNeedsALoser$Town;LNeedsALoser$Shelves;I)I"⟩, prog_7_method_2_code, 7, some (FieldType.int)),
  (⟨"NeedsALoser$Week", "begin", "()V"⟩, prog_7_method_7_code, 1, none),
  (⟨"NeedsALoser$Week", "isBarred", "(LNeedsALoser$Town;I)Z"⟩, prog_7_method_8_code, 3, some (FieldType.boolean)),
  (⟨"NeedsALoser$Week", "take", "(II)V"⟩, prog_7_method_9_code, 3, none),
  (⟨"NeedsALoser", "told", "(II)I"⟩, prog_1_method_24_code, 4, some (FieldType.int)),
  (⟨"NeedsALoser$Week", "tell", "(LNeedsALoser$Town;I)I"⟩, prog_7_method_5_code, 3, some (FieldType.int)),
  (⟨"java/lang/Integer", "bitCount", "(I)I"⟩, prog_10_method_49_code, 1, some (FieldType.int)),
  (⟨"NeedsALoser$Week", "sumOfValues", "(LNeedsALoser$Town;)I"⟩, prog_7_method_10_code, 4, some (FieldType.int)),
  (⟨"NeedsALoser", "by", "(II)I"⟩, prog_1_method_25_code, 4, some (FieldType.int)),
  (⟨"NeedsALoser", "tellByShelf", "(II)I"⟩, prog_1_method_63_code, 3, some (FieldType.int)),
  (⟨"NeedsALoser$Week", "fillByRule", "(LNeedsALoser$Town;II)V"⟩, prog_7_method_3_code, 5, none),
  (⟨"NeedsALoser", "head", "()I"⟩, prog_1_method_26_code, 5, some (FieldType.int)),
  (⟨"NeedsALoser", "lives", "(I)I"⟩, prog_1_method_27_code, 3, some (FieldType.int)),
  (⟨"NeedsALoser$Week", "comeTrue", "(LNeedsALoser$Town;)I"⟩, prog_7_method_6_code, 3, some (FieldType.int)),
  (⟨"NeedsALoser$Town", "makeInTruth", "(II)V"⟩, prog_6_method_30_code, 3, none),
  (⟨"NeedsALoser$Town", "addTo", "([III)V"⟩, prog_6_method_31_code, 3, none),
  (⟨"NeedsALoser", "makes", "(I)I"⟩, prog_1_method_28_code, 3, some (FieldType.int)),
  (⟨"NeedsALoser", "week", "()I"⟩, prog_1_method_29_code, 1, some (FieldType.int)),
  (⟨"NeedsALoser$Week", "fillByDraws", "(LNeedsALoser$Town;)V"⟩, prog_7_method_4_code, 4, none),
  (⟨"NeedsALoser$Town", "draw", "(I)I"⟩, prog_6_method_29_code, 2, some (FieldType.int)),
  (⟨"NeedsALoser$Week", "bitOfPlace", "(II)I"⟩, prog_7_method_11_code, 4, some (FieldType.int)),
  (⟨"NeedsALoser", "weeks", "(I)I"⟩, prog_1_method_30_code, 4, some (FieldType.int)),
  (⟨"NeedsALoser", "best", "()I"⟩, prog_1_method_31_code, 1, some (FieldType.int)),
  (⟨"NeedsALoser$Town", "everybody", "()I"⟩, prog_6_method_7_code, 1, some (FieldType.int)),
  (⟨"NeedsALoser$Search", "bestValue", "(LNeedsALoser$Town;I)I"⟩, prog_4_method_2_code, 3, some (FieldType.int)),
  (⟨"NeedsALoser$Search", "greatestKey", "(LNeedsALoser$Town;IZ)J"⟩, prog_4_method_11_code, 8, some (FieldType.long)),
  (⟨"NeedsALoser$Search", "findApart", "(LNeedsALoser$Town;)I"⟩, prog_4_method_12_code, 6, some (FieldType.int)),
  (⟨"java/lang/Math", "min", "(II)I"⟩, prog_11_method_69_code, 2, some (FieldType.int)),
  (⟨"java/lang/Integer", "numberOfTrailingZeros", "(I)I"⟩, prog_10_method_48_code, 2, some (FieldType.int)),
  (⟨"NeedsALoser$Search", "fillKeys", "(LNeedsALoser$Town;IZ)V"⟩, prog_4_method_13_code, 7, none),
  (⟨"NeedsALoser$Search", "shiftOf", "(I)I"⟩, prog_4_method_9_code, 1, some (FieldType.int)),
  (⟨"NeedsALoser$Town", "bargainsGoodBy", "(I)I"⟩, prog_6_method_25_code, 4, some (FieldType.int)),
  (⟨"NeedsALoser$Search", "addThird", "(IIZI)V"⟩, prog_4_method_14_code, 11, none),
  (⟨"java/lang/Math", "max", "(JJ)J"⟩, prog_11_method_66_code, 4, some (FieldType.long)),
  (⟨"NeedsALoser$Search", "valueOf", "(J)I"⟩, prog_4_method_7_code, 2, some (FieldType.int)),
  (⟨"java/lang/Math", "floorDiv", "(JJ)J"⟩, prog_11_method_49_code, 6, some (FieldType.long)),
  (⟨"NeedsALoser", "bestOf", "(I)I"⟩, prog_1_method_32_code, 2, some (FieldType.int)),
  (⟨"NeedsALoser$Search", "bestThird", "(LNeedsALoser$Town;I)I"⟩, prog_4_method_3_code, 5, some (FieldType.int)),
  (⟨"NeedsALoser$Search", "codeOf", "(J)J"⟩, prog_4_method_8_code, 2, some (FieldType.long)),
  (⟨"NeedsALoser", "worth", "(I)I"⟩, prog_1_method_33_code, 2, some (FieldType.int)),
  (⟨"NeedsALoser", "dearest", "()I"⟩, prog_1_method_34_code, 5, some (FieldType.int)),
  (⟨"NeedsALoser", "gap", "(I)I"⟩, prog_1_method_35_code, 3, some (FieldType.int)),
  (⟨"NeedsALoser", "fewest", "()I"⟩, prog_1_method_36_code, 1, some (FieldType.int)),
  (⟨"NeedsALoser$Search", "fewestBits", "(LNeedsALoser$Town;)I"⟩, prog_4_method_4_code, 2, some (FieldType.int)),
  (⟨"NeedsALoser", "richest", "()I"⟩, prog_1_method_37_code, 1, some (FieldType.int)),
  (⟨"NeedsALoser", "placeOfGreatest", "([II)I"⟩, prog_1_method_66_code, 4, some (FieldType.int)),
  (⟨"NeedsALoser", "alone", "(I)I"⟩, prog_1_method_38_code, 4, some (FieldType.int)),
  (⟨"NeedsALoser", "party", "(I)I"⟩, prog_1_method_39_code, 4, some (FieldType.int)),
  (⟨"NeedsALoser", "fair", "()I"⟩, prog_1_method_40_code, 4, some (FieldType.int)),
  (⟨"NeedsALoser", "never", "()I"⟩, prog_1_method_41_code, 3, some (FieldType.int)),
  (⟨"NeedsALoser", "free", "()I"⟩, prog_1_method_42_code, 1, some (FieldType.int)),
  (⟨"NeedsALoser$Search", "greatestGains", "(LNeedsALoser$Town;)I"⟩, prog_4_method_5_code, 3, some (FieldType.int)),
  (⟨"NeedsALoser$Search", "heaviest", "(LNeedsALoser$Town;)I"⟩, prog_4_method_10_code, 5, some (FieldType.int)),
  (⟨"java/lang/Math", "max", "(II)I"⟩, prog_11_method_65_code, 2, some (FieldType.int)),
  (⟨"NeedsALoser", "cross", "(III)I"⟩, prog_1_method_43_code, 7, some (FieldType.int)),
  (⟨"NeedsALoser$Town", "partyBits", "(I)I"⟩, prog_6_method_20_code, 2, some (FieldType.int)),
  (⟨"NeedsALoser", "greatestValue", "(II)I"⟩, prog_1_method_64_code, 4, some (FieldType.int)),
  (⟨"NeedsALoser", "rings", "()I"⟩, prog_1_method_44_code, 5, some (FieldType.int)),
  (⟨"NeedsALoser", "isRing", "(III)Z"⟩, prog_1_method_65_code, 4, some (FieldType.boolean)),
  (⟨"NeedsALoser", "harm", "(I)I"⟩, prog_1_method_45_code, 2, some (FieldType.int)),
  (⟨"NeedsALoser$Search", "greatestHarm", "(LNeedsALoser$Town;I)I"⟩, prog_4_method_6_code, 6, some (FieldType.int)),
  (⟨"NeedsALoser", "worst", "()I"⟩, prog_1_method_46_code, 5, some (FieldType.int)),
  (⟨"NeedsALoser", "hated", "()I"⟩, prog_1_method_47_code, 5, some (FieldType.int)),
  (⟨"NeedsALoser", "said", "(II)I"⟩, prog_1_method_48_code, 3, some (FieldType.int)),
  (⟨"NeedsALoser$Town", "canBeSaid", "(II)Z"⟩, prog_6_method_27_code, 3, some (FieldType.boolean)),
  (⟨"NeedsALoser$Town", "shareOfSaid", "(II)I"⟩, prog_6_method_28_code, 3, some (FieldType.int)),
  (⟨"NeedsALoser", "dares", "()I"⟩, prog_1_method_49_code, 4, some (FieldType.int)),
  (⟨"NeedsALoser", "deters", "()I"⟩, prog_1_method_50_code, 4, some (FieldType.int)),
  (⟨"NeedsALoser", "under", "(I)I"⟩, prog_1_method_51_code, 2, some (FieldType.int)),
  (⟨"NeedsALoser", "bestLaw", "()I"⟩, prog_1_method_52_code, 1, some (FieldType.int)),
  (⟨"NeedsALoser", "hiding", "(II)I"⟩, prog_1_method_53_code, 3, some (FieldType.int)),
  (⟨"NeedsALoser", "named", "(I)I"⟩, prog_1_method_54_code, 2, some (FieldType.int)),
  (⟨"NeedsALoser", "seed", "(I)I"⟩, prog_1_method_55_code, 3, some (FieldType.int)),
  (⟨"NeedsALoser", "image", "()I"⟩, prog_1_method_56_code, 1, some (FieldType.int)),
  (⟨"NeedsALoser", "back", "()I"⟩, prog_1_method_57_code, 1, some (FieldType.int)),
  (⟨"NeedsALoser", "status", "(I)I"⟩, prog_1_method_58_code, 2, some (FieldType.int)),
  (⟨"NeedsALoser$Shelves", "countHeld", "()I"⟩, prog_5_method_12_code, 3, some (FieldType.int)),
  (⟨"NeedsALoserModel", "<init>", "()V"⟩, prog_9_method_1_code, 1, none),
  (⟨"NeedsALoserModel", "row", "(III)I"⟩, prog_9_method_8_code, 5, some (FieldType.int)),
  (⟨"NeedsALoserModel", "in", "(JJJ)Z"⟩, prog_9_method_3_code, 6, some (FieldType.boolean)),
  (⟨"NeedsALoserModel", "refuse", "(I)I"⟩, prog_9_method_2_code, 2, some (FieldType.int)),
  (⟨"NeedsALoserModel", "set", "(IIJ)I"⟩, prog_9_method_12_code, 6, some (FieldType.int)),
  (⟨"NeedsALoserModel", "noRow", "(I)I"⟩, prog_9_method_10_code, 2, some (FieldType.int)),
  (⟨"NeedsALoserModel", "fit", "(IJ)J"⟩, prog_9_method_9_code, 3, some (FieldType.long)),
  (⟨"NeedsALoserModel", "copy", "(IIIII)I"⟩, prog_9_method_13_code, 7, some (FieldType.int)),
  (⟨"NeedsALoserModel", "element", "(II)J"⟩, prog_9_method_14_code, 3, some (FieldType.long)),
  (⟨"NeedsALoserModel", "holds", "(I)I"⟩, prog_9_method_15_code, 2, some (FieldType.int)),
  (⟨"NeedsALoserModel", "rule", "(III)I"⟩, prog_9_method_16_code, 4, some (FieldType.int)),
  (⟨"NeedsALoserModel", "says", "(II)I"⟩, prog_9_method_18_code, 3, some (FieldType.int)),
  (⟨"NeedsALoserModel", "isUnder", "(II)Z"⟩, prog_9_method_17_code, 2, some (FieldType.boolean)),
  (⟨"NeedsALoserModel", "names", "(IIII)I"⟩, prog_9_method_52_code, 8, some (FieldType.int)),
  (⟨"NeedsALoserModel", "mildest", "(II)I"⟩, prog_9_method_51_code, 5, some (FieldType.int)),
  (⟨"NeedsALoserModel", "may", "(III)Z"⟩, prog_9_method_50_code, 4, some (FieldType.boolean)),
  (⟨"NeedsALoserModel", "isGood", "(II)Z"⟩, prog_9_method_44_code, 3, some (FieldType.boolean)),
  (⟨"NeedsALoserModel", "isParty", "(II)Z"⟩, prog_9_method_43_code, 3, some (FieldType.boolean)),
  (⟨"NeedsALoserModel", "has", "(II)Z"⟩, prog_9_method_6_code, 2, some (FieldType.boolean)),
  (⟨"NeedsALoserModel", "isOne", "(J)Z"⟩, prog_9_method_4_code, 3, some (FieldType.boolean)),
  (⟨"NeedsALoserModel", "valueOf", "(II)I"⟩, prog_9_method_47_code, 3, some (FieldType.int)),
  (⟨"NeedsALoserModel", "gains", "(I)I"⟩, prog_9_method_46_code, 2, some (FieldType.int)),
  (⟨"NeedsALoserModel", "one", "()I"⟩, prog_9_method_19_code, 2, some (FieldType.int)),
  (⟨"NeedsALoserModel", "bargain", "(IIII)I"⟩, prog_9_method_20_code, 7, some (FieldType.int)),
  (⟨"NeedsALoserModel", "hurts", "(III)I"⟩, prog_9_method_21_code, 4, some (FieldType.int)),
  (⟨"NeedsALoserModel", "isBargain", "(I)Z"⟩, prog_9_method_5_code, 2, some (FieldType.boolean)),
  (⟨"NeedsALoserModel", "bars", "(IIZ)I"⟩, prog_9_method_22_code, 5, some (FieldType.int)),
  (⟨"NeedsALoserModel", "ask", "(II)I"⟩, prog_9_method_24_code, 4, some (FieldType.int)),
  (⟨"NeedsALoserModel", "mostOf", "(I)I"⟩, prog_9_method_23_code, 1, some (FieldType.int)),
  (⟨"NeedsALoserModel", "feed", "(I)I"⟩, prog_9_method_25_code, 2, some (FieldType.int)),
  (⟨"NeedsALoserModel", "wipe", "()I"⟩, prog_9_method_26_code, 2, some (FieldType.int)),
  (⟨"NeedsALoserModel", "town", "()I"⟩, prog_9_method_39_code, 3, some (FieldType.int)),
  (⟨"NeedsALoserModel", "fresh", "()LNeedsALoserModel;"⟩, prog_9_method_107_code, 1, some ((FieldType.object "NeedsALoserModel"))),
  (⟨"NeedsALoserModel", "takeFrom", "(LNeedsALoserModel;)V"⟩, prog_9_method_109_code, 3, none),
  (⟨"NeedsALoserModel", "over", "([I[I)V"⟩, prog_9_method_108_code, 3, none),
  (⟨"NeedsALoserModel", "readAll", "()Z"⟩, prog_9_method_38_code, 1, some (FieldType.boolean)),
  (⟨"NeedsALoserModel", "look", "()V"⟩, prog_9_method_29_code, 1, none),
  (⟨"NeedsALoserModel", "isLetter", "(I)Z"⟩, prog_9_method_27_code, 1, some (FieldType.boolean)),
  (⟨"NeedsALoserModel", "isDigit", "(I)Z"⟩, prog_9_method_28_code, 1, some (FieldType.boolean)),
  (⟨"NeedsALoserModel", "statement", "()Z"⟩, prog_9_method_37_code, 1, some (FieldType.boolean)),
  (⟨"NeedsALoserModel", "isWord", "(Ljava/lang/String;)Z"⟩, prog_9_method_31_code, 3, some (FieldType.boolean)),
  (⟨"NeedsALoserModel", "dealTold", "()Z"⟩, prog_9_method_35_code, 2, some (FieldType.boolean)),
  (⟨"NeedsALoserModel", "tells", "(Ljava/lang/String;III)Z"⟩, prog_9_method_33_code, 5, some (FieldType.boolean)),
  (⟨"NeedsALoserModel", "wrong", "()Z"⟩, prog_9_method_30_code, 1, some (FieldType.boolean)),
  (⟨"NeedsALoserModel", "number", "(III)Z"⟩, prog_9_method_32_code, 4, some (FieldType.boolean)),
  (⟨"NeedsALoserModel", "unlike", "(II)Z"⟩, prog_9_method_34_code, 3, some (FieldType.boolean)),
  (⟨"NeedsALoserModel", "askedTold", "(Ljava/lang/String;I)Z"⟩, prog_9_method_36_code, 4, some (FieldType.boolean)),
  (⟨"NeedsALoserModel", "bargainOf", "(II)I"⟩, prog_9_method_40_code, 3, some (FieldType.int)),
  (⟨"NeedsALoserModel", "lossOf", "(II)I"⟩, prog_9_method_41_code, 3, some (FieldType.int)),
  (⟨"NeedsALoserModel", "standing", "(I)I"⟩, prog_9_method_42_code, 2, some (FieldType.int)),
  (⟨"NeedsALoserModel", "good", "(I)I"⟩, prog_9_method_48_code, 2, some (FieldType.int)),
  (⟨"NeedsALoserModel", "goodBy", "(I)I"⟩, prog_9_method_45_code, 4, some (FieldType.int)),
  (⟨"NeedsALoserModel", "value", "(II)I"⟩, prog_9_method_49_code, 3, some (FieldType.int)),
  (⟨"NeedsALoserModel", "name", "(III)I"⟩, prog_9_method_53_code, 5, some (FieldType.int)),
  (⟨"NeedsALoserModel", "noRule", "(I)I"⟩, prog_9_method_11_code, 2, some (FieldType.int)),
  (⟨"NeedsALoserModel", "judge", "(I)I"⟩, prog_9_method_57_code, 3, some (FieldType.int)),
  (⟨"NeedsALoserModel", "noWeek", "(I)I"⟩, prog_9_method_54_code, 3, some (FieldType.int)),
  (⟨"NeedsALoserModel", "takeWeek", "(I)I"⟩, prog_9_method_55_code, 6, some (FieldType.int)),
  (⟨"NeedsALoserModel", "told", "(II)I"⟩, prog_9_method_58_code, 4, some (FieldType.int)),
  (⟨"NeedsALoserModel", "ofWeek", "(I)I"⟩, prog_9_method_56_code, 6, some (FieldType.int)),
  (⟨"NeedsALoserModel", "by", "(II)I"⟩, prog_9_method_60_code, 4, some (FieldType.int)),
  (⟨"NeedsALoserModel", "weekBy", "(I)V"⟩, prog_9_method_59_code, 5, none),
  (⟨"NeedsALoserModel", "head", "()I"⟩, prog_9_method_61_code, 5, some (FieldType.int)),
  (⟨"NeedsALoserModel", "lives", "(I)I"⟩, prog_9_method_63_code, 3, some (FieldType.int)),
  (⟨"NeedsALoserModel", "comes", "()I"⟩, prog_9_method_62_code, 2, some (FieldType.int)),
  (⟨"NeedsALoserModel", "makes", "(I)I"⟩, prog_9_method_64_code, 3, some (FieldType.int)),
  (⟨"NeedsALoserModel", "best", "()I"⟩, prog_9_method_69_code, 1, some (FieldType.int)),
  (⟨"NeedsALoserModel", "all", "()I"⟩, prog_9_method_68_code, 1, some (FieldType.int)),
  (⟨"NeedsALoserModel", "bestBy", "(I)I"⟩, prog_9_method_67_code, 3, some (FieldType.int)),
  (⟨"NeedsALoserModel", "seek", "(IIIII)V"⟩, prog_9_method_65_code, 9, none),
  (⟨"NeedsALoserModel", "mildestOf", "(II)I"⟩, prog_9_method_66_code, 5, some (FieldType.int)),
  (⟨"NeedsALoserModel", "bestOf", "(I)I"⟩, prog_9_method_70_code, 2, some (FieldType.int)),
  (⟨"NeedsALoserModel", "worth", "(I)I"⟩, prog_9_method_72_code, 2, some (FieldType.int)),
  (⟨"NeedsALoserModel", "worthOf", "(I)I"⟩, prog_9_method_71_code, 2, some (FieldType.int)),
  (⟨"NeedsALoserModel", "dearest", "()I"⟩, prog_9_method_73_code, 5, some (FieldType.int)),
  (⟨"NeedsALoserModel", "gap", "(I)I"⟩, prog_9_method_74_code, 3, some (FieldType.int)),
  (⟨"NeedsALoserModel", "fewest", "()I"⟩, prog_9_method_75_code, 4, some (FieldType.int)),
  (⟨"NeedsALoserModel", "bits", "(I)I"⟩, prog_9_method_7_code, 3, some (FieldType.int)),
  (⟨"NeedsALoserModel", "richest", "()I"⟩, prog_9_method_76_code, 3, some (FieldType.int)),
  (⟨"NeedsALoserModel", "alone", "(I)I"⟩, prog_9_method_77_code, 4, some (FieldType.int)),
  (⟨"NeedsALoserModel", "party", "(I)I"⟩, prog_9_method_78_code, 4, some (FieldType.int)),
  (⟨"NeedsALoserModel", "fair", "()I"⟩, prog_9_method_79_code, 4, some (FieldType.int)),
  (⟨"NeedsALoserModel", "never", "()I"⟩, prog_9_method_80_code, 3, some (FieldType.int)),
  (⟨"NeedsALoserModel", "free", "()I"⟩, prog_9_method_82_code, 5, some (FieldType.int)),
  (⟨"NeedsALoserModel", "isBarred", "(I)Z"⟩, prog_9_method_81_code, 3, some (FieldType.boolean)),
  (⟨"NeedsALoserModel", "cross", "(III)I"⟩, prog_9_method_84_code, 7, some (FieldType.int)),
  (⟨"NeedsALoserModel", "partyFor", "(II)I"⟩, prog_9_method_83_code, 5, some (FieldType.int)),
  (⟨"NeedsALoserModel", "rings", "()I"⟩, prog_9_method_86_code, 5, some (FieldType.int)),
  (⟨"NeedsALoserModel", "isRing", "(III)Z"⟩, prog_9_method_85_code, 4, some (FieldType.boolean)),
  (⟨"NeedsALoserModel", "harm", "(I)I"⟩, prog_9_method_88_code, 2, some (FieldType.int)),
  (⟨"NeedsALoserModel", "harmOf", "(I)I"⟩, prog_9_method_87_code, 7, some (FieldType.int)),
  (⟨"NeedsALoserModel", "worst", "()I"⟩, prog_9_method_89_code, 3, some (FieldType.int)),
  (⟨"NeedsALoserModel", "hated", "()I"⟩, prog_9_method_91_code, 3, some (FieldType.int)),
  (⟨"NeedsALoserModel", "hates", "(I)I"⟩, prog_9_method_90_code, 4, some (FieldType.int)),
  (⟨"NeedsALoserModel", "said", "(II)I"⟩, prog_9_method_93_code, 3, some (FieldType.int)),
  (⟨"NeedsALoserModel", "saidBy", "(III)I"⟩, prog_9_method_92_code, 4, some (FieldType.int)),
  (⟨"NeedsALoserModel", "dares", "()I"⟩, prog_9_method_95_code, 1, some (FieldType.int)),
  (⟨"NeedsALoserModel", "daresBy", "(I)I"⟩, prog_9_method_94_code, 5, some (FieldType.int)),
  (⟨"NeedsALoserModel", "deters", "()I"⟩, prog_9_method_96_code, 2, some (FieldType.int)),
  (⟨"NeedsALoserModel", "under", "(I)I"⟩, prog_9_method_98_code, 2, some (FieldType.int)),
  (⟨"NeedsALoserModel", "underOf", "(I)I"⟩, prog_9_method_97_code, 4, some (FieldType.int)),
  (⟨"NeedsALoserModel", "bestLaw", "()I"⟩, prog_9_method_99_code, 3, some (FieldType.int)),
  (⟨"NeedsALoserModel", "hiding", "(II)I"⟩, prog_9_method_100_code, 6, some (FieldType.int)),
  (⟨"NeedsALoserModel", "week", "()I"⟩, prog_9_method_103_code, 1, some (FieldType.int)),
  (⟨"NeedsALoserModel", "weekByDraws", "()I"⟩, prog_9_method_102_code, 7, some (FieldType.int)),
  (⟨"NeedsALoserModel", "draw", "(I)I"⟩, prog_9_method_101_code, 2, some (FieldType.int)),
  (⟨"NeedsALoserModel", "weeks", "(I)I"⟩, prog_9_method_104_code, 4, some (FieldType.int)),
  (⟨"NeedsALoserModel", "named", "(I)I"⟩, prog_9_method_105_code, 2, some (FieldType.int)),
  (⟨"NeedsALoserModel", "seed", "(I)I"⟩, prog_9_method_106_code, 3, some (FieldType.int)),
  (⟨"NeedsALoserModel", "image", "()I"⟩, prog_9_method_110_code, 1, some (FieldType.int)),
  (⟨"NeedsALoserModel", "back", "()I"⟩, prog_9_method_111_code, 1, some (FieldType.int)),
  (⟨"NeedsALoserModel", "status", "(I)I"⟩, prog_9_method_112_code, 4, some (FieldType.int)),
  (x, code, 4, some .boolean)]
def me (y : Nat) : MethodName × ByteArray × Nat × Option FieldType := mtb.getD y (⟨"", "", ""⟩, ⟨#[]⟩, 0, none)
abbrev mn (y : Nat) : MethodName := (me y).1
abbrev mb (y : Nat) : ByteArray := (me y).2.1
abbrev ml (y : Nat) : Nat := (me y).2.2.1
abbrev mr (y : Nat) : Option FieldType := (me y).2.2.2
def Rk0 : String := "NeedsALoser"
def Fk0 : u_T := fun k => match k with
  | 0 => ("NeedsALoser", "now", "LNeedsALoser$Town;", true)
  | 1 => ("NeedsALoser", "kept", "LNeedsALoser$Town;", true)
  | 2 => ("NeedsALoser", "draft", "LNeedsALoser$Town;", true)
  | 3 => ("NeedsALoser", "isKept", "Z", false)
  | 4 => ("NeedsALoser", "shelves", "LNeedsALoser$Shelves;", true)
  | 5 => ("NeedsALoser", "reader", "LNeedsALoser$Reader;", true)
  | 6 => ("NeedsALoser", "trial", "LNeedsALoser$Week;", true)
  | 7 => ("NeedsALoser", "search", "LNeedsALoser$Search;", true)
  | _ => ("NeedsALoser", "refusals", "[I", true)
def tk0 : Nat → FieldType := fun k => match k with
  | 0 => .object "NeedsALoser$Town"
  | 1 => .object "NeedsALoser$Town"
  | 2 => .object "NeedsALoser$Town"
  | 3 => .boolean
  | 4 => .object "NeedsALoser$Shelves"
  | 5 => .object "NeedsALoser$Reader"
  | 6 => .object "NeedsALoser$Week"
  | 7 => .object "NeedsALoser$Search"
  | _ => .array .int
def Rk1 : String := "NeedsALoser$Town"
def Fk1 : u_T := fun k => match k with
  | 0 => ("NeedsALoser$Town", "people", "I", false)
  | 1 => ("NeedsALoser$Town", "bargains", "I", false)
  | 2 => ("NeedsALoser$Town", "least", "I", false)
  | 3 => ("NeedsALoser$Town", "once", "I", false)
  | 4 => ("NeedsALoser$Town", "court", "I", false)
  | 5 => ("NeedsALoser$Town", "fine", "I", false)
  | 6 => ("NeedsALoser$Town", "seed", "I", false)
  | 7 => ("NeedsALoser$Town", "weeksLived", "I", false)
  | 8 => ("NeedsALoser$Town", "madeInAll", "I", false)
  | 9 => ("NeedsALoser$Town", "standings", "[I", true)
  | 10 => ("NeedsALoser$Town", "times", "[I", true)
  | 11 => ("NeedsALoser$Town", "firsts", "[I", true)
  | 12 => ("NeedsALoser$Town", "seconds", "[I", true)
  | 13 => ("NeedsALoser$Town", "gainsOfFirst", "[I", true)
  | 14 => ("NeedsALoser$Town", "gainsOfSecond", "[I", true)
  | 15 => ("NeedsALoser$Town", "barred", "[I", true)
  | _ => ("NeedsALoser$Town", "losses", "[I", true)
def tk1 : Nat → FieldType := fun k => match k with
  | 0 => .int
  | 1 => .int
  | 2 => .int
  | 3 => .int
  | 4 => .int
  | 5 => .int
  | 6 => .int
  | 7 => .int
  | 8 => .int
  | 9 => .array .int
  | 10 => .array .int
  | 11 => .array .int
  | 12 => .array .int
  | 13 => .array .int
  | 14 => .array .int
  | 15 => .array .int
  | _ => .array .int
def Rk2 : String := "NeedsALoser$Shelves"
def Fk2 : u_T := fun k => match k with
  | 0 => ("NeedsALoser$Shelves", "held", "[I", true)
  | 1 => ("NeedsALoser$Shelves", "sizes", "[I", true)
  | 2 => ("NeedsALoser$Shelves", "numbers", "[I", true)
  | _ => ("NeedsALoser$Shelves", "elements", "[J", true)
def tk2 : Nat → FieldType := fun k => match k with
  | 0 => .array .int
  | 1 => .array .int
  | 2 => .array .int
  | _ => .array .long
def Rk3 : String := "NeedsALoser$Reader"
def Fk3 : u_T := fun k => match k with
  | 0 => ("NeedsALoser$Reader", "tape", "[I", true)
  | 1 => ("NeedsALoser$Reader", "size", "I", false)
  | 2 => ("NeedsALoser$Reader", "place", "I", false)
  | 3 => ("NeedsALoser$Reader", "token", "I", false)
  | 4 => ("NeedsALoser$Reader", "start", "I", false)
  | _ => ("NeedsALoser$Reader", "fault", "I", false)
def tk3 : Nat → FieldType := fun k => match k with
  | 0 => .array .int
  | 1 => .int
  | 2 => .int
  | 3 => .int
  | 4 => .int
  | _ => .int
def Rk4 : String := "NeedsALoser$Week"
def Fk4 : u_T := fun k => match k with
  | 0 => ("NeedsALoser$Week", "thirds", "[I", true)
  | 1 => ("NeedsALoser$Week", "made", "I", false)
  | _ => ("NeedsALoser$Week", "taken", "I", false)
def tk4 : Nat → FieldType := fun k => match k with
  | 0 => .array .int
  | 1 => .int
  | _ => .int
def Rk5 : String := "NeedsALoser$Search"
def Fk5 : u_T := fun k => match k with
  | 0 => ("NeedsALoser$Search", "apart", "[Z", true)
  | 1 => ("NeedsALoser$Search", "ways", "[J", true)
  | 2 => ("NeedsALoser$Search", "waysNaming", "[J", true)
  | 3 => ("NeedsALoser$Search", "keys", "[J", true)
  | _ => ("NeedsALoser$Search", "weights", "[I", true)
def tk5 : Nat → FieldType := fun k => match k with
  | 0 => .array .boolean
  | 1 => .array .long
  | 2 => .array .long
  | 3 => .array .long
  | _ => .array .int
def Rk6 : String := "NeedsALoserModel"
def Fk6 : u_T := fun k => match k with
  | 0 => ("NeedsALoserModel", "shelf", "[I", true)
  | 1 => ("NeedsALoserModel", "rowSort", "[I", true)
  | 2 => ("NeedsALoserModel", "rowSize", "[I", true)
  | 3 => ("NeedsALoserModel", "rows", "[[J", true)
  | 4 => ("NeedsALoserModel", "moved", "[J", true)
  | 5 => ("NeedsALoserModel", "ruleKind", "[I", true)
  | 6 => ("NeedsALoserModel", "ruleBy", "[I", true)
  | 7 => ("NeedsALoserModel", "tape", "[I", true)
  | 8 => ("NeedsALoserModel", "tapeSize", "I", false)
  | 9 => ("NeedsALoserModel", "refused", "[I", true)
  | 10 => ("NeedsALoserModel", "people", "I", false)
  | 11 => ("NeedsALoserModel", "standing", "[I", true)
  | 12 => ("NeedsALoserModel", "named", "[I", true)
  | 13 => ("NeedsALoserModel", "bargains", "I", false)
  | 14 => ("NeedsALoserModel", "of", "[[I", true)
  | 15 => ("NeedsALoserModel", "loss", "[[I", true)
  | 16 => ("NeedsALoserModel", "asked", "[I", true)
  | 17 => ("NeedsALoserModel", "weeksGone", "I", false)
  | 18 => ("NeedsALoserModel", "made", "I", false)
  | 19 => ("NeedsALoserModel", "seed", "I", false)
  | 20 => ("NeedsALoserModel", "kept", "LNeedsALoserModel;", false)
  | 21 => ("NeedsALoserModel", "tried", "LNeedsALoserModel;", false)
  | 22 => ("NeedsALoserModel", "at", "I", false)
  | 23 => ("NeedsALoserModel", "token", "I", false)
  | 24 => ("NeedsALoserModel", "from", "I", false)
  | 25 => ("NeedsALoserModel", "figures", "I", false)
  | 26 => ("NeedsALoserModel", "fault", "I", false)
  | 27 => ("NeedsALoserModel", "told", "[I", true)
  | 28 => ("NeedsALoserModel", "statements", "I", false)
  | 29 => ("NeedsALoserModel", "week", "[I", true)
  | 30 => ("NeedsALoserModel", "trying", "[I", true)
  | 31 => ("NeedsALoserModel", "bestWeek", "[I", true)
  | _ => ("NeedsALoserModel", "bestValue", "I", false)
def tk6 : Nat → FieldType := fun k => match k with
  | 0 => .array .int
  | 1 => .array .int
  | 2 => .array .int
  | 3 => .array (.array .long)
  | 4 => .array .long
  | 5 => .array .int
  | 6 => .array .int
  | 7 => .array .int
  | 8 => .int
  | 9 => .array .int
  | 10 => .int
  | 11 => .array .int
  | 12 => .array .int
  | 13 => .int
  | 14 => .array (.array .int)
  | 15 => .array (.array .int)
  | 16 => .array .int
  | 17 => .int
  | 18 => .int
  | 19 => .int
  | 20 => .object "NeedsALoserModel"
  | 21 => .object "NeedsALoserModel"
  | 22 => .int
  | 23 => .int
  | 24 => .int
  | 25 => .int
  | 26 => .int
  | 27 => .array .int
  | 28 => .int
  | 29 => .array .int
  | 30 => .array .int
  | 31 => .array .int
  | _ => .int
def classes : List vw_C := [(Rk0, Fk0, 9), (Rk1, Fk1, 17), (Rk2, Fk2, 4), (Rk3, Fk3, 6), (Rk4, Fk4, 3), (Rk5, Fk5, 5), (Rk6, Fk6, 33)]
def tks : List (Nat → FieldType) := [tk0, tk1, tk2, tk3, tk4, tk5, tk6]
def WALL : List Cond := lw_tbl.filter goodWord
def isNest : Cond → Bool
  | .methodLinkNest .. => true
  | .fieldLinkNest .. => true
  | _ => false
def NST : List Cond := lw_tbl.filter isNest
theorem w_in {w : Cond} (i : Nat) (h : lw_tbl[i]? = some w) (g : goodWord w = true) : w ∈ WALL := List.mem_filter.mpr ⟨List.mem_of_getElem? h, g⟩
theorem n_in {w : Cond} (i : Nat) (h : lw_tbl[i]? = some w) (g : isNest w = true) : w ∈ NST := List.mem_filter.mpr ⟨List.mem_of_getElem? h, g⟩
theorem nk0 : ∀ a, a < 9 → ∀ b, b < 9 → a ≠ b → (Fk0 a).2.1 ≠ (Fk0 b).2.1 := by decide +kernel
theorem ok0 : ∀ k, k < 9 → parseFieldDescriptor (Fk0 k).2.2.1 = some (tk0 k) := by decide +kernel
theorem lk0 : ∀ w ∈ u_ws Rk0 Fk0 9, w ∈ WALL := by
  intro w hw
  have e : u_ws Rk0 Fk0 9 = [274, 276, 278, 280, 282, 284, 286, 288, 290].filterMap (fun i => lw_tbl[i]?) := by decide +kernel
  have g : (u_ws Rk0 Fk0 9).all goodWord = true := by decide +kernel
  have g1 := List.all_eq_true.mp g w hw
  rw [e] at hw
  obtain ⟨i, -, hi⟩ := List.mem_filterMap.mp hw
  exact w_in i hi g1
theorem ik0 : Cond.instantiable Rk0 9 ∈ WALL ∧ Cond.initialized Rk0 ∈ WALL := ⟨w_in 89 (by decide +kernel) (by decide +kernel), w_in 74 (by decide +kernel) (by decide +kernel)⟩
theorem nk1 : ∀ a, a < 17 → ∀ b, b < 17 → a ≠ b → (Fk1 a).2.1 ≠ (Fk1 b).2.1 := by decide +kernel
theorem ok1 : ∀ k, k < 17 → parseFieldDescriptor (Fk1 k).2.2.1 = some (tk1 k) := by decide +kernel
theorem lk1 : ∀ w ∈ u_ws Rk1 Fk1 17, w ∈ WALL := by
  intro w hw
  have e : u_ws Rk1 Fk1 17 = [144, 146, 148, 150, 152, 154, 156, 158, 160, 162, 164, 166, 168, 170, 172, 174, 176].filterMap (fun i => lw_tbl[i]?) := by decide +kernel
  have g : (u_ws Rk1 Fk1 17).all goodWord = true := by decide +kernel
  have g1 := List.all_eq_true.mp g w hw
  rw [e] at hw
  obtain ⟨i, -, hi⟩ := List.mem_filterMap.mp hw
  exact w_in i hi g1
theorem ik1 : Cond.instantiable Rk1 17 ∈ WALL ∧ Cond.initialized Rk1 ∈ WALL := ⟨w_in 97 (by decide +kernel) (by decide +kernel), w_in 75 (by decide +kernel) (by decide +kernel)⟩
theorem nk2 : ∀ a, a < 4 → ∀ b, b < 4 → a ≠ b → (Fk2 a).2.1 ≠ (Fk2 b).2.1 := by decide +kernel
theorem ok2 : ∀ k, k < 4 → parseFieldDescriptor (Fk2 k).2.2.1 = some (tk2 k) := by decide +kernel
theorem lk2 : ∀ w ∈ u_ws Rk2 Fk2 4, w ∈ WALL := by
  intro w hw
  have e : u_ws Rk2 Fk2 4 = [190, 192, 194, 196].filterMap (fun i => lw_tbl[i]?) := by decide +kernel
  have g : (u_ws Rk2 Fk2 4).all goodWord = true := by decide +kernel
  have g1 := List.all_eq_true.mp g w hw
  rw [e] at hw
  obtain ⟨i, -, hi⟩ := List.mem_filterMap.mp hw
  exact w_in i hi g1
theorem ik2 : Cond.instantiable Rk2 4 ∈ WALL ∧ Cond.initialized Rk2 ∈ WALL := ⟨w_in 181 (by decide +kernel) (by decide +kernel), w_in 76 (by decide +kernel) (by decide +kernel)⟩
theorem nk3 : ∀ a, a < 6 → ∀ b, b < 6 → a ≠ b → (Fk3 a).2.1 ≠ (Fk3 b).2.1 := by decide +kernel
theorem ok3 : ∀ k, k < 6 → parseFieldDescriptor (Fk3 k).2.2.1 = some (tk3 k) := by decide +kernel
theorem lk3 : ∀ w ∈ u_ws Rk3 Fk3 6, w ∈ WALL := by
  intro w hw
  have e : u_ws Rk3 Fk3 6 = [213, 215, 217, 219, 221, 223].filterMap (fun i => lw_tbl[i]?) := by decide +kernel
  have g : (u_ws Rk3 Fk3 6).all goodWord = true := by decide +kernel
  have g1 := List.all_eq_true.mp g w hw
  rw [e] at hw
  obtain ⟨i, -, hi⟩ := List.mem_filterMap.mp hw
  exact w_in i hi g1
theorem ik3 : Cond.instantiable Rk3 6 ∈ WALL ∧ Cond.initialized Rk3 ∈ WALL := ⟨w_in 201 (by decide +kernel) (by decide +kernel), w_in 77 (by decide +kernel) (by decide +kernel)⟩
theorem nk4 : ∀ a, a < 3 → ∀ b, b < 3 → a ≠ b → (Fk4 a).2.1 ≠ (Fk4 b).2.1 := by decide +kernel
theorem ok4 : ∀ k, k < 3 → parseFieldDescriptor (Fk4 k).2.2.1 = some (tk4 k) := by decide +kernel
theorem lk4 : ∀ w ∈ u_ws Rk4 Fk4 3, w ∈ WALL := by
  intro w hw
  have e : u_ws Rk4 Fk4 3 = [235, 237, 239].filterMap (fun i => lw_tbl[i]?) := by decide +kernel
  have g : (u_ws Rk4 Fk4 3).all goodWord = true := by decide +kernel
  have g1 := List.all_eq_true.mp g w hw
  rw [e] at hw
  obtain ⟨i, -, hi⟩ := List.mem_filterMap.mp hw
  exact w_in i hi g1
theorem ik4 : Cond.instantiable Rk4 3 ∈ WALL ∧ Cond.initialized Rk4 ∈ WALL := ⟨w_in 227 (by decide +kernel) (by decide +kernel), w_in 78 (by decide +kernel) (by decide +kernel)⟩
theorem nk5 : ∀ a, a < 5 → ∀ b, b < 5 → a ≠ b → (Fk5 a).2.1 ≠ (Fk5 b).2.1 := by decide +kernel
theorem ok5 : ∀ k, k < 5 → parseFieldDescriptor (Fk5 k).2.2.1 = some (tk5 k) := by decide +kernel
theorem lk5 : ∀ w ∈ u_ws Rk5 Fk5 5, w ∈ WALL := by
  intro w hw
  have e : u_ws Rk5 Fk5 5 = [253, 255, 257, 259, 261].filterMap (fun i => lw_tbl[i]?) := by decide +kernel
  have g : (u_ws Rk5 Fk5 5).all goodWord = true := by decide +kernel
  have g1 := List.all_eq_true.mp g w hw
  rw [e] at hw
  obtain ⟨i, -, hi⟩ := List.mem_filterMap.mp hw
  exact w_in i hi g1
theorem ik5 : Cond.instantiable Rk5 5 ∈ WALL ∧ Cond.initialized Rk5 ∈ WALL := ⟨w_in 243 (by decide +kernel) (by decide +kernel), w_in 79 (by decide +kernel) (by decide +kernel)⟩
theorem nk6 : ∀ a, a < 33 → ∀ b, b < 33 → a ≠ b → (Fk6 a).2.1 ≠ (Fk6 b).2.1 := by decide +kernel
theorem ok6 : ∀ k, k < 33 → parseFieldDescriptor (Fk6 k).2.2.1 = some (tk6 k) := by decide +kernel
theorem lk6 : ∀ w ∈ u_ws Rk6 Fk6 33, w ∈ WALL := by
  intro w hw
  have e : u_ws Rk6 Fk6 33 = [1109, 1111, 1113, 1115, 1117, 1119, 1121, 1123, 1125, 1127, 1129, 1131, 1133, 1135, 1137, 1139, 1141, 1143, 1145, 1147, 1149, 1151, 1153, 1155, 1157, 1159, 1161, 1163, 1165, 1167, 1169, 1171, 1173].filterMap (fun i => lw_tbl[i]?) := by decide +kernel
  have g : (u_ws Rk6 Fk6 33).all goodWord = true := by decide +kernel
  have g1 := List.all_eq_true.mp g w hw
  rw [e] at hw
  obtain ⟨i, -, hi⟩ := List.mem_filterMap.mp hw
  exact w_in i hi g1
theorem ik6 : Cond.instantiable Rk6 33 ∈ WALL ∧ Cond.initialized Rk6 ∈ WALL := ⟨w_in 1067 (by decide +kernel) (by decide +kernel), w_in 80 (by decide +kernel) (by decide +kernel)⟩
end
section
-- THE METHODS AND LINKS: written by wip/whole/gen02.py
def okM (z n : Nat) : Prop := Cond.code (mn z) (mb z) (ml z) (mr z) ∈ WALL ∧ Cond.initialized (mn z).cls ∈ WALL ∧ ((mn z).cls ≠ "java/lang/invoke/MethodHandle" ∧ (mn z).cls ≠ "java/lang/invoke/VarHandle" ∧ (parseMethodDescriptor (mn z).desc).map (fun d => d.parameters.length) = some n) ∧ plainFor (mn z) = true
def okS (z : Nat) : Prop := Cond.static (mn z) ∈ WALL
def okV (z : Nat) : Prop := Cond.instanceMethod (mn z) ∈ WALL ∧ Cond.selects (mn z).cls (mn z) (mn z) ∈ WALL
def okI (z : Nat) : Prop := Cond.instanceMethod (mn z) ∈ WALL ∧ (mn z).name = "<init>" ∧ mr z = none
abbrev y_N_init : Nat := 0
abbrev y_JO_init : Nat := 1
abbrev y_T_init : Nat := 2
abbrev y_S_init : Nat := 3
abbrev y_R_init : Nat := 4
abbrev y_W_init : Nat := 5
abbrev y_E_init : Nat := 6
abbrev y_N_row : Nat := 7
abbrev y_N_isBelow : Nat := 8
abbrev y_N_isWithin : Nat := 9
abbrev y_N_refuse : Nat := 10
abbrev y_N_at : Nat := 11
abbrev y_N_put : Nat := 12
abbrev y_S_putRow : Nat := 13
abbrev y_S_putElement : Nat := 14
abbrev y_S_heldIn : Nat := 15
abbrev y_S_lowestBits : Nat := 16
abbrev y_N_set : Nat := 17
abbrev y_S_rowRefusal : Nat := 18
abbrev y_S_holdsRule : Nat := 19
abbrev y_S_holdsRow : Nat := 20
abbrev y_S_sizeOf : Nat := 21
abbrev y_N_copy : Nat := 22
abbrev y_S_copyRefusal : Nat := 23
abbrev y_S_isSpan : Nat := 24
abbrev y_S_move : Nat := 25
abbrev y_S_elementAt : Nat := 26
abbrev y_N_element : Nat := 27
abbrev y_N_holds : Nat := 28
abbrev y_N_rule : Nat := 29
abbrev y_S_putRule : Nat := 30
abbrev y_N_says : Nat := 31
abbrev y_S_ruleRefusal : Nat := 32
abbrev y_S_kindIn : Nat := 33
abbrev y_U_isUnder : Nat := 34
abbrev y_S_numberIn : Nat := 35
abbrev y_N_thirdByShelf : Nat := 36
abbrev y_T_mayBits : Nat := 37
abbrev y_T_goodBits : Nat := 38
abbrev y_T_isGoodBy : Nat := 39
abbrev y_T_lossBy : Nat := 40
abbrev y_T_isParty : Nat := 41
abbrev y_U_thirdFor : Nat := 42
abbrev y_N_hasBit : Nat := 43
abbrev y_U_foremost : Nat := 44
abbrev y_U_score : Nat := 45
abbrev y_U_stepsRound : Nat := 46
abbrev y_JM_floorMod : Nat := 47
abbrev y_T_valueBy : Nat := 48
abbrev y_T_gainsOf : Nat := 49
abbrev y_N_one : Nat := 50
abbrev y_T_addPerson : Nat := 51
abbrev y_N_bargain : Nat := 52
abbrev y_T_hasPerson : Nat := 53
abbrev y_T_addBargain : Nat := 54
abbrev y_N_hurts : Nat := 55
abbrev y_T_hasPair : Nat := 56
abbrev y_T_hasBargain : Nat := 57
abbrev y_T_putLoss : Nat := 58
abbrev y_N_bars : Nat := 59
abbrev y_T_hasUnlike : Nat := 60
abbrev y_T_barredBy : Nat := 61
abbrev y_T_putBar : Nat := 62
abbrev y_T_withBit : Nat := 63
abbrev y_N_ask : Nat := 64
abbrev y_T_leastOfLaw : Nat := 65
abbrev y_T_mostOfLaw : Nat := 66
abbrev y_T_law : Nat := 67
abbrev y_T_putLaw : Nat := 68
abbrev y_N_feed : Nat := 69
abbrev y_R_isFull : Nat := 70
abbrev y_R_add : Nat := 71
abbrev y_N_wipe : Nat := 72
abbrev y_R_clear : Nat := 73
abbrev y_N_town : Nat := 74
abbrev y_T_become : Nat := 75
abbrev y_N_copyAll : Nat := 76
abbrev y_R_read : Nat := 77
abbrev y_R_step : Nat := 78
abbrev y_R_tokenOf : Nat := 79
abbrev y_R_readStatement : Nat := 80
abbrev y_R_isWord : Nat := 81
abbrev y_JS_length : Nat := 82
abbrev y_JS_coder : Nat := 83
abbrev y_JS_charAt : Nat := 84
abbrev y_JS_isLatin1 : Nat := 85
abbrev y_JL_charAt : Nat := 86
abbrev y_JS_checkIndex : Nat := 87
abbrev y_JP_checkIndex : Nat := 88
abbrev y_JU_charAt : Nat := 89
abbrev y_JU_checkIndex : Nat := 90
abbrev y_JU_length : Nat := 91
abbrev y_JU_getChar : Nat := 92
abbrev y_R_readOne : Nat := 93
abbrev y_R_fail : Nat := 94
abbrev y_R_readDeal : Nat := 95
abbrev y_R_readNumber : Nat := 96
abbrev y_R_numberHere : Nat := 97
abbrev y_R_readGains : Nat := 98
abbrev y_R_readBars : Nat := 99
abbrev y_R_readLaw : Nat := 100
abbrev y_N_bargainOf : Nat := 101
abbrev y_N_lossOf : Nat := 102
abbrev y_N_refuseBelow : Nat := 103
abbrev y_N_standing : Nat := 104
abbrev y_N_good : Nat := 105
abbrev y_N_value : Nat := 106
abbrev y_N_name : Nat := 107
abbrev y_N_judge : Nat := 108
abbrev y_N_toldRefusal : Nat := 109
abbrev y_W_fillTold : Nat := 110
abbrev y_W_begin : Nat := 111
abbrev y_W_isBarred : Nat := 112
abbrev y_W_take : Nat := 113
abbrev y_N_told : Nat := 114
abbrev y_W_tell : Nat := 115
abbrev y_JI_bitCount : Nat := 116
abbrev y_W_sumOfValues : Nat := 117
abbrev y_N_by : Nat := 118
abbrev y_N_tellByShelf : Nat := 119
abbrev y_W_fillByRule : Nat := 120
abbrev y_N_head : Nat := 121
abbrev y_N_lives : Nat := 122
abbrev y_W_comeTrue : Nat := 123
abbrev y_T_makeInTruth : Nat := 124
abbrev y_T_addTo : Nat := 125
abbrev y_N_makes : Nat := 126
abbrev y_N_week : Nat := 127
abbrev y_W_fillByDraws : Nat := 128
abbrev y_T_draw : Nat := 129
abbrev y_W_bitOfPlace : Nat := 130
abbrev y_N_weeks : Nat := 131
abbrev y_N_best : Nat := 132
abbrev y_T_everybody : Nat := 133
abbrev y_E_bestValue : Nat := 134
abbrev y_E_greatestKey : Nat := 135
abbrev y_E_findApart : Nat := 136
abbrev y_JM_min : Nat := 137
abbrev y_JI_numberOfTrailingZeros : Nat := 138
abbrev y_E_fillKeys : Nat := 139
abbrev y_E_shiftOf : Nat := 140
abbrev y_T_bargainsGoodBy : Nat := 141
abbrev y_E_addThird : Nat := 142
abbrev y_JM_max : Nat := 143
abbrev y_E_valueOf : Nat := 144
abbrev y_JM_floorDiv : Nat := 145
abbrev y_N_bestOf : Nat := 146
abbrev y_E_bestThird : Nat := 147
abbrev y_E_codeOf : Nat := 148
abbrev y_N_worth : Nat := 149
abbrev y_N_dearest : Nat := 150
abbrev y_N_gap : Nat := 151
abbrev y_N_fewest : Nat := 152
abbrev y_E_fewestBits : Nat := 153
abbrev y_N_richest : Nat := 154
abbrev y_N_placeOfGreatest : Nat := 155
abbrev y_N_alone : Nat := 156
abbrev y_N_party : Nat := 157
abbrev y_N_fair : Nat := 158
abbrev y_N_never : Nat := 159
abbrev y_N_free : Nat := 160
abbrev y_E_greatestGains : Nat := 161
abbrev y_E_heaviest : Nat := 162
abbrev y_JM_max2 : Nat := 163
abbrev y_N_cross : Nat := 164
abbrev y_T_partyBits : Nat := 165
abbrev y_N_greatestValue : Nat := 166
abbrev y_N_rings : Nat := 167
abbrev y_N_isRing : Nat := 168
abbrev y_N_harm : Nat := 169
abbrev y_E_greatestHarm : Nat := 170
abbrev y_N_worst : Nat := 171
abbrev y_N_hated : Nat := 172
abbrev y_N_said : Nat := 173
abbrev y_T_canBeSaid : Nat := 174
abbrev y_T_shareOfSaid : Nat := 175
abbrev y_N_dares : Nat := 176
abbrev y_N_deters : Nat := 177
abbrev y_N_under : Nat := 178
abbrev y_N_bestLaw : Nat := 179
abbrev y_N_hiding : Nat := 180
abbrev y_N_named : Nat := 181
abbrev y_N_seed : Nat := 182
abbrev y_N_image : Nat := 183
abbrev y_N_back : Nat := 184
abbrev y_N_status : Nat := 185
abbrev y_S_countHeld : Nat := 186
abbrev y_M_init : Nat := 187
abbrev y_M_row : Nat := 188
abbrev y_M_in : Nat := 189
abbrev y_M_refuse : Nat := 190
abbrev y_M_set : Nat := 191
abbrev y_M_noRow : Nat := 192
abbrev y_M_fit : Nat := 193
abbrev y_M_copy : Nat := 194
abbrev y_M_element : Nat := 195
abbrev y_M_holds : Nat := 196
abbrev y_M_rule : Nat := 197
abbrev y_M_says : Nat := 198
abbrev y_M_isUnder : Nat := 199
abbrev y_M_names : Nat := 200
abbrev y_M_mildest : Nat := 201
abbrev y_M_may : Nat := 202
abbrev y_M_isGood : Nat := 203
abbrev y_M_isParty : Nat := 204
abbrev y_M_has : Nat := 205
abbrev y_M_isOne : Nat := 206
abbrev y_M_valueOf : Nat := 207
abbrev y_M_gains : Nat := 208
abbrev y_M_one : Nat := 209
abbrev y_M_bargain : Nat := 210
abbrev y_M_hurts : Nat := 211
abbrev y_M_isBargain : Nat := 212
abbrev y_M_bars : Nat := 213
abbrev y_M_ask : Nat := 214
abbrev y_M_mostOf : Nat := 215
abbrev y_M_feed : Nat := 216
abbrev y_M_wipe : Nat := 217
abbrev y_M_town : Nat := 218
abbrev y_M_fresh : Nat := 219
abbrev y_M_takeFrom : Nat := 220
abbrev y_M_over : Nat := 221
abbrev y_M_readAll : Nat := 222
abbrev y_M_look : Nat := 223
abbrev y_M_isLetter : Nat := 224
abbrev y_M_isDigit : Nat := 225
abbrev y_M_statement : Nat := 226
abbrev y_M_isWord : Nat := 227
abbrev y_M_dealTold : Nat := 228
abbrev y_M_tells : Nat := 229
abbrev y_M_wrong : Nat := 230
abbrev y_M_number : Nat := 231
abbrev y_M_unlike : Nat := 232
abbrev y_M_askedTold : Nat := 233
abbrev y_M_bargainOf : Nat := 234
abbrev y_M_lossOf : Nat := 235
abbrev y_M_standing : Nat := 236
abbrev y_M_good : Nat := 237
abbrev y_M_goodBy : Nat := 238
abbrev y_M_value : Nat := 239
abbrev y_M_name : Nat := 240
abbrev y_M_noRule : Nat := 241
abbrev y_M_judge : Nat := 242
abbrev y_M_noWeek : Nat := 243
abbrev y_M_takeWeek : Nat := 244
abbrev y_M_told : Nat := 245
abbrev y_M_ofWeek : Nat := 246
abbrev y_M_by : Nat := 247
abbrev y_M_weekBy : Nat := 248
abbrev y_M_head : Nat := 249
abbrev y_M_lives : Nat := 250
abbrev y_M_comes : Nat := 251
abbrev y_M_makes : Nat := 252
abbrev y_M_best : Nat := 253
abbrev y_M_all : Nat := 254
abbrev y_M_bestBy : Nat := 255
abbrev y_M_seek : Nat := 256
abbrev y_M_mildestOf : Nat := 257
abbrev y_M_bestOf : Nat := 258
abbrev y_M_worth : Nat := 259
abbrev y_M_worthOf : Nat := 260
abbrev y_M_dearest : Nat := 261
abbrev y_M_gap : Nat := 262
abbrev y_M_fewest : Nat := 263
abbrev y_M_bits : Nat := 264
abbrev y_M_richest : Nat := 265
abbrev y_M_alone : Nat := 266
abbrev y_M_party : Nat := 267
abbrev y_M_fair : Nat := 268
abbrev y_M_never : Nat := 269
abbrev y_M_free : Nat := 270
abbrev y_M_isBarred : Nat := 271
abbrev y_M_cross : Nat := 272
abbrev y_M_partyFor : Nat := 273
abbrev y_M_rings : Nat := 274
abbrev y_M_isRing : Nat := 275
abbrev y_M_harm : Nat := 276
abbrev y_M_harmOf : Nat := 277
abbrev y_M_worst : Nat := 278
abbrev y_M_hated : Nat := 279
abbrev y_M_hates : Nat := 280
abbrev y_M_said : Nat := 281
abbrev y_M_saidBy : Nat := 282
abbrev y_M_dares : Nat := 283
abbrev y_M_daresBy : Nat := 284
abbrev y_M_deters : Nat := 285
abbrev y_M_under : Nat := 286
abbrev y_M_underOf : Nat := 287
abbrev y_M_bestLaw : Nat := 288
abbrev y_M_hiding : Nat := 289
abbrev y_M_week : Nat := 290
abbrev y_M_weekByDraws : Nat := 291
abbrev y_M_draw : Nat := 292
abbrev y_M_weeks : Nat := 293
abbrev y_M_named : Nat := 294
abbrev y_M_seed : Nat := 295
abbrev y_M_image : Nat := 296
abbrev y_M_back : Nat := 297
abbrev y_M_status : Nat := 298
abbrev y_L_law : Nat := 299
theorem k_N_init : okM 0 0 := ⟨w_in 92 (by decide +kernel) (by decide +kernel), w_in 74 (by decide +kernel) (by decide +kernel), by decide +kernel, by decide +kernel⟩
theorem i_N_init : okI 0 := ⟨w_in 91 (by decide +kernel) (by decide +kernel), by decide +kernel, by decide +kernel⟩
theorem k_T_init : okM 2 0 := ⟨w_in 100 (by decide +kernel) (by decide +kernel), w_in 75 (by decide +kernel) (by decide +kernel), by decide +kernel, by decide +kernel⟩
theorem i_T_init : okI 2 := ⟨w_in 99 (by decide +kernel) (by decide +kernel), by decide +kernel, by decide +kernel⟩
theorem k_S_init : okM 3 0 := ⟨w_in 184 (by decide +kernel) (by decide +kernel), w_in 76 (by decide +kernel) (by decide +kernel), by decide +kernel, by decide +kernel⟩
theorem i_S_init : okI 3 := ⟨w_in 183 (by decide +kernel) (by decide +kernel), by decide +kernel, by decide +kernel⟩
theorem k_R_init : okM 4 0 := ⟨w_in 204 (by decide +kernel) (by decide +kernel), w_in 77 (by decide +kernel) (by decide +kernel), by decide +kernel, by decide +kernel⟩
theorem i_R_init : okI 4 := ⟨w_in 203 (by decide +kernel) (by decide +kernel), by decide +kernel, by decide +kernel⟩
theorem k_W_init : okM 5 0 := ⟨w_in 230 (by decide +kernel) (by decide +kernel), w_in 78 (by decide +kernel) (by decide +kernel), by decide +kernel, by decide +kernel⟩
theorem i_W_init : okI 5 := ⟨w_in 229 (by decide +kernel) (by decide +kernel), by decide +kernel, by decide +kernel⟩
theorem k_E_init : okM 6 0 := ⟨w_in 246 (by decide +kernel) (by decide +kernel), w_in 79 (by decide +kernel) (by decide +kernel), by decide +kernel, by decide +kernel⟩
theorem i_E_init : okI 6 := ⟨w_in 245 (by decide +kernel) (by decide +kernel), by decide +kernel, by decide +kernel⟩
theorem k_N_row : okM 7 3 := ⟨w_in 296 (by decide +kernel) (by decide +kernel), w_in 74 (by decide +kernel) (by decide +kernel), by decide +kernel, by decide +kernel⟩
theorem v_N_row : okV 7 := ⟨w_in 294 (by decide +kernel) (by decide +kernel), w_in 295 (by decide +kernel) (by decide +kernel)⟩
theorem k_N_isBelow : okM 8 2 := ⟨w_in 299 (by decide +kernel) (by decide +kernel), w_in 74 (by decide +kernel) (by decide +kernel), by decide +kernel, by decide +kernel⟩
theorem s_N_isBelow : okS 8 := w_in 298 (by decide +kernel) (by decide +kernel)
theorem k_N_isWithin : okM 9 3 := ⟨w_in 302 (by decide +kernel) (by decide +kernel), w_in 74 (by decide +kernel) (by decide +kernel), by decide +kernel, by decide +kernel⟩
theorem s_N_isWithin : okS 9 := w_in 301 (by decide +kernel) (by decide +kernel)
theorem k_N_refuse : okM 10 1 := ⟨w_in 306 (by decide +kernel) (by decide +kernel), w_in 74 (by decide +kernel) (by decide +kernel), by decide +kernel, by decide +kernel⟩
theorem v_N_refuse : okV 10 := ⟨w_in 305 (by decide +kernel) (by decide +kernel), w_in 0 (by decide +kernel) (by decide +kernel)⟩
theorem k_N_at : okM 11 2 := ⟨w_in 309 (by decide +kernel) (by decide +kernel), w_in 74 (by decide +kernel) (by decide +kernel), by decide +kernel, by decide +kernel⟩
theorem s_N_at : okS 11 := w_in 308 (by decide +kernel) (by decide +kernel)
theorem k_N_put : okM 12 3 := ⟨w_in 312 (by decide +kernel) (by decide +kernel), w_in 74 (by decide +kernel) (by decide +kernel), by decide +kernel, by decide +kernel⟩
theorem s_N_put : okS 12 := w_in 311 (by decide +kernel) (by decide +kernel)
theorem k_S_putRow : okM 13 3 := ⟨w_in 316 (by decide +kernel) (by decide +kernel), w_in 76 (by decide +kernel) (by decide +kernel), by decide +kernel, by decide +kernel⟩
theorem v_S_putRow : okV 13 := ⟨w_in 314 (by decide +kernel) (by decide +kernel), w_in 315 (by decide +kernel) (by decide +kernel)⟩
theorem k_S_putElement : okM 14 3 := ⟨w_in 321 (by decide +kernel) (by decide +kernel), w_in 76 (by decide +kernel) (by decide +kernel), by decide +kernel, by decide +kernel⟩
theorem v_S_putElement : okV 14 := ⟨w_in 319 (by decide +kernel) (by decide +kernel), w_in 320 (by decide +kernel) (by decide +kernel)⟩
theorem k_S_heldIn : okM 15 1 := ⟨w_in 325 (by decide +kernel) (by decide +kernel), w_in 76 (by decide +kernel) (by decide +kernel), by decide +kernel, by decide +kernel⟩
theorem v_S_heldIn : okV 15 := ⟨w_in 323 (by decide +kernel) (by decide +kernel), w_in 324 (by decide +kernel) (by decide +kernel)⟩
theorem k_S_lowestBits : okM 16 2 := ⟨w_in 330 (by decide +kernel) (by decide +kernel), w_in 76 (by decide +kernel) (by decide +kernel), by decide +kernel, by decide +kernel⟩
theorem s_S_lowestBits : okS 16 := w_in 329 (by decide +kernel) (by decide +kernel)
theorem k_N_set : okM 17 3 := ⟨w_in 334 (by decide +kernel) (by decide +kernel), w_in 74 (by decide +kernel) (by decide +kernel), by decide +kernel, by decide +kernel⟩
theorem v_N_set : okV 17 := ⟨w_in 332 (by decide +kernel) (by decide +kernel), w_in 333 (by decide +kernel) (by decide +kernel)⟩
theorem k_S_rowRefusal : okM 18 1 := ⟨w_in 338 (by decide +kernel) (by decide +kernel), w_in 76 (by decide +kernel) (by decide +kernel), by decide +kernel, by decide +kernel⟩
theorem v_S_rowRefusal : okV 18 := ⟨w_in 336 (by decide +kernel) (by decide +kernel), w_in 337 (by decide +kernel) (by decide +kernel)⟩
theorem k_S_holdsRule : okM 19 1 := ⟨w_in 342 (by decide +kernel) (by decide +kernel), w_in 76 (by decide +kernel) (by decide +kernel), by decide +kernel, by decide +kernel⟩
theorem v_S_holdsRule : okV 19 := ⟨w_in 340 (by decide +kernel) (by decide +kernel), w_in 341 (by decide +kernel) (by decide +kernel)⟩
theorem k_S_holdsRow : okM 20 1 := ⟨w_in 346 (by decide +kernel) (by decide +kernel), w_in 76 (by decide +kernel) (by decide +kernel), by decide +kernel, by decide +kernel⟩
theorem v_S_holdsRow : okV 20 := ⟨w_in 344 (by decide +kernel) (by decide +kernel), w_in 345 (by decide +kernel) (by decide +kernel)⟩
theorem k_S_sizeOf : okM 21 1 := ⟨w_in 350 (by decide +kernel) (by decide +kernel), w_in 76 (by decide +kernel) (by decide +kernel), by decide +kernel, by decide +kernel⟩
theorem v_S_sizeOf : okV 21 := ⟨w_in 348 (by decide +kernel) (by decide +kernel), w_in 349 (by decide +kernel) (by decide +kernel)⟩
theorem k_N_copy : okM 22 5 := ⟨w_in 355 (by decide +kernel) (by decide +kernel), w_in 74 (by decide +kernel) (by decide +kernel), by decide +kernel, by decide +kernel⟩
theorem v_N_copy : okV 22 := ⟨w_in 353 (by decide +kernel) (by decide +kernel), w_in 354 (by decide +kernel) (by decide +kernel)⟩
theorem k_S_copyRefusal : okM 23 5 := ⟨w_in 359 (by decide +kernel) (by decide +kernel), w_in 76 (by decide +kernel) (by decide +kernel), by decide +kernel, by decide +kernel⟩
theorem v_S_copyRefusal : okV 23 := ⟨w_in 357 (by decide +kernel) (by decide +kernel), w_in 358 (by decide +kernel) (by decide +kernel)⟩
theorem k_S_isSpan : okM 24 3 := ⟨w_in 363 (by decide +kernel) (by decide +kernel), w_in 76 (by decide +kernel) (by decide +kernel), by decide +kernel, by decide +kernel⟩
theorem s_S_isSpan : okS 24 := w_in 362 (by decide +kernel) (by decide +kernel)
theorem k_S_move : okM 25 5 := ⟨w_in 367 (by decide +kernel) (by decide +kernel), w_in 76 (by decide +kernel) (by decide +kernel), by decide +kernel, by decide +kernel⟩
theorem v_S_move : okV 25 := ⟨w_in 365 (by decide +kernel) (by decide +kernel), w_in 366 (by decide +kernel) (by decide +kernel)⟩
theorem k_S_elementAt : okM 26 2 := ⟨w_in 371 (by decide +kernel) (by decide +kernel), w_in 76 (by decide +kernel) (by decide +kernel), by decide +kernel, by decide +kernel⟩
theorem v_S_elementAt : okV 26 := ⟨w_in 369 (by decide +kernel) (by decide +kernel), w_in 370 (by decide +kernel) (by decide +kernel)⟩
theorem k_N_element : okM 27 2 := ⟨w_in 375 (by decide +kernel) (by decide +kernel), w_in 74 (by decide +kernel) (by decide +kernel), by decide +kernel, by decide +kernel⟩
theorem v_N_element : okV 27 := ⟨w_in 373 (by decide +kernel) (by decide +kernel), w_in 374 (by decide +kernel) (by decide +kernel)⟩
theorem k_N_holds : okM 28 1 := ⟨w_in 380 (by decide +kernel) (by decide +kernel), w_in 74 (by decide +kernel) (by decide +kernel), by decide +kernel, by decide +kernel⟩
theorem v_N_holds : okV 28 := ⟨w_in 378 (by decide +kernel) (by decide +kernel), w_in 379 (by decide +kernel) (by decide +kernel)⟩
theorem k_N_rule : okM 29 3 := ⟨w_in 385 (by decide +kernel) (by decide +kernel), w_in 74 (by decide +kernel) (by decide +kernel), by decide +kernel, by decide +kernel⟩
theorem v_N_rule : okV 29 := ⟨w_in 383 (by decide +kernel) (by decide +kernel), w_in 384 (by decide +kernel) (by decide +kernel)⟩
theorem k_S_putRule : okM 30 3 := ⟨w_in 389 (by decide +kernel) (by decide +kernel), w_in 76 (by decide +kernel) (by decide +kernel), by decide +kernel, by decide +kernel⟩
theorem v_S_putRule : okV 30 := ⟨w_in 387 (by decide +kernel) (by decide +kernel), w_in 388 (by decide +kernel) (by decide +kernel)⟩
theorem k_N_says : okM 31 2 := ⟨w_in 393 (by decide +kernel) (by decide +kernel), w_in 74 (by decide +kernel) (by decide +kernel), by decide +kernel, by decide +kernel⟩
theorem v_N_says : okV 31 := ⟨w_in 391 (by decide +kernel) (by decide +kernel), w_in 392 (by decide +kernel) (by decide +kernel)⟩
theorem k_S_ruleRefusal : okM 32 1 := ⟨w_in 397 (by decide +kernel) (by decide +kernel), w_in 76 (by decide +kernel) (by decide +kernel), by decide +kernel, by decide +kernel⟩
theorem v_S_ruleRefusal : okV 32 := ⟨w_in 395 (by decide +kernel) (by decide +kernel), w_in 396 (by decide +kernel) (by decide +kernel)⟩
theorem k_S_kindIn : okM 33 1 := ⟨w_in 401 (by decide +kernel) (by decide +kernel), w_in 76 (by decide +kernel) (by decide +kernel), by decide +kernel, by decide +kernel⟩
theorem v_S_kindIn : okV 33 := ⟨w_in 399 (by decide +kernel) (by decide +kernel), w_in 400 (by decide +kernel) (by decide +kernel)⟩
theorem k_U_isUnder : okM 34 2 := ⟨w_in 404 (by decide +kernel) (by decide +kernel), w_in 81 (by decide +kernel) (by decide +kernel), by decide +kernel, by decide +kernel⟩
theorem s_U_isUnder : okS 34 := w_in 403 (by decide +kernel) (by decide +kernel)
theorem k_S_numberIn : okM 35 1 := ⟨w_in 411 (by decide +kernel) (by decide +kernel), w_in 76 (by decide +kernel) (by decide +kernel), by decide +kernel, by decide +kernel⟩
theorem v_S_numberIn : okV 35 := ⟨w_in 409 (by decide +kernel) (by decide +kernel), w_in 410 (by decide +kernel) (by decide +kernel)⟩
theorem k_N_thirdByShelf : okM 36 3 := ⟨w_in 415 (by decide +kernel) (by decide +kernel), w_in 74 (by decide +kernel) (by decide +kernel), by decide +kernel, by decide +kernel⟩
theorem v_N_thirdByShelf : okV 36 := ⟨w_in 414 (by decide +kernel) (by decide +kernel), w_in 1 (by decide +kernel) (by decide +kernel)⟩
theorem k_T_mayBits : okM 37 2 := ⟨w_in 419 (by decide +kernel) (by decide +kernel), w_in 75 (by decide +kernel) (by decide +kernel), by decide +kernel, by decide +kernel⟩
theorem v_T_mayBits : okV 37 := ⟨w_in 417 (by decide +kernel) (by decide +kernel), w_in 418 (by decide +kernel) (by decide +kernel)⟩
theorem k_T_goodBits : okM 38 1 := ⟨w_in 423 (by decide +kernel) (by decide +kernel), w_in 75 (by decide +kernel) (by decide +kernel), by decide +kernel, by decide +kernel⟩
theorem v_T_goodBits : okV 38 := ⟨w_in 421 (by decide +kernel) (by decide +kernel), w_in 422 (by decide +kernel) (by decide +kernel)⟩
theorem k_T_isGoodBy : okM 39 2 := ⟨w_in 427 (by decide +kernel) (by decide +kernel), w_in 75 (by decide +kernel) (by decide +kernel), by decide +kernel, by decide +kernel⟩
theorem v_T_isGoodBy : okV 39 := ⟨w_in 425 (by decide +kernel) (by decide +kernel), w_in 426 (by decide +kernel) (by decide +kernel)⟩
theorem k_T_lossBy : okM 40 2 := ⟨w_in 431 (by decide +kernel) (by decide +kernel), w_in 75 (by decide +kernel) (by decide +kernel), by decide +kernel, by decide +kernel⟩
theorem v_T_lossBy : okV 40 := ⟨w_in 429 (by decide +kernel) (by decide +kernel), w_in 430 (by decide +kernel) (by decide +kernel)⟩
theorem k_T_isParty : okM 41 2 := ⟨w_in 435 (by decide +kernel) (by decide +kernel), w_in 75 (by decide +kernel) (by decide +kernel), by decide +kernel, by decide +kernel⟩
theorem v_T_isParty : okV 41 := ⟨w_in 433 (by decide +kernel) (by decide +kernel), w_in 434 (by decide +kernel) (by decide +kernel)⟩
theorem k_U_thirdFor : okM 42 5 := ⟨w_in 438 (by decide +kernel) (by decide +kernel), w_in 81 (by decide +kernel) (by decide +kernel), by decide +kernel, by decide +kernel⟩
theorem s_U_thirdFor : okS 42 := w_in 437 (by decide +kernel) (by decide +kernel)
theorem k_N_hasBit : okM 43 2 := ⟨w_in 441 (by decide +kernel) (by decide +kernel), w_in 74 (by decide +kernel) (by decide +kernel), by decide +kernel, by decide +kernel⟩
theorem s_N_hasBit : okS 43 := w_in 440 (by decide +kernel) (by decide +kernel)
theorem k_U_foremost : okM 44 5 := ⟨w_in 444 (by decide +kernel) (by decide +kernel), w_in 81 (by decide +kernel) (by decide +kernel), by decide +kernel, by decide +kernel⟩
theorem s_U_foremost : okS 44 := w_in 443 (by decide +kernel) (by decide +kernel)
theorem k_U_score : okM 45 5 := ⟨w_in 447 (by decide +kernel) (by decide +kernel), w_in 81 (by decide +kernel) (by decide +kernel), by decide +kernel, by decide +kernel⟩
theorem s_U_score : okS 45 := w_in 446 (by decide +kernel) (by decide +kernel)
theorem k_U_stepsRound : okM 46 3 := ⟨w_in 452 (by decide +kernel) (by decide +kernel), w_in 81 (by decide +kernel) (by decide +kernel), by decide +kernel, by decide +kernel⟩
theorem s_U_stepsRound : okS 46 := w_in 451 (by decide +kernel) (by decide +kernel)
theorem k_JM_floorMod : okM 47 2 := ⟨w_in 455 (by decide +kernel) (by decide +kernel), w_in 82 (by decide +kernel) (by decide +kernel), by decide +kernel, by decide +kernel⟩
theorem s_JM_floorMod : okS 47 := w_in 454 (by decide +kernel) (by decide +kernel)
theorem k_T_valueBy : okM 48 2 := ⟨w_in 459 (by decide +kernel) (by decide +kernel), w_in 75 (by decide +kernel) (by decide +kernel), by decide +kernel, by decide +kernel⟩
theorem v_T_valueBy : okV 48 := ⟨w_in 457 (by decide +kernel) (by decide +kernel), w_in 458 (by decide +kernel) (by decide +kernel)⟩
theorem k_T_gainsOf : okM 49 1 := ⟨w_in 463 (by decide +kernel) (by decide +kernel), w_in 75 (by decide +kernel) (by decide +kernel), by decide +kernel, by decide +kernel⟩
theorem v_T_gainsOf : okV 49 := ⟨w_in 461 (by decide +kernel) (by decide +kernel), w_in 462 (by decide +kernel) (by decide +kernel)⟩
theorem k_N_one : okM 50 0 := ⟨w_in 468 (by decide +kernel) (by decide +kernel), w_in 74 (by decide +kernel) (by decide +kernel), by decide +kernel, by decide +kernel⟩
theorem v_N_one : okV 50 := ⟨w_in 466 (by decide +kernel) (by decide +kernel), w_in 467 (by decide +kernel) (by decide +kernel)⟩
theorem k_T_addPerson : okM 51 0 := ⟨w_in 472 (by decide +kernel) (by decide +kernel), w_in 75 (by decide +kernel) (by decide +kernel), by decide +kernel, by decide +kernel⟩
theorem v_T_addPerson : okV 51 := ⟨w_in 470 (by decide +kernel) (by decide +kernel), w_in 471 (by decide +kernel) (by decide +kernel)⟩
theorem k_N_bargain : okM 52 4 := ⟨w_in 476 (by decide +kernel) (by decide +kernel), w_in 74 (by decide +kernel) (by decide +kernel), by decide +kernel, by decide +kernel⟩
theorem v_N_bargain : okV 52 := ⟨w_in 474 (by decide +kernel) (by decide +kernel), w_in 475 (by decide +kernel) (by decide +kernel)⟩
theorem k_T_hasPerson : okM 53 1 := ⟨w_in 480 (by decide +kernel) (by decide +kernel), w_in 75 (by decide +kernel) (by decide +kernel), by decide +kernel, by decide +kernel⟩
theorem v_T_hasPerson : okV 53 := ⟨w_in 478 (by decide +kernel) (by decide +kernel), w_in 479 (by decide +kernel) (by decide +kernel)⟩
theorem k_T_addBargain : okM 54 4 := ⟨w_in 485 (by decide +kernel) (by decide +kernel), w_in 75 (by decide +kernel) (by decide +kernel), by decide +kernel, by decide +kernel⟩
theorem v_T_addBargain : okV 54 := ⟨w_in 483 (by decide +kernel) (by decide +kernel), w_in 484 (by decide +kernel) (by decide +kernel)⟩
theorem k_N_hurts : okM 55 3 := ⟨w_in 490 (by decide +kernel) (by decide +kernel), w_in 74 (by decide +kernel) (by decide +kernel), by decide +kernel, by decide +kernel⟩
theorem v_N_hurts : okV 55 := ⟨w_in 488 (by decide +kernel) (by decide +kernel), w_in 489 (by decide +kernel) (by decide +kernel)⟩
theorem k_T_hasPair : okM 56 2 := ⟨w_in 494 (by decide +kernel) (by decide +kernel), w_in 75 (by decide +kernel) (by decide +kernel), by decide +kernel, by decide +kernel⟩
theorem v_T_hasPair : okV 56 := ⟨w_in 492 (by decide +kernel) (by decide +kernel), w_in 493 (by decide +kernel) (by decide +kernel)⟩
theorem k_T_hasBargain : okM 57 1 := ⟨w_in 498 (by decide +kernel) (by decide +kernel), w_in 75 (by decide +kernel) (by decide +kernel), by decide +kernel, by decide +kernel⟩
theorem v_T_hasBargain : okV 57 := ⟨w_in 496 (by decide +kernel) (by decide +kernel), w_in 497 (by decide +kernel) (by decide +kernel)⟩
theorem k_T_putLoss : okM 58 3 := ⟨w_in 503 (by decide +kernel) (by decide +kernel), w_in 75 (by decide +kernel) (by decide +kernel), by decide +kernel, by decide +kernel⟩
theorem v_T_putLoss : okV 58 := ⟨w_in 501 (by decide +kernel) (by decide +kernel), w_in 502 (by decide +kernel) (by decide +kernel)⟩
theorem k_N_bars : okM 59 3 := ⟨w_in 507 (by decide +kernel) (by decide +kernel), w_in 74 (by decide +kernel) (by decide +kernel), by decide +kernel, by decide +kernel⟩
theorem v_N_bars : okV 59 := ⟨w_in 505 (by decide +kernel) (by decide +kernel), w_in 506 (by decide +kernel) (by decide +kernel)⟩
theorem k_T_hasUnlike : okM 60 2 := ⟨w_in 511 (by decide +kernel) (by decide +kernel), w_in 75 (by decide +kernel) (by decide +kernel), by decide +kernel, by decide +kernel⟩
theorem v_T_hasUnlike : okV 60 := ⟨w_in 509 (by decide +kernel) (by decide +kernel), w_in 510 (by decide +kernel) (by decide +kernel)⟩
theorem k_T_barredBy : okM 61 1 := ⟨w_in 515 (by decide +kernel) (by decide +kernel), w_in 75 (by decide +kernel) (by decide +kernel), by decide +kernel, by decide +kernel⟩
theorem v_T_barredBy : okV 61 := ⟨w_in 513 (by decide +kernel) (by decide +kernel), w_in 514 (by decide +kernel) (by decide +kernel)⟩
theorem k_T_putBar : okM 62 3 := ⟨w_in 520 (by decide +kernel) (by decide +kernel), w_in 75 (by decide +kernel) (by decide +kernel), by decide +kernel, by decide +kernel⟩
theorem v_T_putBar : okV 62 := ⟨w_in 518 (by decide +kernel) (by decide +kernel), w_in 519 (by decide +kernel) (by decide +kernel)⟩
theorem k_T_withBit : okM 63 3 := ⟨w_in 524 (by decide +kernel) (by decide +kernel), w_in 75 (by decide +kernel) (by decide +kernel), by decide +kernel, by decide +kernel⟩
theorem s_T_withBit : okS 63 := w_in 523 (by decide +kernel) (by decide +kernel)
theorem k_N_ask : okM 64 2 := ⟨w_in 528 (by decide +kernel) (by decide +kernel), w_in 74 (by decide +kernel) (by decide +kernel), by decide +kernel, by decide +kernel⟩
theorem v_N_ask : okV 64 := ⟨w_in 526 (by decide +kernel) (by decide +kernel), w_in 527 (by decide +kernel) (by decide +kernel)⟩
theorem k_T_leastOfLaw : okM 65 1 := ⟨w_in 531 (by decide +kernel) (by decide +kernel), w_in 75 (by decide +kernel) (by decide +kernel), by decide +kernel, by decide +kernel⟩
theorem s_T_leastOfLaw : okS 65 := w_in 530 (by decide +kernel) (by decide +kernel)
theorem k_T_mostOfLaw : okM 66 1 := ⟨w_in 534 (by decide +kernel) (by decide +kernel), w_in 75 (by decide +kernel) (by decide +kernel), by decide +kernel, by decide +kernel⟩
theorem s_T_mostOfLaw : okS 66 := w_in 533 (by decide +kernel) (by decide +kernel)
theorem k_T_law : okM 67 1 := ⟨w_in 538 (by decide +kernel) (by decide +kernel), w_in 75 (by decide +kernel) (by decide +kernel), by decide +kernel, by decide +kernel⟩
theorem v_T_law : okV 67 := ⟨w_in 536 (by decide +kernel) (by decide +kernel), w_in 537 (by decide +kernel) (by decide +kernel)⟩
theorem k_T_putLaw : okM 68 2 := ⟨w_in 542 (by decide +kernel) (by decide +kernel), w_in 75 (by decide +kernel) (by decide +kernel), by decide +kernel, by decide +kernel⟩
theorem v_T_putLaw : okV 68 := ⟨w_in 540 (by decide +kernel) (by decide +kernel), w_in 541 (by decide +kernel) (by decide +kernel)⟩
theorem k_N_feed : okM 69 1 := ⟨w_in 546 (by decide +kernel) (by decide +kernel), w_in 74 (by decide +kernel) (by decide +kernel), by decide +kernel, by decide +kernel⟩
theorem v_N_feed : okV 69 := ⟨w_in 544 (by decide +kernel) (by decide +kernel), w_in 545 (by decide +kernel) (by decide +kernel)⟩
theorem k_R_isFull : okM 70 0 := ⟨w_in 550 (by decide +kernel) (by decide +kernel), w_in 77 (by decide +kernel) (by decide +kernel), by decide +kernel, by decide +kernel⟩
theorem v_R_isFull : okV 70 := ⟨w_in 548 (by decide +kernel) (by decide +kernel), w_in 549 (by decide +kernel) (by decide +kernel)⟩
theorem k_R_add : okM 71 1 := ⟨w_in 554 (by decide +kernel) (by decide +kernel), w_in 77 (by decide +kernel) (by decide +kernel), by decide +kernel, by decide +kernel⟩
theorem v_R_add : okV 71 := ⟨w_in 552 (by decide +kernel) (by decide +kernel), w_in 553 (by decide +kernel) (by decide +kernel)⟩
theorem k_N_wipe : okM 72 0 := ⟨w_in 559 (by decide +kernel) (by decide +kernel), w_in 74 (by decide +kernel) (by decide +kernel), by decide +kernel, by decide +kernel⟩
theorem v_N_wipe : okV 72 := ⟨w_in 557 (by decide +kernel) (by decide +kernel), w_in 558 (by decide +kernel) (by decide +kernel)⟩
theorem k_R_clear : okM 73 0 := ⟨w_in 563 (by decide +kernel) (by decide +kernel), w_in 77 (by decide +kernel) (by decide +kernel), by decide +kernel, by decide +kernel⟩
theorem v_R_clear : okV 73 := ⟨w_in 561 (by decide +kernel) (by decide +kernel), w_in 562 (by decide +kernel) (by decide +kernel)⟩
theorem k_N_town : okM 74 0 := ⟨w_in 567 (by decide +kernel) (by decide +kernel), w_in 74 (by decide +kernel) (by decide +kernel), by decide +kernel, by decide +kernel⟩
theorem v_N_town : okV 74 := ⟨w_in 565 (by decide +kernel) (by decide +kernel), w_in 566 (by decide +kernel) (by decide +kernel)⟩
theorem k_T_become : okM 75 1 := ⟨w_in 571 (by decide +kernel) (by decide +kernel), w_in 75 (by decide +kernel) (by decide +kernel), by decide +kernel, by decide +kernel⟩
theorem v_T_become : okV 75 := ⟨w_in 569 (by decide +kernel) (by decide +kernel), w_in 570 (by decide +kernel) (by decide +kernel)⟩
theorem k_N_copyAll : okM 76 2 := ⟨w_in 574 (by decide +kernel) (by decide +kernel), w_in 74 (by decide +kernel) (by decide +kernel), by decide +kernel, by decide +kernel⟩
theorem s_N_copyAll : okS 76 := w_in 573 (by decide +kernel) (by decide +kernel)
theorem k_R_read : okM 77 1 := ⟨w_in 578 (by decide +kernel) (by decide +kernel), w_in 77 (by decide +kernel) (by decide +kernel), by decide +kernel, by decide +kernel⟩
theorem v_R_read : okV 77 := ⟨w_in 576 (by decide +kernel) (by decide +kernel), w_in 577 (by decide +kernel) (by decide +kernel)⟩
theorem k_R_step : okM 78 0 := ⟨w_in 582 (by decide +kernel) (by decide +kernel), w_in 77 (by decide +kernel) (by decide +kernel), by decide +kernel, by decide +kernel⟩
theorem v_R_step : okV 78 := ⟨w_in 581 (by decide +kernel) (by decide +kernel), w_in 2 (by decide +kernel) (by decide +kernel)⟩
theorem k_R_tokenOf : okM 79 1 := ⟨w_in 587 (by decide +kernel) (by decide +kernel), w_in 77 (by decide +kernel) (by decide +kernel), by decide +kernel, by decide +kernel⟩
theorem v_R_tokenOf : okV 79 := ⟨w_in 586 (by decide +kernel) (by decide +kernel), w_in 3 (by decide +kernel) (by decide +kernel)⟩
theorem k_R_readStatement : okM 80 1 := ⟨w_in 592 (by decide +kernel) (by decide +kernel), w_in 77 (by decide +kernel) (by decide +kernel), by decide +kernel, by decide +kernel⟩
theorem v_R_readStatement : okV 80 := ⟨w_in 591 (by decide +kernel) (by decide +kernel), w_in 4 (by decide +kernel) (by decide +kernel)⟩
theorem k_R_isWord : okM 81 1 := ⟨w_in 597 (by decide +kernel) (by decide +kernel), w_in 77 (by decide +kernel) (by decide +kernel), by decide +kernel, by decide +kernel⟩
theorem v_R_isWord : okV 81 := ⟨w_in 596 (by decide +kernel) (by decide +kernel), w_in 5 (by decide +kernel) (by decide +kernel)⟩
theorem k_JS_length : okM 82 0 := ⟨w_in 601 (by decide +kernel) (by decide +kernel), w_in 83 (by decide +kernel) (by decide +kernel), by decide +kernel, by decide +kernel⟩
theorem v_JS_length : okV 82 := ⟨w_in 599 (by decide +kernel) (by decide +kernel), w_in 600 (by decide +kernel) (by decide +kernel)⟩
theorem k_JS_coder : okM 83 0 := ⟨w_in 605 (by decide +kernel) (by decide +kernel), w_in 83 (by decide +kernel) (by decide +kernel), by decide +kernel, by decide +kernel⟩
theorem v_JS_coder : okV 83 := ⟨w_in 603 (by decide +kernel) (by decide +kernel), w_in 604 (by decide +kernel) (by decide +kernel)⟩
theorem k_JS_charAt : okM 84 1 := ⟨w_in 611 (by decide +kernel) (by decide +kernel), w_in 83 (by decide +kernel) (by decide +kernel), by decide +kernel, by decide +kernel⟩
theorem v_JS_charAt : okV 84 := ⟨w_in 609 (by decide +kernel) (by decide +kernel), w_in 610 (by decide +kernel) (by decide +kernel)⟩
theorem k_JS_isLatin1 : okM 85 0 := ⟨w_in 615 (by decide +kernel) (by decide +kernel), w_in 83 (by decide +kernel) (by decide +kernel), by decide +kernel, by decide +kernel⟩
theorem v_JS_isLatin1 : okV 85 := ⟨w_in 613 (by decide +kernel) (by decide +kernel), w_in 614 (by decide +kernel) (by decide +kernel)⟩
theorem k_JL_charAt : okM 86 2 := ⟨w_in 618 (by decide +kernel) (by decide +kernel), w_in 84 (by decide +kernel) (by decide +kernel), by decide +kernel, by decide +kernel⟩
theorem s_JL_charAt : okS 86 := w_in 617 (by decide +kernel) (by decide +kernel)
theorem k_JS_checkIndex : okM 87 2 := ⟨w_in 621 (by decide +kernel) (by decide +kernel), w_in 83 (by decide +kernel) (by decide +kernel), by decide +kernel, by decide +kernel⟩
theorem s_JS_checkIndex : okS 87 := w_in 620 (by decide +kernel) (by decide +kernel)
theorem k_JP_checkIndex : okM 88 3 := ⟨w_in 626 (by decide +kernel) (by decide +kernel), w_in 85 (by decide +kernel) (by decide +kernel), by decide +kernel, by decide +kernel⟩
theorem s_JP_checkIndex : okS 88 := w_in 625 (by decide +kernel) (by decide +kernel)
theorem k_JU_charAt : okM 89 2 := ⟨w_in 629 (by decide +kernel) (by decide +kernel), w_in 86 (by decide +kernel) (by decide +kernel), by decide +kernel, by decide +kernel⟩
theorem s_JU_charAt : okS 89 := w_in 628 (by decide +kernel) (by decide +kernel)
theorem k_JU_checkIndex : okM 90 2 := ⟨w_in 632 (by decide +kernel) (by decide +kernel), w_in 86 (by decide +kernel) (by decide +kernel), by decide +kernel, by decide +kernel⟩
theorem s_JU_checkIndex : okS 90 := w_in 631 (by decide +kernel) (by decide +kernel)
theorem k_JU_length : okM 91 1 := ⟨w_in 635 (by decide +kernel) (by decide +kernel), w_in 86 (by decide +kernel) (by decide +kernel), by decide +kernel, by decide +kernel⟩
theorem s_JU_length : okS 91 := w_in 634 (by decide +kernel) (by decide +kernel)
theorem k_JU_getChar : okM 92 2 := ⟨w_in 639 (by decide +kernel) (by decide +kernel), w_in 86 (by decide +kernel) (by decide +kernel), by decide +kernel, by decide +kernel⟩
theorem s_JU_getChar : okS 92 := w_in 638 (by decide +kernel) (by decide +kernel)
theorem k_R_readOne : okM 93 1 := ⟨w_in 649 (by decide +kernel) (by decide +kernel), w_in 77 (by decide +kernel) (by decide +kernel), by decide +kernel, by decide +kernel⟩
theorem v_R_readOne : okV 93 := ⟨w_in 648 (by decide +kernel) (by decide +kernel), w_in 6 (by decide +kernel) (by decide +kernel)⟩
theorem k_R_fail : okM 94 0 := ⟨w_in 653 (by decide +kernel) (by decide +kernel), w_in 77 (by decide +kernel) (by decide +kernel), by decide +kernel, by decide +kernel⟩
theorem v_R_fail : okV 94 := ⟨w_in 652 (by decide +kernel) (by decide +kernel), w_in 7 (by decide +kernel) (by decide +kernel)⟩
theorem k_R_readDeal : okM 95 1 := ⟨w_in 659 (by decide +kernel) (by decide +kernel), w_in 77 (by decide +kernel) (by decide +kernel), by decide +kernel, by decide +kernel⟩
theorem v_R_readDeal : okV 95 := ⟨w_in 658 (by decide +kernel) (by decide +kernel), w_in 8 (by decide +kernel) (by decide +kernel)⟩
theorem k_R_readNumber : okM 96 3 := ⟨w_in 663 (by decide +kernel) (by decide +kernel), w_in 77 (by decide +kernel) (by decide +kernel), by decide +kernel, by decide +kernel⟩
theorem v_R_readNumber : okV 96 := ⟨w_in 662 (by decide +kernel) (by decide +kernel), w_in 9 (by decide +kernel) (by decide +kernel)⟩
theorem k_R_numberHere : okM 97 0 := ⟨w_in 667 (by decide +kernel) (by decide +kernel), w_in 77 (by decide +kernel) (by decide +kernel), by decide +kernel, by decide +kernel⟩
theorem v_R_numberHere : okV 97 := ⟨w_in 666 (by decide +kernel) (by decide +kernel), w_in 10 (by decide +kernel) (by decide +kernel)⟩
theorem k_R_readGains : okM 98 1 := ⟨w_in 675 (by decide +kernel) (by decide +kernel), w_in 77 (by decide +kernel) (by decide +kernel), by decide +kernel, by decide +kernel⟩
theorem v_R_readGains : okV 98 := ⟨w_in 674 (by decide +kernel) (by decide +kernel), w_in 11 (by decide +kernel) (by decide +kernel)⟩
theorem k_R_readBars : okM 99 1 := ⟨w_in 680 (by decide +kernel) (by decide +kernel), w_in 77 (by decide +kernel) (by decide +kernel), by decide +kernel, by decide +kernel⟩
theorem v_R_readBars : okV 99 := ⟨w_in 679 (by decide +kernel) (by decide +kernel), w_in 12 (by decide +kernel) (by decide +kernel)⟩
theorem k_R_readLaw : okM 100 2 := ⟨w_in 686 (by decide +kernel) (by decide +kernel), w_in 77 (by decide +kernel) (by decide +kernel), by decide +kernel, by decide +kernel⟩
theorem v_R_readLaw : okV 100 := ⟨w_in 685 (by decide +kernel) (by decide +kernel), w_in 13 (by decide +kernel) (by decide +kernel)⟩
theorem k_N_bargainOf : okM 101 2 := ⟨w_in 697 (by decide +kernel) (by decide +kernel), w_in 74 (by decide +kernel) (by decide +kernel), by decide +kernel, by decide +kernel⟩
theorem v_N_bargainOf : okV 101 := ⟨w_in 695 (by decide +kernel) (by decide +kernel), w_in 696 (by decide +kernel) (by decide +kernel)⟩
theorem k_N_lossOf : okM 102 2 := ⟨w_in 702 (by decide +kernel) (by decide +kernel), w_in 74 (by decide +kernel) (by decide +kernel), by decide +kernel, by decide +kernel⟩
theorem v_N_lossOf : okV 102 := ⟨w_in 700 (by decide +kernel) (by decide +kernel), w_in 701 (by decide +kernel) (by decide +kernel)⟩
theorem k_N_refuseBelow : okM 103 1 := ⟨w_in 707 (by decide +kernel) (by decide +kernel), w_in 74 (by decide +kernel) (by decide +kernel), by decide +kernel, by decide +kernel⟩
theorem v_N_refuseBelow : okV 103 := ⟨w_in 706 (by decide +kernel) (by decide +kernel), w_in 14 (by decide +kernel) (by decide +kernel)⟩
theorem k_N_standing : okM 104 1 := ⟨w_in 712 (by decide +kernel) (by decide +kernel), w_in 74 (by decide +kernel) (by decide +kernel), by decide +kernel, by decide +kernel⟩
theorem v_N_standing : okV 104 := ⟨w_in 710 (by decide +kernel) (by decide +kernel), w_in 711 (by decide +kernel) (by decide +kernel)⟩
theorem k_N_good : okM 105 1 := ⟨w_in 716 (by decide +kernel) (by decide +kernel), w_in 74 (by decide +kernel) (by decide +kernel), by decide +kernel, by decide +kernel⟩
theorem v_N_good : okV 105 := ⟨w_in 714 (by decide +kernel) (by decide +kernel), w_in 715 (by decide +kernel) (by decide +kernel)⟩
theorem k_N_value : okM 106 2 := ⟨w_in 721 (by decide +kernel) (by decide +kernel), w_in 74 (by decide +kernel) (by decide +kernel), by decide +kernel, by decide +kernel⟩
theorem v_N_value : okV 106 := ⟨w_in 719 (by decide +kernel) (by decide +kernel), w_in 720 (by decide +kernel) (by decide +kernel)⟩
theorem k_N_name : okM 107 3 := ⟨w_in 727 (by decide +kernel) (by decide +kernel), w_in 74 (by decide +kernel) (by decide +kernel), by decide +kernel, by decide +kernel⟩
theorem v_N_name : okV 107 := ⟨w_in 725 (by decide +kernel) (by decide +kernel), w_in 726 (by decide +kernel) (by decide +kernel)⟩
theorem k_N_judge : okM 108 1 := ⟨w_in 731 (by decide +kernel) (by decide +kernel), w_in 74 (by decide +kernel) (by decide +kernel), by decide +kernel, by decide +kernel⟩
theorem v_N_judge : okV 108 := ⟨w_in 729 (by decide +kernel) (by decide +kernel), w_in 730 (by decide +kernel) (by decide +kernel)⟩
theorem k_N_toldRefusal : okM 109 1 := ⟨w_in 735 (by decide +kernel) (by decide +kernel), w_in 74 (by decide +kernel) (by decide +kernel), by decide +kernel, by decide +kernel⟩
theorem v_N_toldRefusal : okV 109 := ⟨w_in 734 (by decide +kernel) (by decide +kernel), w_in 15 (by decide +kernel) (by decide +kernel)⟩
theorem k_W_fillTold : okM 110 3 := ⟨w_in 739 (by decide +kernel) (by decide +kernel), w_in 78 (by decide +kernel) (by decide +kernel), by decide +kernel, by decide +kernel⟩
theorem v_W_fillTold : okV 110 := ⟨w_in 737 (by decide +kernel) (by decide +kernel), w_in 738 (by decide +kernel) (by decide +kernel)⟩
theorem k_W_begin : okM 111 0 := ⟨w_in 743 (by decide +kernel) (by decide +kernel), w_in 78 (by decide +kernel) (by decide +kernel), by decide +kernel, by decide +kernel⟩
theorem v_W_begin : okV 111 := ⟨w_in 742 (by decide +kernel) (by decide +kernel), w_in 16 (by decide +kernel) (by decide +kernel)⟩
theorem k_W_isBarred : okM 112 2 := ⟨w_in 748 (by decide +kernel) (by decide +kernel), w_in 78 (by decide +kernel) (by decide +kernel), by decide +kernel, by decide +kernel⟩
theorem v_W_isBarred : okV 112 := ⟨w_in 747 (by decide +kernel) (by decide +kernel), w_in 17 (by decide +kernel) (by decide +kernel)⟩
theorem k_W_take : okM 113 2 := ⟨w_in 755 (by decide +kernel) (by decide +kernel), w_in 78 (by decide +kernel) (by decide +kernel), by decide +kernel, by decide +kernel⟩
theorem v_W_take : okV 113 := ⟨w_in 754 (by decide +kernel) (by decide +kernel), w_in 18 (by decide +kernel) (by decide +kernel)⟩
theorem k_N_told : okM 114 2 := ⟨w_in 760 (by decide +kernel) (by decide +kernel), w_in 74 (by decide +kernel) (by decide +kernel), by decide +kernel, by decide +kernel⟩
theorem v_N_told : okV 114 := ⟨w_in 758 (by decide +kernel) (by decide +kernel), w_in 759 (by decide +kernel) (by decide +kernel)⟩
theorem k_W_tell : okM 115 2 := ⟨w_in 764 (by decide +kernel) (by decide +kernel), w_in 78 (by decide +kernel) (by decide +kernel), by decide +kernel, by decide +kernel⟩
theorem v_W_tell : okV 115 := ⟨w_in 762 (by decide +kernel) (by decide +kernel), w_in 763 (by decide +kernel) (by decide +kernel)⟩
theorem k_JI_bitCount : okM 116 1 := ⟨w_in 767 (by decide +kernel) (by decide +kernel), w_in 87 (by decide +kernel) (by decide +kernel), by decide +kernel, by decide +kernel⟩
theorem s_JI_bitCount : okS 116 := w_in 766 (by decide +kernel) (by decide +kernel)
theorem k_W_sumOfValues : okM 117 1 := ⟨w_in 774 (by decide +kernel) (by decide +kernel), w_in 78 (by decide +kernel) (by decide +kernel), by decide +kernel, by decide +kernel⟩
theorem v_W_sumOfValues : okV 117 := ⟨w_in 773 (by decide +kernel) (by decide +kernel), w_in 19 (by decide +kernel) (by decide +kernel)⟩
theorem k_N_by : okM 118 2 := ⟨w_in 780 (by decide +kernel) (by decide +kernel), w_in 74 (by decide +kernel) (by decide +kernel), by decide +kernel, by decide +kernel⟩
theorem v_N_by : okV 118 := ⟨w_in 778 (by decide +kernel) (by decide +kernel), w_in 779 (by decide +kernel) (by decide +kernel)⟩
theorem k_N_tellByShelf : okM 119 2 := ⟨w_in 784 (by decide +kernel) (by decide +kernel), w_in 74 (by decide +kernel) (by decide +kernel), by decide +kernel, by decide +kernel⟩
theorem v_N_tellByShelf : okV 119 := ⟨w_in 783 (by decide +kernel) (by decide +kernel), w_in 20 (by decide +kernel) (by decide +kernel)⟩
theorem k_W_fillByRule : okM 120 3 := ⟨w_in 788 (by decide +kernel) (by decide +kernel), w_in 78 (by decide +kernel) (by decide +kernel), by decide +kernel, by decide +kernel⟩
theorem v_W_fillByRule : okV 120 := ⟨w_in 786 (by decide +kernel) (by decide +kernel), w_in 787 (by decide +kernel) (by decide +kernel)⟩
theorem k_N_head : okM 121 0 := ⟨w_in 793 (by decide +kernel) (by decide +kernel), w_in 74 (by decide +kernel) (by decide +kernel), by decide +kernel, by decide +kernel⟩
theorem v_N_head : okV 121 := ⟨w_in 791 (by decide +kernel) (by decide +kernel), w_in 792 (by decide +kernel) (by decide +kernel)⟩
theorem k_N_lives : okM 122 1 := ⟨w_in 797 (by decide +kernel) (by decide +kernel), w_in 74 (by decide +kernel) (by decide +kernel), by decide +kernel, by decide +kernel⟩
theorem v_N_lives : okV 122 := ⟨w_in 795 (by decide +kernel) (by decide +kernel), w_in 796 (by decide +kernel) (by decide +kernel)⟩
theorem k_W_comeTrue : okM 123 1 := ⟨w_in 801 (by decide +kernel) (by decide +kernel), w_in 78 (by decide +kernel) (by decide +kernel), by decide +kernel, by decide +kernel⟩
theorem v_W_comeTrue : okV 123 := ⟨w_in 799 (by decide +kernel) (by decide +kernel), w_in 800 (by decide +kernel) (by decide +kernel)⟩
theorem k_T_makeInTruth : okM 124 2 := ⟨w_in 805 (by decide +kernel) (by decide +kernel), w_in 75 (by decide +kernel) (by decide +kernel), by decide +kernel, by decide +kernel⟩
theorem v_T_makeInTruth : okV 124 := ⟨w_in 803 (by decide +kernel) (by decide +kernel), w_in 804 (by decide +kernel) (by decide +kernel)⟩
theorem k_T_addTo : okM 125 3 := ⟨w_in 808 (by decide +kernel) (by decide +kernel), w_in 75 (by decide +kernel) (by decide +kernel), by decide +kernel, by decide +kernel⟩
theorem s_T_addTo : okS 125 := w_in 807 (by decide +kernel) (by decide +kernel)
theorem k_N_makes : okM 126 1 := ⟨w_in 812 (by decide +kernel) (by decide +kernel), w_in 74 (by decide +kernel) (by decide +kernel), by decide +kernel, by decide +kernel⟩
theorem v_N_makes : okV 126 := ⟨w_in 810 (by decide +kernel) (by decide +kernel), w_in 811 (by decide +kernel) (by decide +kernel)⟩
theorem k_N_week : okM 127 0 := ⟨w_in 816 (by decide +kernel) (by decide +kernel), w_in 74 (by decide +kernel) (by decide +kernel), by decide +kernel, by decide +kernel⟩
theorem v_N_week : okV 127 := ⟨w_in 814 (by decide +kernel) (by decide +kernel), w_in 815 (by decide +kernel) (by decide +kernel)⟩
theorem k_W_fillByDraws : okM 128 1 := ⟨w_in 820 (by decide +kernel) (by decide +kernel), w_in 78 (by decide +kernel) (by decide +kernel), by decide +kernel, by decide +kernel⟩
theorem v_W_fillByDraws : okV 128 := ⟨w_in 818 (by decide +kernel) (by decide +kernel), w_in 819 (by decide +kernel) (by decide +kernel)⟩
theorem k_T_draw : okM 129 1 := ⟨w_in 824 (by decide +kernel) (by decide +kernel), w_in 75 (by decide +kernel) (by decide +kernel), by decide +kernel, by decide +kernel⟩
theorem v_T_draw : okV 129 := ⟨w_in 822 (by decide +kernel) (by decide +kernel), w_in 823 (by decide +kernel) (by decide +kernel)⟩
theorem k_W_bitOfPlace : okM 130 2 := ⟨w_in 828 (by decide +kernel) (by decide +kernel), w_in 78 (by decide +kernel) (by decide +kernel), by decide +kernel, by decide +kernel⟩
theorem s_W_bitOfPlace : okS 130 := w_in 827 (by decide +kernel) (by decide +kernel)
theorem k_N_weeks : okM 131 1 := ⟨w_in 832 (by decide +kernel) (by decide +kernel), w_in 74 (by decide +kernel) (by decide +kernel), by decide +kernel, by decide +kernel⟩
theorem v_N_weeks : okV 131 := ⟨w_in 830 (by decide +kernel) (by decide +kernel), w_in 831 (by decide +kernel) (by decide +kernel)⟩
theorem k_N_best : okM 132 0 := ⟨w_in 836 (by decide +kernel) (by decide +kernel), w_in 74 (by decide +kernel) (by decide +kernel), by decide +kernel, by decide +kernel⟩
theorem v_N_best : okV 132 := ⟨w_in 834 (by decide +kernel) (by decide +kernel), w_in 835 (by decide +kernel) (by decide +kernel)⟩
theorem k_T_everybody : okM 133 0 := ⟨w_in 840 (by decide +kernel) (by decide +kernel), w_in 75 (by decide +kernel) (by decide +kernel), by decide +kernel, by decide +kernel⟩
theorem v_T_everybody : okV 133 := ⟨w_in 838 (by decide +kernel) (by decide +kernel), w_in 839 (by decide +kernel) (by decide +kernel)⟩
theorem k_E_bestValue : okM 134 2 := ⟨w_in 844 (by decide +kernel) (by decide +kernel), w_in 79 (by decide +kernel) (by decide +kernel), by decide +kernel, by decide +kernel⟩
theorem v_E_bestValue : okV 134 := ⟨w_in 842 (by decide +kernel) (by decide +kernel), w_in 843 (by decide +kernel) (by decide +kernel)⟩
theorem k_E_greatestKey : okM 135 3 := ⟨w_in 848 (by decide +kernel) (by decide +kernel), w_in 79 (by decide +kernel) (by decide +kernel), by decide +kernel, by decide +kernel⟩
theorem v_E_greatestKey : okV 135 := ⟨w_in 847 (by decide +kernel) (by decide +kernel), w_in 21 (by decide +kernel) (by decide +kernel)⟩
theorem k_E_findApart : okM 136 1 := ⟨w_in 852 (by decide +kernel) (by decide +kernel), w_in 79 (by decide +kernel) (by decide +kernel), by decide +kernel, by decide +kernel⟩
theorem v_E_findApart : okV 136 := ⟨w_in 851 (by decide +kernel) (by decide +kernel), w_in 22 (by decide +kernel) (by decide +kernel)⟩
theorem k_JM_min : okM 137 2 := ⟨w_in 855 (by decide +kernel) (by decide +kernel), w_in 82 (by decide +kernel) (by decide +kernel), by decide +kernel, by decide +kernel⟩
theorem s_JM_min : okS 137 := w_in 854 (by decide +kernel) (by decide +kernel)
theorem k_JI_numberOfTrailingZeros : okM 138 1 := ⟨w_in 858 (by decide +kernel) (by decide +kernel), w_in 87 (by decide +kernel) (by decide +kernel), by decide +kernel, by decide +kernel⟩
theorem s_JI_numberOfTrailingZeros : okS 138 := w_in 857 (by decide +kernel) (by decide +kernel)
theorem k_E_fillKeys : okM 139 3 := ⟨w_in 866 (by decide +kernel) (by decide +kernel), w_in 79 (by decide +kernel) (by decide +kernel), by decide +kernel, by decide +kernel⟩
theorem v_E_fillKeys : okV 139 := ⟨w_in 865 (by decide +kernel) (by decide +kernel), w_in 23 (by decide +kernel) (by decide +kernel)⟩
theorem k_E_shiftOf : okM 140 1 := ⟨w_in 869 (by decide +kernel) (by decide +kernel), w_in 79 (by decide +kernel) (by decide +kernel), by decide +kernel, by decide +kernel⟩
theorem s_E_shiftOf : okS 140 := w_in 868 (by decide +kernel) (by decide +kernel)
theorem k_T_bargainsGoodBy : okM 141 1 := ⟨w_in 875 (by decide +kernel) (by decide +kernel), w_in 75 (by decide +kernel) (by decide +kernel), by decide +kernel, by decide +kernel⟩
theorem v_T_bargainsGoodBy : okV 141 := ⟨w_in 873 (by decide +kernel) (by decide +kernel), w_in 874 (by decide +kernel) (by decide +kernel)⟩
theorem k_E_addThird : okM 142 4 := ⟨w_in 879 (by decide +kernel) (by decide +kernel), w_in 79 (by decide +kernel) (by decide +kernel), by decide +kernel, by decide +kernel⟩
theorem v_E_addThird : okV 142 := ⟨w_in 878 (by decide +kernel) (by decide +kernel), w_in 24 (by decide +kernel) (by decide +kernel)⟩
theorem k_JM_max : okM 143 2 := ⟨w_in 882 (by decide +kernel) (by decide +kernel), w_in 82 (by decide +kernel) (by decide +kernel), by decide +kernel, by decide +kernel⟩
theorem s_JM_max : okS 143 := w_in 881 (by decide +kernel) (by decide +kernel)
theorem k_E_valueOf : okM 144 1 := ⟨w_in 885 (by decide +kernel) (by decide +kernel), w_in 79 (by decide +kernel) (by decide +kernel), by decide +kernel, by decide +kernel⟩
theorem s_E_valueOf : okS 144 := w_in 884 (by decide +kernel) (by decide +kernel)
theorem k_JM_floorDiv : okM 145 2 := ⟨w_in 888 (by decide +kernel) (by decide +kernel), w_in 82 (by decide +kernel) (by decide +kernel), by decide +kernel, by decide +kernel⟩
theorem s_JM_floorDiv : okS 145 := w_in 887 (by decide +kernel) (by decide +kernel)
theorem k_N_bestOf : okM 146 1 := ⟨w_in 892 (by decide +kernel) (by decide +kernel), w_in 74 (by decide +kernel) (by decide +kernel), by decide +kernel, by decide +kernel⟩
theorem v_N_bestOf : okV 146 := ⟨w_in 890 (by decide +kernel) (by decide +kernel), w_in 891 (by decide +kernel) (by decide +kernel)⟩
theorem k_E_bestThird : okM 147 2 := ⟨w_in 896 (by decide +kernel) (by decide +kernel), w_in 79 (by decide +kernel) (by decide +kernel), by decide +kernel, by decide +kernel⟩
theorem v_E_bestThird : okV 147 := ⟨w_in 894 (by decide +kernel) (by decide +kernel), w_in 895 (by decide +kernel) (by decide +kernel)⟩
theorem k_E_codeOf : okM 148 1 := ⟨w_in 900 (by decide +kernel) (by decide +kernel), w_in 79 (by decide +kernel) (by decide +kernel), by decide +kernel, by decide +kernel⟩
theorem s_E_codeOf : okS 148 := w_in 899 (by decide +kernel) (by decide +kernel)
theorem k_N_worth : okM 149 1 := ⟨w_in 905 (by decide +kernel) (by decide +kernel), w_in 74 (by decide +kernel) (by decide +kernel), by decide +kernel, by decide +kernel⟩
theorem v_N_worth : okV 149 := ⟨w_in 903 (by decide +kernel) (by decide +kernel), w_in 904 (by decide +kernel) (by decide +kernel)⟩
theorem k_N_dearest : okM 150 0 := ⟨w_in 910 (by decide +kernel) (by decide +kernel), w_in 74 (by decide +kernel) (by decide +kernel), by decide +kernel, by decide +kernel⟩
theorem v_N_dearest : okV 150 := ⟨w_in 908 (by decide +kernel) (by decide +kernel), w_in 909 (by decide +kernel) (by decide +kernel)⟩
theorem k_N_gap : okM 151 1 := ⟨w_in 914 (by decide +kernel) (by decide +kernel), w_in 74 (by decide +kernel) (by decide +kernel), by decide +kernel, by decide +kernel⟩
theorem v_N_gap : okV 151 := ⟨w_in 912 (by decide +kernel) (by decide +kernel), w_in 913 (by decide +kernel) (by decide +kernel)⟩
theorem k_N_fewest : okM 152 0 := ⟨w_in 918 (by decide +kernel) (by decide +kernel), w_in 74 (by decide +kernel) (by decide +kernel), by decide +kernel, by decide +kernel⟩
theorem v_N_fewest : okV 152 := ⟨w_in 916 (by decide +kernel) (by decide +kernel), w_in 917 (by decide +kernel) (by decide +kernel)⟩
theorem k_E_fewestBits : okM 153 1 := ⟨w_in 922 (by decide +kernel) (by decide +kernel), w_in 79 (by decide +kernel) (by decide +kernel), by decide +kernel, by decide +kernel⟩
theorem v_E_fewestBits : okV 153 := ⟨w_in 920 (by decide +kernel) (by decide +kernel), w_in 921 (by decide +kernel) (by decide +kernel)⟩
theorem k_N_richest : okM 154 0 := ⟨w_in 927 (by decide +kernel) (by decide +kernel), w_in 74 (by decide +kernel) (by decide +kernel), by decide +kernel, by decide +kernel⟩
theorem v_N_richest : okV 154 := ⟨w_in 925 (by decide +kernel) (by decide +kernel), w_in 926 (by decide +kernel) (by decide +kernel)⟩
theorem k_N_placeOfGreatest : okM 155 2 := ⟨w_in 930 (by decide +kernel) (by decide +kernel), w_in 74 (by decide +kernel) (by decide +kernel), by decide +kernel, by decide +kernel⟩
theorem s_N_placeOfGreatest : okS 155 := w_in 929 (by decide +kernel) (by decide +kernel)
theorem k_N_alone : okM 156 1 := ⟨w_in 934 (by decide +kernel) (by decide +kernel), w_in 74 (by decide +kernel) (by decide +kernel), by decide +kernel, by decide +kernel⟩
theorem v_N_alone : okV 156 := ⟨w_in 932 (by decide +kernel) (by decide +kernel), w_in 933 (by decide +kernel) (by decide +kernel)⟩
theorem k_N_party : okM 157 1 := ⟨w_in 938 (by decide +kernel) (by decide +kernel), w_in 74 (by decide +kernel) (by decide +kernel), by decide +kernel, by decide +kernel⟩
theorem v_N_party : okV 157 := ⟨w_in 936 (by decide +kernel) (by decide +kernel), w_in 937 (by decide +kernel) (by decide +kernel)⟩
theorem k_N_fair : okM 158 0 := ⟨w_in 943 (by decide +kernel) (by decide +kernel), w_in 74 (by decide +kernel) (by decide +kernel), by decide +kernel, by decide +kernel⟩
theorem v_N_fair : okV 158 := ⟨w_in 941 (by decide +kernel) (by decide +kernel), w_in 942 (by decide +kernel) (by decide +kernel)⟩
theorem k_N_never : okM 159 0 := ⟨w_in 948 (by decide +kernel) (by decide +kernel), w_in 74 (by decide +kernel) (by decide +kernel), by decide +kernel, by decide +kernel⟩
theorem v_N_never : okV 159 := ⟨w_in 946 (by decide +kernel) (by decide +kernel), w_in 947 (by decide +kernel) (by decide +kernel)⟩
theorem k_N_free : okM 160 0 := ⟨w_in 952 (by decide +kernel) (by decide +kernel), w_in 74 (by decide +kernel) (by decide +kernel), by decide +kernel, by decide +kernel⟩
theorem v_N_free : okV 160 := ⟨w_in 950 (by decide +kernel) (by decide +kernel), w_in 951 (by decide +kernel) (by decide +kernel)⟩
theorem k_E_greatestGains : okM 161 1 := ⟨w_in 956 (by decide +kernel) (by decide +kernel), w_in 79 (by decide +kernel) (by decide +kernel), by decide +kernel, by decide +kernel⟩
theorem v_E_greatestGains : okV 161 := ⟨w_in 954 (by decide +kernel) (by decide +kernel), w_in 955 (by decide +kernel) (by decide +kernel)⟩
theorem k_E_heaviest : okM 162 1 := ⟨w_in 962 (by decide +kernel) (by decide +kernel), w_in 79 (by decide +kernel) (by decide +kernel), by decide +kernel, by decide +kernel⟩
theorem v_E_heaviest : okV 162 := ⟨w_in 961 (by decide +kernel) (by decide +kernel), w_in 25 (by decide +kernel) (by decide +kernel)⟩
theorem k_JM_max2 : okM 163 2 := ⟨w_in 966 (by decide +kernel) (by decide +kernel), w_in 82 (by decide +kernel) (by decide +kernel), by decide +kernel, by decide +kernel⟩
theorem s_JM_max2 : okS 163 := w_in 965 (by decide +kernel) (by decide +kernel)
theorem k_N_cross : okM 164 3 := ⟨w_in 970 (by decide +kernel) (by decide +kernel), w_in 74 (by decide +kernel) (by decide +kernel), by decide +kernel, by decide +kernel⟩
theorem v_N_cross : okV 164 := ⟨w_in 968 (by decide +kernel) (by decide +kernel), w_in 969 (by decide +kernel) (by decide +kernel)⟩
theorem k_T_partyBits : okM 165 1 := ⟨w_in 974 (by decide +kernel) (by decide +kernel), w_in 75 (by decide +kernel) (by decide +kernel), by decide +kernel, by decide +kernel⟩
theorem v_T_partyBits : okV 165 := ⟨w_in 972 (by decide +kernel) (by decide +kernel), w_in 973 (by decide +kernel) (by decide +kernel)⟩
theorem k_N_greatestValue : okM 166 2 := ⟨w_in 978 (by decide +kernel) (by decide +kernel), w_in 74 (by decide +kernel) (by decide +kernel), by decide +kernel, by decide +kernel⟩
theorem v_N_greatestValue : okV 166 := ⟨w_in 977 (by decide +kernel) (by decide +kernel), w_in 26 (by decide +kernel) (by decide +kernel)⟩
theorem k_N_rings : okM 167 0 := ⟨w_in 983 (by decide +kernel) (by decide +kernel), w_in 74 (by decide +kernel) (by decide +kernel), by decide +kernel, by decide +kernel⟩
theorem v_N_rings : okV 167 := ⟨w_in 981 (by decide +kernel) (by decide +kernel), w_in 982 (by decide +kernel) (by decide +kernel)⟩
theorem k_N_isRing : okM 168 3 := ⟨w_in 987 (by decide +kernel) (by decide +kernel), w_in 74 (by decide +kernel) (by decide +kernel), by decide +kernel, by decide +kernel⟩
theorem v_N_isRing : okV 168 := ⟨w_in 986 (by decide +kernel) (by decide +kernel), w_in 27 (by decide +kernel) (by decide +kernel)⟩
theorem k_N_harm : okM 169 1 := ⟨w_in 991 (by decide +kernel) (by decide +kernel), w_in 74 (by decide +kernel) (by decide +kernel), by decide +kernel, by decide +kernel⟩
theorem v_N_harm : okV 169 := ⟨w_in 989 (by decide +kernel) (by decide +kernel), w_in 990 (by decide +kernel) (by decide +kernel)⟩
theorem k_E_greatestHarm : okM 170 2 := ⟨w_in 995 (by decide +kernel) (by decide +kernel), w_in 79 (by decide +kernel) (by decide +kernel), by decide +kernel, by decide +kernel⟩
theorem v_E_greatestHarm : okV 170 := ⟨w_in 993 (by decide +kernel) (by decide +kernel), w_in 994 (by decide +kernel) (by decide +kernel)⟩
theorem k_N_worst : okM 171 0 := ⟨w_in 1001 (by decide +kernel) (by decide +kernel), w_in 74 (by decide +kernel) (by decide +kernel), by decide +kernel, by decide +kernel⟩
theorem v_N_worst : okV 171 := ⟨w_in 999 (by decide +kernel) (by decide +kernel), w_in 1000 (by decide +kernel) (by decide +kernel)⟩
theorem k_N_hated : okM 172 0 := ⟨w_in 1005 (by decide +kernel) (by decide +kernel), w_in 74 (by decide +kernel) (by decide +kernel), by decide +kernel, by decide +kernel⟩
theorem v_N_hated : okV 172 := ⟨w_in 1003 (by decide +kernel) (by decide +kernel), w_in 1004 (by decide +kernel) (by decide +kernel)⟩
theorem k_N_said : okM 173 2 := ⟨w_in 1011 (by decide +kernel) (by decide +kernel), w_in 74 (by decide +kernel) (by decide +kernel), by decide +kernel, by decide +kernel⟩
theorem v_N_said : okV 173 := ⟨w_in 1009 (by decide +kernel) (by decide +kernel), w_in 1010 (by decide +kernel) (by decide +kernel)⟩
theorem k_T_canBeSaid : okM 174 2 := ⟨w_in 1015 (by decide +kernel) (by decide +kernel), w_in 75 (by decide +kernel) (by decide +kernel), by decide +kernel, by decide +kernel⟩
theorem v_T_canBeSaid : okV 174 := ⟨w_in 1013 (by decide +kernel) (by decide +kernel), w_in 1014 (by decide +kernel) (by decide +kernel)⟩
theorem k_T_shareOfSaid : okM 175 2 := ⟨w_in 1019 (by decide +kernel) (by decide +kernel), w_in 75 (by decide +kernel) (by decide +kernel), by decide +kernel, by decide +kernel⟩
theorem v_T_shareOfSaid : okV 175 := ⟨w_in 1017 (by decide +kernel) (by decide +kernel), w_in 1018 (by decide +kernel) (by decide +kernel)⟩
theorem k_N_dares : okM 176 0 := ⟨w_in 1024 (by decide +kernel) (by decide +kernel), w_in 74 (by decide +kernel) (by decide +kernel), by decide +kernel, by decide +kernel⟩
theorem v_N_dares : okV 176 := ⟨w_in 1022 (by decide +kernel) (by decide +kernel), w_in 1023 (by decide +kernel) (by decide +kernel)⟩
theorem k_N_deters : okM 177 0 := ⟨w_in 1028 (by decide +kernel) (by decide +kernel), w_in 74 (by decide +kernel) (by decide +kernel), by decide +kernel, by decide +kernel⟩
theorem v_N_deters : okV 177 := ⟨w_in 1026 (by decide +kernel) (by decide +kernel), w_in 1027 (by decide +kernel) (by decide +kernel)⟩
theorem k_N_under : okM 178 1 := ⟨w_in 1033 (by decide +kernel) (by decide +kernel), w_in 74 (by decide +kernel) (by decide +kernel), by decide +kernel, by decide +kernel⟩
theorem v_N_under : okV 178 := ⟨w_in 1031 (by decide +kernel) (by decide +kernel), w_in 1032 (by decide +kernel) (by decide +kernel)⟩
theorem k_N_bestLaw : okM 179 0 := ⟨w_in 1037 (by decide +kernel) (by decide +kernel), w_in 74 (by decide +kernel) (by decide +kernel), by decide +kernel, by decide +kernel⟩
theorem v_N_bestLaw : okV 179 := ⟨w_in 1035 (by decide +kernel) (by decide +kernel), w_in 1036 (by decide +kernel) (by decide +kernel)⟩
theorem k_N_hiding : okM 180 2 := ⟨w_in 1041 (by decide +kernel) (by decide +kernel), w_in 74 (by decide +kernel) (by decide +kernel), by decide +kernel, by decide +kernel⟩
theorem v_N_hiding : okV 180 := ⟨w_in 1039 (by decide +kernel) (by decide +kernel), w_in 1040 (by decide +kernel) (by decide +kernel)⟩
theorem k_N_named : okM 181 1 := ⟨w_in 1045 (by decide +kernel) (by decide +kernel), w_in 74 (by decide +kernel) (by decide +kernel), by decide +kernel, by decide +kernel⟩
theorem v_N_named : okV 181 := ⟨w_in 1043 (by decide +kernel) (by decide +kernel), w_in 1044 (by decide +kernel) (by decide +kernel)⟩
theorem k_N_seed : okM 182 1 := ⟨w_in 1049 (by decide +kernel) (by decide +kernel), w_in 74 (by decide +kernel) (by decide +kernel), by decide +kernel, by decide +kernel⟩
theorem v_N_seed : okV 182 := ⟨w_in 1047 (by decide +kernel) (by decide +kernel), w_in 1048 (by decide +kernel) (by decide +kernel)⟩
theorem k_N_image : okM 183 0 := ⟨w_in 1053 (by decide +kernel) (by decide +kernel), w_in 74 (by decide +kernel) (by decide +kernel), by decide +kernel, by decide +kernel⟩
theorem v_N_image : okV 183 := ⟨w_in 1051 (by decide +kernel) (by decide +kernel), w_in 1052 (by decide +kernel) (by decide +kernel)⟩
theorem k_N_back : okM 184 0 := ⟨w_in 1057 (by decide +kernel) (by decide +kernel), w_in 74 (by decide +kernel) (by decide +kernel), by decide +kernel, by decide +kernel⟩
theorem v_N_back : okV 184 := ⟨w_in 1055 (by decide +kernel) (by decide +kernel), w_in 1056 (by decide +kernel) (by decide +kernel)⟩
theorem k_N_status : okM 185 1 := ⟨w_in 1061 (by decide +kernel) (by decide +kernel), w_in 74 (by decide +kernel) (by decide +kernel), by decide +kernel, by decide +kernel⟩
theorem v_N_status : okV 185 := ⟨w_in 1059 (by decide +kernel) (by decide +kernel), w_in 1060 (by decide +kernel) (by decide +kernel)⟩
theorem k_S_countHeld : okM 186 0 := ⟨w_in 1065 (by decide +kernel) (by decide +kernel), w_in 76 (by decide +kernel) (by decide +kernel), by decide +kernel, by decide +kernel⟩
theorem v_S_countHeld : okV 186 := ⟨w_in 1063 (by decide +kernel) (by decide +kernel), w_in 1064 (by decide +kernel) (by decide +kernel)⟩
theorem k_M_init : okM 187 0 := ⟨w_in 1070 (by decide +kernel) (by decide +kernel), w_in 80 (by decide +kernel) (by decide +kernel), by decide +kernel, by decide +kernel⟩
theorem i_M_init : okI 187 := ⟨w_in 1069 (by decide +kernel) (by decide +kernel), by decide +kernel, by decide +kernel⟩
theorem k_M_row : okM 188 3 := ⟨w_in 1179 (by decide +kernel) (by decide +kernel), w_in 80 (by decide +kernel) (by decide +kernel), by decide +kernel, by decide +kernel⟩
theorem v_M_row : okV 188 := ⟨w_in 1177 (by decide +kernel) (by decide +kernel), w_in 1178 (by decide +kernel) (by decide +kernel)⟩
theorem k_M_in : okM 189 3 := ⟨w_in 1183 (by decide +kernel) (by decide +kernel), w_in 80 (by decide +kernel) (by decide +kernel), by decide +kernel, by decide +kernel⟩
theorem s_M_in : okS 189 := w_in 1182 (by decide +kernel) (by decide +kernel)
theorem k_M_refuse : okM 190 1 := ⟨w_in 1189 (by decide +kernel) (by decide +kernel), w_in 80 (by decide +kernel) (by decide +kernel), by decide +kernel, by decide +kernel⟩
theorem v_M_refuse : okV 190 := ⟨w_in 1188 (by decide +kernel) (by decide +kernel), w_in 28 (by decide +kernel) (by decide +kernel)⟩
theorem k_M_set : okM 191 3 := ⟨w_in 1193 (by decide +kernel) (by decide +kernel), w_in 80 (by decide +kernel) (by decide +kernel), by decide +kernel, by decide +kernel⟩
theorem v_M_set : okV 191 := ⟨w_in 1191 (by decide +kernel) (by decide +kernel), w_in 1192 (by decide +kernel) (by decide +kernel)⟩
theorem k_M_noRow : okM 192 1 := ⟨w_in 1197 (by decide +kernel) (by decide +kernel), w_in 80 (by decide +kernel) (by decide +kernel), by decide +kernel, by decide +kernel⟩
theorem v_M_noRow : okV 192 := ⟨w_in 1196 (by decide +kernel) (by decide +kernel), w_in 29 (by decide +kernel) (by decide +kernel)⟩
theorem k_M_fit : okM 193 2 := ⟨w_in 1200 (by decide +kernel) (by decide +kernel), w_in 80 (by decide +kernel) (by decide +kernel), by decide +kernel, by decide +kernel⟩
theorem s_M_fit : okS 193 := w_in 1199 (by decide +kernel) (by decide +kernel)
theorem k_M_copy : okM 194 5 := ⟨w_in 1204 (by decide +kernel) (by decide +kernel), w_in 80 (by decide +kernel) (by decide +kernel), by decide +kernel, by decide +kernel⟩
theorem v_M_copy : okV 194 := ⟨w_in 1202 (by decide +kernel) (by decide +kernel), w_in 1203 (by decide +kernel) (by decide +kernel)⟩
theorem k_M_element : okM 195 2 := ⟨w_in 1208 (by decide +kernel) (by decide +kernel), w_in 80 (by decide +kernel) (by decide +kernel), by decide +kernel, by decide +kernel⟩
theorem v_M_element : okV 195 := ⟨w_in 1206 (by decide +kernel) (by decide +kernel), w_in 1207 (by decide +kernel) (by decide +kernel)⟩
theorem k_M_holds : okM 196 1 := ⟨w_in 1212 (by decide +kernel) (by decide +kernel), w_in 80 (by decide +kernel) (by decide +kernel), by decide +kernel, by decide +kernel⟩
theorem v_M_holds : okV 196 := ⟨w_in 1210 (by decide +kernel) (by decide +kernel), w_in 1211 (by decide +kernel) (by decide +kernel)⟩
theorem k_M_rule : okM 197 3 := ⟨w_in 1216 (by decide +kernel) (by decide +kernel), w_in 80 (by decide +kernel) (by decide +kernel), by decide +kernel, by decide +kernel⟩
theorem v_M_rule : okV 197 := ⟨w_in 1214 (by decide +kernel) (by decide +kernel), w_in 1215 (by decide +kernel) (by decide +kernel)⟩
theorem k_M_says : okM 198 2 := ⟨w_in 1222 (by decide +kernel) (by decide +kernel), w_in 80 (by decide +kernel) (by decide +kernel), by decide +kernel, by decide +kernel⟩
theorem v_M_says : okV 198 := ⟨w_in 1220 (by decide +kernel) (by decide +kernel), w_in 1221 (by decide +kernel) (by decide +kernel)⟩
theorem k_M_isUnder : okM 199 2 := ⟨w_in 1225 (by decide +kernel) (by decide +kernel), w_in 80 (by decide +kernel) (by decide +kernel), by decide +kernel, by decide +kernel⟩
theorem s_M_isUnder : okS 199 := w_in 1224 (by decide +kernel) (by decide +kernel)
theorem k_M_names : okM 200 4 := ⟨w_in 1229 (by decide +kernel) (by decide +kernel), w_in 80 (by decide +kernel) (by decide +kernel), by decide +kernel, by decide +kernel⟩
theorem v_M_names : okV 200 := ⟨w_in 1228 (by decide +kernel) (by decide +kernel), w_in 30 (by decide +kernel) (by decide +kernel)⟩
theorem k_M_mildest : okM 201 2 := ⟨w_in 1233 (by decide +kernel) (by decide +kernel), w_in 80 (by decide +kernel) (by decide +kernel), by decide +kernel, by decide +kernel⟩
theorem v_M_mildest : okV 201 := ⟨w_in 1232 (by decide +kernel) (by decide +kernel), w_in 31 (by decide +kernel) (by decide +kernel)⟩
theorem k_M_may : okM 202 3 := ⟨w_in 1237 (by decide +kernel) (by decide +kernel), w_in 80 (by decide +kernel) (by decide +kernel), by decide +kernel, by decide +kernel⟩
theorem v_M_may : okV 202 := ⟨w_in 1236 (by decide +kernel) (by decide +kernel), w_in 32 (by decide +kernel) (by decide +kernel)⟩
theorem k_M_isGood : okM 203 2 := ⟨w_in 1241 (by decide +kernel) (by decide +kernel), w_in 80 (by decide +kernel) (by decide +kernel), by decide +kernel, by decide +kernel⟩
theorem v_M_isGood : okV 203 := ⟨w_in 1240 (by decide +kernel) (by decide +kernel), w_in 33 (by decide +kernel) (by decide +kernel)⟩
theorem k_M_isParty : okM 204 2 := ⟨w_in 1245 (by decide +kernel) (by decide +kernel), w_in 80 (by decide +kernel) (by decide +kernel), by decide +kernel, by decide +kernel⟩
theorem v_M_isParty : okV 204 := ⟨w_in 1244 (by decide +kernel) (by decide +kernel), w_in 34 (by decide +kernel) (by decide +kernel)⟩
theorem k_M_has : okM 205 2 := ⟨w_in 1248 (by decide +kernel) (by decide +kernel), w_in 80 (by decide +kernel) (by decide +kernel), by decide +kernel, by decide +kernel⟩
theorem s_M_has : okS 205 := w_in 1247 (by decide +kernel) (by decide +kernel)
theorem k_M_isOne : okM 206 1 := ⟨w_in 1252 (by decide +kernel) (by decide +kernel), w_in 80 (by decide +kernel) (by decide +kernel), by decide +kernel, by decide +kernel⟩
theorem v_M_isOne : okV 206 := ⟨w_in 1251 (by decide +kernel) (by decide +kernel), w_in 35 (by decide +kernel) (by decide +kernel)⟩
theorem k_M_valueOf : okM 207 2 := ⟨w_in 1256 (by decide +kernel) (by decide +kernel), w_in 80 (by decide +kernel) (by decide +kernel), by decide +kernel, by decide +kernel⟩
theorem v_M_valueOf : okV 207 := ⟨w_in 1255 (by decide +kernel) (by decide +kernel), w_in 36 (by decide +kernel) (by decide +kernel)⟩
theorem k_M_gains : okM 208 1 := ⟨w_in 1260 (by decide +kernel) (by decide +kernel), w_in 80 (by decide +kernel) (by decide +kernel), by decide +kernel, by decide +kernel⟩
theorem v_M_gains : okV 208 := ⟨w_in 1259 (by decide +kernel) (by decide +kernel), w_in 37 (by decide +kernel) (by decide +kernel)⟩
theorem k_M_one : okM 209 0 := ⟨w_in 1264 (by decide +kernel) (by decide +kernel), w_in 80 (by decide +kernel) (by decide +kernel), by decide +kernel, by decide +kernel⟩
theorem v_M_one : okV 209 := ⟨w_in 1262 (by decide +kernel) (by decide +kernel), w_in 1263 (by decide +kernel) (by decide +kernel)⟩
theorem k_M_bargain : okM 210 4 := ⟨w_in 1268 (by decide +kernel) (by decide +kernel), w_in 80 (by decide +kernel) (by decide +kernel), by decide +kernel, by decide +kernel⟩
theorem v_M_bargain : okV 210 := ⟨w_in 1266 (by decide +kernel) (by decide +kernel), w_in 1267 (by decide +kernel) (by decide +kernel)⟩
theorem k_M_hurts : okM 211 3 := ⟨w_in 1272 (by decide +kernel) (by decide +kernel), w_in 80 (by decide +kernel) (by decide +kernel), by decide +kernel, by decide +kernel⟩
theorem v_M_hurts : okV 211 := ⟨w_in 1270 (by decide +kernel) (by decide +kernel), w_in 1271 (by decide +kernel) (by decide +kernel)⟩
theorem k_M_isBargain : okM 212 1 := ⟨w_in 1276 (by decide +kernel) (by decide +kernel), w_in 80 (by decide +kernel) (by decide +kernel), by decide +kernel, by decide +kernel⟩
theorem v_M_isBargain : okV 212 := ⟨w_in 1275 (by decide +kernel) (by decide +kernel), w_in 38 (by decide +kernel) (by decide +kernel)⟩
theorem k_M_bars : okM 213 3 := ⟨w_in 1281 (by decide +kernel) (by decide +kernel), w_in 80 (by decide +kernel) (by decide +kernel), by decide +kernel, by decide +kernel⟩
theorem v_M_bars : okV 213 := ⟨w_in 1279 (by decide +kernel) (by decide +kernel), w_in 1280 (by decide +kernel) (by decide +kernel)⟩
theorem k_M_ask : okM 214 2 := ⟨w_in 1285 (by decide +kernel) (by decide +kernel), w_in 80 (by decide +kernel) (by decide +kernel), by decide +kernel, by decide +kernel⟩
theorem v_M_ask : okV 214 := ⟨w_in 1283 (by decide +kernel) (by decide +kernel), w_in 1284 (by decide +kernel) (by decide +kernel)⟩
theorem k_M_mostOf : okM 215 1 := ⟨w_in 1289 (by decide +kernel) (by decide +kernel), w_in 80 (by decide +kernel) (by decide +kernel), by decide +kernel, by decide +kernel⟩
theorem s_M_mostOf : okS 215 := w_in 1288 (by decide +kernel) (by decide +kernel)
theorem k_M_feed : okM 216 1 := ⟨w_in 1293 (by decide +kernel) (by decide +kernel), w_in 80 (by decide +kernel) (by decide +kernel), by decide +kernel, by decide +kernel⟩
theorem v_M_feed : okV 216 := ⟨w_in 1291 (by decide +kernel) (by decide +kernel), w_in 1292 (by decide +kernel) (by decide +kernel)⟩
theorem k_M_wipe : okM 217 0 := ⟨w_in 1298 (by decide +kernel) (by decide +kernel), w_in 80 (by decide +kernel) (by decide +kernel), by decide +kernel, by decide +kernel⟩
theorem v_M_wipe : okV 217 := ⟨w_in 1296 (by decide +kernel) (by decide +kernel), w_in 1297 (by decide +kernel) (by decide +kernel)⟩
theorem k_M_town : okM 218 0 := ⟨w_in 1302 (by decide +kernel) (by decide +kernel), w_in 80 (by decide +kernel) (by decide +kernel), by decide +kernel, by decide +kernel⟩
theorem v_M_town : okV 218 := ⟨w_in 1300 (by decide +kernel) (by decide +kernel), w_in 1301 (by decide +kernel) (by decide +kernel)⟩
theorem k_M_fresh : okM 219 0 := ⟨w_in 1306 (by decide +kernel) (by decide +kernel), w_in 80 (by decide +kernel) (by decide +kernel), by decide +kernel, by decide +kernel⟩
theorem v_M_fresh : okV 219 := ⟨w_in 1305 (by decide +kernel) (by decide +kernel), w_in 39 (by decide +kernel) (by decide +kernel)⟩
theorem k_M_takeFrom : okM 220 1 := ⟨w_in 1312 (by decide +kernel) (by decide +kernel), w_in 80 (by decide +kernel) (by decide +kernel), by decide +kernel, by decide +kernel⟩
theorem v_M_takeFrom : okV 220 := ⟨w_in 1311 (by decide +kernel) (by decide +kernel), w_in 40 (by decide +kernel) (by decide +kernel)⟩
theorem k_M_over : okM 221 2 := ⟨w_in 1315 (by decide +kernel) (by decide +kernel), w_in 80 (by decide +kernel) (by decide +kernel), by decide +kernel, by decide +kernel⟩
theorem s_M_over : okS 221 := w_in 1314 (by decide +kernel) (by decide +kernel)
theorem k_M_readAll : okM 222 0 := ⟨w_in 1319 (by decide +kernel) (by decide +kernel), w_in 80 (by decide +kernel) (by decide +kernel), by decide +kernel, by decide +kernel⟩
theorem v_M_readAll : okV 222 := ⟨w_in 1318 (by decide +kernel) (by decide +kernel), w_in 41 (by decide +kernel) (by decide +kernel)⟩
theorem k_M_look : okM 223 0 := ⟨w_in 1323 (by decide +kernel) (by decide +kernel), w_in 80 (by decide +kernel) (by decide +kernel), by decide +kernel, by decide +kernel⟩
theorem v_M_look : okV 223 := ⟨w_in 1322 (by decide +kernel) (by decide +kernel), w_in 42 (by decide +kernel) (by decide +kernel)⟩
theorem k_M_isLetter : okM 224 1 := ⟨w_in 1326 (by decide +kernel) (by decide +kernel), w_in 80 (by decide +kernel) (by decide +kernel), by decide +kernel, by decide +kernel⟩
theorem s_M_isLetter : okS 224 := w_in 1325 (by decide +kernel) (by decide +kernel)
theorem k_M_isDigit : okM 225 1 := ⟨w_in 1329 (by decide +kernel) (by decide +kernel), w_in 80 (by decide +kernel) (by decide +kernel), by decide +kernel, by decide +kernel⟩
theorem s_M_isDigit : okS 225 := w_in 1328 (by decide +kernel) (by decide +kernel)
theorem k_M_statement : okM 226 0 := ⟨w_in 1334 (by decide +kernel) (by decide +kernel), w_in 80 (by decide +kernel) (by decide +kernel), by decide +kernel, by decide +kernel⟩
theorem v_M_statement : okV 226 := ⟨w_in 1333 (by decide +kernel) (by decide +kernel), w_in 43 (by decide +kernel) (by decide +kernel)⟩
theorem k_M_isWord : okM 227 1 := ⟨w_in 1339 (by decide +kernel) (by decide +kernel), w_in 80 (by decide +kernel) (by decide +kernel), by decide +kernel, by decide +kernel⟩
theorem v_M_isWord : okV 227 := ⟨w_in 1338 (by decide +kernel) (by decide +kernel), w_in 44 (by decide +kernel) (by decide +kernel)⟩
theorem k_M_dealTold : okM 228 0 := ⟨w_in 1347 (by decide +kernel) (by decide +kernel), w_in 80 (by decide +kernel) (by decide +kernel), by decide +kernel, by decide +kernel⟩
theorem v_M_dealTold : okV 228 := ⟨w_in 1346 (by decide +kernel) (by decide +kernel), w_in 45 (by decide +kernel) (by decide +kernel)⟩
theorem k_M_tells : okM 229 4 := ⟨w_in 1351 (by decide +kernel) (by decide +kernel), w_in 80 (by decide +kernel) (by decide +kernel), by decide +kernel, by decide +kernel⟩
theorem v_M_tells : okV 229 := ⟨w_in 1350 (by decide +kernel) (by decide +kernel), w_in 46 (by decide +kernel) (by decide +kernel)⟩
theorem k_M_wrong : okM 230 0 := ⟨w_in 1355 (by decide +kernel) (by decide +kernel), w_in 80 (by decide +kernel) (by decide +kernel), by decide +kernel, by decide +kernel⟩
theorem v_M_wrong : okV 230 := ⟨w_in 1354 (by decide +kernel) (by decide +kernel), w_in 47 (by decide +kernel) (by decide +kernel)⟩
theorem k_M_number : okM 231 3 := ⟨w_in 1359 (by decide +kernel) (by decide +kernel), w_in 80 (by decide +kernel) (by decide +kernel), by decide +kernel, by decide +kernel⟩
theorem v_M_number : okV 231 := ⟨w_in 1358 (by decide +kernel) (by decide +kernel), w_in 48 (by decide +kernel) (by decide +kernel)⟩
theorem k_M_unlike : okM 232 2 := ⟨w_in 1363 (by decide +kernel) (by decide +kernel), w_in 80 (by decide +kernel) (by decide +kernel), by decide +kernel, by decide +kernel⟩
theorem v_M_unlike : okV 232 := ⟨w_in 1362 (by decide +kernel) (by decide +kernel), w_in 49 (by decide +kernel) (by decide +kernel)⟩
theorem k_M_askedTold : okM 233 2 := ⟨w_in 1371 (by decide +kernel) (by decide +kernel), w_in 80 (by decide +kernel) (by decide +kernel), by decide +kernel, by decide +kernel⟩
theorem v_M_askedTold : okV 233 := ⟨w_in 1370 (by decide +kernel) (by decide +kernel), w_in 50 (by decide +kernel) (by decide +kernel)⟩
theorem k_M_bargainOf : okM 234 2 := ⟨w_in 1380 (by decide +kernel) (by decide +kernel), w_in 80 (by decide +kernel) (by decide +kernel), by decide +kernel, by decide +kernel⟩
theorem v_M_bargainOf : okV 234 := ⟨w_in 1378 (by decide +kernel) (by decide +kernel), w_in 1379 (by decide +kernel) (by decide +kernel)⟩
theorem k_M_lossOf : okM 235 2 := ⟨w_in 1384 (by decide +kernel) (by decide +kernel), w_in 80 (by decide +kernel) (by decide +kernel), by decide +kernel, by decide +kernel⟩
theorem v_M_lossOf : okV 235 := ⟨w_in 1382 (by decide +kernel) (by decide +kernel), w_in 1383 (by decide +kernel) (by decide +kernel)⟩
theorem k_M_standing : okM 236 1 := ⟨w_in 1389 (by decide +kernel) (by decide +kernel), w_in 80 (by decide +kernel) (by decide +kernel), by decide +kernel, by decide +kernel⟩
theorem v_M_standing : okV 236 := ⟨w_in 1387 (by decide +kernel) (by decide +kernel), w_in 1388 (by decide +kernel) (by decide +kernel)⟩
theorem k_M_good : okM 237 1 := ⟨w_in 1393 (by decide +kernel) (by decide +kernel), w_in 80 (by decide +kernel) (by decide +kernel), by decide +kernel, by decide +kernel⟩
theorem v_M_good : okV 237 := ⟨w_in 1391 (by decide +kernel) (by decide +kernel), w_in 1392 (by decide +kernel) (by decide +kernel)⟩
theorem k_M_goodBy : okM 238 1 := ⟨w_in 1397 (by decide +kernel) (by decide +kernel), w_in 80 (by decide +kernel) (by decide +kernel), by decide +kernel, by decide +kernel⟩
theorem v_M_goodBy : okV 238 := ⟨w_in 1396 (by decide +kernel) (by decide +kernel), w_in 51 (by decide +kernel) (by decide +kernel)⟩
theorem k_M_value : okM 239 2 := ⟨w_in 1401 (by decide +kernel) (by decide +kernel), w_in 80 (by decide +kernel) (by decide +kernel), by decide +kernel, by decide +kernel⟩
theorem v_M_value : okV 239 := ⟨w_in 1399 (by decide +kernel) (by decide +kernel), w_in 1400 (by decide +kernel) (by decide +kernel)⟩
theorem k_M_name : okM 240 3 := ⟨w_in 1405 (by decide +kernel) (by decide +kernel), w_in 80 (by decide +kernel) (by decide +kernel), by decide +kernel, by decide +kernel⟩
theorem v_M_name : okV 240 := ⟨w_in 1403 (by decide +kernel) (by decide +kernel), w_in 1404 (by decide +kernel) (by decide +kernel)⟩
theorem k_M_noRule : okM 241 1 := ⟨w_in 1409 (by decide +kernel) (by decide +kernel), w_in 80 (by decide +kernel) (by decide +kernel), by decide +kernel, by decide +kernel⟩
theorem v_M_noRule : okV 241 := ⟨w_in 1408 (by decide +kernel) (by decide +kernel), w_in 52 (by decide +kernel) (by decide +kernel)⟩
theorem k_M_judge : okM 242 1 := ⟨w_in 1413 (by decide +kernel) (by decide +kernel), w_in 80 (by decide +kernel) (by decide +kernel), by decide +kernel, by decide +kernel⟩
theorem v_M_judge : okV 242 := ⟨w_in 1411 (by decide +kernel) (by decide +kernel), w_in 1412 (by decide +kernel) (by decide +kernel)⟩
theorem k_M_noWeek : okM 243 1 := ⟨w_in 1417 (by decide +kernel) (by decide +kernel), w_in 80 (by decide +kernel) (by decide +kernel), by decide +kernel, by decide +kernel⟩
theorem v_M_noWeek : okV 243 := ⟨w_in 1416 (by decide +kernel) (by decide +kernel), w_in 53 (by decide +kernel) (by decide +kernel)⟩
theorem k_M_takeWeek : okM 244 1 := ⟨w_in 1421 (by decide +kernel) (by decide +kernel), w_in 80 (by decide +kernel) (by decide +kernel), by decide +kernel, by decide +kernel⟩
theorem v_M_takeWeek : okV 244 := ⟨w_in 1420 (by decide +kernel) (by decide +kernel), w_in 54 (by decide +kernel) (by decide +kernel)⟩
theorem k_M_told : okM 245 2 := ⟨w_in 1425 (by decide +kernel) (by decide +kernel), w_in 80 (by decide +kernel) (by decide +kernel), by decide +kernel, by decide +kernel⟩
theorem v_M_told : okV 245 := ⟨w_in 1423 (by decide +kernel) (by decide +kernel), w_in 1424 (by decide +kernel) (by decide +kernel)⟩
theorem k_M_ofWeek : okM 246 1 := ⟨w_in 1430 (by decide +kernel) (by decide +kernel), w_in 80 (by decide +kernel) (by decide +kernel), by decide +kernel, by decide +kernel⟩
theorem v_M_ofWeek : okV 246 := ⟨w_in 1429 (by decide +kernel) (by decide +kernel), w_in 55 (by decide +kernel) (by decide +kernel)⟩
theorem k_M_by : okM 247 2 := ⟨w_in 1434 (by decide +kernel) (by decide +kernel), w_in 80 (by decide +kernel) (by decide +kernel), by decide +kernel, by decide +kernel⟩
theorem v_M_by : okV 247 := ⟨w_in 1432 (by decide +kernel) (by decide +kernel), w_in 1433 (by decide +kernel) (by decide +kernel)⟩
theorem k_M_weekBy : okM 248 1 := ⟨w_in 1438 (by decide +kernel) (by decide +kernel), w_in 80 (by decide +kernel) (by decide +kernel), by decide +kernel, by decide +kernel⟩
theorem v_M_weekBy : okV 248 := ⟨w_in 1437 (by decide +kernel) (by decide +kernel), w_in 56 (by decide +kernel) (by decide +kernel)⟩
theorem k_M_head : okM 249 0 := ⟨w_in 1442 (by decide +kernel) (by decide +kernel), w_in 80 (by decide +kernel) (by decide +kernel), by decide +kernel, by decide +kernel⟩
theorem v_M_head : okV 249 := ⟨w_in 1440 (by decide +kernel) (by decide +kernel), w_in 1441 (by decide +kernel) (by decide +kernel)⟩
theorem k_M_lives : okM 250 1 := ⟨w_in 1446 (by decide +kernel) (by decide +kernel), w_in 80 (by decide +kernel) (by decide +kernel), by decide +kernel, by decide +kernel⟩
theorem v_M_lives : okV 250 := ⟨w_in 1444 (by decide +kernel) (by decide +kernel), w_in 1445 (by decide +kernel) (by decide +kernel)⟩
theorem k_M_comes : okM 251 0 := ⟨w_in 1450 (by decide +kernel) (by decide +kernel), w_in 80 (by decide +kernel) (by decide +kernel), by decide +kernel, by decide +kernel⟩
theorem v_M_comes : okV 251 := ⟨w_in 1449 (by decide +kernel) (by decide +kernel), w_in 57 (by decide +kernel) (by decide +kernel)⟩
theorem k_M_makes : okM 252 1 := ⟨w_in 1454 (by decide +kernel) (by decide +kernel), w_in 80 (by decide +kernel) (by decide +kernel), by decide +kernel, by decide +kernel⟩
theorem v_M_makes : okV 252 := ⟨w_in 1452 (by decide +kernel) (by decide +kernel), w_in 1453 (by decide +kernel) (by decide +kernel)⟩
theorem k_M_best : okM 253 0 := ⟨w_in 1458 (by decide +kernel) (by decide +kernel), w_in 80 (by decide +kernel) (by decide +kernel), by decide +kernel, by decide +kernel⟩
theorem v_M_best : okV 253 := ⟨w_in 1456 (by decide +kernel) (by decide +kernel), w_in 1457 (by decide +kernel) (by decide +kernel)⟩
theorem k_M_all : okM 254 0 := ⟨w_in 1462 (by decide +kernel) (by decide +kernel), w_in 80 (by decide +kernel) (by decide +kernel), by decide +kernel, by decide +kernel⟩
theorem v_M_all : okV 254 := ⟨w_in 1461 (by decide +kernel) (by decide +kernel), w_in 58 (by decide +kernel) (by decide +kernel)⟩
theorem k_M_bestBy : okM 255 1 := ⟨w_in 1466 (by decide +kernel) (by decide +kernel), w_in 80 (by decide +kernel) (by decide +kernel), by decide +kernel, by decide +kernel⟩
theorem v_M_bestBy : okV 255 := ⟨w_in 1465 (by decide +kernel) (by decide +kernel), w_in 59 (by decide +kernel) (by decide +kernel)⟩
theorem k_M_seek : okM 256 5 := ⟨w_in 1470 (by decide +kernel) (by decide +kernel), w_in 80 (by decide +kernel) (by decide +kernel), by decide +kernel, by decide +kernel⟩
theorem v_M_seek : okV 256 := ⟨w_in 1469 (by decide +kernel) (by decide +kernel), w_in 60 (by decide +kernel) (by decide +kernel)⟩
theorem k_M_mildestOf : okM 257 2 := ⟨w_in 1474 (by decide +kernel) (by decide +kernel), w_in 80 (by decide +kernel) (by decide +kernel), by decide +kernel, by decide +kernel⟩
theorem v_M_mildestOf : okV 257 := ⟨w_in 1473 (by decide +kernel) (by decide +kernel), w_in 61 (by decide +kernel) (by decide +kernel)⟩
theorem k_M_bestOf : okM 258 1 := ⟨w_in 1478 (by decide +kernel) (by decide +kernel), w_in 80 (by decide +kernel) (by decide +kernel), by decide +kernel, by decide +kernel⟩
theorem v_M_bestOf : okV 258 := ⟨w_in 1476 (by decide +kernel) (by decide +kernel), w_in 1477 (by decide +kernel) (by decide +kernel)⟩
theorem k_M_worth : okM 259 1 := ⟨w_in 1482 (by decide +kernel) (by decide +kernel), w_in 80 (by decide +kernel) (by decide +kernel), by decide +kernel, by decide +kernel⟩
theorem v_M_worth : okV 259 := ⟨w_in 1480 (by decide +kernel) (by decide +kernel), w_in 1481 (by decide +kernel) (by decide +kernel)⟩
theorem k_M_worthOf : okM 260 1 := ⟨w_in 1486 (by decide +kernel) (by decide +kernel), w_in 80 (by decide +kernel) (by decide +kernel), by decide +kernel, by decide +kernel⟩
theorem v_M_worthOf : okV 260 := ⟨w_in 1485 (by decide +kernel) (by decide +kernel), w_in 62 (by decide +kernel) (by decide +kernel)⟩
theorem k_M_dearest : okM 261 0 := ⟨w_in 1490 (by decide +kernel) (by decide +kernel), w_in 80 (by decide +kernel) (by decide +kernel), by decide +kernel, by decide +kernel⟩
theorem v_M_dearest : okV 261 := ⟨w_in 1488 (by decide +kernel) (by decide +kernel), w_in 1489 (by decide +kernel) (by decide +kernel)⟩
theorem k_M_gap : okM 262 1 := ⟨w_in 1494 (by decide +kernel) (by decide +kernel), w_in 80 (by decide +kernel) (by decide +kernel), by decide +kernel, by decide +kernel⟩
theorem v_M_gap : okV 262 := ⟨w_in 1492 (by decide +kernel) (by decide +kernel), w_in 1493 (by decide +kernel) (by decide +kernel)⟩
theorem k_M_fewest : okM 263 0 := ⟨w_in 1498 (by decide +kernel) (by decide +kernel), w_in 80 (by decide +kernel) (by decide +kernel), by decide +kernel, by decide +kernel⟩
theorem v_M_fewest : okV 263 := ⟨w_in 1496 (by decide +kernel) (by decide +kernel), w_in 1497 (by decide +kernel) (by decide +kernel)⟩
theorem k_M_bits : okM 264 1 := ⟨w_in 1501 (by decide +kernel) (by decide +kernel), w_in 80 (by decide +kernel) (by decide +kernel), by decide +kernel, by decide +kernel⟩
theorem s_M_bits : okS 264 := w_in 1500 (by decide +kernel) (by decide +kernel)
theorem k_M_richest : okM 265 0 := ⟨w_in 1505 (by decide +kernel) (by decide +kernel), w_in 80 (by decide +kernel) (by decide +kernel), by decide +kernel, by decide +kernel⟩
theorem v_M_richest : okV 265 := ⟨w_in 1503 (by decide +kernel) (by decide +kernel), w_in 1504 (by decide +kernel) (by decide +kernel)⟩
theorem k_M_alone : okM 266 1 := ⟨w_in 1509 (by decide +kernel) (by decide +kernel), w_in 80 (by decide +kernel) (by decide +kernel), by decide +kernel, by decide +kernel⟩
theorem v_M_alone : okV 266 := ⟨w_in 1507 (by decide +kernel) (by decide +kernel), w_in 1508 (by decide +kernel) (by decide +kernel)⟩
theorem k_M_party : okM 267 1 := ⟨w_in 1513 (by decide +kernel) (by decide +kernel), w_in 80 (by decide +kernel) (by decide +kernel), by decide +kernel, by decide +kernel⟩
theorem v_M_party : okV 267 := ⟨w_in 1511 (by decide +kernel) (by decide +kernel), w_in 1512 (by decide +kernel) (by decide +kernel)⟩
theorem k_M_fair : okM 268 0 := ⟨w_in 1517 (by decide +kernel) (by decide +kernel), w_in 80 (by decide +kernel) (by decide +kernel), by decide +kernel, by decide +kernel⟩
theorem v_M_fair : okV 268 := ⟨w_in 1515 (by decide +kernel) (by decide +kernel), w_in 1516 (by decide +kernel) (by decide +kernel)⟩
theorem k_M_never : okM 269 0 := ⟨w_in 1521 (by decide +kernel) (by decide +kernel), w_in 80 (by decide +kernel) (by decide +kernel), by decide +kernel, by decide +kernel⟩
theorem v_M_never : okV 269 := ⟨w_in 1519 (by decide +kernel) (by decide +kernel), w_in 1520 (by decide +kernel) (by decide +kernel)⟩
theorem k_M_free : okM 270 0 := ⟨w_in 1525 (by decide +kernel) (by decide +kernel), w_in 80 (by decide +kernel) (by decide +kernel), by decide +kernel, by decide +kernel⟩
theorem v_M_free : okV 270 := ⟨w_in 1523 (by decide +kernel) (by decide +kernel), w_in 1524 (by decide +kernel) (by decide +kernel)⟩
theorem k_M_isBarred : okM 271 1 := ⟨w_in 1529 (by decide +kernel) (by decide +kernel), w_in 80 (by decide +kernel) (by decide +kernel), by decide +kernel, by decide +kernel⟩
theorem v_M_isBarred : okV 271 := ⟨w_in 1528 (by decide +kernel) (by decide +kernel), w_in 63 (by decide +kernel) (by decide +kernel)⟩
theorem k_M_cross : okM 272 3 := ⟨w_in 1533 (by decide +kernel) (by decide +kernel), w_in 80 (by decide +kernel) (by decide +kernel), by decide +kernel, by decide +kernel⟩
theorem v_M_cross : okV 272 := ⟨w_in 1531 (by decide +kernel) (by decide +kernel), w_in 1532 (by decide +kernel) (by decide +kernel)⟩
theorem k_M_partyFor : okM 273 2 := ⟨w_in 1537 (by decide +kernel) (by decide +kernel), w_in 80 (by decide +kernel) (by decide +kernel), by decide +kernel, by decide +kernel⟩
theorem v_M_partyFor : okV 273 := ⟨w_in 1536 (by decide +kernel) (by decide +kernel), w_in 64 (by decide +kernel) (by decide +kernel)⟩
theorem k_M_rings : okM 274 0 := ⟨w_in 1541 (by decide +kernel) (by decide +kernel), w_in 80 (by decide +kernel) (by decide +kernel), by decide +kernel, by decide +kernel⟩
theorem v_M_rings : okV 274 := ⟨w_in 1539 (by decide +kernel) (by decide +kernel), w_in 1540 (by decide +kernel) (by decide +kernel)⟩
theorem k_M_isRing : okM 275 3 := ⟨w_in 1545 (by decide +kernel) (by decide +kernel), w_in 80 (by decide +kernel) (by decide +kernel), by decide +kernel, by decide +kernel⟩
theorem v_M_isRing : okV 275 := ⟨w_in 1544 (by decide +kernel) (by decide +kernel), w_in 65 (by decide +kernel) (by decide +kernel)⟩
theorem k_M_harm : okM 276 1 := ⟨w_in 1549 (by decide +kernel) (by decide +kernel), w_in 80 (by decide +kernel) (by decide +kernel), by decide +kernel, by decide +kernel⟩
theorem v_M_harm : okV 276 := ⟨w_in 1547 (by decide +kernel) (by decide +kernel), w_in 1548 (by decide +kernel) (by decide +kernel)⟩
theorem k_M_harmOf : okM 277 1 := ⟨w_in 1553 (by decide +kernel) (by decide +kernel), w_in 80 (by decide +kernel) (by decide +kernel), by decide +kernel, by decide +kernel⟩
theorem v_M_harmOf : okV 277 := ⟨w_in 1552 (by decide +kernel) (by decide +kernel), w_in 66 (by decide +kernel) (by decide +kernel)⟩
theorem k_M_worst : okM 278 0 := ⟨w_in 1557 (by decide +kernel) (by decide +kernel), w_in 80 (by decide +kernel) (by decide +kernel), by decide +kernel, by decide +kernel⟩
theorem v_M_worst : okV 278 := ⟨w_in 1555 (by decide +kernel) (by decide +kernel), w_in 1556 (by decide +kernel) (by decide +kernel)⟩
theorem k_M_hated : okM 279 0 := ⟨w_in 1561 (by decide +kernel) (by decide +kernel), w_in 80 (by decide +kernel) (by decide +kernel), by decide +kernel, by decide +kernel⟩
theorem v_M_hated : okV 279 := ⟨w_in 1559 (by decide +kernel) (by decide +kernel), w_in 1560 (by decide +kernel) (by decide +kernel)⟩
theorem k_M_hates : okM 280 1 := ⟨w_in 1565 (by decide +kernel) (by decide +kernel), w_in 80 (by decide +kernel) (by decide +kernel), by decide +kernel, by decide +kernel⟩
theorem v_M_hates : okV 280 := ⟨w_in 1564 (by decide +kernel) (by decide +kernel), w_in 67 (by decide +kernel) (by decide +kernel)⟩
theorem k_M_said : okM 281 2 := ⟨w_in 1569 (by decide +kernel) (by decide +kernel), w_in 80 (by decide +kernel) (by decide +kernel), by decide +kernel, by decide +kernel⟩
theorem v_M_said : okV 281 := ⟨w_in 1567 (by decide +kernel) (by decide +kernel), w_in 1568 (by decide +kernel) (by decide +kernel)⟩
theorem k_M_saidBy : okM 282 3 := ⟨w_in 1573 (by decide +kernel) (by decide +kernel), w_in 80 (by decide +kernel) (by decide +kernel), by decide +kernel, by decide +kernel⟩
theorem v_M_saidBy : okV 282 := ⟨w_in 1572 (by decide +kernel) (by decide +kernel), w_in 68 (by decide +kernel) (by decide +kernel)⟩
theorem k_M_dares : okM 283 0 := ⟨w_in 1577 (by decide +kernel) (by decide +kernel), w_in 80 (by decide +kernel) (by decide +kernel), by decide +kernel, by decide +kernel⟩
theorem v_M_dares : okV 283 := ⟨w_in 1575 (by decide +kernel) (by decide +kernel), w_in 1576 (by decide +kernel) (by decide +kernel)⟩
theorem k_M_daresBy : okM 284 1 := ⟨w_in 1581 (by decide +kernel) (by decide +kernel), w_in 80 (by decide +kernel) (by decide +kernel), by decide +kernel, by decide +kernel⟩
theorem v_M_daresBy : okV 284 := ⟨w_in 1580 (by decide +kernel) (by decide +kernel), w_in 69 (by decide +kernel) (by decide +kernel)⟩
theorem k_M_deters : okM 285 0 := ⟨w_in 1585 (by decide +kernel) (by decide +kernel), w_in 80 (by decide +kernel) (by decide +kernel), by decide +kernel, by decide +kernel⟩
theorem v_M_deters : okV 285 := ⟨w_in 1583 (by decide +kernel) (by decide +kernel), w_in 1584 (by decide +kernel) (by decide +kernel)⟩
theorem k_M_under : okM 286 1 := ⟨w_in 1589 (by decide +kernel) (by decide +kernel), w_in 80 (by decide +kernel) (by decide +kernel), by decide +kernel, by decide +kernel⟩
theorem v_M_under : okV 286 := ⟨w_in 1587 (by decide +kernel) (by decide +kernel), w_in 1588 (by decide +kernel) (by decide +kernel)⟩
theorem k_M_underOf : okM 287 1 := ⟨w_in 1593 (by decide +kernel) (by decide +kernel), w_in 80 (by decide +kernel) (by decide +kernel), by decide +kernel, by decide +kernel⟩
theorem v_M_underOf : okV 287 := ⟨w_in 1592 (by decide +kernel) (by decide +kernel), w_in 70 (by decide +kernel) (by decide +kernel)⟩
theorem k_M_bestLaw : okM 288 0 := ⟨w_in 1597 (by decide +kernel) (by decide +kernel), w_in 80 (by decide +kernel) (by decide +kernel), by decide +kernel, by decide +kernel⟩
theorem v_M_bestLaw : okV 288 := ⟨w_in 1595 (by decide +kernel) (by decide +kernel), w_in 1596 (by decide +kernel) (by decide +kernel)⟩
theorem k_M_hiding : okM 289 2 := ⟨w_in 1601 (by decide +kernel) (by decide +kernel), w_in 80 (by decide +kernel) (by decide +kernel), by decide +kernel, by decide +kernel⟩
theorem v_M_hiding : okV 289 := ⟨w_in 1599 (by decide +kernel) (by decide +kernel), w_in 1600 (by decide +kernel) (by decide +kernel)⟩
theorem k_M_week : okM 290 0 := ⟨w_in 1605 (by decide +kernel) (by decide +kernel), w_in 80 (by decide +kernel) (by decide +kernel), by decide +kernel, by decide +kernel⟩
theorem v_M_week : okV 290 := ⟨w_in 1603 (by decide +kernel) (by decide +kernel), w_in 1604 (by decide +kernel) (by decide +kernel)⟩
theorem k_M_weekByDraws : okM 291 0 := ⟨w_in 1609 (by decide +kernel) (by decide +kernel), w_in 80 (by decide +kernel) (by decide +kernel), by decide +kernel, by decide +kernel⟩
theorem v_M_weekByDraws : okV 291 := ⟨w_in 1608 (by decide +kernel) (by decide +kernel), w_in 71 (by decide +kernel) (by decide +kernel)⟩
theorem k_M_draw : okM 292 1 := ⟨w_in 1613 (by decide +kernel) (by decide +kernel), w_in 80 (by decide +kernel) (by decide +kernel), by decide +kernel, by decide +kernel⟩
theorem v_M_draw : okV 292 := ⟨w_in 1612 (by decide +kernel) (by decide +kernel), w_in 72 (by decide +kernel) (by decide +kernel)⟩
theorem k_M_weeks : okM 293 1 := ⟨w_in 1618 (by decide +kernel) (by decide +kernel), w_in 80 (by decide +kernel) (by decide +kernel), by decide +kernel, by decide +kernel⟩
theorem v_M_weeks : okV 293 := ⟨w_in 1616 (by decide +kernel) (by decide +kernel), w_in 1617 (by decide +kernel) (by decide +kernel)⟩
theorem k_M_named : okM 294 1 := ⟨w_in 1623 (by decide +kernel) (by decide +kernel), w_in 80 (by decide +kernel) (by decide +kernel), by decide +kernel, by decide +kernel⟩
theorem v_M_named : okV 294 := ⟨w_in 1621 (by decide +kernel) (by decide +kernel), w_in 1622 (by decide +kernel) (by decide +kernel)⟩
theorem k_M_seed : okM 295 1 := ⟨w_in 1627 (by decide +kernel) (by decide +kernel), w_in 80 (by decide +kernel) (by decide +kernel), by decide +kernel, by decide +kernel⟩
theorem v_M_seed : okV 295 := ⟨w_in 1625 (by decide +kernel) (by decide +kernel), w_in 1626 (by decide +kernel) (by decide +kernel)⟩
theorem k_M_image : okM 296 0 := ⟨w_in 1631 (by decide +kernel) (by decide +kernel), w_in 80 (by decide +kernel) (by decide +kernel), by decide +kernel, by decide +kernel⟩
theorem v_M_image : okV 296 := ⟨w_in 1629 (by decide +kernel) (by decide +kernel), w_in 1630 (by decide +kernel) (by decide +kernel)⟩
theorem k_M_back : okM 297 0 := ⟨w_in 1635 (by decide +kernel) (by decide +kernel), w_in 80 (by decide +kernel) (by decide +kernel), by decide +kernel, by decide +kernel⟩
theorem v_M_back : okV 297 := ⟨w_in 1633 (by decide +kernel) (by decide +kernel), w_in 1634 (by decide +kernel) (by decide +kernel)⟩
theorem k_M_status : okM 298 1 := ⟨w_in 1639 (by decide +kernel) (by decide +kernel), w_in 80 (by decide +kernel) (by decide +kernel), by decide +kernel, by decide +kernel⟩
theorem v_M_status : okV 298 := ⟨w_in 1637 (by decide +kernel) (by decide +kernel), w_in 1638 (by decide +kernel) (by decide +kernel)⟩
theorem x_L_7 : Cond.classLink "NeedsALoserLaw" 7 "NeedsALoser" ∈ WALL := w_in 88 (by decide +kernel) (by decide +kernel)
theorem x_L_9 : Cond.methodLink "NeedsALoserLaw" 9 (mn 0) ∈ WALL := w_in 90 (by decide +kernel) (by decide +kernel)
theorem x_N_1 : Cond.methodLink "NeedsALoser" 1 (mn 1) ∈ WALL := w_in 93 (by decide +kernel) (by decide +kernel)
theorem x_N_7 : Cond.classLink "NeedsALoser" 7 "NeedsALoser$Town" ∈ WALL := w_in 96 (by decide +kernel) (by decide +kernel)
theorem x_N_9 : Cond.methodLinkNest "NeedsALoser" 9 (mn 2) "NeedsALoser" ∈ NST := n_in 98 (by decide +kernel) (by decide +kernel)
theorem x_T_3 : Cond.methodLink "NeedsALoser$Town" 3 (mn 1) ∈ WALL := w_in 101 (by decide +kernel) (by decide +kernel)
theorem x_T_9 : Cond.fieldLink "NeedsALoser$Town" 9 Rk1 (Fk1 0).2.1 (Fk1 0).2.2.1 ∈ WALL := w_in 102 (by decide +kernel) (by decide +kernel)
theorem x_W_36 : Cond.fieldLinkNest "NeedsALoser$Week" 36 Rk1 (Fk1 0).2.1 (Fk1 0).2.2.1 "NeedsALoser" ∈ NST := n_in 103 (by decide +kernel) (by decide +kernel)
theorem x_U_32 : Cond.fieldLinkNest "NeedsALoser$Rules" 32 Rk1 (Fk1 0).2.1 (Fk1 0).2.2.1 "NeedsALoser" ∈ NST := n_in 104 (by decide +kernel) (by decide +kernel)
theorem x_R_83 : Cond.fieldLinkNest "NeedsALoser$Reader" 83 Rk1 (Fk1 0).2.1 (Fk1 0).2.2.1 "NeedsALoser" ∈ NST := n_in 105 (by decide +kernel) (by decide +kernel)
theorem x_N_124 : Cond.fieldLinkNest "NeedsALoser" 124 Rk1 (Fk1 0).2.1 (Fk1 0).2.2.1 "NeedsALoser" ∈ NST := n_in 106 (by decide +kernel) (by decide +kernel)
theorem x_E_108 : Cond.fieldLinkNest "NeedsALoser$Search" 108 Rk1 (Fk1 0).2.1 (Fk1 0).2.2.1 "NeedsALoser" ∈ NST := n_in 107 (by decide +kernel) (by decide +kernel)
theorem x_T_15 : Cond.fieldLink "NeedsALoser$Town" 15 Rk1 (Fk1 1).2.1 (Fk1 1).2.2.1 ∈ WALL := w_in 108 (by decide +kernel) (by decide +kernel)
theorem x_W_25 : Cond.fieldLinkNest "NeedsALoser$Week" 25 Rk1 (Fk1 1).2.1 (Fk1 1).2.2.1 "NeedsALoser" ∈ NST := n_in 109 (by decide +kernel) (by decide +kernel)
theorem x_E_57 : Cond.fieldLinkNest "NeedsALoser$Search" 57 Rk1 (Fk1 1).2.1 (Fk1 1).2.2.1 "NeedsALoser" ∈ NST := n_in 110 (by decide +kernel) (by decide +kernel)
theorem x_R_90 : Cond.fieldLinkNest "NeedsALoser$Reader" 90 Rk1 (Fk1 1).2.1 (Fk1 1).2.2.1 "NeedsALoser" ∈ NST := n_in 111 (by decide +kernel) (by decide +kernel)
theorem x_N_113 : Cond.fieldLinkNest "NeedsALoser" 113 Rk1 (Fk1 1).2.1 (Fk1 1).2.2.1 "NeedsALoser" ∈ NST := n_in 112 (by decide +kernel) (by decide +kernel)
theorem x_T_18 : Cond.fieldLink "NeedsALoser$Town" 18 Rk1 (Fk1 2).2.1 (Fk1 2).2.2.1 ∈ WALL := w_in 113 (by decide +kernel) (by decide +kernel)
theorem x_N_318 : Cond.fieldLinkNest "NeedsALoser" 318 Rk1 (Fk1 2).2.1 (Fk1 2).2.2.1 "NeedsALoser" ∈ NST := n_in 114 (by decide +kernel) (by decide +kernel)
theorem x_T_21 : Cond.fieldLink "NeedsALoser$Town" 21 Rk1 (Fk1 3).2.1 (Fk1 3).2.2.1 ∈ WALL := w_in 115 (by decide +kernel) (by decide +kernel)
theorem x_E_85 : Cond.fieldLinkNest "NeedsALoser$Search" 85 Rk1 (Fk1 3).2.1 (Fk1 3).2.2.1 "NeedsALoser" ∈ NST := n_in 116 (by decide +kernel) (by decide +kernel)
theorem x_N_330 : Cond.fieldLinkNest "NeedsALoser" 330 Rk1 (Fk1 3).2.1 (Fk1 3).2.2.1 "NeedsALoser" ∈ NST := n_in 117 (by decide +kernel) (by decide +kernel)
theorem x_T_24 : Cond.fieldLink "NeedsALoser$Town" 24 Rk1 (Fk1 4).2.1 (Fk1 4).2.2.1 ∈ WALL := w_in 118 (by decide +kernel) (by decide +kernel)
theorem x_N_309 : Cond.fieldLinkNest "NeedsALoser" 309 Rk1 (Fk1 4).2.1 (Fk1 4).2.2.1 "NeedsALoser" ∈ NST := n_in 119 (by decide +kernel) (by decide +kernel)
theorem x_T_27 : Cond.fieldLink "NeedsALoser$Town" 27 Rk1 (Fk1 5).2.1 (Fk1 5).2.2.1 ∈ WALL := w_in 120 (by decide +kernel) (by decide +kernel)
theorem x_N_312 : Cond.fieldLinkNest "NeedsALoser" 312 Rk1 (Fk1 5).2.1 (Fk1 5).2.2.1 "NeedsALoser" ∈ NST := n_in 121 (by decide +kernel) (by decide +kernel)
theorem x_T_30 : Cond.fieldLink "NeedsALoser$Town" 30 Rk1 (Fk1 6).2.1 (Fk1 6).2.2.1 ∈ WALL := w_in 122 (by decide +kernel) (by decide +kernel)
theorem x_N_321 : Cond.fieldLinkNest "NeedsALoser" 321 Rk1 (Fk1 6).2.1 (Fk1 6).2.2.1 "NeedsALoser" ∈ NST := n_in 123 (by decide +kernel) (by decide +kernel)
theorem x_T_33 : Cond.fieldLink "NeedsALoser$Town" 33 Rk1 (Fk1 7).2.1 (Fk1 7).2.2.1 ∈ WALL := w_in 124 (by decide +kernel) (by decide +kernel)
theorem x_W_84 : Cond.fieldLinkNest "NeedsALoser$Week" 84 Rk1 (Fk1 7).2.1 (Fk1 7).2.2.1 "NeedsALoser" ∈ NST := n_in 125 (by decide +kernel) (by decide +kernel)
theorem x_N_324 : Cond.fieldLinkNest "NeedsALoser" 324 Rk1 (Fk1 7).2.1 (Fk1 7).2.2.1 "NeedsALoser" ∈ NST := n_in 126 (by decide +kernel) (by decide +kernel)
theorem x_T_36 : Cond.fieldLink "NeedsALoser$Town" 36 Rk1 (Fk1 8).2.1 (Fk1 8).2.2.1 ∈ WALL := w_in 127 (by decide +kernel) (by decide +kernel)
theorem x_N_327 : Cond.fieldLinkNest "NeedsALoser" 327 Rk1 (Fk1 8).2.1 (Fk1 8).2.2.1 "NeedsALoser" ∈ NST := n_in 128 (by decide +kernel) (by decide +kernel)
theorem x_T_39 : Cond.fieldLink "NeedsALoser$Town" 39 Rk1 (Fk1 9).2.1 (Fk1 9).2.2.1 ∈ WALL := w_in 129 (by decide +kernel) (by decide +kernel)
theorem x_U_39 : Cond.fieldLinkNest "NeedsALoser$Rules" 39 Rk1 (Fk1 9).2.1 (Fk1 9).2.2.1 "NeedsALoser" ∈ NST := n_in 130 (by decide +kernel) (by decide +kernel)
theorem x_N_215 : Cond.fieldLinkNest "NeedsALoser" 215 Rk1 (Fk1 9).2.1 (Fk1 9).2.2.1 "NeedsALoser" ∈ NST := n_in 131 (by decide +kernel) (by decide +kernel)
theorem x_T_43 : Cond.fieldLink "NeedsALoser$Town" 43 Rk1 (Fk1 10).2.1 (Fk1 10).2.2.1 ∈ WALL := w_in 132 (by decide +kernel) (by decide +kernel)
theorem x_N_272 : Cond.fieldLinkNest "NeedsALoser" 272 Rk1 (Fk1 10).2.1 (Fk1 10).2.2.1 "NeedsALoser" ∈ NST := n_in 133 (by decide +kernel) (by decide +kernel)
theorem x_T_46 : Cond.fieldLink "NeedsALoser$Town" 46 Rk1 (Fk1 11).2.1 (Fk1 11).2.2.1 ∈ WALL := w_in 134 (by decide +kernel) (by decide +kernel)
theorem x_N_192 : Cond.fieldLinkNest "NeedsALoser" 192 Rk1 (Fk1 11).2.1 (Fk1 11).2.2.1 "NeedsALoser" ∈ NST := n_in 135 (by decide +kernel) (by decide +kernel)
theorem x_T_49 : Cond.fieldLink "NeedsALoser$Town" 49 Rk1 (Fk1 12).2.1 (Fk1 12).2.2.1 ∈ WALL := w_in 136 (by decide +kernel) (by decide +kernel)
theorem x_N_199 : Cond.fieldLinkNest "NeedsALoser" 199 Rk1 (Fk1 12).2.1 (Fk1 12).2.2.1 "NeedsALoser" ∈ NST := n_in 137 (by decide +kernel) (by decide +kernel)
theorem x_T_52 : Cond.fieldLink "NeedsALoser$Town" 52 Rk1 (Fk1 13).2.1 (Fk1 13).2.2.1 ∈ WALL := w_in 138 (by decide +kernel) (by decide +kernel)
theorem x_N_202 : Cond.fieldLinkNest "NeedsALoser" 202 Rk1 (Fk1 13).2.1 (Fk1 13).2.2.1 "NeedsALoser" ∈ NST := n_in 139 (by decide +kernel) (by decide +kernel)
theorem x_T_55 : Cond.fieldLink "NeedsALoser$Town" 55 Rk1 (Fk1 14).2.1 (Fk1 14).2.2.1 ∈ WALL := w_in 140 (by decide +kernel) (by decide +kernel)
theorem x_N_205 : Cond.fieldLinkNest "NeedsALoser" 205 Rk1 (Fk1 14).2.1 (Fk1 14).2.2.1 "NeedsALoser" ∈ NST := n_in 141 (by decide +kernel) (by decide +kernel)
theorem x_T_58 : Cond.fieldLink "NeedsALoser$Town" 58 Rk1 (Fk1 15).2.1 (Fk1 15).2.2.1 ∈ WALL := w_in 142 (by decide +kernel) (by decide +kernel)
theorem x_T_61 : Cond.fieldLink "NeedsALoser$Town" 61 Rk1 (Fk1 16).2.1 (Fk1 16).2.2.1 ∈ WALL := w_in 143 (by decide +kernel) (by decide +kernel)
theorem ac_int : Cond.arrayClass .int ∈ WALL := w_in 179 (by decide +kernel) (by decide +kernel)
theorem x_N_26 : Cond.classLink "NeedsALoser" 26 "NeedsALoser$Shelves" ∈ WALL := w_in 180 (by decide +kernel) (by decide +kernel)
theorem x_N_28 : Cond.methodLink "NeedsALoser" 28 (mn 3) ∈ WALL := w_in 182 (by decide +kernel) (by decide +kernel)
theorem x_S_3 : Cond.methodLink "NeedsALoser$Shelves" 3 (mn 1) ∈ WALL := w_in 185 (by decide +kernel) (by decide +kernel)
theorem x_S_9 : Cond.fieldLink "NeedsALoser$Shelves" 9 Rk2 (Fk2 0).2.1 (Fk2 0).2.2.1 ∈ WALL := w_in 186 (by decide +kernel) (by decide +kernel)
theorem x_S_15 : Cond.fieldLink "NeedsALoser$Shelves" 15 Rk2 (Fk2 1).2.1 (Fk2 1).2.2.1 ∈ WALL := w_in 187 (by decide +kernel) (by decide +kernel)
theorem x_S_18 : Cond.fieldLink "NeedsALoser$Shelves" 18 Rk2 (Fk2 2).2.1 (Fk2 2).2.2.1 ∈ WALL := w_in 188 (by decide +kernel) (by decide +kernel)
theorem x_S_21 : Cond.fieldLink "NeedsALoser$Shelves" 21 Rk2 (Fk2 3).2.1 (Fk2 3).2.2.1 ∈ WALL := w_in 189 (by decide +kernel) (by decide +kernel)
theorem ac_long : Cond.arrayClass .long ∈ WALL := w_in 199 (by decide +kernel) (by decide +kernel)
theorem x_N_33 : Cond.classLink "NeedsALoser" 33 "NeedsALoser$Reader" ∈ WALL := w_in 200 (by decide +kernel) (by decide +kernel)
theorem x_N_35 : Cond.methodLinkNest "NeedsALoser" 35 (mn 4) "NeedsALoser" ∈ NST := n_in 202 (by decide +kernel) (by decide +kernel)
theorem x_R_3 : Cond.methodLink "NeedsALoser$Reader" 3 (mn 1) ∈ WALL := w_in 205 (by decide +kernel) (by decide +kernel)
theorem x_R_11 : Cond.fieldLink "NeedsALoser$Reader" 11 Rk3 (Fk3 0).2.1 (Fk3 0).2.2.1 ∈ WALL := w_in 206 (by decide +kernel) (by decide +kernel)
theorem x_R_15 : Cond.fieldLink "NeedsALoser$Reader" 15 Rk3 (Fk3 1).2.1 (Fk3 1).2.2.1 ∈ WALL := w_in 207 (by decide +kernel) (by decide +kernel)
theorem x_N_333 : Cond.fieldLinkNest "NeedsALoser" 333 Rk3 (Fk3 1).2.1 (Fk3 1).2.2.1 "NeedsALoser" ∈ NST := n_in 208 (by decide +kernel) (by decide +kernel)
theorem x_R_19 : Cond.fieldLink "NeedsALoser$Reader" 19 Rk3 (Fk3 2).2.1 (Fk3 2).2.2.1 ∈ WALL := w_in 209 (by decide +kernel) (by decide +kernel)
theorem x_R_22 : Cond.fieldLink "NeedsALoser$Reader" 22 Rk3 (Fk3 3).2.1 (Fk3 3).2.2.1 ∈ WALL := w_in 210 (by decide +kernel) (by decide +kernel)
theorem x_R_25 : Cond.fieldLink "NeedsALoser$Reader" 25 Rk3 (Fk3 4).2.1 (Fk3 4).2.2.1 ∈ WALL := w_in 211 (by decide +kernel) (by decide +kernel)
theorem x_R_28 : Cond.fieldLink "NeedsALoser$Reader" 28 Rk3 (Fk3 5).2.1 (Fk3 5).2.2.1 ∈ WALL := w_in 212 (by decide +kernel) (by decide +kernel)
theorem x_N_40 : Cond.classLink "NeedsALoser" 40 "NeedsALoser$Week" ∈ WALL := w_in 226 (by decide +kernel) (by decide +kernel)
theorem x_N_42 : Cond.methodLinkNest "NeedsALoser" 42 (mn 5) "NeedsALoser" ∈ NST := n_in 228 (by decide +kernel) (by decide +kernel)
theorem x_W_3 : Cond.methodLink "NeedsALoser$Week" 3 (mn 1) ∈ WALL := w_in 231 (by decide +kernel) (by decide +kernel)
theorem x_W_9 : Cond.fieldLink "NeedsALoser$Week" 9 Rk4 (Fk4 0).2.1 (Fk4 0).2.2.1 ∈ WALL := w_in 232 (by decide +kernel) (by decide +kernel)
theorem x_W_15 : Cond.fieldLink "NeedsALoser$Week" 15 Rk4 (Fk4 1).2.1 (Fk4 1).2.2.1 ∈ WALL := w_in 233 (by decide +kernel) (by decide +kernel)
theorem x_W_19 : Cond.fieldLink "NeedsALoser$Week" 19 Rk4 (Fk4 2).2.1 (Fk4 2).2.2.1 ∈ WALL := w_in 234 (by decide +kernel) (by decide +kernel)
theorem x_N_47 : Cond.classLink "NeedsALoser" 47 "NeedsALoser$Search" ∈ WALL := w_in 242 (by decide +kernel) (by decide +kernel)
theorem x_N_49 : Cond.methodLinkNest "NeedsALoser" 49 (mn 6) "NeedsALoser" ∈ NST := n_in 244 (by decide +kernel) (by decide +kernel)
theorem x_E_5 : Cond.methodLink "NeedsALoser$Search" 5 (mn 1) ∈ WALL := w_in 247 (by decide +kernel) (by decide +kernel)
theorem x_E_13 : Cond.fieldLink "NeedsALoser$Search" 13 Rk5 (Fk5 0).2.1 (Fk5 0).2.2.1 ∈ WALL := w_in 248 (by decide +kernel) (by decide +kernel)
theorem x_E_17 : Cond.fieldLink "NeedsALoser$Search" 17 Rk5 (Fk5 1).2.1 (Fk5 1).2.2.1 ∈ WALL := w_in 249 (by decide +kernel) (by decide +kernel)
theorem x_E_21 : Cond.fieldLink "NeedsALoser$Search" 21 Rk5 (Fk5 2).2.1 (Fk5 2).2.2.1 ∈ WALL := w_in 250 (by decide +kernel) (by decide +kernel)
theorem x_E_24 : Cond.fieldLink "NeedsALoser$Search" 24 Rk5 (Fk5 3).2.1 (Fk5 3).2.2.1 ∈ WALL := w_in 251 (by decide +kernel) (by decide +kernel)
theorem x_E_27 : Cond.fieldLink "NeedsALoser$Search" 27 Rk5 (Fk5 4).2.1 (Fk5 4).2.2.1 ∈ WALL := w_in 252 (by decide +kernel) (by decide +kernel)
theorem ac_boolean : Cond.arrayClass .boolean ∈ WALL := w_in 264 (by decide +kernel) (by decide +kernel)
theorem x_N_10 : Cond.fieldLink "NeedsALoser" 10 Rk0 (Fk0 0).2.1 (Fk0 0).2.2.1 ∈ WALL := w_in 265 (by decide +kernel) (by decide +kernel)
theorem x_N_16 : Cond.fieldLink "NeedsALoser" 16 Rk0 (Fk0 1).2.1 (Fk0 1).2.2.1 ∈ WALL := w_in 266 (by decide +kernel) (by decide +kernel)
theorem x_N_19 : Cond.fieldLink "NeedsALoser" 19 Rk0 (Fk0 2).2.1 (Fk0 2).2.2.1 ∈ WALL := w_in 267 (by decide +kernel) (by decide +kernel)
theorem x_N_22 : Cond.fieldLink "NeedsALoser" 22 Rk0 (Fk0 3).2.1 (Fk0 3).2.2.1 ∈ WALL := w_in 268 (by decide +kernel) (by decide +kernel)
theorem x_N_29 : Cond.fieldLink "NeedsALoser" 29 Rk0 (Fk0 4).2.1 (Fk0 4).2.2.1 ∈ WALL := w_in 269 (by decide +kernel) (by decide +kernel)
theorem x_N_36 : Cond.fieldLink "NeedsALoser" 36 Rk0 (Fk0 5).2.1 (Fk0 5).2.2.1 ∈ WALL := w_in 270 (by decide +kernel) (by decide +kernel)
theorem x_N_43 : Cond.fieldLink "NeedsALoser" 43 Rk0 (Fk0 6).2.1 (Fk0 6).2.2.1 ∈ WALL := w_in 271 (by decide +kernel) (by decide +kernel)
theorem x_N_50 : Cond.fieldLink "NeedsALoser" 50 Rk0 (Fk0 7).2.1 (Fk0 7).2.2.1 ∈ WALL := w_in 272 (by decide +kernel) (by decide +kernel)
theorem x_N_54 : Cond.fieldLink "NeedsALoser" 54 Rk0 (Fk0 8).2.1 (Fk0 8).2.2.1 ∈ WALL := w_in 273 (by decide +kernel) (by decide +kernel)
theorem x_L_13 : Cond.methodLink "NeedsALoserLaw" 13 (mn 7) ∈ WALL := w_in 293 (by decide +kernel) (by decide +kernel)
theorem x_N_58 : Cond.methodLink "NeedsALoser" 58 (mn 8) ∈ WALL := w_in 297 (by decide +kernel) (by decide +kernel)
theorem x_N_62 : Cond.methodLink "NeedsALoser" 62 (mn 9) ∈ WALL := w_in 300 (by decide +kernel) (by decide +kernel)
theorem x_N_66 : Cond.methodLink "NeedsALoser" 66 (mn 10) ∈ WALL := w_in 303 (by decide +kernel) (by decide +kernel)
theorem x_N_195 : Cond.methodLink "NeedsALoser" 195 (mn 11) ∈ WALL := w_in 307 (by decide +kernel) (by decide +kernel)
theorem x_N_339 : Cond.methodLink "NeedsALoser" 339 (mn 12) ∈ WALL := w_in 310 (by decide +kernel) (by decide +kernel)
theorem x_N_70 : Cond.methodLink "NeedsALoser" 70 (mn 13) ∈ WALL := w_in 313 (by decide +kernel) (by decide +kernel)
theorem x_S_51 : Cond.methodLinkNest "NeedsALoser$Shelves" 51 (mn 12) "NeedsALoser" ∈ NST := n_in 317 (by decide +kernel) (by decide +kernel)
theorem x_S_55 : Cond.methodLink "NeedsALoser$Shelves" 55 (mn 14) ∈ WALL := w_in 318 (by decide +kernel) (by decide +kernel)
theorem x_S_33 : Cond.methodLink "NeedsALoser$Shelves" 33 (mn 15) ∈ WALL := w_in 322 (by decide +kernel) (by decide +kernel)
theorem x_S_25 : Cond.methodLinkNest "NeedsALoser$Shelves" 25 (mn 8) "NeedsALoser" ∈ NST := n_in 326 (by decide +kernel) (by decide +kernel)
theorem x_S_29 : Cond.methodLinkNest "NeedsALoser$Shelves" 29 (mn 11) "NeedsALoser" ∈ NST := n_in 327 (by decide +kernel) (by decide +kernel)
theorem x_S_59 : Cond.methodLink "NeedsALoser$Shelves" 59 (mn 16) ∈ WALL := w_in 328 (by decide +kernel) (by decide +kernel)
theorem x_L_20 : Cond.methodLink "NeedsALoserLaw" 20 (mn 17) ∈ WALL := w_in 331 (by decide +kernel) (by decide +kernel)
theorem x_N_74 : Cond.methodLink "NeedsALoser" 74 (mn 18) ∈ WALL := w_in 335 (by decide +kernel) (by decide +kernel)
theorem x_S_37 : Cond.methodLink "NeedsALoser$Shelves" 37 (mn 19) ∈ WALL := w_in 339 (by decide +kernel) (by decide +kernel)
theorem x_S_41 : Cond.methodLink "NeedsALoser$Shelves" 41 (mn 20) ∈ WALL := w_in 343 (by decide +kernel) (by decide +kernel)
theorem x_N_77 : Cond.methodLink "NeedsALoser" 77 (mn 21) ∈ WALL := w_in 347 (by decide +kernel) (by decide +kernel)
theorem x_N_80 : Cond.methodLink "NeedsALoser" 80 (mn 14) ∈ WALL := w_in 351 (by decide +kernel) (by decide +kernel)
theorem x_L_25 : Cond.methodLink "NeedsALoserLaw" 25 (mn 22) ∈ WALL := w_in 352 (by decide +kernel) (by decide +kernel)
theorem x_N_84 : Cond.methodLink "NeedsALoser" 84 (mn 23) ∈ WALL := w_in 356 (by decide +kernel) (by decide +kernel)
theorem x_S_44 : Cond.methodLink "NeedsALoser$Shelves" 44 (mn 21) ∈ WALL := w_in 360 (by decide +kernel) (by decide +kernel)
theorem x_S_47 : Cond.methodLink "NeedsALoser$Shelves" 47 (mn 24) ∈ WALL := w_in 361 (by decide +kernel) (by decide +kernel)
theorem x_N_88 : Cond.methodLink "NeedsALoser" 88 (mn 25) ∈ WALL := w_in 364 (by decide +kernel) (by decide +kernel)
theorem x_S_63 : Cond.methodLink "NeedsALoser$Shelves" 63 (mn 26) ∈ WALL := w_in 368 (by decide +kernel) (by decide +kernel)
theorem x_L_30 : Cond.methodLink "NeedsALoserLaw" 30 (mn 27) ∈ WALL := w_in 372 (by decide +kernel) (by decide +kernel)
theorem x_N_92 : Cond.methodLink "NeedsALoser" 92 (mn 26) ∈ WALL := w_in 376 (by decide +kernel) (by decide +kernel)
theorem x_L_35 : Cond.methodLink "NeedsALoserLaw" 35 (mn 28) ∈ WALL := w_in 377 (by decide +kernel) (by decide +kernel)
theorem x_N_96 : Cond.methodLink "NeedsALoser" 96 (mn 15) ∈ WALL := w_in 381 (by decide +kernel) (by decide +kernel)
theorem x_L_40 : Cond.methodLink "NeedsALoserLaw" 40 (mn 29) ∈ WALL := w_in 382 (by decide +kernel) (by decide +kernel)
theorem x_N_101 : Cond.methodLink "NeedsALoser" 101 (mn 30) ∈ WALL := w_in 386 (by decide +kernel) (by decide +kernel)
theorem x_L_44 : Cond.methodLink "NeedsALoserLaw" 44 (mn 31) ∈ WALL := w_in 390 (by decide +kernel) (by decide +kernel)
theorem x_N_104 : Cond.methodLink "NeedsALoser" 104 (mn 32) ∈ WALL := w_in 394 (by decide +kernel) (by decide +kernel)
theorem x_N_107 : Cond.methodLink "NeedsALoser" 107 (mn 33) ∈ WALL := w_in 398 (by decide +kernel) (by decide +kernel)
theorem x_N_110 : Cond.methodLink "NeedsALoser" 110 (mn 34) ∈ WALL := w_in 402 (by decide +kernel) (by decide +kernel)
theorem x_U_9 : Cond.fieldLink "NeedsALoser$Rules" 9 "NeedsALoser$Rules" "ABOVE" "[I" ∈ WALL := w_in 405 (by decide +kernel) (by decide +kernel)
theorem x_U_15 : Cond.methodLinkNest "NeedsALoser$Rules" 15 (mn 8) "NeedsALoser" ∈ NST := n_in 407 (by decide +kernel) (by decide +kernel)
theorem x_N_117 : Cond.methodLink "NeedsALoser" 117 (mn 35) ∈ WALL := w_in 408 (by decide +kernel) (by decide +kernel)
theorem x_N_120 : Cond.methodLink "NeedsALoser" 120 (mn 36) ∈ WALL := w_in 412 (by decide +kernel) (by decide +kernel)
theorem x_N_344 : Cond.methodLink "NeedsALoser" 344 (mn 37) ∈ WALL := w_in 416 (by decide +kernel) (by decide +kernel)
theorem x_T_108 : Cond.methodLink "NeedsALoser$Town" 108 (mn 38) ∈ WALL := w_in 420 (by decide +kernel) (by decide +kernel)
theorem x_T_105 : Cond.methodLink "NeedsALoser$Town" 105 (mn 39) ∈ WALL := w_in 424 (by decide +kernel) (by decide +kernel)
theorem x_T_98 : Cond.methodLink "NeedsALoser$Town" 98 (mn 40) ∈ WALL := w_in 428 (by decide +kernel) (by decide +kernel)
theorem x_T_102 : Cond.methodLink "NeedsALoser$Town" 102 (mn 41) ∈ WALL := w_in 432 (by decide +kernel) (by decide +kernel)
theorem x_N_347 : Cond.methodLink "NeedsALoser" 347 (mn 42) ∈ WALL := w_in 436 (by decide +kernel) (by decide +kernel)
theorem x_U_19 : Cond.methodLinkNest "NeedsALoser$Rules" 19 (mn 43) "NeedsALoser" ∈ NST := n_in 439 (by decide +kernel) (by decide +kernel)
theorem x_U_22 : Cond.methodLink "NeedsALoser$Rules" 22 (mn 44) ∈ WALL := w_in 442 (by decide +kernel) (by decide +kernel)
theorem x_U_36 : Cond.methodLink "NeedsALoser$Rules" 36 (mn 45) ∈ WALL := w_in 445 (by decide +kernel) (by decide +kernel)
theorem x_U_42 : Cond.methodLinkNest "NeedsALoser$Rules" 42 (mn 11) "NeedsALoser" ∈ NST := n_in 448 (by decide +kernel) (by decide +kernel)
theorem x_U_46 : Cond.methodLink "NeedsALoser$Rules" 46 (mn 40) ∈ WALL := w_in 449 (by decide +kernel) (by decide +kernel)
theorem x_U_49 : Cond.methodLink "NeedsALoser$Rules" 49 (mn 46) ∈ WALL := w_in 450 (by decide +kernel) (by decide +kernel)
theorem x_U_53 : Cond.methodLink "NeedsALoser$Rules" 53 (mn 47) ∈ WALL := w_in 453 (by decide +kernel) (by decide +kernel)
theorem x_U_26 : Cond.methodLink "NeedsALoser$Rules" 26 (mn 48) ∈ WALL := w_in 456 (by decide +kernel) (by decide +kernel)
theorem x_T_95 : Cond.methodLink "NeedsALoser$Town" 95 (mn 49) ∈ WALL := w_in 460 (by decide +kernel) (by decide +kernel)
theorem x_T_91 : Cond.methodLinkNest "NeedsALoser$Town" 91 (mn 11) "NeedsALoser" ∈ NST := n_in 464 (by decide +kernel) (by decide +kernel)
theorem x_L_49 : Cond.methodLink "NeedsALoserLaw" 49 (mn 50) ∈ WALL := w_in 465 (by decide +kernel) (by decide +kernel)
theorem x_N_127 : Cond.methodLink "NeedsALoser" 127 (mn 51) ∈ WALL := w_in 469 (by decide +kernel) (by decide +kernel)
theorem x_L_54 : Cond.methodLink "NeedsALoserLaw" 54 (mn 52) ∈ WALL := w_in 473 (by decide +kernel) (by decide +kernel)
theorem x_N_131 : Cond.methodLink "NeedsALoser" 131 (mn 53) ∈ WALL := w_in 477 (by decide +kernel) (by decide +kernel)
theorem x_T_68 : Cond.methodLinkNest "NeedsALoser$Town" 68 (mn 8) "NeedsALoser" ∈ NST := n_in 481 (by decide +kernel) (by decide +kernel)
theorem x_N_135 : Cond.methodLink "NeedsALoser" 135 (mn 54) ∈ WALL := w_in 482 (by decide +kernel) (by decide +kernel)
theorem x_T_79 : Cond.methodLinkNest "NeedsALoser$Town" 79 (mn 12) "NeedsALoser" ∈ NST := n_in 486 (by decide +kernel) (by decide +kernel)
theorem x_L_59 : Cond.methodLink "NeedsALoserLaw" 59 (mn 55) ∈ WALL := w_in 487 (by decide +kernel) (by decide +kernel)
theorem x_N_139 : Cond.methodLink "NeedsALoser" 139 (mn 56) ∈ WALL := w_in 491 (by decide +kernel) (by decide +kernel)
theorem x_T_72 : Cond.methodLink "NeedsALoser$Town" 72 (mn 57) ∈ WALL := w_in 495 (by decide +kernel) (by decide +kernel)
theorem x_T_76 : Cond.methodLink "NeedsALoser$Town" 76 (mn 53) ∈ WALL := w_in 499 (by decide +kernel) (by decide +kernel)
theorem x_N_142 : Cond.methodLink "NeedsALoser" 142 (mn 58) ∈ WALL := w_in 500 (by decide +kernel) (by decide +kernel)
theorem x_L_63 : Cond.methodLink "NeedsALoserLaw" 63 (mn 59) ∈ WALL := w_in 504 (by decide +kernel) (by decide +kernel)
theorem x_N_145 : Cond.methodLink "NeedsALoser" 145 (mn 60) ∈ WALL := w_in 508 (by decide +kernel) (by decide +kernel)
theorem x_N_148 : Cond.methodLink "NeedsALoser" 148 (mn 61) ∈ WALL := w_in 512 (by decide +kernel) (by decide +kernel)
theorem x_N_151 : Cond.methodLink "NeedsALoser" 151 (mn 43) ∈ WALL := w_in 516 (by decide +kernel) (by decide +kernel)
theorem x_N_154 : Cond.methodLink "NeedsALoser" 154 (mn 62) ∈ WALL := w_in 517 (by decide +kernel) (by decide +kernel)
theorem x_T_83 : Cond.methodLink "NeedsALoser$Town" 83 (mn 61) ∈ WALL := w_in 521 (by decide +kernel) (by decide +kernel)
theorem x_T_87 : Cond.methodLink "NeedsALoser$Town" 87 (mn 63) ∈ WALL := w_in 522 (by decide +kernel) (by decide +kernel)
theorem x_L_68 : Cond.methodLink "NeedsALoserLaw" 68 (mn 64) ∈ WALL := w_in 525 (by decide +kernel) (by decide +kernel)
theorem x_N_158 : Cond.methodLink "NeedsALoser" 158 (mn 65) ∈ WALL := w_in 529 (by decide +kernel) (by decide +kernel)
theorem x_N_161 : Cond.methodLink "NeedsALoser" 161 (mn 66) ∈ WALL := w_in 532 (by decide +kernel) (by decide +kernel)
theorem x_N_164 : Cond.methodLink "NeedsALoser" 164 (mn 67) ∈ WALL := w_in 535 (by decide +kernel) (by decide +kernel)
theorem x_N_167 : Cond.methodLink "NeedsALoser" 167 (mn 68) ∈ WALL := w_in 539 (by decide +kernel) (by decide +kernel)
theorem x_L_72 : Cond.methodLink "NeedsALoserLaw" 72 (mn 69) ∈ WALL := w_in 543 (by decide +kernel) (by decide +kernel)
theorem x_N_171 : Cond.methodLink "NeedsALoser" 171 (mn 70) ∈ WALL := w_in 547 (by decide +kernel) (by decide +kernel)
theorem x_N_175 : Cond.methodLink "NeedsALoser" 175 (mn 71) ∈ WALL := w_in 551 (by decide +kernel) (by decide +kernel)
theorem x_R_31 : Cond.methodLinkNest "NeedsALoser$Reader" 31 (mn 12) "NeedsALoser" ∈ NST := n_in 555 (by decide +kernel) (by decide +kernel)
theorem x_L_76 : Cond.methodLink "NeedsALoserLaw" 76 (mn 72) ∈ WALL := w_in 556 (by decide +kernel) (by decide +kernel)
theorem x_N_178 : Cond.methodLink "NeedsALoser" 178 (mn 73) ∈ WALL := w_in 560 (by decide +kernel) (by decide +kernel)
theorem x_L_80 : Cond.methodLink "NeedsALoserLaw" 80 (mn 74) ∈ WALL := w_in 564 (by decide +kernel) (by decide +kernel)
theorem x_N_181 : Cond.methodLink "NeedsALoser" 181 (mn 75) ∈ WALL := w_in 568 (by decide +kernel) (by decide +kernel)
theorem x_T_64 : Cond.methodLinkNest "NeedsALoser$Town" 64 (mn 76) "NeedsALoser" ∈ NST := n_in 572 (by decide +kernel) (by decide +kernel)
theorem x_N_185 : Cond.methodLink "NeedsALoser" 185 (mn 77) ∈ WALL := w_in 575 (by decide +kernel) (by decide +kernel)
theorem x_R_35 : Cond.methodLink "NeedsALoser$Reader" 35 (mn 78) ∈ WALL := w_in 579 (by decide +kernel) (by decide +kernel)
theorem x_R_129 : Cond.methodLinkNest "NeedsALoser$Reader" 129 (mn 11) "NeedsALoser" ∈ NST := n_in 583 (by decide +kernel) (by decide +kernel)
theorem x_R_142 : Cond.methodLink "NeedsALoser$Reader" 142 (mn 79) ∈ WALL := w_in 584 (by decide +kernel) (by decide +kernel)
theorem x_R_125 : Cond.methodLinkNest "NeedsALoser$Reader" 125 (mn 9) "NeedsALoser" ∈ NST := n_in 588 (by decide +kernel) (by decide +kernel)
theorem x_R_38 : Cond.methodLink "NeedsALoser$Reader" 38 (mn 80) ∈ WALL := w_in 589 (by decide +kernel) (by decide +kernel)
theorem x_R_47 : Cond.methodLink "NeedsALoser$Reader" 47 (mn 81) ∈ WALL := w_in 594 (by decide +kernel) (by decide +kernel)
theorem x_R_133 : Cond.methodLink "NeedsALoser$Reader" 133 (mn 82) ∈ WALL := w_in 598 (by decide +kernel) (by decide +kernel)
theorem x_JS_335 : Cond.methodLink "java/lang/String" 335 (mn 83) ∈ WALL := w_in 602 (by decide +kernel) (by decide +kernel)
theorem x_JS_38 : Cond.fieldLink "java/lang/String" 38 "java/lang/String" "COMPACT_STRINGS" "Z" ∈ WALL := w_in 606 (by decide +kernel) (by decide +kernel)
theorem x_R_138 : Cond.methodLink "NeedsALoser$Reader" 138 (mn 84) ∈ WALL := w_in 608 (by decide +kernel) (by decide +kernel)
theorem x_JS_492 : Cond.methodLink "java/lang/String" 492 (mn 85) ∈ WALL := w_in 612 (by decide +kernel) (by decide +kernel)
theorem x_JS_495 : Cond.methodLink "java/lang/String" 495 (mn 86) ∈ WALL := w_in 616 (by decide +kernel) (by decide +kernel)
theorem x_JL_9 : Cond.methodLink "java/lang/StringLatin1" 9 (mn 87) ∈ WALL := w_in 619 (by decide +kernel) (by decide +kernel)
theorem x_JS_1053 : Cond.fieldLink "java/lang/String" 1053 "jdk/internal/util/Preconditions" "SIOOBE_FORMATTER" "Ljava/util/function/BiFunction;" ∈ WALL := w_in 622 (by decide +kernel) (by decide +kernel)
theorem x_JS_1059 : Cond.methodLink "java/lang/String" 1059 (mn 88) ∈ WALL := w_in 624 (by decide +kernel) (by decide +kernel)
theorem x_JS_498 : Cond.methodLink "java/lang/String" 498 (mn 89) ∈ WALL := w_in 627 (by decide +kernel) (by decide +kernel)
theorem x_JU_67 : Cond.methodLink "java/lang/StringUTF16" 67 (mn 90) ∈ WALL := w_in 630 (by decide +kernel) (by decide +kernel)
theorem x_JU_48 : Cond.methodLink "java/lang/StringUTF16" 48 (mn 91) ∈ WALL := w_in 633 (by decide +kernel) (by decide +kernel)
theorem x_JU_414 : Cond.methodLink "java/lang/StringUTF16" 414 (mn 87) ∈ WALL := w_in 636 (by decide +kernel) (by decide +kernel)
theorem x_JU_71 : Cond.methodLink "java/lang/StringUTF16" 71 (mn 92) ∈ WALL := w_in 637 (by decide +kernel) (by decide +kernel)
theorem x_JU_44 : Cond.fieldLink "java/lang/StringUTF16" 44 "java/lang/StringUTF16" "$assertionsDisabled" "Z" ∈ WALL := w_in 640 (by decide +kernel) (by decide +kernel)
theorem x_JU_59 : Cond.fieldLink "java/lang/StringUTF16" 59 "java/lang/StringUTF16" "HI_BYTE_SHIFT" "I" ∈ WALL := w_in 642 (by decide +kernel) (by decide +kernel)
theorem x_JU_63 : Cond.fieldLink "java/lang/StringUTF16" 63 "java/lang/StringUTF16" "LO_BYTE_SHIFT" "I" ∈ WALL := w_in 644 (by decide +kernel) (by decide +kernel)
theorem x_R_51 : Cond.methodLink "NeedsALoser$Reader" 51 (mn 93) ∈ WALL := w_in 646 (by decide +kernel) (by decide +kernel)
theorem x_R_42 : Cond.methodLink "NeedsALoser$Reader" 42 (mn 94) ∈ WALL := w_in 650 (by decide +kernel) (by decide +kernel)
theorem x_R_86 : Cond.methodLink "NeedsALoser$Reader" 86 (mn 51) ∈ WALL := w_in 654 (by decide +kernel) (by decide +kernel)
theorem x_R_56 : Cond.methodLink "NeedsALoser$Reader" 56 (mn 95) ∈ WALL := w_in 656 (by decide +kernel) (by decide +kernel)
theorem x_R_93 : Cond.methodLink "NeedsALoser$Reader" 93 (mn 96) ∈ WALL := w_in 660 (by decide +kernel) (by decide +kernel)
theorem x_R_122 : Cond.methodLink "NeedsALoser$Reader" 122 (mn 97) ∈ WALL := w_in 664 (by decide +kernel) (by decide +kernel)
theorem x_R_97 : Cond.methodLink "NeedsALoser$Reader" 97 (mn 54) ∈ WALL := w_in 668 (by decide +kernel) (by decide +kernel)
theorem x_R_103 : Cond.methodLink "NeedsALoser$Reader" 103 (mn 58) ∈ WALL := w_in 670 (by decide +kernel) (by decide +kernel)
theorem x_R_61 : Cond.methodLink "NeedsALoser$Reader" 61 (mn 98) ∈ WALL := w_in 672 (by decide +kernel) (by decide +kernel)
theorem x_R_66 : Cond.methodLink "NeedsALoser$Reader" 66 (mn 99) ∈ WALL := w_in 677 (by decide +kernel) (by decide +kernel)
theorem x_R_107 : Cond.methodLink "NeedsALoser$Reader" 107 (mn 62) ∈ WALL := w_in 681 (by decide +kernel) (by decide +kernel)
theorem x_R_73 : Cond.methodLink "NeedsALoser$Reader" 73 (mn 100) ∈ WALL := w_in 683 (by decide +kernel) (by decide +kernel)
theorem x_R_111 : Cond.methodLink "NeedsALoser$Reader" 111 (mn 65) ∈ WALL := w_in 687 (by decide +kernel) (by decide +kernel)
theorem x_R_115 : Cond.methodLink "NeedsALoser$Reader" 115 (mn 66) ∈ WALL := w_in 688 (by decide +kernel) (by decide +kernel)
theorem x_R_118 : Cond.methodLink "NeedsALoser$Reader" 118 (mn 68) ∈ WALL := w_in 689 (by decide +kernel) (by decide +kernel)
theorem ac_byte : Cond.arrayClass .byte ∈ WALL := w_in 693 (by decide +kernel) (by decide +kernel)
theorem x_L_84 : Cond.methodLink "NeedsALoserLaw" 84 (mn 101) ∈ WALL := w_in 694 (by decide +kernel) (by decide +kernel)
theorem x_N_189 : Cond.methodLink "NeedsALoser" 189 (mn 57) ∈ WALL := w_in 698 (by decide +kernel) (by decide +kernel)
theorem x_L_88 : Cond.methodLink "NeedsALoserLaw" 88 (mn 102) ∈ WALL := w_in 699 (by decide +kernel) (by decide +kernel)
theorem x_N_208 : Cond.methodLink "NeedsALoser" 208 (mn 40) ∈ WALL := w_in 703 (by decide +kernel) (by decide +kernel)
theorem x_N_212 : Cond.methodLink "NeedsALoser" 212 (mn 103) ∈ WALL := w_in 704 (by decide +kernel) (by decide +kernel)
theorem x_N_343 : Cond.constant "NeedsALoser" 343 (-1000000 : Int32) ∈ WALL := w_in 708 (by decide +kernel) (by decide +kernel)
theorem x_L_92 : Cond.methodLink "NeedsALoserLaw" 92 (mn 104) ∈ WALL := w_in 709 (by decide +kernel) (by decide +kernel)
theorem x_L_96 : Cond.methodLink "NeedsALoserLaw" 96 (mn 105) ∈ WALL := w_in 713 (by decide +kernel) (by decide +kernel)
theorem x_N_218 : Cond.methodLink "NeedsALoser" 218 (mn 38) ∈ WALL := w_in 717 (by decide +kernel) (by decide +kernel)
theorem x_L_100 : Cond.methodLink "NeedsALoserLaw" 100 (mn 106) ∈ WALL := w_in 718 (by decide +kernel) (by decide +kernel)
theorem x_N_221 : Cond.methodLink "NeedsALoser" 221 (mn 39) ∈ WALL := w_in 722 (by decide +kernel) (by decide +kernel)
theorem x_N_224 : Cond.methodLink "NeedsALoser" 224 (mn 48) ∈ WALL := w_in 723 (by decide +kernel) (by decide +kernel)
theorem x_L_104 : Cond.methodLink "NeedsALoserLaw" 104 (mn 107) ∈ WALL := w_in 724 (by decide +kernel) (by decide +kernel)
theorem x_L_108 : Cond.methodLink "NeedsALoserLaw" 108 (mn 108) ∈ WALL := w_in 728 (by decide +kernel) (by decide +kernel)
theorem x_N_227 : Cond.methodLink "NeedsALoser" 227 (mn 109) ∈ WALL := w_in 732 (by decide +kernel) (by decide +kernel)
theorem x_N_230 : Cond.methodLink "NeedsALoser" 230 (mn 110) ∈ WALL := w_in 736 (by decide +kernel) (by decide +kernel)
theorem x_W_22 : Cond.methodLink "NeedsALoser$Week" 22 (mn 111) ∈ WALL := w_in 740 (by decide +kernel) (by decide +kernel)
theorem x_W_30 : Cond.methodLink "NeedsALoser$Week" 30 (mn 26) ∈ WALL := w_in 744 (by decide +kernel) (by decide +kernel)
theorem x_W_39 : Cond.methodLink "NeedsALoser$Week" 39 (mn 112) ∈ WALL := w_in 745 (by decide +kernel) (by decide +kernel)
theorem x_W_87 : Cond.methodLink "NeedsALoser$Week" 87 (mn 61) ∈ WALL := w_in 749 (by decide +kernel) (by decide +kernel)
theorem x_W_43 : Cond.methodLink "NeedsALoser$Week" 43 (mn 37) ∈ WALL := w_in 750 (by decide +kernel) (by decide +kernel)
theorem x_W_47 : Cond.methodLinkNest "NeedsALoser$Week" 47 (mn 43) "NeedsALoser" ∈ NST := n_in 751 (by decide +kernel) (by decide +kernel)
theorem x_W_51 : Cond.methodLink "NeedsALoser$Week" 51 (mn 113) ∈ WALL := w_in 752 (by decide +kernel) (by decide +kernel)
theorem x_W_90 : Cond.methodLinkNest "NeedsALoser$Week" 90 (mn 12) "NeedsALoser" ∈ NST := n_in 756 (by decide +kernel) (by decide +kernel)
theorem x_L_112 : Cond.methodLink "NeedsALoserLaw" 112 (mn 114) ∈ WALL := w_in 757 (by decide +kernel) (by decide +kernel)
theorem x_N_234 : Cond.methodLink "NeedsALoser" 234 (mn 115) ∈ WALL := w_in 761 (by decide +kernel) (by decide +kernel)
theorem x_W_61 : Cond.methodLink "NeedsALoser$Week" 61 (mn 116) ∈ WALL := w_in 765 (by decide +kernel) (by decide +kernel)
theorem x_JI_265 : Cond.constant "java/lang/Integer" 265 (1431655765 : Int32) ∈ WALL := w_in 768 (by decide +kernel) (by decide +kernel)
theorem x_JI_266 : Cond.constant "java/lang/Integer" 266 (858993459 : Int32) ∈ WALL := w_in 769 (by decide +kernel) (by decide +kernel)
theorem x_JI_267 : Cond.constant "java/lang/Integer" 267 (252645135 : Int32) ∈ WALL := w_in 770 (by decide +kernel) (by decide +kernel)
theorem x_W_73 : Cond.methodLink "NeedsALoser$Week" 73 (mn 117) ∈ WALL := w_in 771 (by decide +kernel) (by decide +kernel)
theorem x_W_77 : Cond.methodLinkNest "NeedsALoser$Week" 77 (mn 11) "NeedsALoser" ∈ NST := n_in 775 (by decide +kernel) (by decide +kernel)
theorem x_W_94 : Cond.methodLink "NeedsALoser$Week" 94 (mn 48) ∈ WALL := w_in 776 (by decide +kernel) (by decide +kernel)
theorem x_L_116 : Cond.methodLink "NeedsALoserLaw" 116 (mn 118) ∈ WALL := w_in 777 (by decide +kernel) (by decide +kernel)
theorem x_N_238 : Cond.methodLink "NeedsALoser" 238 (mn 119) ∈ WALL := w_in 781 (by decide +kernel) (by decide +kernel)
theorem x_N_241 : Cond.methodLink "NeedsALoser" 241 (mn 120) ∈ WALL := w_in 785 (by decide +kernel) (by decide +kernel)
theorem x_W_55 : Cond.methodLink "NeedsALoser$Week" 55 (mn 42) ∈ WALL := w_in 789 (by decide +kernel) (by decide +kernel)
theorem x_L_120 : Cond.methodLink "NeedsALoserLaw" 120 (mn 121) ∈ WALL := w_in 790 (by decide +kernel) (by decide +kernel)
theorem x_L_124 : Cond.methodLink "NeedsALoserLaw" 124 (mn 122) ∈ WALL := w_in 794 (by decide +kernel) (by decide +kernel)
theorem x_N_245 : Cond.methodLink "NeedsALoser" 245 (mn 123) ∈ WALL := w_in 798 (by decide +kernel) (by decide +kernel)
theorem x_W_81 : Cond.methodLink "NeedsALoser$Week" 81 (mn 124) ∈ WALL := w_in 802 (by decide +kernel) (by decide +kernel)
theorem x_T_115 : Cond.methodLink "NeedsALoser$Town" 115 (mn 125) ∈ WALL := w_in 806 (by decide +kernel) (by decide +kernel)
theorem x_L_128 : Cond.methodLink "NeedsALoserLaw" 128 (mn 126) ∈ WALL := w_in 809 (by decide +kernel) (by decide +kernel)
theorem x_L_224 : Cond.methodLink "NeedsALoserLaw" 224 (mn 127) ∈ WALL := w_in 813 (by decide +kernel) (by decide +kernel)
theorem x_N_248 : Cond.methodLink "NeedsALoser" 248 (mn 128) ∈ WALL := w_in 817 (by decide +kernel) (by decide +kernel)
theorem x_W_67 : Cond.methodLink "NeedsALoser$Week" 67 (mn 129) ∈ WALL := w_in 821 (by decide +kernel) (by decide +kernel)
theorem x_T_114 : Cond.constant "NeedsALoser$Town" 114 (1103515245 : Int32) ∈ WALL := w_in 825 (by decide +kernel) (by decide +kernel)
theorem x_W_70 : Cond.methodLink "NeedsALoser$Week" 70 (mn 130) ∈ WALL := w_in 826 (by decide +kernel) (by decide +kernel)
theorem x_L_228 : Cond.methodLink "NeedsALoserLaw" 228 (mn 131) ∈ WALL := w_in 829 (by decide +kernel) (by decide +kernel)
theorem x_L_132 : Cond.methodLink "NeedsALoserLaw" 132 (mn 132) ∈ WALL := w_in 833 (by decide +kernel) (by decide +kernel)
theorem x_N_251 : Cond.methodLink "NeedsALoser" 251 (mn 133) ∈ WALL := w_in 837 (by decide +kernel) (by decide +kernel)
theorem x_N_254 : Cond.methodLink "NeedsALoser" 254 (mn 134) ∈ WALL := w_in 841 (by decide +kernel) (by decide +kernel)
theorem x_E_31 : Cond.methodLink "NeedsALoser$Search" 31 (mn 135) ∈ WALL := w_in 845 (by decide +kernel) (by decide +kernel)
theorem x_E_94 : Cond.methodLink "NeedsALoser$Search" 94 (mn 136) ∈ WALL := w_in 849 (by decide +kernel) (by decide +kernel)
theorem x_E_127 : Cond.methodLink "NeedsALoser$Search" 127 (mn 137) ∈ WALL := w_in 853 (by decide +kernel) (by decide +kernel)
theorem x_E_97 : Cond.methodLink "NeedsALoser$Search" 97 (mn 138) ∈ WALL := w_in 856 (by decide +kernel) (by decide +kernel)
theorem x_JI_264 : Cond.constant "java/lang/Integer" 264 (65536 : Int32) ∈ WALL := w_in 859 (by decide +kernel) (by decide +kernel)
theorem x_E_130 : Cond.methodLink "NeedsALoser$Search" 130 (mn 61) ∈ WALL := w_in 860 (by decide +kernel) (by decide +kernel)
theorem x_E_106 : Cond.constantLong "NeedsALoser$Search" 106 (-4611686018427387904 : Int64) ∈ WALL := w_in 861 (by decide +kernel) (by decide +kernel)
theorem x_E_111 : Cond.methodLinkNest "NeedsALoser$Search" 111 (mn 43) "NeedsALoser" ∈ NST := n_in 862 (by decide +kernel) (by decide +kernel)
theorem x_E_114 : Cond.methodLink "NeedsALoser$Search" 114 (mn 139) ∈ WALL := w_in 863 (by decide +kernel) (by decide +kernel)
theorem x_E_49 : Cond.methodLink "NeedsALoser$Search" 49 (mn 140) ∈ WALL := w_in 867 (by decide +kernel) (by decide +kernel)
theorem x_E_133 : Cond.methodLink "NeedsALoser$Search" 133 (mn 48) ∈ WALL := w_in 870 (by decide +kernel) (by decide +kernel)
theorem x_E_88 : Cond.constantLong "NeedsALoser$Search" 88 (4294967296 : Int64) ∈ WALL := w_in 871 (by decide +kernel) (by decide +kernel)
theorem x_E_118 : Cond.methodLink "NeedsALoser$Search" 118 (mn 141) ∈ WALL := w_in 872 (by decide +kernel) (by decide +kernel)
theorem x_E_121 : Cond.methodLink "NeedsALoser$Search" 121 (mn 142) ∈ WALL := w_in 876 (by decide +kernel) (by decide +kernel)
theorem x_E_125 : Cond.methodLink "NeedsALoser$Search" 125 (mn 143) ∈ WALL := w_in 880 (by decide +kernel) (by decide +kernel)
theorem x_E_35 : Cond.methodLink "NeedsALoser$Search" 35 (mn 144) ∈ WALL := w_in 883 (by decide +kernel) (by decide +kernel)
theorem x_E_90 : Cond.methodLink "NeedsALoser$Search" 90 (mn 145) ∈ WALL := w_in 886 (by decide +kernel) (by decide +kernel)
theorem x_L_136 : Cond.methodLink "NeedsALoserLaw" 136 (mn 146) ∈ WALL := w_in 889 (by decide +kernel) (by decide +kernel)
theorem x_N_257 : Cond.methodLink "NeedsALoser" 257 (mn 147) ∈ WALL := w_in 893 (by decide +kernel) (by decide +kernel)
theorem x_E_39 : Cond.methodLink "NeedsALoser$Search" 39 (mn 133) ∈ WALL := w_in 897 (by decide +kernel) (by decide +kernel)
theorem x_E_45 : Cond.methodLink "NeedsALoser$Search" 45 (mn 148) ∈ WALL := w_in 898 (by decide +kernel) (by decide +kernel)
theorem x_E_53 : Cond.constantLong "NeedsALoser$Search" 53 (15 : Int64) ∈ WALL := w_in 901 (by decide +kernel) (by decide +kernel)
theorem x_L_140 : Cond.methodLink "NeedsALoserLaw" 140 (mn 149) ∈ WALL := w_in 902 (by decide +kernel) (by decide +kernel)
theorem x_N_260 : Cond.methodLink "NeedsALoser" 260 (mn 132) ∈ WALL := w_in 906 (by decide +kernel) (by decide +kernel)
theorem x_L_144 : Cond.methodLink "NeedsALoserLaw" 144 (mn 150) ∈ WALL := w_in 907 (by decide +kernel) (by decide +kernel)
theorem x_L_148 : Cond.methodLink "NeedsALoserLaw" 148 (mn 151) ∈ WALL := w_in 911 (by decide +kernel) (by decide +kernel)
theorem x_L_152 : Cond.methodLink "NeedsALoserLaw" 152 (mn 152) ∈ WALL := w_in 915 (by decide +kernel) (by decide +kernel)
theorem x_N_263 : Cond.methodLink "NeedsALoser" 263 (mn 153) ∈ WALL := w_in 919 (by decide +kernel) (by decide +kernel)
theorem x_E_55 : Cond.constantLong "NeedsALoser$Search" 55 (127 : Int64) ∈ WALL := w_in 923 (by decide +kernel) (by decide +kernel)
theorem x_L_156 : Cond.methodLink "NeedsALoserLaw" 156 (mn 154) ∈ WALL := w_in 924 (by decide +kernel) (by decide +kernel)
theorem x_N_266 : Cond.methodLink "NeedsALoser" 266 (mn 155) ∈ WALL := w_in 928 (by decide +kernel) (by decide +kernel)
theorem x_L_160 : Cond.methodLink "NeedsALoserLaw" 160 (mn 156) ∈ WALL := w_in 931 (by decide +kernel) (by decide +kernel)
theorem x_L_164 : Cond.methodLink "NeedsALoserLaw" 164 (mn 157) ∈ WALL := w_in 935 (by decide +kernel) (by decide +kernel)
theorem x_N_269 : Cond.methodLink "NeedsALoser" 269 (mn 41) ∈ WALL := w_in 939 (by decide +kernel) (by decide +kernel)
theorem x_L_168 : Cond.methodLink "NeedsALoserLaw" 168 (mn 158) ∈ WALL := w_in 940 (by decide +kernel) (by decide +kernel)
theorem x_N_275 : Cond.methodLink "NeedsALoser" 275 (mn 137) ∈ WALL := w_in 944 (by decide +kernel) (by decide +kernel)
theorem x_L_172 : Cond.methodLink "NeedsALoserLaw" 172 (mn 159) ∈ WALL := w_in 945 (by decide +kernel) (by decide +kernel)
theorem x_L_176 : Cond.methodLink "NeedsALoserLaw" 176 (mn 160) ∈ WALL := w_in 949 (by decide +kernel) (by decide +kernel)
theorem x_N_280 : Cond.methodLink "NeedsALoser" 280 (mn 161) ∈ WALL := w_in 953 (by decide +kernel) (by decide +kernel)
theorem x_E_61 : Cond.methodLink "NeedsALoser$Search" 61 (mn 49) ∈ WALL := w_in 957 (by decide +kernel) (by decide +kernel)
theorem x_E_64 : Cond.methodLinkNest "NeedsALoser$Search" 64 (mn 12) "NeedsALoser" ∈ NST := n_in 958 (by decide +kernel) (by decide +kernel)
theorem x_E_68 : Cond.methodLink "NeedsALoser$Search" 68 (mn 162) ∈ WALL := w_in 959 (by decide +kernel) (by decide +kernel)
theorem x_E_102 : Cond.methodLinkNest "NeedsALoser$Search" 102 (mn 11) "NeedsALoser" ∈ NST := n_in 963 (by decide +kernel) (by decide +kernel)
theorem x_E_80 : Cond.methodLink "NeedsALoser$Search" 80 (mn 163) ∈ WALL := w_in 964 (by decide +kernel) (by decide +kernel)
theorem x_L_180 : Cond.methodLink "NeedsALoserLaw" 180 (mn 164) ∈ WALL := w_in 967 (by decide +kernel) (by decide +kernel)
theorem x_N_283 : Cond.methodLink "NeedsALoser" 283 (mn 165) ∈ WALL := w_in 971 (by decide +kernel) (by decide +kernel)
theorem x_N_286 : Cond.methodLink "NeedsALoser" 286 (mn 166) ∈ WALL := w_in 975 (by decide +kernel) (by decide +kernel)
theorem x_N_351 : Cond.methodLink "NeedsALoser" 351 (mn 44) ∈ WALL := w_in 979 (by decide +kernel) (by decide +kernel)
theorem x_L_184 : Cond.methodLink "NeedsALoserLaw" 184 (mn 167) ∈ WALL := w_in 980 (by decide +kernel) (by decide +kernel)
theorem x_N_289 : Cond.methodLink "NeedsALoser" 289 (mn 168) ∈ WALL := w_in 984 (by decide +kernel) (by decide +kernel)
theorem x_L_188 : Cond.methodLink "NeedsALoserLaw" 188 (mn 169) ∈ WALL := w_in 988 (by decide +kernel) (by decide +kernel)
theorem x_N_292 : Cond.methodLink "NeedsALoser" 292 (mn 170) ∈ WALL := w_in 992 (by decide +kernel) (by decide +kernel)
theorem x_E_72 : Cond.methodLink "NeedsALoser$Search" 72 (mn 39) ∈ WALL := w_in 996 (by decide +kernel) (by decide +kernel)
theorem x_E_76 : Cond.methodLink "NeedsALoser$Search" 76 (mn 40) ∈ WALL := w_in 997 (by decide +kernel) (by decide +kernel)
theorem x_L_192 : Cond.methodLink "NeedsALoserLaw" 192 (mn 171) ∈ WALL := w_in 998 (by decide +kernel) (by decide +kernel)
theorem x_L_196 : Cond.methodLink "NeedsALoserLaw" 196 (mn 172) ∈ WALL := w_in 1002 (by decide +kernel) (by decide +kernel)
theorem x_N_295 : Cond.methodLink "NeedsALoser" 295 (mn 141) ∈ WALL := w_in 1006 (by decide +kernel) (by decide +kernel)
theorem x_N_298 : Cond.methodLink "NeedsALoser" 298 (mn 116) ∈ WALL := w_in 1007 (by decide +kernel) (by decide +kernel)
theorem x_L_200 : Cond.methodLink "NeedsALoserLaw" 200 (mn 173) ∈ WALL := w_in 1008 (by decide +kernel) (by decide +kernel)
theorem x_N_303 : Cond.methodLink "NeedsALoser" 303 (mn 174) ∈ WALL := w_in 1012 (by decide +kernel) (by decide +kernel)
theorem x_N_306 : Cond.methodLink "NeedsALoser" 306 (mn 175) ∈ WALL := w_in 1016 (by decide +kernel) (by decide +kernel)
theorem x_T_111 : Cond.methodLink "NeedsALoser$Town" 111 (mn 48) ∈ WALL := w_in 1020 (by decide +kernel) (by decide +kernel)
theorem x_L_204 : Cond.methodLink "NeedsALoserLaw" 204 (mn 176) ∈ WALL := w_in 1021 (by decide +kernel) (by decide +kernel)
theorem x_L_208 : Cond.methodLink "NeedsALoserLaw" 208 (mn 177) ∈ WALL := w_in 1025 (by decide +kernel) (by decide +kernel)
theorem x_N_315 : Cond.methodLink "NeedsALoser" 315 (mn 163) ∈ WALL := w_in 1029 (by decide +kernel) (by decide +kernel)
theorem x_L_212 : Cond.methodLink "NeedsALoserLaw" 212 (mn 178) ∈ WALL := w_in 1030 (by decide +kernel) (by decide +kernel)
theorem x_L_216 : Cond.methodLink "NeedsALoserLaw" 216 (mn 179) ∈ WALL := w_in 1034 (by decide +kernel) (by decide +kernel)
theorem x_L_220 : Cond.methodLink "NeedsALoserLaw" 220 (mn 180) ∈ WALL := w_in 1038 (by decide +kernel) (by decide +kernel)
theorem x_L_232 : Cond.methodLink "NeedsALoserLaw" 232 (mn 181) ∈ WALL := w_in 1042 (by decide +kernel) (by decide +kernel)
theorem x_L_236 : Cond.methodLink "NeedsALoserLaw" 236 (mn 182) ∈ WALL := w_in 1046 (by decide +kernel) (by decide +kernel)
theorem x_L_240 : Cond.methodLink "NeedsALoserLaw" 240 (mn 183) ∈ WALL := w_in 1050 (by decide +kernel) (by decide +kernel)
theorem x_L_244 : Cond.methodLink "NeedsALoserLaw" 244 (mn 184) ∈ WALL := w_in 1054 (by decide +kernel) (by decide +kernel)
theorem x_L_248 : Cond.methodLink "NeedsALoserLaw" 248 (mn 185) ∈ WALL := w_in 1058 (by decide +kernel) (by decide +kernel)
theorem x_N_336 : Cond.methodLink "NeedsALoser" 336 (mn 186) ∈ WALL := w_in 1062 (by decide +kernel) (by decide +kernel)
theorem x_L_10 : Cond.classLink "NeedsALoserLaw" 10 "NeedsALoserModel" ∈ WALL := w_in 1066 (by decide +kernel) (by decide +kernel)
theorem x_L_12 : Cond.methodLink "NeedsALoserLaw" 12 (mn 187) ∈ WALL := w_in 1068 (by decide +kernel) (by decide +kernel)
theorem x_M_1 : Cond.methodLink "NeedsALoserModel" 1 (mn 1) ∈ WALL := w_in 1071 (by decide +kernel) (by decide +kernel)
theorem x_M_19 : Cond.classLink "NeedsALoserModel" 19 "[[J" ∈ WALL := w_in 1072 (by decide +kernel) (by decide +kernel)
theorem x_M_46 : Cond.classLink "NeedsALoserModel" 46 "[[I" ∈ WALL := w_in 1074 (by decide +kernel) (by decide +kernel)
theorem x_M_7 : Cond.fieldLink "NeedsALoserModel" 7 Rk6 (Fk6 0).2.1 (Fk6 0).2.2.1 ∈ WALL := w_in 1076 (by decide +kernel) (by decide +kernel)
theorem x_M_13 : Cond.fieldLink "NeedsALoserModel" 13 Rk6 (Fk6 1).2.1 (Fk6 1).2.2.1 ∈ WALL := w_in 1077 (by decide +kernel) (by decide +kernel)
theorem x_M_16 : Cond.fieldLink "NeedsALoserModel" 16 Rk6 (Fk6 2).2.1 (Fk6 2).2.2.1 ∈ WALL := w_in 1078 (by decide +kernel) (by decide +kernel)
theorem x_M_21 : Cond.fieldLink "NeedsALoserModel" 21 Rk6 (Fk6 3).2.1 (Fk6 3).2.2.1 ∈ WALL := w_in 1079 (by decide +kernel) (by decide +kernel)
theorem x_M_24 : Cond.fieldLink "NeedsALoserModel" 24 Rk6 (Fk6 4).2.1 (Fk6 4).2.2.1 ∈ WALL := w_in 1080 (by decide +kernel) (by decide +kernel)
theorem x_M_28 : Cond.fieldLink "NeedsALoserModel" 28 Rk6 (Fk6 5).2.1 (Fk6 5).2.2.1 ∈ WALL := w_in 1081 (by decide +kernel) (by decide +kernel)
theorem x_M_31 : Cond.fieldLink "NeedsALoserModel" 31 Rk6 (Fk6 6).2.1 (Fk6 6).2.2.1 ∈ WALL := w_in 1082 (by decide +kernel) (by decide +kernel)
theorem x_M_34 : Cond.fieldLink "NeedsALoserModel" 34 Rk6 (Fk6 7).2.1 (Fk6 7).2.2.1 ∈ WALL := w_in 1083 (by decide +kernel) (by decide +kernel)
theorem x_M_132 : Cond.fieldLink "NeedsALoserModel" 132 Rk6 (Fk6 8).2.1 (Fk6 8).2.2.1 ∈ WALL := w_in 1084 (by decide +kernel) (by decide +kernel)
theorem x_M_37 : Cond.fieldLink "NeedsALoserModel" 37 Rk6 (Fk6 9).2.1 (Fk6 9).2.2.1 ∈ WALL := w_in 1085 (by decide +kernel) (by decide +kernel)
theorem x_M_73 : Cond.fieldLink "NeedsALoserModel" 73 Rk6 (Fk6 10).2.1 (Fk6 10).2.2.1 ∈ WALL := w_in 1086 (by decide +kernel) (by decide +kernel)
theorem x_M_40 : Cond.fieldLink "NeedsALoserModel" 40 Rk6 (Fk6 11).2.1 (Fk6 11).2.2.1 ∈ WALL := w_in 1087 (by decide +kernel) (by decide +kernel)
theorem x_M_43 : Cond.fieldLink "NeedsALoserModel" 43 Rk6 (Fk6 12).2.1 (Fk6 12).2.2.1 ∈ WALL := w_in 1088 (by decide +kernel) (by decide +kernel)
theorem x_M_80 : Cond.fieldLink "NeedsALoserModel" 80 Rk6 (Fk6 13).2.1 (Fk6 13).2.2.1 ∈ WALL := w_in 1089 (by decide +kernel) (by decide +kernel)
theorem x_M_48 : Cond.fieldLink "NeedsALoserModel" 48 Rk6 (Fk6 14).2.1 (Fk6 14).2.2.1 ∈ WALL := w_in 1090 (by decide +kernel) (by decide +kernel)
theorem x_M_51 : Cond.fieldLink "NeedsALoserModel" 51 Rk6 (Fk6 15).2.1 (Fk6 15).2.2.1 ∈ WALL := w_in 1091 (by decide +kernel) (by decide +kernel)
theorem x_M_54 : Cond.fieldLink "NeedsALoserModel" 54 Rk6 (Fk6 16).2.1 (Fk6 16).2.2.1 ∈ WALL := w_in 1092 (by decide +kernel) (by decide +kernel)
theorem x_M_279 : Cond.fieldLink "NeedsALoserModel" 279 Rk6 (Fk6 17).2.1 (Fk6 17).2.2.1 ∈ WALL := w_in 1093 (by decide +kernel) (by decide +kernel)
theorem x_M_282 : Cond.fieldLink "NeedsALoserModel" 282 Rk6 (Fk6 18).2.1 (Fk6 18).2.2.1 ∈ WALL := w_in 1094 (by decide +kernel) (by decide +kernel)
theorem x_M_57 : Cond.fieldLink "NeedsALoserModel" 57 Rk6 (Fk6 19).2.1 (Fk6 19).2.2.1 ∈ WALL := w_in 1095 (by decide +kernel) (by decide +kernel)
theorem x_M_353 : Cond.fieldLink "NeedsALoserModel" 353 Rk6 (Fk6 20).2.1 (Fk6 20).2.2.1 ∈ WALL := w_in 1096 (by decide +kernel) (by decide +kernel)
theorem x_M_344 : Cond.fieldLink "NeedsALoserModel" 344 Rk6 (Fk6 21).2.1 (Fk6 21).2.2.1 ∈ WALL := w_in 1097 (by decide +kernel) (by decide +kernel)
theorem x_M_135 : Cond.fieldLink "NeedsALoserModel" 135 Rk6 (Fk6 22).2.1 (Fk6 22).2.2.1 ∈ WALL := w_in 1098 (by decide +kernel) (by decide +kernel)
theorem x_M_144 : Cond.fieldLink "NeedsALoserModel" 144 Rk6 (Fk6 23).2.1 (Fk6 23).2.2.1 ∈ WALL := w_in 1099 (by decide +kernel) (by decide +kernel)
theorem x_M_138 : Cond.fieldLink "NeedsALoserModel" 138 Rk6 (Fk6 24).2.1 (Fk6 24).2.2.1 ∈ WALL := w_in 1100 (by decide +kernel) (by decide +kernel)
theorem x_M_141 : Cond.fieldLink "NeedsALoserModel" 141 Rk6 (Fk6 25).2.1 (Fk6 25).2.2.1 ∈ WALL := w_in 1101 (by decide +kernel) (by decide +kernel)
theorem x_M_154 : Cond.fieldLink "NeedsALoserModel" 154 Rk6 (Fk6 26).2.1 (Fk6 26).2.2.1 ∈ WALL := w_in 1102 (by decide +kernel) (by decide +kernel)
theorem x_M_61 : Cond.fieldLink "NeedsALoserModel" 61 Rk6 (Fk6 27).2.1 (Fk6 27).2.2.1 ∈ WALL := w_in 1103 (by decide +kernel) (by decide +kernel)
theorem x_M_222 : Cond.fieldLink "NeedsALoserModel" 222 Rk6 (Fk6 28).2.1 (Fk6 28).2.2.1 ∈ WALL := w_in 1104 (by decide +kernel) (by decide +kernel)
theorem x_M_64 : Cond.fieldLink "NeedsALoserModel" 64 Rk6 (Fk6 29).2.1 (Fk6 29).2.2.1 ∈ WALL := w_in 1105 (by decide +kernel) (by decide +kernel)
theorem x_M_67 : Cond.fieldLink "NeedsALoserModel" 67 Rk6 (Fk6 30).2.1 (Fk6 30).2.2.1 ∈ WALL := w_in 1106 (by decide +kernel) (by decide +kernel)
theorem x_M_70 : Cond.fieldLink "NeedsALoserModel" 70 Rk6 (Fk6 31).2.1 (Fk6 31).2.2.1 ∈ WALL := w_in 1107 (by decide +kernel) (by decide +kernel)
theorem x_M_288 : Cond.fieldLink "NeedsALoserModel" 288 Rk6 (Fk6 32).2.1 (Fk6 32).2.2.1 ∈ WALL := w_in 1108 (by decide +kernel) (by decide +kernel)
theorem x_L_17 : Cond.methodLink "NeedsALoserLaw" 17 (mn 188) ∈ WALL := w_in 1176 (by decide +kernel) (by decide +kernel)
theorem x_M_83 : Cond.constantLong "NeedsALoserModel" 83 (7 : Int64) ∈ WALL := w_in 1180 (by decide +kernel) (by decide +kernel)
theorem x_M_76 : Cond.methodLink "NeedsALoserModel" 76 (mn 189) ∈ WALL := w_in 1181 (by decide +kernel) (by decide +kernel)
theorem x_M_85 : Cond.constantLong "NeedsALoserModel" 85 (4 : Int64) ∈ WALL := w_in 1184 (by decide +kernel) (by decide +kernel)
theorem x_M_87 : Cond.constantLong "NeedsALoserModel" 87 (40 : Int64) ∈ WALL := w_in 1185 (by decide +kernel) (by decide +kernel)
theorem x_M_89 : Cond.methodLink "NeedsALoserModel" 89 (mn 190) ∈ WALL := w_in 1186 (by decide +kernel) (by decide +kernel)
theorem x_L_24 : Cond.methodLink "NeedsALoserLaw" 24 (mn 191) ∈ WALL := w_in 1190 (by decide +kernel) (by decide +kernel)
theorem x_M_93 : Cond.methodLink "NeedsALoserModel" 93 (mn 192) ∈ WALL := w_in 1194 (by decide +kernel) (by decide +kernel)
theorem x_M_96 : Cond.methodLink "NeedsALoserModel" 96 (mn 193) ∈ WALL := w_in 1198 (by decide +kernel) (by decide +kernel)
theorem x_L_29 : Cond.methodLink "NeedsALoserLaw" 29 (mn 194) ∈ WALL := w_in 1201 (by decide +kernel) (by decide +kernel)
theorem x_L_34 : Cond.methodLink "NeedsALoserLaw" 34 (mn 195) ∈ WALL := w_in 1205 (by decide +kernel) (by decide +kernel)
theorem x_L_39 : Cond.methodLink "NeedsALoserLaw" 39 (mn 196) ∈ WALL := w_in 1209 (by decide +kernel) (by decide +kernel)
theorem x_L_43 : Cond.methodLink "NeedsALoserLaw" 43 (mn 197) ∈ WALL := w_in 1213 (by decide +kernel) (by decide +kernel)
theorem x_M_100 : Cond.constantLong "NeedsALoserModel" 100 (6 : Int64) ∈ WALL := w_in 1217 (by decide +kernel) (by decide +kernel)
theorem x_M_102 : Cond.constantLong "NeedsALoserModel" 102 (99 : Int64) ∈ WALL := w_in 1218 (by decide +kernel) (by decide +kernel)
theorem x_L_48 : Cond.methodLink "NeedsALoserLaw" 48 (mn 198) ∈ WALL := w_in 1219 (by decide +kernel) (by decide +kernel)
theorem x_M_104 : Cond.methodLink "NeedsALoserModel" 104 (mn 199) ∈ WALL := w_in 1223 (by decide +kernel) (by decide +kernel)
theorem x_M_108 : Cond.methodLink "NeedsALoserModel" 108 (mn 200) ∈ WALL := w_in 1226 (by decide +kernel) (by decide +kernel)
theorem x_M_258 : Cond.methodLink "NeedsALoserModel" 258 (mn 201) ∈ WALL := w_in 1230 (by decide +kernel) (by decide +kernel)
theorem x_M_255 : Cond.methodLink "NeedsALoserModel" 255 (mn 202) ∈ WALL := w_in 1234 (by decide +kernel) (by decide +kernel)
theorem x_M_243 : Cond.methodLink "NeedsALoserModel" 243 (mn 203) ∈ WALL := w_in 1238 (by decide +kernel) (by decide +kernel)
theorem x_M_240 : Cond.methodLink "NeedsALoserModel" 240 (mn 204) ∈ WALL := w_in 1242 (by decide +kernel) (by decide +kernel)
theorem x_M_122 : Cond.methodLink "NeedsALoserModel" 122 (mn 205) ∈ WALL := w_in 1246 (by decide +kernel) (by decide +kernel)
theorem x_M_112 : Cond.methodLink "NeedsALoserModel" 112 (mn 206) ∈ WALL := w_in 1249 (by decide +kernel) (by decide +kernel)
theorem x_M_251 : Cond.methodLink "NeedsALoserModel" 251 (mn 207) ∈ WALL := w_in 1253 (by decide +kernel) (by decide +kernel)
theorem x_M_246 : Cond.methodLink "NeedsALoserModel" 246 (mn 208) ∈ WALL := w_in 1257 (by decide +kernel) (by decide +kernel)
theorem x_L_53 : Cond.methodLink "NeedsALoserLaw" 53 (mn 209) ∈ WALL := w_in 1261 (by decide +kernel) (by decide +kernel)
theorem x_L_58 : Cond.methodLink "NeedsALoserLaw" 58 (mn 210) ∈ WALL := w_in 1265 (by decide +kernel) (by decide +kernel)
theorem x_L_62 : Cond.methodLink "NeedsALoserLaw" 62 (mn 211) ∈ WALL := w_in 1269 (by decide +kernel) (by decide +kernel)
theorem x_M_116 : Cond.methodLink "NeedsALoserModel" 116 (mn 212) ∈ WALL := w_in 1273 (by decide +kernel) (by decide +kernel)
theorem x_M_120 : Cond.constantLong "NeedsALoserModel" 120 (-99 : Int64) ∈ WALL := w_in 1277 (by decide +kernel) (by decide +kernel)
theorem x_L_67 : Cond.methodLink "NeedsALoserLaw" 67 (mn 213) ∈ WALL := w_in 1278 (by decide +kernel) (by decide +kernel)
theorem x_L_71 : Cond.methodLink "NeedsALoserLaw" 71 (mn 214) ∈ WALL := w_in 1282 (by decide +kernel) (by decide +kernel)
theorem x_M_125 : Cond.constantLong "NeedsALoserModel" 125 (3 : Int64) ∈ WALL := w_in 1286 (by decide +kernel) (by decide +kernel)
theorem x_M_127 : Cond.methodLink "NeedsALoserModel" 127 (mn 215) ∈ WALL := w_in 1287 (by decide +kernel) (by decide +kernel)
theorem x_L_75 : Cond.methodLink "NeedsALoserLaw" 75 (mn 216) ∈ WALL := w_in 1290 (by decide +kernel) (by decide +kernel)
theorem x_M_130 : Cond.constantLong "NeedsALoserModel" 130 (255 : Int64) ∈ WALL := w_in 1294 (by decide +kernel) (by decide +kernel)
theorem x_L_79 : Cond.methodLink "NeedsALoserLaw" 79 (mn 217) ∈ WALL := w_in 1295 (by decide +kernel) (by decide +kernel)
theorem x_L_83 : Cond.methodLink "NeedsALoserLaw" 83 (mn 218) ∈ WALL := w_in 1299 (by decide +kernel) (by decide +kernel)
theorem x_M_228 : Cond.methodLink "NeedsALoserModel" 228 (mn 219) ∈ WALL := w_in 1303 (by decide +kernel) (by decide +kernel)
theorem x_M_8 : Cond.classLink "NeedsALoserModel" 8 "NeedsALoserModel" ∈ WALL := w_in 1307 (by decide +kernel) (by decide +kernel)
theorem x_M_348 : Cond.methodLink "NeedsALoserModel" 348 (mn 187) ∈ WALL := w_in 1308 (by decide +kernel) (by decide +kernel)
theorem x_M_235 : Cond.methodLink "NeedsALoserModel" 235 (mn 220) ∈ WALL := w_in 1309 (by decide +kernel) (by decide +kernel)
theorem x_M_349 : Cond.methodLink "NeedsALoserModel" 349 (mn 221) ∈ WALL := w_in 1313 (by decide +kernel) (by decide +kernel)
theorem x_M_232 : Cond.methodLink "NeedsALoserModel" 232 (mn 222) ∈ WALL := w_in 1316 (by decide +kernel) (by decide +kernel)
theorem x_M_171 : Cond.methodLink "NeedsALoserModel" 171 (mn 223) ∈ WALL := w_in 1320 (by decide +kernel) (by decide +kernel)
theorem x_M_147 : Cond.methodLink "NeedsALoserModel" 147 (mn 224) ∈ WALL := w_in 1324 (by decide +kernel) (by decide +kernel)
theorem x_M_150 : Cond.methodLink "NeedsALoserModel" 150 (mn 225) ∈ WALL := w_in 1327 (by decide +kernel) (by decide +kernel)
theorem x_M_153 : Cond.constant "NeedsALoserModel" 153 (100000 : Int32) ∈ WALL := w_in 1330 (by decide +kernel) (by decide +kernel)
theorem x_M_225 : Cond.methodLink "NeedsALoserModel" 225 (mn 226) ∈ WALL := w_in 1331 (by decide +kernel) (by decide +kernel)
theorem x_M_174 : Cond.methodLink "NeedsALoserModel" 174 (mn 227) ∈ WALL := w_in 1336 (by decide +kernel) (by decide +kernel)
theorem x_M_157 : Cond.methodLink "NeedsALoserModel" 157 (mn 82) ∈ WALL := w_in 1340 (by decide +kernel) (by decide +kernel)
theorem x_M_163 : Cond.methodLink "NeedsALoserModel" 163 (mn 84) ∈ WALL := w_in 1341 (by decide +kernel) (by decide +kernel)
theorem x_M_198 : Cond.methodLink "NeedsALoserModel" 198 (mn 209) ∈ WALL := w_in 1342 (by decide +kernel) (by decide +kernel)
theorem x_M_200 : Cond.methodLink "NeedsALoserModel" 200 (mn 228) ∈ WALL := w_in 1344 (by decide +kernel) (by decide +kernel)
theorem x_M_184 : Cond.methodLink "NeedsALoserModel" 184 (mn 229) ∈ WALL := w_in 1348 (by decide +kernel) (by decide +kernel)
theorem x_M_167 : Cond.methodLink "NeedsALoserModel" 167 (mn 230) ∈ WALL := w_in 1352 (by decide +kernel) (by decide +kernel)
theorem x_M_178 : Cond.methodLink "NeedsALoserModel" 178 (mn 231) ∈ WALL := w_in 1356 (by decide +kernel) (by decide +kernel)
theorem x_M_188 : Cond.methodLink "NeedsALoserModel" 188 (mn 232) ∈ WALL := w_in 1360 (by decide +kernel) (by decide +kernel)
theorem x_M_191 : Cond.methodLink "NeedsALoserModel" 191 (mn 210) ∈ WALL := w_in 1364 (by decide +kernel) (by decide +kernel)
theorem x_M_207 : Cond.methodLink "NeedsALoserModel" 207 (mn 233) ∈ WALL := w_in 1368 (by decide +kernel) (by decide +kernel)
theorem x_M_219 : Cond.methodLink "NeedsALoserModel" 219 (mn 213) ∈ WALL := w_in 1376 (by decide +kernel) (by decide +kernel)
theorem x_L_87 : Cond.methodLink "NeedsALoserLaw" 87 (mn 234) ∈ WALL := w_in 1377 (by decide +kernel) (by decide +kernel)
theorem x_L_91 : Cond.methodLink "NeedsALoserLaw" 91 (mn 235) ∈ WALL := w_in 1381 (by decide +kernel) (by decide +kernel)
theorem x_M_239 : Cond.constant "NeedsALoserModel" 239 (-1000000 : Int32) ∈ WALL := w_in 1385 (by decide +kernel) (by decide +kernel)
theorem x_L_95 : Cond.methodLink "NeedsALoserLaw" 95 (mn 236) ∈ WALL := w_in 1386 (by decide +kernel) (by decide +kernel)
theorem x_L_99 : Cond.methodLink "NeedsALoserLaw" 99 (mn 237) ∈ WALL := w_in 1390 (by decide +kernel) (by decide +kernel)
theorem x_M_248 : Cond.methodLink "NeedsALoserModel" 248 (mn 238) ∈ WALL := w_in 1394 (by decide +kernel) (by decide +kernel)
theorem x_L_103 : Cond.methodLink "NeedsALoserLaw" 103 (mn 239) ∈ WALL := w_in 1398 (by decide +kernel) (by decide +kernel)
theorem x_L_107 : Cond.methodLink "NeedsALoserLaw" 107 (mn 240) ∈ WALL := w_in 1402 (by decide +kernel) (by decide +kernel)
theorem x_M_261 : Cond.methodLink "NeedsALoserModel" 261 (mn 241) ∈ WALL := w_in 1406 (by decide +kernel) (by decide +kernel)
theorem x_L_111 : Cond.methodLink "NeedsALoserLaw" 111 (mn 242) ∈ WALL := w_in 1410 (by decide +kernel) (by decide +kernel)
theorem x_M_264 : Cond.methodLink "NeedsALoserModel" 264 (mn 243) ∈ WALL := w_in 1414 (by decide +kernel) (by decide +kernel)
theorem x_M_267 : Cond.methodLink "NeedsALoserModel" 267 (mn 244) ∈ WALL := w_in 1418 (by decide +kernel) (by decide +kernel)
theorem x_L_115 : Cond.methodLink "NeedsALoserLaw" 115 (mn 245) ∈ WALL := w_in 1422 (by decide +kernel) (by decide +kernel)
theorem x_M_270 : Cond.constantLong "NeedsALoserModel" 270 (2 : Int64) ∈ WALL := w_in 1426 (by decide +kernel) (by decide +kernel)
theorem x_M_272 : Cond.methodLink "NeedsALoserModel" 272 (mn 246) ∈ WALL := w_in 1427 (by decide +kernel) (by decide +kernel)
theorem x_L_119 : Cond.methodLink "NeedsALoserLaw" 119 (mn 247) ∈ WALL := w_in 1431 (by decide +kernel) (by decide +kernel)
theorem x_M_275 : Cond.methodLink "NeedsALoserModel" 275 (mn 248) ∈ WALL := w_in 1435 (by decide +kernel) (by decide +kernel)
theorem x_L_123 : Cond.methodLink "NeedsALoserLaw" 123 (mn 249) ∈ WALL := w_in 1439 (by decide +kernel) (by decide +kernel)
theorem x_L_127 : Cond.methodLink "NeedsALoserLaw" 127 (mn 250) ∈ WALL := w_in 1443 (by decide +kernel) (by decide +kernel)
theorem x_M_285 : Cond.methodLink "NeedsALoserModel" 285 (mn 251) ∈ WALL := w_in 1447 (by decide +kernel) (by decide +kernel)
theorem x_L_131 : Cond.methodLink "NeedsALoserLaw" 131 (mn 252) ∈ WALL := w_in 1451 (by decide +kernel) (by decide +kernel)
theorem x_L_135 : Cond.methodLink "NeedsALoserLaw" 135 (mn 253) ∈ WALL := w_in 1455 (by decide +kernel) (by decide +kernel)
theorem x_M_298 : Cond.methodLink "NeedsALoserModel" 298 (mn 254) ∈ WALL := w_in 1459 (by decide +kernel) (by decide +kernel)
theorem x_M_301 : Cond.methodLink "NeedsALoserModel" 301 (mn 255) ∈ WALL := w_in 1463 (by decide +kernel) (by decide +kernel)
theorem x_M_291 : Cond.methodLink "NeedsALoserModel" 291 (mn 256) ∈ WALL := w_in 1467 (by decide +kernel) (by decide +kernel)
theorem x_M_295 : Cond.methodLink "NeedsALoserModel" 295 (mn 257) ∈ WALL := w_in 1471 (by decide +kernel) (by decide +kernel)
theorem x_L_139 : Cond.methodLink "NeedsALoserLaw" 139 (mn 258) ∈ WALL := w_in 1475 (by decide +kernel) (by decide +kernel)
theorem x_L_143 : Cond.methodLink "NeedsALoserLaw" 143 (mn 259) ∈ WALL := w_in 1479 (by decide +kernel) (by decide +kernel)
theorem x_M_304 : Cond.methodLink "NeedsALoserModel" 304 (mn 260) ∈ WALL := w_in 1483 (by decide +kernel) (by decide +kernel)
theorem x_L_147 : Cond.methodLink "NeedsALoserLaw" 147 (mn 261) ∈ WALL := w_in 1487 (by decide +kernel) (by decide +kernel)
theorem x_L_151 : Cond.methodLink "NeedsALoserLaw" 151 (mn 262) ∈ WALL := w_in 1491 (by decide +kernel) (by decide +kernel)
theorem x_L_155 : Cond.methodLink "NeedsALoserLaw" 155 (mn 263) ∈ WALL := w_in 1495 (by decide +kernel) (by decide +kernel)
theorem x_M_307 : Cond.methodLink "NeedsALoserModel" 307 (mn 264) ∈ WALL := w_in 1499 (by decide +kernel) (by decide +kernel)
theorem x_L_159 : Cond.methodLink "NeedsALoserLaw" 159 (mn 265) ∈ WALL := w_in 1502 (by decide +kernel) (by decide +kernel)
theorem x_L_163 : Cond.methodLink "NeedsALoserLaw" 163 (mn 266) ∈ WALL := w_in 1506 (by decide +kernel) (by decide +kernel)
theorem x_L_167 : Cond.methodLink "NeedsALoserLaw" 167 (mn 267) ∈ WALL := w_in 1510 (by decide +kernel) (by decide +kernel)
theorem x_L_171 : Cond.methodLink "NeedsALoserLaw" 171 (mn 268) ∈ WALL := w_in 1514 (by decide +kernel) (by decide +kernel)
theorem x_L_175 : Cond.methodLink "NeedsALoserLaw" 175 (mn 269) ∈ WALL := w_in 1518 (by decide +kernel) (by decide +kernel)
theorem x_L_179 : Cond.methodLink "NeedsALoserLaw" 179 (mn 270) ∈ WALL := w_in 1522 (by decide +kernel) (by decide +kernel)
theorem x_M_310 : Cond.methodLink "NeedsALoserModel" 310 (mn 271) ∈ WALL := w_in 1526 (by decide +kernel) (by decide +kernel)
theorem x_L_183 : Cond.methodLink "NeedsALoserLaw" 183 (mn 272) ∈ WALL := w_in 1530 (by decide +kernel) (by decide +kernel)
theorem x_M_313 : Cond.methodLink "NeedsALoserModel" 313 (mn 273) ∈ WALL := w_in 1534 (by decide +kernel) (by decide +kernel)
theorem x_L_187 : Cond.methodLink "NeedsALoserLaw" 187 (mn 274) ∈ WALL := w_in 1538 (by decide +kernel) (by decide +kernel)
theorem x_M_316 : Cond.methodLink "NeedsALoserModel" 316 (mn 275) ∈ WALL := w_in 1542 (by decide +kernel) (by decide +kernel)
theorem x_L_191 : Cond.methodLink "NeedsALoserLaw" 191 (mn 276) ∈ WALL := w_in 1546 (by decide +kernel) (by decide +kernel)
theorem x_M_319 : Cond.methodLink "NeedsALoserModel" 319 (mn 277) ∈ WALL := w_in 1550 (by decide +kernel) (by decide +kernel)
theorem x_L_195 : Cond.methodLink "NeedsALoserLaw" 195 (mn 278) ∈ WALL := w_in 1554 (by decide +kernel) (by decide +kernel)
theorem x_L_199 : Cond.methodLink "NeedsALoserLaw" 199 (mn 279) ∈ WALL := w_in 1558 (by decide +kernel) (by decide +kernel)
theorem x_M_322 : Cond.methodLink "NeedsALoserModel" 322 (mn 280) ∈ WALL := w_in 1562 (by decide +kernel) (by decide +kernel)
theorem x_L_203 : Cond.methodLink "NeedsALoserLaw" 203 (mn 281) ∈ WALL := w_in 1566 (by decide +kernel) (by decide +kernel)
theorem x_M_325 : Cond.methodLink "NeedsALoserModel" 325 (mn 282) ∈ WALL := w_in 1570 (by decide +kernel) (by decide +kernel)
theorem x_L_207 : Cond.methodLink "NeedsALoserLaw" 207 (mn 283) ∈ WALL := w_in 1574 (by decide +kernel) (by decide +kernel)
theorem x_M_329 : Cond.methodLink "NeedsALoserModel" 329 (mn 284) ∈ WALL := w_in 1578 (by decide +kernel) (by decide +kernel)
theorem x_L_211 : Cond.methodLink "NeedsALoserLaw" 211 (mn 285) ∈ WALL := w_in 1582 (by decide +kernel) (by decide +kernel)
theorem x_L_215 : Cond.methodLink "NeedsALoserLaw" 215 (mn 286) ∈ WALL := w_in 1586 (by decide +kernel) (by decide +kernel)
theorem x_M_332 : Cond.methodLink "NeedsALoserModel" 332 (mn 287) ∈ WALL := w_in 1590 (by decide +kernel) (by decide +kernel)
theorem x_L_219 : Cond.methodLink "NeedsALoserLaw" 219 (mn 288) ∈ WALL := w_in 1594 (by decide +kernel) (by decide +kernel)
theorem x_L_223 : Cond.methodLink "NeedsALoserLaw" 223 (mn 289) ∈ WALL := w_in 1598 (by decide +kernel) (by decide +kernel)
theorem x_L_227 : Cond.methodLink "NeedsALoserLaw" 227 (mn 290) ∈ WALL := w_in 1602 (by decide +kernel) (by decide +kernel)
theorem x_M_339 : Cond.methodLink "NeedsALoserModel" 339 (mn 291) ∈ WALL := w_in 1606 (by decide +kernel) (by decide +kernel)
theorem x_M_336 : Cond.methodLink "NeedsALoserModel" 336 (mn 292) ∈ WALL := w_in 1610 (by decide +kernel) (by decide +kernel)
theorem x_M_335 : Cond.constant "NeedsALoserModel" 335 (1103515245 : Int32) ∈ WALL := w_in 1614 (by decide +kernel) (by decide +kernel)
theorem x_L_231 : Cond.methodLink "NeedsALoserLaw" 231 (mn 293) ∈ WALL := w_in 1615 (by decide +kernel) (by decide +kernel)
theorem x_M_342 : Cond.constantLong "NeedsALoserModel" 342 (30 : Int64) ∈ WALL := w_in 1619 (by decide +kernel) (by decide +kernel)
theorem x_L_235 : Cond.methodLink "NeedsALoserLaw" 235 (mn 294) ∈ WALL := w_in 1620 (by decide +kernel) (by decide +kernel)
theorem x_L_239 : Cond.methodLink "NeedsALoserLaw" 239 (mn 295) ∈ WALL := w_in 1624 (by decide +kernel) (by decide +kernel)
theorem x_L_243 : Cond.methodLink "NeedsALoserLaw" 243 (mn 296) ∈ WALL := w_in 1628 (by decide +kernel) (by decide +kernel)
theorem x_L_247 : Cond.methodLink "NeedsALoserLaw" 247 (mn 297) ∈ WALL := w_in 1632 (by decide +kernel) (by decide +kernel)
theorem x_L_251 : Cond.methodLink "NeedsALoserLaw" 251 (mn 298) ∈ WALL := w_in 1636 (by decide +kernel) (by decide +kernel)
theorem x_M_356 : Cond.constantLong "NeedsALoserModel" 356 (12 : Int64) ∈ WALL := w_in 1640 (by decide +kernel) (by decide +kernel)
theorem x_M_358 : Cond.constantLong "NeedsALoserModel" 358 (16 : Int64) ∈ WALL := w_in 1641 (by decide +kernel) (by decide +kernel)
theorem x_L_18 : Cond.constantLong "NeedsALoserLaw" 18 (4294967295 : Int64) ∈ WALL := w_in 1642 (by decide +kernel) (by decide +kernel)
theorem x_JS_9 : Cond.fieldLink "java/lang/String" 9 "java/lang/String" "value" "[B" ∈ WALL := w_in 1643 (by decide +kernel) (by decide +kernel)
theorem x_JS_15 : Cond.fieldLink "java/lang/String" 15 "java/lang/String" "coder" "B" ∈ WALL := w_in 1644 (by decide +kernel) (by decide +kernel)
end
section
-- THE ABSTRACT WORLD: cells by number, addresses base + number; what is older than the law by numbers from gB on
abbrev gE : Type := Launch × Nat × va_G × (Nat → ClassId) × (Nat → Nat) × Value × Nat × (Nat → Int32)
abbrev gl (G : gE) : Launch := G.1
abbrev gb (G : gE) : Nat := G.2.1
abbrev gD (G : gE) : va_G := G.2.2.1
abbrev gtc (G : gE) : Nat → ClassId := G.2.2.2.1
abbrev gao (G : gE) : Nat → Nat := G.2.2.2.2.1
abbrev gfm (G : gE) : Value := G.2.2.2.2.2.1
abbrev gL (G : gE) : Nat := G.2.2.2.2.2.2.1
abbrev gxs (G : gE) : Nat → Int32 := G.2.2.2.2.2.2.2
def gB : Nat := 1000000000
def gad (G : gE) (k : Nat) : Nat := if k < gB then gb G + k else gao G (k - gB)
def cv (G : gE) (v : Value) : Value := match v with
  | .ref k => .ref (gad G k)
  | v => v
abbrev aC : Type := (Nat × vp_A) ⊕ (Nat × List Value)
abbrev aW : Type := Nat → aC
def cx (G : gE) (a : vp_A) : vp_A := (a.1, match a.2 with
  | .inr (.inr (.inr (.inr f))) => .inr (.inr (.inr (.inr (fun i => (f i).map (gad G)))))
  | x => x)
def ce (G : gE) (c : aC) : va_E := match c with
  | .inl (t, a) => .inl (gtc G t, cx G a)
  | .inr (ci, fs) => .inr (ci, fs.map (cv G))
def tyf (t : Nat) : FieldType := match t with
  | 0 => .int
  | 1 => .long
  | 2 => .boolean
  | 3 => .array .int
  | _ => .array .long
def gtys (G : gE) : List (ClassId × FieldType) := [(gtc G 0, .int), (gtc G 1, .long), (gtc G 2, .boolean), (gtc G 3, .array .int), (gtc G 4, .array .long)]
def upw (w : aW) (a : Nat) (c : aC) : aW := fun k => if k = a then c else w k
theorem upw_s {w : aW} {a : Nat} {c : aC} : upw w a c a = c := if_pos rfl
theorem upw_n {w : aW} {a k : Nat} {c : aC} (h : k ≠ a) : upw w a c k = w k := if_neg h
def HR (G : gE) (w : aW) (n : Nat) (H : Heap) : Prop := H.size = gb G + n ∧ n ≤ gB ∧ ∀ k, k < n → va_at (gD G) classes (gad G k, ce G (w k)) H
def Af (G : gE) : Nat → Prop := fun q => gb G ≤ q
theorem gad_lt {G : gE} {k : Nat} (h : k < gB) : gad G k = gb G + k := if_pos h
theorem HR.set {G : gE} {w : aW} {n a : Nat} {c : aC} {H H1 : Heap} (h : HR G w n H) (ha : a < n) (h1 : va_at (gD G) classes (gad G a, ce G c) H1) (hz : H1.size = H.size) (ho : ∀ q, q ≠ gad G a → H1[q]? = H[q]?) : HR G (upw w a c) n H1 := by
  refine ⟨hz.trans h.1, h.2.1, fun k hk => ?_⟩
  by_cases e : k = a
  · rw [e, upw_s]
    exact h1
  · rw [upw_n e]
    refine (h.2.2 k hk).kept (ho _ ?_)
    have := h.2.1
    rw [gad_lt (by omega), gad_lt (by omega)]
    omega
theorem HR.push {G : gE} {w : aW} {n : Nat} {c : aC} {H H1 : Heap} (h : HR G w n H) (hn : n < gB) (h1 : va_at (gD G) classes (gad G n, ce G c) H1) (hz : H1.size = H.size + 1) (ho : ∀ q, q < H.size → H1[q]? = H[q]?) : HR G (upw w n c) (n + 1) H1 := by
  refine ⟨by rw [hz, h.1, Nat.add_assoc], hn, fun k hk => ?_⟩
  by_cases e : k = n
  · rw [e, upw_s]
    exact h1
  · rw [upw_n e]
    refine (h.2.2 k (by omega)).kept (ho _ ?_)
    have := h.1
    show gad G k < H.size
    rw [gad_lt (by omega)]
    omega
-- what every state of the launch says
def strB : List (List Int32) := [[111, 110, 101], [100, 101, 97, 108], [104, 117, 114, 116, 115], [103, 97, 105, 110, 115], [98, 97, 114, 115], [108, 97, 119], [111, 110, 99, 101], [99, 111, 117, 114, 116], [102, 105, 110, 101]]
def strL : List Nat := [3, 4, 5, 5, 4, 3, 4, 5, 4]
def sites : List (String × Nat × Nat × String) := [("NeedsALoser$Reader", 45, 0, "one"), ("NeedsALoser$Reader", 54, 1, "deal"), ("NeedsALoser$Reader", 101, 2, "hurts"), ("NeedsALoser$Reader", 59, 3, "gains"), ("NeedsALoser$Reader", 64, 4, "bars"), ("NeedsALoser$Reader", 69, 5, "law"), ("NeedsALoser$Reader", 77, 6, "once"), ("NeedsALoser$Reader", 79, 7, "court"), ("NeedsALoser$Reader", 81, 8, "fine"), ("NeedsALoserModel", 196, 0, "one"), ("NeedsALoserModel", 182, 1, "deal"), ("NeedsALoserModel", 194, 2, "hurts"), ("NeedsALoserModel", 203, 3, "gains"), ("NeedsALoserModel", 217, 4, "bars"), ("NeedsALoserModel", 205, 5, "law"), ("NeedsALoserModel", 211, 6, "once"), ("NeedsALoserModel", 213, 7, "court"), ("NeedsALoserModel", 215, 8, "fine")]
def aboveL : List Int32 := [-1, 0, 1, 1, 0, 1, 0]
def Kst (G : gE) (U : State) : Prop := va_K (gD G) classes (gtys G) U ∧ (∀ w ∈ NST, va_Nw w U) ∧ (Cond.arrayOver (.array .int)).before #[] U = true ∧ (Cond.arrayOver (.array .long)).before #[] U = true
def Old (G : gE) (U : State) : Prop :=
  vk_S 9 strL strB (fun i => gao G i) (fun i => gao G (100 + i)) (Af G) U U.heap ∧
  (∀ e ∈ sites, vk_R e.1 e.2.1 e.2.2.2 (gao G e.2.2.1) U) ∧
  va_Z "NeedsALoser$Rules" "ABOVE" "[I" (.ref (gao G 200)) (Af G) U U.heap ∧
  va_T .int (gao G 200) 7 (fun j => .int (aboveL.getD j 0)) (Af G) U U.heap ∧
  va_Z "java/lang/String" "COMPACT_STRINGS" "Z" (.int 1) (Af G) U U.heap ∧
  va_Z "jdk/internal/util/Preconditions" "SIOOBE_FORMATTER" "Ljava/util/function/BiFunction;" (cv G (gfm G)) (Af G) U U.heap ∧
  va_X (gao G 201) (gL G) (gxs G) U U.heap ∧ gao G 201 < gb G ∧ gb G ≤ U.heap.size
theorem nst_warm {w : Cond} (hw : isNest w = true) {s U : State} (hW : s.WarmedH U.vm) (h : va_Nw w s) : va_Nw w U := by
  cases w with
  | methodLinkNest a i x hst => exact va_Nw.warmM hW h
  | fieldLinkNest a i b nn dd hst => exact va_Nw.warmF hW h
  | _ => cases hw
theorem over_warm {ty : FieldType} {s U : State} (hW : s.WarmedH U.vm) (h : (Cond.arrayOver ty).before #[] s = true) : (Cond.arrayOver ty).before #[] U = true := by
  have h1 := (Cond.arrayOver_setVmC (args := #[]) hW.alike ty).trans h
  exact h1
theorem Kst.warm {G : gE} {s U : State} (hW : s.WarmedH U.vm) (h : Kst G s) : Kst G U :=
  ⟨va_K.moved hW.alike h.1, fun w hw => nst_warm (List.mem_filter.mp hw).2 hW (h.2.1 w hw), over_warm hW h.2.2.1, over_warm hW h.2.2.2⟩
theorem Old.warm {G : gE} {s U : State} (hW : s.WarmedH U.vm) (hq : ∀ a : Nat, a < s.heap.size → ¬ Af G a → U.heap[a]? = s.heap[a]?) (hz : s.heap.size ≤ U.heap.size) (h : Old G s) : Old G U := by
  obtain ⟨h1, h2, h3, h4, h5, h6, h7, h8, h9⟩ := h
  refine ⟨(h1.moved hW.alike).kept hq, fun e he => (h2 e he).warm hW, (h3.moved hW.alike).kept hq, (h4.moved hW.alike).kept hq, (h5.moved hW.alike).kept hq, (h6.moved hW.alike).kept hq, (h7.moved hW.alike).kept (hq _ (Nat.lt_of_lt_of_le h8 h9) (Nat.not_le.mpr h8)), h8, Nat.le_trans h9 hz⟩
-- locals
def asc (G : gE) (ls : List (Option Value)) : List (Nat × Value) := ls.zipIdx.filterMap (fun p => p.1.map (fun v => (p.2, cv G v)))
theorem asc_mem {G : gE} {ls : List (Option Value)} {q : Nat × Value} : q ∈ asc G ls ↔ ∃ v, ls[q.1]? = some (some v) ∧ q.2 = cv G v := by
  obtain ⟨i, u⟩ := q
  unfold asc
  rw [List.mem_filterMap]
  constructor
  · rintro ⟨⟨o, j⟩, h1, h2⟩
    rw [List.mem_zipIdx_iff_getElem?] at h1
    cases o with
    | none => cases h2
    | some v =>
      simp only [Option.map_some, Option.some.injEq, Prod.mk.injEq] at h2
      obtain ⟨rfl, rfl⟩ := h2
      exact ⟨v, h1, rfl⟩
  · rintro ⟨v, h1, h2⟩
    refine ⟨(some v, i), ?_, ?_⟩
    · rw [List.mem_zipIdx_iff_getElem?]
      exact h1
    · simp only [Option.map_some, Option.some.injEq, Prod.mk.injEq]
      exact ⟨trivial, h2.symm⟩
def lvs (G : gE) (la : Array Slot) (nL : Nat) (ls : List (Option Value)) : Prop := lv_has la nL (asc G ls)
theorem lvs.at {G : gE} {la : Array Slot} {nL i : Nat} {ls : List (Option Value)} {v : Value} (h : lvs G la nL ls) (hv : ls[i]? = some (some v)) : la[i]? = some (.val (cv G v)) := h.2.2 (i, cv G v) (asc_mem.mpr ⟨v, hv, rfl⟩)
theorem lvs.mono {G : gE} {la : Array Slot} {nL : Nat} {ls ls' : List (Option Value)} (h : lvs G la nL ls) (hs : ∀ (i : Nat) (v : Value), ls'[i]? = some (some v) → ls[i]? = some (some v)) : lvs G la nL ls' := by
  refine ⟨h.1, h.2.1, fun q hq => ?_⟩
  obtain ⟨v, h1, h2⟩ := asc_mem.mp hq
  rw [h2]
  exact h.at (hs _ _ h1)
theorem cv_cat {G : gE} {v : Value} : (cv G v).category = v.category := by cases v <;> rfl
/-- a store of a value of one place at i -/
def st1 (ls : List (Option Value)) (i : Nat) (v : Value) (ls' : List (Option Value)) : Prop := ∀ (j : Nat) (u : Value), ls'[j]? = some (some u) → (j = i ∧ u = v) ∨ (j ≠ i ∧ ls[j]? = some (some u) ∧ (j + 1 = i → u.category ≠ 2))
def st2 (ls : List (Option Value)) (i : Nat) (v : Value) (ls' : List (Option Value)) : Prop := ∀ (j : Nat) (u : Value), ls'[j]? = some (some u) → (j = i ∧ u = v) ∨ (j ≠ i ∧ j ≠ i + 1 ∧ ls[j]? = some (some u) ∧ (j + 1 = i → u.category ≠ 2))
theorem lvs.of1 {G : gE} {la : Array Slot} {nL i : Nat} {ls ls' : List (Option Value)} {v : Value} (hs : st1 ls i v ls') (h : lv_has la nL ((i, cv G v) :: (asc G ls).filter (fun q => !(q.1 == i) && !(q.1 + 1 == i && q.2.category == 2)))) : lvs G la nL ls' := by
  refine ⟨h.1, h.2.1, fun q hq => ?_⟩
  obtain ⟨u, h1, h2⟩ := asc_mem.mp hq
  refine h.2.2 q ?_
  obtain ⟨j, z⟩ := q
  cases h2
  rcases hs j u h1 with ⟨rfl, rfl⟩ | ⟨n1, n2, n3⟩
  · exact List.mem_cons_self
  · refine List.mem_cons_of_mem _ (List.mem_filter.mpr ⟨asc_mem.mpr ⟨u, n2, rfl⟩, ?_⟩)
    simp only [Bool.and_eq_true, Bool.not_eq_true', beq_eq_false_iff_ne, Bool.and_eq_false_iff, cv_cat]
    refine ⟨n1, ?_⟩
    by_cases e : j + 1 = i
    · exact Or.inr (by show (cv G u).category ≠ 2; rw [cv_cat]; exact n3 e)
    · exact Or.inl e
theorem lvs.of2 {G : gE} {la : Array Slot} {nL i : Nat} {ls ls' : List (Option Value)} {v : Value} (hs : st2 ls i v ls') (h : lv_has la nL ((i, cv G v) :: (asc G ls).filter (fun q => !(q.1 == i) && (!(q.1 == i + 1) && !(q.1 + 1 == i && q.2.category == 2))))) : lvs G la nL ls' := by
  refine ⟨h.1, h.2.1, fun q hq => ?_⟩
  obtain ⟨u, h1, h2⟩ := asc_mem.mp hq
  refine h.2.2 q ?_
  obtain ⟨j, z⟩ := q
  cases h2
  rcases hs j u h1 with ⟨rfl, rfl⟩ | ⟨n1, n0, n2, n3⟩
  · exact List.mem_cons_self
  · refine List.mem_cons_of_mem _ (List.mem_filter.mpr ⟨asc_mem.mpr ⟨u, n2, rfl⟩, ?_⟩)
    simp only [Bool.and_eq_true, Bool.not_eq_true', beq_eq_false_iff_ne, Bool.and_eq_false_iff, cv_cat]
    refine ⟨n1, n0, ?_⟩
    by_cases e : j + 1 = i
    · exact Or.inr (by show (cv G u).category ≠ 2; rw [cv_cat]; exact n3 e)
    · exact Or.inl e
def ent : List Value → List (Option Value)
  | [] => []
  | v :: vs => if v.category = 2 then some v :: none :: ent vs else some v :: ent vs
theorem ent_args {G : gE} : ∀ (vs : List Value) (o i : Nat) (v : Value), (ent vs)[i]? = some (some v) → (o + i, cv G v) ∈ lv_args o (vs.map (cv G))
  | [], o, i, v, h => by simp [ent] at h
  | u :: vs, o, i, v, h => by
    unfold ent at h
    simp only [List.map_cons, lv_args]
    rw [cv_cat]
    by_cases hu : u.category = 2
    · rw [if_pos hu] at h ⊢
      match i, h with
      | 0, h =>
        simp only [List.getElem?_cons_zero, Option.some.injEq] at h
        rw [h]
        exact List.mem_cons_self
      | 1, h => simp at h
      | i + 2, h =>
        simp only [List.getElem?_cons_succ] at h
        refine List.mem_cons_of_mem _ ?_
        have := ent_args (G := G) vs (o + 2) i v h
        rwa [show o + 2 + i = o + (i + 2) by omega] at this
    · rw [if_neg hu] at h ⊢
      match i, h with
      | 0, h =>
        simp only [List.getElem?_cons_zero, Option.some.injEq] at h
        rw [h]
        exact List.mem_cons_self
      | i + 1, h =>
        simp only [List.getElem?_cons_succ] at h
        refine List.mem_cons_of_mem _ ?_
        have := ent_args (G := G) vs (o + 1) i v h
        rwa [show o + 1 + i = o + (i + 1) by omega] at this
theorem ent_len {G : gE} : ∀ (vs : List Value), (lg_sl (vs.map (cv G))).length = (ent vs).length
  | [] => rfl
  | u :: vs => by
    have ih := ent_len (G := G) vs
    unfold ent
    unfold lg_sl at ih ⊢
    rw [List.map_cons, List.flatMap_cons, List.length_append, ih, cv_cat]
    by_cases hu : u.category = 2
    · rw [if_pos hu, if_pos hu]
      simp only [List.length_cons, List.length_nil]
      omega
    · rw [if_neg hu, if_neg hu]
      simp only [List.length_cons, List.length_nil]
      omega
-- the words, the context
abbrev ws (z : Nat) : List Cond := .code (mn z) (mb z) (ml z) (mr z) :: WALL
theorem wall_good : GoodIn WALL WALL := fun w hw => ⟨hw, good_of_word (List.mem_filter.mp hw).2⟩
theorem wall_good1 {w : Cond} (h : w ∈ WALL) : w ∈ WALL ∧ ((w.onTables && w.keeps) = true ∨ ∃ ty, w = .arrayClass ty) := wall_good w h
theorem wall_z {z na : Nat} (h : okM z na) : GoodIn WALL (ws z) := fun w hw => (List.mem_cons.mp hw).elim (fun e => by rw [e]; exact wall_good1 h.1) (fun e => wall_good1 e)
def Cx (G : gE) (d y : Nat) (p : Program) (R : Room) (s : State) (m : MethodId) (args : Array Value) (meth : Method) (c : Code) : Prop :=
  p.tables.exec = Jvm.exec ∧ c.code = mb y ∧ c.maxLocals = ml y ∧ s.vm.findClass (mn y).cls = some m.cls ∧ (∀ w ∈ WALL, w.before args s = true) ∧ ((mn y).name = "<init>" → meth.name = "<init>") ∧ d ≤ R.frames ∧ 64 * d ≤ R.locals ∧ Kst G s ∧ Old G s
def Rt (y pc : Nat) (r : Option Value) : Prop := match r with
  | none => decode (mb y) pc = .ok (.return_, 1) ∧ mr y = none
  | some (.int x) => decode (mb y) pc = .ok (.ireturn, 1) ∧ ∃ ty, mr y = some ty ∧ narrow ty (.int x) = .int x
  | some (.long _) => decode (mb y) pc = .ok (.lreturn, 1) ∧ mr y = some .long
  | some (.ref _) => decode (mb y) pc = .ok (.areturn, 1) ∧ ∃ c, mr y = some (.object c)
  | _ => False
def Go (G : gE) (d y pc : Nat) (ls : List (Option Value)) (st : List Value) (w : aW) (n bc bs : Nat) (post : Option Value → aW → Nat → Prop) : Prop :=
  ∀ (p : Program) (e : Env) (R : Room) (s : State) (m : MethodId) (args : Array Value) (below : List Frame) (meth : Method) (c : Code), Cx G d y p R s m args meth c →
  ∀ (H : Heap) (locs : List Loc) (cells slots : Nat) (Q : State → Prop) (la : Array Slot), HR G w n H → va_S (Af G) s.heap H locs → lvs G la (ml y) ls → cells + bc ≤ R.cells → slots + bs ≤ R.slots →
  (∀ (r : Option Value) (w' : aW) (n' : Nat) (H' : Heap) (locs' : List Loc) (cells' slots' : Nat) (la' : Array Slot) (pc' : Nat), post r w' n' → HR G w' n' H' → va_S (Af G) s.heap H' locs' → cells' ≤ R.cells → slots' ≤ R.slots → Rt y pc' r → W p (gl G) e R s m args below meth c H' locs' cells' slots' Q (F0 m pc' la' (r.map (cv G)).toList)) →
  W p (gl G) e R s m args below meth c H locs cells slots Q (F0 m pc la (st.map (cv G)))
def MtP (G : gE) (w : aW) (n : Nat) (args : List Value) : Array Value → State → Prop := va_Pc (args.map (cv G)) (fun U => Kst G U ∧ Old G U ∧ HR G w n U.heap)
def MtQ (G : gE) (post : Option Value → aW → Nat → Prop) : Array Value → State → Outcome → State → Prop := fun _ st o t => (∃ (r : Option Value) (w' : aW) (n' : Nat), o = .returned (r.map (cv G)) ∧ post r w' n' ∧ HR G w' n' t.heap) ∧ va_F (Af G) st t
def rmOf (d cc cs : Nat) : Room := { frames := d, cells := cc, slots := cs, locals := 64 * d }
def Mt (G : gE) (d z : Nat) (args : List Value) (w : aW) (n cc cs : Nat) (post : Option Value → aW → Nat → Prop) : Prop :=
  Met (gl G) (mn z) (ws z) (rmOf d cc cs) (MtP G w n args) (MtQ G post) cc cs (Af G)
theorem mt_blind {G : gE} {w : aW} {n : Nat} {args : List Value} : FrameBlind (MtP G w n args) := by
  intro a U g mk h
  obtain ⟨h1, h2, h3, h4⟩ := h
  have hW : U.WarmedH (U.calling g mk a).vm := State.WarmedH.refl U
  exact ⟨h1, h2.warm hW, h3.warm hW (fun _ _ _ => rfl) (Nat.le_refl _), h4⟩
theorem rt_met {G : gE} {p : Program} {l : Launch} {e : Env} {R : Room} {s : State} {m : MethodId} {args : Array Value} {below : List Frame} {meth : Method} {c : Code} {H : Heap} {locs : List Loc} {cells slots cc cs y pc : Nat} {la : Array Slot} {r : Option Value} {Qc : Array Value → State → Outcome → State → Prop} {free : Addr → Prop}
    (hexec : p.tables.exec = Jvm.exec) (hb : c.code = mb y) (hr : meth.sig.returnType = mr y) (hlocks : meth.locks = false) (h : Rt y pc r) (hq : ∀ t : State, t.heap = H → s.WarmedH t.vm → Qc args s (.returned (r.map (cv G))) t) (hf : ∀ q ∈ locs, free q.base) (h1 : cells ≤ cc) (h2 : slots ≤ cs) :
    W p l e R s m args below meth c H locs cells slots (MQ below Qc args s cc cs free) (F0 m pc la (r.map (cv G)).toList) := by
  refine W.widen h1 h2 ?_
  match r, h, hq with
  | none, h, hq => exact W.vret hexec hb (hr.trans h.2) hq hf h.1 hlocks
  | some (.int x), h, hq =>
    obtain ⟨hd, ty, ht, hn⟩ := h
    exact W.zret hexec hb (hr.trans ht) hn hq hf hd hlocks
  | some (.long x), h, hq => exact W.lret hexec hb (hr.trans h.2) hq hf h.1 hlocks
  | some (.ref k), h, hq =>
    obtain ⟨hd, cc9, ht⟩ := h
    exact W.aret hexec hb (hr.trans ht) (Or.inl ⟨_, rfl⟩) (Or.inr ⟨_, rfl⟩) hq hf hd hlocks
set_option maxHeartbeats 1000000 in
/-- a contract out of a walk from the entry -/
theorem Mt.of {G : gE} {d z na nL : Nat} {args : List Value} {w : aW} {n cc cs : Nat} {post : Option Value → aW → Nat → Prop} {ls : List (Option Value)} (hz : okM z na) (hm : ml z = nL) (hfit : (ent args).length ≤ nL) (hls : ent args ++ List.replicate (nL - (ent args).length) none = ls)
    (h : Go G d z 0 ls [] w n cc cs post) : Mt G d z args w n cc cs post := by
  refine va_MetF (cc := mb z) (maxL := ml z) (ret := mr z) (ws' := WALL) hz.2.2.2 rfl ?_
  intro p e s m vs below meth c s₁ B hml hv
  obtain ⟨rfl, hK, hO, hH⟩ := hv
  have hts := atoms_spec (ws := ws z) B.pre
  have hown : s.vm.findClass (mn z).cls = some m.cls := findClass_of_methodNamed B.named
  have hnm : meth.name = (mn z).name := (name_of_methodNamed B.named B.method).1
  have hl := lv_entry (args.map (cv G)) (n := nL) (by rw [ent_len]; exact hfit)
  rw [lg_entry_eq, hm]
  generalize (lg_sl (args.map (cv G)) ++ List.replicate (nL - (lg_sl (args.map (cv G))).length) Slot.unset).toArray = la at hl ⊢
  have hlv : lvs G la (ml z) ls := by
    rw [hm, ← hls]
    refine ⟨hl.1, hl.2.1, fun q hq => ?_⟩
    obtain ⟨v, h1, h2⟩ := asc_mem.mp hq
    have h3 : (ent args)[q.1]? = some (some v) := by
      by_cases e9 : q.1 < (ent args).length
      · rwa [List.getElem?_append_left e9] at h1
      · rw [List.getElem?_append_right (by omega)] at h1
        rw [List.getElem?_replicate] at h1
        split at h1 <;> cases h1
    have h4 := ent_args (G := G) args 0 q.1 v h3
    rw [Nat.zero_add, ← h2] at h4
    exact hl.2.2 q h4
  refine h p e _ s m _ below meth c ⟨B.exec, B.bytes, hml, hown, fun w hw => hts w (List.mem_cons_of_mem _ hw), fun e9 => hnm.trans e9, Nat.le_refl _, Nat.le_refl _, hK, hO⟩ s.heap [] 0 0 _ la hH va_S.rf hlv (Nat.le_of_eq (Nat.zero_add _)) (Nat.le_of_eq (Nat.zero_add _)) ?_
  intro r w' n' H' locs' cells' slots' la' pc' hp hH' hS' h1 h2 hr
  refine rt_met B.exec B.bytes B.returns B.notSynchronized hr ?_ (fun q hq => hS'.2.2 q hq) h1 h2
  intro t ht hW
  exact ⟨⟨r, w', n', rfl, hp, by rw [ht]; exact hH'⟩, hS'.F ht⟩
end
section
-- THE RULES: an instruction each, over the abstract world (written by wip/whole/gen05.py)
theorem ml_le (z : Nat) : ml z ≤ 45 := by
  have h : mtb.all (fun e => decide (e.2.2.1 ≤ 45)) = true := by decide +kernel
  show (mtb.getD z _).2.2.1 ≤ 45
  rw [List.getD_eq_getElem?_getD]
  cases hz : mtb[z]? with
  | none => exact Nat.zero_le _
  | some e9 => exact of_decide_eq_true (List.all_eq_true.mp h e9 (List.mem_of_getElem? hz))
theorem va_P1 {D : va_G} {cl : List vw_C} {q : Nat × va_E} {H : Heap} (h : va_at D cl q H) : va_P D cl [q] H := by
  intro k x hk
  match k, hk with
  | 0, hk => cases hk; exact h
theorem cat_map {G : gE} (l : List Value) : ((l.map (cv G)).map fun v => v.category).sum = (l.map fun v => v.category).sum := by
  rw [List.map_map]
  congr 1
  exact List.map_congr_left (fun v _ => cv_cat)
theorem HR.at {G : gE} {w : aW} {n a : Nat} {c : aC} {H : Heap} (h : HR G w n H) (ha : a < n) (hw : w a = c) : va_at (gD G) classes (gad G a, ce G c) H := by
  rw [← hw]
  exact h.2.2 a ha
theorem HR.a {G : gE} {w : aW} {n a : Nat} {H : Heap} (h : HR G w n H) (ha : a < n) : Af G (gad G a) := by
  have := h.2.1
  show gb G ≤ gad G a
  rw [gad_lt (by omega)]
  omega
def nl (o : Option Value) : Bool := match o with
  | some v => v.category != 2
  | none => true
def nlAt (ls : List (Option Value)) (i : Nat) : Bool := match i with
  | 0 => true
  | i + 1 => nl (ls.getD i none)
theorem st1_set {ls : List (Option Value)} {i : Nat} {v : Value} (hn : nlAt ls i = true) : st1 ls i v (ls.set i (some v)) := by
  intro j u hj
  by_cases e : j = i
  · subst e
    rw [List.getElem?_set] at hj
    rw [if_pos rfl] at hj
    split at hj
    · cases hj
      exact Or.inl ⟨rfl, rfl⟩
    · cases hj
  · rw [List.getElem?_set_ne (Ne.symm e)] at hj
    refine Or.inr ⟨e, hj, fun e2 => ?_⟩
    subst e2
    have h9 : nl (ls.getD j none) = true := hn
    rw [List.getD_eq_getElem?_getD, hj] at h9
    simpa [nl] using h9
theorem st2_set {ls : List (Option Value)} {i : Nat} {v : Value} (hn : nlAt ls i = true) : st2 ls i v ((ls.set i (some v)).set (i + 1) none) := by
  intro j u hj
  by_cases e1 : j = i + 1
  · subst e1
    rw [List.getElem?_set, if_pos rfl] at hj
    split at hj <;> cases hj
  · rw [List.getElem?_set_ne (Ne.symm e1)] at hj
    rcases st1_set hn j u hj with h | ⟨h3, h4, h5⟩
    · exact Or.inl h
    · exact Or.inr ⟨h3, e1, h4, h5⟩
section RULES
variable {G : gE} {d y pc : Nat} {ls : List (Option Value)} {st : List Value} {w : aW} {n bc bs : Nat} {post : Option Value → aW → Nat → Prop}
theorem r_forget {ls' : List (Option Value)} (hs : ∀ (i : Nat) (v : Value), ls'[i]? = some (some v) → ls[i]? = some (some v)) (k : Go G d y pc ls' st w n bc bs post) : Go G d y pc ls st w n bc bs post := by
  intro p e R s m args below meth c C H locs cells slots Q la hH hS hl h1 h2 hk
  exact k p e R s m args below meth c C H locs cells slots Q la hH hS (hl.mono hs) h1 h2 hk
theorem r_post {post' : Option Value → aW → Nat → Prop} (hp : ∀ r w' n', post' r w' n' → post r w' n') (k : Go G d y pc ls st w n bc bs post') : Go G d y pc ls st w n bc bs post := by
  intro p e R s m args below meth c C H locs cells slots Q la hH hS hl h1 h2 hk
  exact k p e R s m args below meth c C H locs cells slots Q la hH hS hl h1 h2 (fun r w' n' H' locs' cells' slots' la' pc' hq => hk r w' n' H' locs' cells' slots' la' pc' (hp r w' n' hq))
theorem r_less {bc' bs' : Nat} (h3 : bc' ≤ bc) (h4 : bs' ≤ bs) (k : Go G d y pc ls st w n bc' bs' post) : Go G d y pc ls st w n bc bs post := by
  intro p e R s m args below meth c C H locs cells slots Q la hH hS hl h1 h2 hk
  exact k p e R s m args below meth c C H locs cells slots Q la hH hS hl (by omega) (by omega) hk
theorem r_ret {r : Option Value} (hr : Rt y pc r) (hst : st = r.toList) (hp : post r w n) : Go G d y pc ls st w n bc bs post := by
  intro p e R s m args below meth c C H locs cells slots Q la hH hS hl h1 h2 hk
  have h := hk r w n H locs cells slots la pc hp hH hS (by omega) (by omega) hr
  subst hst
  cases r <;> exact h
theorem r_ireturn {x : Int32} {ty : FieldType} (hd : decode (mb y) pc = .ok (.ireturn, 1)) (hm : mr y = some ty) (hn : narrow ty (.int x) = .int x) (hp : post (some (.int x)) w n) : Go G d y pc ls [.int x] w n bc bs post := r_ret (r := some (.int x)) ⟨hd, ty, hm, hn⟩ rfl hp
theorem r_lreturn {x : Int64} (hd : decode (mb y) pc = .ok (.lreturn, 1)) (hm : mr y = some .long) (hp : post (some (.long x)) w n) : Go G d y pc ls [.long x] w n bc bs post := r_ret (r := some (.long x)) ⟨hd, hm⟩ rfl hp
theorem r_areturn {k : Nat} {cn : String} (hd : decode (mb y) pc = .ok (.areturn, 1)) (hm : mr y = some (.object cn)) (hp : post (some (.ref k)) w n) : Go G d y pc ls [.ref k] w n bc bs post := r_ret (r := some (.ref k)) ⟨hd, cn, hm⟩ rfl hp
theorem r_return (hd : decode (mb y) pc = .ok (.return_, 1)) (hm : mr y = none) (hp : post none w n) : Go G d y pc ls [] w n bc bs post := r_ret (r := none) ⟨hd, hm⟩ rfl hp
theorem r_iconst {c0 : Int} {v : Int32} (hd : decode (mb y) pc = .ok (.iconst c0, 1)) (hv : Int32.ofInt c0 = v) (k : Go G d y (pc + 1) ls (.int v :: st) w n bc bs post) : Go G d y pc ls st w n bc bs post := by
  intro p e R s m args below meth c C H locs cells slots Q la hH hS hl h1 h2 hk
  exact lv_iconst C.1 C.2.1 hd hv (k p e R s m args below meth c C H locs cells slots Q la hH hS hl h1 h2 hk)
theorem r_bipush {c0 : Int} {v : Int32} (hd : decode (mb y) pc = .ok (.bipush c0, 2)) (hv : (Int8.ofInt c0).toInt32 = v) (k : Go G d y (pc + 2) ls (.int v :: st) w n bc bs post) : Go G d y pc ls st w n bc bs post := by
  intro p e R s m args below meth c C H locs cells slots Q la hH hS hl h1 h2 hk
  exact lv_bipush C.1 C.2.1 hd hv (k p e R s m args below meth c C H locs cells slots Q la hH hS hl h1 h2 hk)
theorem r_sipush {c0 : Int} {v : Int32} (hd : decode (mb y) pc = .ok (.sipush c0, 3)) (hv : (Int16.ofInt c0).toInt32 = v) (k : Go G d y (pc + 3) ls (.int v :: st) w n bc bs post) : Go G d y pc ls st w n bc bs post := by
  intro p e R s m args below meth c C H locs cells slots Q la hH hS hl h1 h2 hk
  exact lv_sipush C.1 C.2.1 hd hv (k p e R s m args below meth c C H locs cells slots Q la hH hS hl h1 h2 hk)
theorem r_lconst {c0 : Fin 2} {v : Int64} (hd : decode (mb y) pc = .ok (.lconst c0, 1)) (hv : Int64.ofNat (c0 : Nat) = v) (k : Go G d y (pc + 1) ls (.long v :: st) w n bc bs post) : Go G d y pc ls st w n bc bs post := by
  intro p e R s m args below meth c C H locs cells slots Q la hH hS hl h1 h2 hk
  exact lv_lconst C.1 C.2.1 hd hv (k p e R s m args below meth c C H locs cells slots Q la hH hS hl h1 h2 hk)
theorem r_aconst_null (hd : decode (mb y) pc = .ok (.aconst_null, 1)) (k : Go G d y (pc + 1) ls (.null :: st) w n bc bs post) : Go G d y pc ls st w n bc bs post := by
  intro p e R s m args below meth c C H locs cells slots Q la hH hS hl h1 h2 hk
  exact lv_null C.1 C.2.1 hd (k p e R s m args below meth c C H locs cells slots Q la hH hS hl h1 h2 hk)
theorem r_ldc {own : String} {idx : Nat} {v : Int32} (ho : (mn y).cls = own) (hd : decode (mb y) pc = .ok (.ldc idx, 2)) (hx : Cond.constant own idx v ∈ WALL) (k : Go G d y (pc + 2) ls (.int v :: st) w n bc bs post) : Go G d y pc ls st w n bc bs post := by
  intro p e R s m args below meth c C H locs cells slots Q la hH hS hl h1 h2 hk
  exact lv_ldc C.1 C.2.1 (ho ▸ C.2.2.2.1) (C.2.2.2.2.1 _ hx) hd (k p e R s m args below meth c C H locs cells slots Q la hH hS hl h1 h2 hk)
theorem r_ldcw {own : String} {idx : Nat} {v : Int32} (ho : (mn y).cls = own) (hd : decode (mb y) pc = .ok (.ldc_w idx, 3)) (hx : Cond.constant own idx v ∈ WALL) (k : Go G d y (pc + 3) ls (.int v :: st) w n bc bs post) : Go G d y pc ls st w n bc bs post := by
  intro p e R s m args below meth c C H locs cells slots Q la hH hS hl h1 h2 hk
  exact lv_ldcw C.1 C.2.1 (ho ▸ C.2.2.2.1) (C.2.2.2.2.1 _ hx) hd (k p e R s m args below meth c C H locs cells slots Q la hH hS hl h1 h2 hk)
theorem r_ldc2 {own : String} {idx : Nat} {v : Int64} (ho : (mn y).cls = own) (hd : decode (mb y) pc = .ok (.ldc2_w idx, 3)) (hx : Cond.constantLong own idx v ∈ WALL) (k : Go G d y (pc + 3) ls (.long v :: st) w n bc bs post) : Go G d y pc ls st w n bc bs post := by
  intro p e R s m args below meth c C H locs cells slots Q la hH hS hl h1 h2 hk
  exact lv_ldc2 C.1 C.2.1 (ho ▸ C.2.2.2.1) (C.2.2.2.2.1 _ hx) hd (k p e R s m args below meth c C H locs cells slots Q la hH hS hl h1 h2 hk)
theorem r_ldcS {own tx : String} {idx j : Nat} (ho : (mn y).cls = own) (hd : decode (mb y) pc = .ok (.ldc idx, 2)) (hx : (own, idx, j, tx) ∈ sites) (k : Go G d y (pc + 2) ls (.ref (gB + j) :: st) w n bc bs post) : Go G d y pc ls st w n bc bs post := by
  intro p e R s m args below meth c C H locs cells slots Q la hH hS hl h1 h2 hk
  have h9 := C.2.2.2.2.2.2.2.2.2.2.1 _ hx
  have e9 : gad G (gB + j) = gao G j := by unfold gad; rw [if_neg (by omega), Nat.add_sub_cancel_left]
  have k9 := k p e R s m args below meth c C H locs cells slots Q la hH hS hl h1 h2 hk
  rw [List.map_cons, show cv G (.ref (gB + j)) = .ref (gao G j) by show Value.ref (gad G _) = _; rw [e9]] at k9
  exact va_ldcS C.1 C.2.1 (ho ▸ C.2.2.2.1) h9 hd k9
theorem r_iload_n {f : Fin 4} {i : Nat} {x : Int32} (hd : decode (mb y) pc = .ok (.iload_n f, 1)) (hi : (f : Nat) = i) (hv : ls[i]? = some (some (.int x))) (k : Go G d y (pc + 1) ls (.int x :: st) w n bc bs post) : Go G d y pc ls st w n bc bs post := by
  intro p e R s m args below meth c C H locs cells slots Q la hH hS hl h1 h2 hk
  exact lv_iload_n C.1 C.2.1 hd hi (hl.at hv) (k p e R s m args below meth c C H locs cells slots Q la hH hS hl h1 h2 hk)
theorem r_iload {i : Nat} {x : Int32} (hd : decode (mb y) pc = .ok (.iload i, 2)) (hv : ls[i]? = some (some (.int x))) (k : Go G d y (pc + 2) ls (.int x :: st) w n bc bs post) : Go G d y pc ls st w n bc bs post := by
  intro p e R s m args below meth c C H locs cells slots Q la hH hS hl h1 h2 hk
  exact lv_iload C.1 C.2.1 hd (hl.at hv) (k p e R s m args below meth c C H locs cells slots Q la hH hS hl h1 h2 hk)
theorem r_lload_n {f : Fin 4} {i : Nat} {x : Int64} (hd : decode (mb y) pc = .ok (.lload_n f, 1)) (hi : (f : Nat) = i) (hv : ls[i]? = some (some (.long x))) (k : Go G d y (pc + 1) ls (.long x :: st) w n bc bs post) : Go G d y pc ls st w n bc bs post := by
  intro p e R s m args below meth c C H locs cells slots Q la hH hS hl h1 h2 hk
  exact lv_lload_n C.1 C.2.1 hd hi (hl.at hv) (k p e R s m args below meth c C H locs cells slots Q la hH hS hl h1 h2 hk)
theorem r_lload {i : Nat} {x : Int64} (hd : decode (mb y) pc = .ok (.lload i, 2)) (hv : ls[i]? = some (some (.long x))) (k : Go G d y (pc + 2) ls (.long x :: st) w n bc bs post) : Go G d y pc ls st w n bc bs post := by
  intro p e R s m args below meth c C H locs cells slots Q la hH hS hl h1 h2 hk
  exact lv_lload C.1 C.2.1 hd (hl.at hv) (k p e R s m args below meth c C H locs cells slots Q la hH hS hl h1 h2 hk)
theorem r_aload_n {f : Fin 4} {i : Nat} {x : Nat} (hd : decode (mb y) pc = .ok (.aload_n f, 1)) (hi : (f : Nat) = i) (hv : ls[i]? = some (some (.ref x))) (k : Go G d y (pc + 1) ls (.ref x :: st) w n bc bs post) : Go G d y pc ls st w n bc bs post := by
  intro p e R s m args below meth c C H locs cells slots Q la hH hS hl h1 h2 hk
  exact lv_aload_n C.1 C.2.1 hd hi (hl.at hv) (k p e R s m args below meth c C H locs cells slots Q la hH hS hl h1 h2 hk)
theorem r_aload {i : Nat} {x : Nat} (hd : decode (mb y) pc = .ok (.aload i, 2)) (hv : ls[i]? = some (some (.ref x))) (k : Go G d y (pc + 2) ls (.ref x :: st) w n bc bs post) : Go G d y pc ls st w n bc bs post := by
  intro p e R s m args below meth c C H locs cells slots Q la hH hS hl h1 h2 hk
  exact lv_aload C.1 C.2.1 hd (hl.at hv) (k p e R s m args below meth c C H locs cells slots Q la hH hS hl h1 h2 hk)
theorem r_istore_nS {f : Fin 4} {i : Nat} {x : Int32} (hd : decode (mb y) pc = .ok (.istore_n f, 1)) (hi : (f : Nat) = i) (hm : i < ml y) (hn : nlAt ls i = true) (k : Go G d y (pc + 1) (ls.set i (some (.int x))) st w n bc bs post) : Go G d y pc ls (.int x :: st) w n bc bs post := by
  intro p e R s m args below meth c C H locs cells slots Q la hH hS hl h1 h2 hk
  exact lv_istore_n C.1 C.2.1 hd hi hl hm rfl (fun la2 hl2 => k p e R s m args below meth c C H locs cells slots Q la2 hH hS (lvs.of1 (st1_set hn) hl2) h1 h2 hk)
theorem r_istoreS {i : Nat} {x : Int32} (hd : decode (mb y) pc = .ok (.istore i, 2)) (hm : i < ml y) (hn : nlAt ls i = true) (k : Go G d y (pc + 2) (ls.set i (some (.int x))) st w n bc bs post) : Go G d y pc ls (.int x :: st) w n bc bs post := by
  intro p e R s m args below meth c C H locs cells slots Q la hH hS hl h1 h2 hk
  exact lv_istore C.1 C.2.1 hd hl hm rfl (fun la2 hl2 => k p e R s m args below meth c C H locs cells slots Q la2 hH hS (lvs.of1 (st1_set hn) hl2) h1 h2 hk)
theorem r_astore_nS {f : Fin 4} {i : Nat} {x : Nat} (hd : decode (mb y) pc = .ok (.astore_n f, 1)) (hi : (f : Nat) = i) (hm : i < ml y) (hn : nlAt ls i = true) (k : Go G d y (pc + 1) (ls.set i (some (.ref x))) st w n bc bs post) : Go G d y pc ls (.ref x :: st) w n bc bs post := by
  intro p e R s m args below meth c C H locs cells slots Q la hH hS hl h1 h2 hk
  exact lv_astore_n C.1 C.2.1 hd hi hl hm rfl (fun la2 hl2 => k p e R s m args below meth c C H locs cells slots Q la2 hH hS (lvs.of1 (st1_set hn) hl2) h1 h2 hk)
theorem r_astoreS {i : Nat} {x : Nat} (hd : decode (mb y) pc = .ok (.astore i, 2)) (hm : i < ml y) (hn : nlAt ls i = true) (k : Go G d y (pc + 2) (ls.set i (some (.ref x))) st w n bc bs post) : Go G d y pc ls (.ref x :: st) w n bc bs post := by
  intro p e R s m args below meth c C H locs cells slots Q la hH hS hl h1 h2 hk
  exact lv_astore C.1 C.2.1 hd hl hm rfl (fun la2 hl2 => k p e R s m args below meth c C H locs cells slots Q la2 hH hS (lvs.of1 (st1_set hn) hl2) h1 h2 hk)
theorem r_lstore_nS {f : Fin 4} {i : Nat} {x : Int64} (hd : decode (mb y) pc = .ok (.lstore_n f, 1)) (hi : (f : Nat) = i) (hm : i + 1 < ml y) (hn : nlAt ls i = true) (k : Go G d y (pc + 1) ((ls.set i (some (.long x))).set (i + 1) none) st w n bc bs post) : Go G d y pc ls (.long x :: st) w n bc bs post := by
  intro p e R s m args below meth c C H locs cells slots Q la hH hS hl h1 h2 hk
  exact lv_lstore_n C.1 C.2.1 hd hi hl hm rfl (fun la2 hl2 => k p e R s m args below meth c C H locs cells slots Q la2 hH hS (lvs.of2 (st2_set hn) hl2) h1 h2 hk)
theorem r_lstoreS {i : Nat} {x : Int64} (hd : decode (mb y) pc = .ok (.lstore i, 2)) (hm : i + 1 < ml y) (hn : nlAt ls i = true) (k : Go G d y (pc + 2) ((ls.set i (some (.long x))).set (i + 1) none) st w n bc bs post) : Go G d y pc ls (.long x :: st) w n bc bs post := by
  intro p e R s m args below meth c C H locs cells slots Q la hH hS hl h1 h2 hk
  exact lv_lstore C.1 C.2.1 hd hl hm rfl (fun la2 hl2 => k p e R s m args below meth c C H locs cells slots Q la2 hH hS (lvs.of2 (st2_set hn) hl2) h1 h2 hk)
theorem r_iincS {i : Nat} {c0 : Int} {x v : Int32} (hd : decode (mb y) pc = .ok (.iinc i c0, 3)) (hx : ls[i]? = some (some (.int x))) (hv : Int32.ofInt c0 = v) (hm : i < ml y) (hn : nlAt ls i = true) (k : Go G d y (pc + 3) (ls.set i (some (.int (x + v)))) st w n bc bs post) : Go G d y pc ls st w n bc bs post := by
  intro p e R s m args below meth c C H locs cells slots Q la hH hS hl h1 h2 hk
  have hm9 : (i, cv G (.int x)) ∈ asc G ls := asc_mem.mpr ⟨.int x, hx, rfl⟩
  obtain ⟨k9, hk9⟩ := List.getElem?_of_mem hm9
  exact lv_iinc (x := x) (v := x + v) C.1 C.2.1 hd hl hk9 (by rw [hv]) hm rfl (fun la2 hl2 => k p e R s m args below meth c C H locs cells slots Q la2 hH hS (lvs.of1 (st1_set hn) hl2) h1 h2 hk)
theorem r_istore_0 { b : Option Value} {l : List (Option Value)} {x : Int32} (hd : decode (mb y) pc = .ok (.istore_n 0, 1)) (hm : 0 < ml y) (k : Go G d y (pc + 1) (some (.int x) :: l) st w n bc bs post) : Go G d y pc (b :: l) (.int x :: st) w n bc bs post := r_istore_nS hd rfl hm rfl k
theorem r_astore_0 { b : Option Value} {l : List (Option Value)} {x : Nat} (hd : decode (mb y) pc = .ok (.astore_n 0, 1)) (hm : 0 < ml y) (k : Go G d y (pc + 1) (some (.ref x) :: l) st w n bc bs post) : Go G d y pc (b :: l) (.ref x :: st) w n bc bs post := r_astore_nS hd rfl hm rfl k
theorem r_lstore_0 { b b2 : Option Value} {l : List (Option Value)} {x : Int64} (hd : decode (mb y) pc = .ok (.lstore_n 0, 1)) (hm : 0 + 1 < ml y) (k : Go G d y (pc + 1) (some (.long x) :: none :: l) st w n bc bs post) : Go G d y pc (b :: b2 :: l) (.long x :: st) w n bc bs post := r_lstore_nS hd rfl hm rfl k
theorem r_iinc_0 {l : List (Option Value)} {c0 : Int} {x v : Int32} (hd : decode (mb y) pc = .ok (.iinc 0 c0, 3)) (hv : Int32.ofInt c0 = v) (hm : 0 < ml y) (k : Go G d y (pc + 3) (some (.int (x + v)) :: l) st w n bc bs post) : Go G d y pc (some (.int x) :: l) st w n bc bs post := r_iincS hd rfl hv hm rfl k
theorem r_istore_1 {a0 b : Option Value} {l : List (Option Value)} {x : Int32} (hd : decode (mb y) pc = .ok (.istore_n 1, 1)) (hm : 1 < ml y) (hn : nl a0 = true) (k : Go G d y (pc + 1) (a0 :: some (.int x) :: l) st w n bc bs post) : Go G d y pc (a0 :: b :: l) (.int x :: st) w n bc bs post := r_istore_nS hd rfl hm hn k
theorem r_astore_1 {a0 b : Option Value} {l : List (Option Value)} {x : Nat} (hd : decode (mb y) pc = .ok (.astore_n 1, 1)) (hm : 1 < ml y) (hn : nl a0 = true) (k : Go G d y (pc + 1) (a0 :: some (.ref x) :: l) st w n bc bs post) : Go G d y pc (a0 :: b :: l) (.ref x :: st) w n bc bs post := r_astore_nS hd rfl hm hn k
theorem r_lstore_1 {a0 b b2 : Option Value} {l : List (Option Value)} {x : Int64} (hd : decode (mb y) pc = .ok (.lstore_n 1, 1)) (hm : 1 + 1 < ml y) (hn : nl a0 = true) (k : Go G d y (pc + 1) (a0 :: some (.long x) :: none :: l) st w n bc bs post) : Go G d y pc (a0 :: b :: b2 :: l) (.long x :: st) w n bc bs post := r_lstore_nS hd rfl hm hn k
theorem r_iinc_1 {a0 : Option Value} {l : List (Option Value)} {c0 : Int} {x v : Int32} (hd : decode (mb y) pc = .ok (.iinc 1 c0, 3)) (hv : Int32.ofInt c0 = v) (hm : 1 < ml y) (hn : nl a0 = true) (k : Go G d y (pc + 3) (a0 :: some (.int (x + v)) :: l) st w n bc bs post) : Go G d y pc (a0 :: some (.int x) :: l) st w n bc bs post := r_iincS hd rfl hv hm hn k
theorem r_istore_2 {a0 a1 b : Option Value} {l : List (Option Value)} {x : Int32} (hd : decode (mb y) pc = .ok (.istore_n 2, 1)) (hm : 2 < ml y) (hn : nl a1 = true) (k : Go G d y (pc + 1) (a0 :: a1 :: some (.int x) :: l) st w n bc bs post) : Go G d y pc (a0 :: a1 :: b :: l) (.int x :: st) w n bc bs post := r_istore_nS hd rfl hm hn k
theorem r_astore_2 {a0 a1 b : Option Value} {l : List (Option Value)} {x : Nat} (hd : decode (mb y) pc = .ok (.astore_n 2, 1)) (hm : 2 < ml y) (hn : nl a1 = true) (k : Go G d y (pc + 1) (a0 :: a1 :: some (.ref x) :: l) st w n bc bs post) : Go G d y pc (a0 :: a1 :: b :: l) (.ref x :: st) w n bc bs post := r_astore_nS hd rfl hm hn k
theorem r_lstore_2 {a0 a1 b b2 : Option Value} {l : List (Option Value)} {x : Int64} (hd : decode (mb y) pc = .ok (.lstore_n 2, 1)) (hm : 2 + 1 < ml y) (hn : nl a1 = true) (k : Go G d y (pc + 1) (a0 :: a1 :: some (.long x) :: none :: l) st w n bc bs post) : Go G d y pc (a0 :: a1 :: b :: b2 :: l) (.long x :: st) w n bc bs post := r_lstore_nS hd rfl hm hn k
theorem r_iinc_2 {a0 a1 : Option Value} {l : List (Option Value)} {c0 : Int} {x v : Int32} (hd : decode (mb y) pc = .ok (.iinc 2 c0, 3)) (hv : Int32.ofInt c0 = v) (hm : 2 < ml y) (hn : nl a1 = true) (k : Go G d y (pc + 3) (a0 :: a1 :: some (.int (x + v)) :: l) st w n bc bs post) : Go G d y pc (a0 :: a1 :: some (.int x) :: l) st w n bc bs post := r_iincS hd rfl hv hm hn k
theorem r_istore_3 {a0 a1 a2 b : Option Value} {l : List (Option Value)} {x : Int32} (hd : decode (mb y) pc = .ok (.istore_n 3, 1)) (hm : 3 < ml y) (hn : nl a2 = true) (k : Go G d y (pc + 1) (a0 :: a1 :: a2 :: some (.int x) :: l) st w n bc bs post) : Go G d y pc (a0 :: a1 :: a2 :: b :: l) (.int x :: st) w n bc bs post := r_istore_nS hd rfl hm hn k
theorem r_astore_3 {a0 a1 a2 b : Option Value} {l : List (Option Value)} {x : Nat} (hd : decode (mb y) pc = .ok (.astore_n 3, 1)) (hm : 3 < ml y) (hn : nl a2 = true) (k : Go G d y (pc + 1) (a0 :: a1 :: a2 :: some (.ref x) :: l) st w n bc bs post) : Go G d y pc (a0 :: a1 :: a2 :: b :: l) (.ref x :: st) w n bc bs post := r_astore_nS hd rfl hm hn k
theorem r_lstore_3 {a0 a1 a2 b b2 : Option Value} {l : List (Option Value)} {x : Int64} (hd : decode (mb y) pc = .ok (.lstore_n 3, 1)) (hm : 3 + 1 < ml y) (hn : nl a2 = true) (k : Go G d y (pc + 1) (a0 :: a1 :: a2 :: some (.long x) :: none :: l) st w n bc bs post) : Go G d y pc (a0 :: a1 :: a2 :: b :: b2 :: l) (.long x :: st) w n bc bs post := r_lstore_nS hd rfl hm hn k
theorem r_iinc_3 {a0 a1 a2 : Option Value} {l : List (Option Value)} {c0 : Int} {x v : Int32} (hd : decode (mb y) pc = .ok (.iinc 3 c0, 3)) (hv : Int32.ofInt c0 = v) (hm : 3 < ml y) (hn : nl a2 = true) (k : Go G d y (pc + 3) (a0 :: a1 :: a2 :: some (.int (x + v)) :: l) st w n bc bs post) : Go G d y pc (a0 :: a1 :: a2 :: some (.int x) :: l) st w n bc bs post := r_iincS hd rfl hv hm hn k
theorem r_istore_4 {a0 a1 a2 a3 b : Option Value} {l : List (Option Value)} {x : Int32} (hd : decode (mb y) pc = .ok (.istore 4, 2)) (hm : 4 < ml y) (hn : nl a3 = true) (k : Go G d y (pc + 2) (a0 :: a1 :: a2 :: a3 :: some (.int x) :: l) st w n bc bs post) : Go G d y pc (a0 :: a1 :: a2 :: a3 :: b :: l) (.int x :: st) w n bc bs post := r_istoreS hd hm hn k
theorem r_astore_4 {a0 a1 a2 a3 b : Option Value} {l : List (Option Value)} {x : Nat} (hd : decode (mb y) pc = .ok (.astore 4, 2)) (hm : 4 < ml y) (hn : nl a3 = true) (k : Go G d y (pc + 2) (a0 :: a1 :: a2 :: a3 :: some (.ref x) :: l) st w n bc bs post) : Go G d y pc (a0 :: a1 :: a2 :: a3 :: b :: l) (.ref x :: st) w n bc bs post := r_astoreS hd hm hn k
theorem r_lstore_4 {a0 a1 a2 a3 b b2 : Option Value} {l : List (Option Value)} {x : Int64} (hd : decode (mb y) pc = .ok (.lstore 4, 2)) (hm : 4 + 1 < ml y) (hn : nl a3 = true) (k : Go G d y (pc + 2) (a0 :: a1 :: a2 :: a3 :: some (.long x) :: none :: l) st w n bc bs post) : Go G d y pc (a0 :: a1 :: a2 :: a3 :: b :: b2 :: l) (.long x :: st) w n bc bs post := r_lstoreS hd hm hn k
theorem r_iinc_4 {a0 a1 a2 a3 : Option Value} {l : List (Option Value)} {c0 : Int} {x v : Int32} (hd : decode (mb y) pc = .ok (.iinc 4 c0, 3)) (hv : Int32.ofInt c0 = v) (hm : 4 < ml y) (hn : nl a3 = true) (k : Go G d y (pc + 3) (a0 :: a1 :: a2 :: a3 :: some (.int (x + v)) :: l) st w n bc bs post) : Go G d y pc (a0 :: a1 :: a2 :: a3 :: some (.int x) :: l) st w n bc bs post := r_iincS hd rfl hv hm hn k
theorem r_istore_5 {a0 a1 a2 a3 a4 b : Option Value} {l : List (Option Value)} {x : Int32} (hd : decode (mb y) pc = .ok (.istore 5, 2)) (hm : 5 < ml y) (hn : nl a4 = true) (k : Go G d y (pc + 2) (a0 :: a1 :: a2 :: a3 :: a4 :: some (.int x) :: l) st w n bc bs post) : Go G d y pc (a0 :: a1 :: a2 :: a3 :: a4 :: b :: l) (.int x :: st) w n bc bs post := r_istoreS hd hm hn k
theorem r_astore_5 {a0 a1 a2 a3 a4 b : Option Value} {l : List (Option Value)} {x : Nat} (hd : decode (mb y) pc = .ok (.astore 5, 2)) (hm : 5 < ml y) (hn : nl a4 = true) (k : Go G d y (pc + 2) (a0 :: a1 :: a2 :: a3 :: a4 :: some (.ref x) :: l) st w n bc bs post) : Go G d y pc (a0 :: a1 :: a2 :: a3 :: a4 :: b :: l) (.ref x :: st) w n bc bs post := r_astoreS hd hm hn k
theorem r_lstore_5 {a0 a1 a2 a3 a4 b b2 : Option Value} {l : List (Option Value)} {x : Int64} (hd : decode (mb y) pc = .ok (.lstore 5, 2)) (hm : 5 + 1 < ml y) (hn : nl a4 = true) (k : Go G d y (pc + 2) (a0 :: a1 :: a2 :: a3 :: a4 :: some (.long x) :: none :: l) st w n bc bs post) : Go G d y pc (a0 :: a1 :: a2 :: a3 :: a4 :: b :: b2 :: l) (.long x :: st) w n bc bs post := r_lstoreS hd hm hn k
theorem r_iinc_5 {a0 a1 a2 a3 a4 : Option Value} {l : List (Option Value)} {c0 : Int} {x v : Int32} (hd : decode (mb y) pc = .ok (.iinc 5 c0, 3)) (hv : Int32.ofInt c0 = v) (hm : 5 < ml y) (hn : nl a4 = true) (k : Go G d y (pc + 3) (a0 :: a1 :: a2 :: a3 :: a4 :: some (.int (x + v)) :: l) st w n bc bs post) : Go G d y pc (a0 :: a1 :: a2 :: a3 :: a4 :: some (.int x) :: l) st w n bc bs post := r_iincS hd rfl hv hm hn k
theorem r_istore_6 {a0 a1 a2 a3 a4 a5 b : Option Value} {l : List (Option Value)} {x : Int32} (hd : decode (mb y) pc = .ok (.istore 6, 2)) (hm : 6 < ml y) (hn : nl a5 = true) (k : Go G d y (pc + 2) (a0 :: a1 :: a2 :: a3 :: a4 :: a5 :: some (.int x) :: l) st w n bc bs post) : Go G d y pc (a0 :: a1 :: a2 :: a3 :: a4 :: a5 :: b :: l) (.int x :: st) w n bc bs post := r_istoreS hd hm hn k
theorem r_astore_6 {a0 a1 a2 a3 a4 a5 b : Option Value} {l : List (Option Value)} {x : Nat} (hd : decode (mb y) pc = .ok (.astore 6, 2)) (hm : 6 < ml y) (hn : nl a5 = true) (k : Go G d y (pc + 2) (a0 :: a1 :: a2 :: a3 :: a4 :: a5 :: some (.ref x) :: l) st w n bc bs post) : Go G d y pc (a0 :: a1 :: a2 :: a3 :: a4 :: a5 :: b :: l) (.ref x :: st) w n bc bs post := r_astoreS hd hm hn k
theorem r_lstore_6 {a0 a1 a2 a3 a4 a5 b b2 : Option Value} {l : List (Option Value)} {x : Int64} (hd : decode (mb y) pc = .ok (.lstore 6, 2)) (hm : 6 + 1 < ml y) (hn : nl a5 = true) (k : Go G d y (pc + 2) (a0 :: a1 :: a2 :: a3 :: a4 :: a5 :: some (.long x) :: none :: l) st w n bc bs post) : Go G d y pc (a0 :: a1 :: a2 :: a3 :: a4 :: a5 :: b :: b2 :: l) (.long x :: st) w n bc bs post := r_lstoreS hd hm hn k
theorem r_iinc_6 {a0 a1 a2 a3 a4 a5 : Option Value} {l : List (Option Value)} {c0 : Int} {x v : Int32} (hd : decode (mb y) pc = .ok (.iinc 6 c0, 3)) (hv : Int32.ofInt c0 = v) (hm : 6 < ml y) (hn : nl a5 = true) (k : Go G d y (pc + 3) (a0 :: a1 :: a2 :: a3 :: a4 :: a5 :: some (.int (x + v)) :: l) st w n bc bs post) : Go G d y pc (a0 :: a1 :: a2 :: a3 :: a4 :: a5 :: some (.int x) :: l) st w n bc bs post := r_iincS hd rfl hv hm hn k
theorem r_istore_7 {a0 a1 a2 a3 a4 a5 a6 b : Option Value} {l : List (Option Value)} {x : Int32} (hd : decode (mb y) pc = .ok (.istore 7, 2)) (hm : 7 < ml y) (hn : nl a6 = true) (k : Go G d y (pc + 2) (a0 :: a1 :: a2 :: a3 :: a4 :: a5 :: a6 :: some (.int x) :: l) st w n bc bs post) : Go G d y pc (a0 :: a1 :: a2 :: a3 :: a4 :: a5 :: a6 :: b :: l) (.int x :: st) w n bc bs post := r_istoreS hd hm hn k
theorem r_astore_7 {a0 a1 a2 a3 a4 a5 a6 b : Option Value} {l : List (Option Value)} {x : Nat} (hd : decode (mb y) pc = .ok (.astore 7, 2)) (hm : 7 < ml y) (hn : nl a6 = true) (k : Go G d y (pc + 2) (a0 :: a1 :: a2 :: a3 :: a4 :: a5 :: a6 :: some (.ref x) :: l) st w n bc bs post) : Go G d y pc (a0 :: a1 :: a2 :: a3 :: a4 :: a5 :: a6 :: b :: l) (.ref x :: st) w n bc bs post := r_astoreS hd hm hn k
theorem r_lstore_7 {a0 a1 a2 a3 a4 a5 a6 b b2 : Option Value} {l : List (Option Value)} {x : Int64} (hd : decode (mb y) pc = .ok (.lstore 7, 2)) (hm : 7 + 1 < ml y) (hn : nl a6 = true) (k : Go G d y (pc + 2) (a0 :: a1 :: a2 :: a3 :: a4 :: a5 :: a6 :: some (.long x) :: none :: l) st w n bc bs post) : Go G d y pc (a0 :: a1 :: a2 :: a3 :: a4 :: a5 :: a6 :: b :: b2 :: l) (.long x :: st) w n bc bs post := r_lstoreS hd hm hn k
theorem r_iinc_7 {a0 a1 a2 a3 a4 a5 a6 : Option Value} {l : List (Option Value)} {c0 : Int} {x v : Int32} (hd : decode (mb y) pc = .ok (.iinc 7 c0, 3)) (hv : Int32.ofInt c0 = v) (hm : 7 < ml y) (hn : nl a6 = true) (k : Go G d y (pc + 3) (a0 :: a1 :: a2 :: a3 :: a4 :: a5 :: a6 :: some (.int (x + v)) :: l) st w n bc bs post) : Go G d y pc (a0 :: a1 :: a2 :: a3 :: a4 :: a5 :: a6 :: some (.int x) :: l) st w n bc bs post := r_iincS hd rfl hv hm hn k
theorem r_istore_8 {a0 a1 a2 a3 a4 a5 a6 a7 b : Option Value} {l : List (Option Value)} {x : Int32} (hd : decode (mb y) pc = .ok (.istore 8, 2)) (hm : 8 < ml y) (hn : nl a7 = true) (k : Go G d y (pc + 2) (a0 :: a1 :: a2 :: a3 :: a4 :: a5 :: a6 :: a7 :: some (.int x) :: l) st w n bc bs post) : Go G d y pc (a0 :: a1 :: a2 :: a3 :: a4 :: a5 :: a6 :: a7 :: b :: l) (.int x :: st) w n bc bs post := r_istoreS hd hm hn k
theorem r_astore_8 {a0 a1 a2 a3 a4 a5 a6 a7 b : Option Value} {l : List (Option Value)} {x : Nat} (hd : decode (mb y) pc = .ok (.astore 8, 2)) (hm : 8 < ml y) (hn : nl a7 = true) (k : Go G d y (pc + 2) (a0 :: a1 :: a2 :: a3 :: a4 :: a5 :: a6 :: a7 :: some (.ref x) :: l) st w n bc bs post) : Go G d y pc (a0 :: a1 :: a2 :: a3 :: a4 :: a5 :: a6 :: a7 :: b :: l) (.ref x :: st) w n bc bs post := r_astoreS hd hm hn k
theorem r_lstore_8 {a0 a1 a2 a3 a4 a5 a6 a7 b b2 : Option Value} {l : List (Option Value)} {x : Int64} (hd : decode (mb y) pc = .ok (.lstore 8, 2)) (hm : 8 + 1 < ml y) (hn : nl a7 = true) (k : Go G d y (pc + 2) (a0 :: a1 :: a2 :: a3 :: a4 :: a5 :: a6 :: a7 :: some (.long x) :: none :: l) st w n bc bs post) : Go G d y pc (a0 :: a1 :: a2 :: a3 :: a4 :: a5 :: a6 :: a7 :: b :: b2 :: l) (.long x :: st) w n bc bs post := r_lstoreS hd hm hn k
theorem r_iinc_8 {a0 a1 a2 a3 a4 a5 a6 a7 : Option Value} {l : List (Option Value)} {c0 : Int} {x v : Int32} (hd : decode (mb y) pc = .ok (.iinc 8 c0, 3)) (hv : Int32.ofInt c0 = v) (hm : 8 < ml y) (hn : nl a7 = true) (k : Go G d y (pc + 3) (a0 :: a1 :: a2 :: a3 :: a4 :: a5 :: a6 :: a7 :: some (.int (x + v)) :: l) st w n bc bs post) : Go G d y pc (a0 :: a1 :: a2 :: a3 :: a4 :: a5 :: a6 :: a7 :: some (.int x) :: l) st w n bc bs post := r_iincS hd rfl hv hm hn k
theorem r_istore_9 {a0 a1 a2 a3 a4 a5 a6 a7 a8 b : Option Value} {l : List (Option Value)} {x : Int32} (hd : decode (mb y) pc = .ok (.istore 9, 2)) (hm : 9 < ml y) (hn : nl a8 = true) (k : Go G d y (pc + 2) (a0 :: a1 :: a2 :: a3 :: a4 :: a5 :: a6 :: a7 :: a8 :: some (.int x) :: l) st w n bc bs post) : Go G d y pc (a0 :: a1 :: a2 :: a3 :: a4 :: a5 :: a6 :: a7 :: a8 :: b :: l) (.int x :: st) w n bc bs post := r_istoreS hd hm hn k
theorem r_astore_9 {a0 a1 a2 a3 a4 a5 a6 a7 a8 b : Option Value} {l : List (Option Value)} {x : Nat} (hd : decode (mb y) pc = .ok (.astore 9, 2)) (hm : 9 < ml y) (hn : nl a8 = true) (k : Go G d y (pc + 2) (a0 :: a1 :: a2 :: a3 :: a4 :: a5 :: a6 :: a7 :: a8 :: some (.ref x) :: l) st w n bc bs post) : Go G d y pc (a0 :: a1 :: a2 :: a3 :: a4 :: a5 :: a6 :: a7 :: a8 :: b :: l) (.ref x :: st) w n bc bs post := r_astoreS hd hm hn k
theorem r_lstore_9 {a0 a1 a2 a3 a4 a5 a6 a7 a8 b b2 : Option Value} {l : List (Option Value)} {x : Int64} (hd : decode (mb y) pc = .ok (.lstore 9, 2)) (hm : 9 + 1 < ml y) (hn : nl a8 = true) (k : Go G d y (pc + 2) (a0 :: a1 :: a2 :: a3 :: a4 :: a5 :: a6 :: a7 :: a8 :: some (.long x) :: none :: l) st w n bc bs post) : Go G d y pc (a0 :: a1 :: a2 :: a3 :: a4 :: a5 :: a6 :: a7 :: a8 :: b :: b2 :: l) (.long x :: st) w n bc bs post := r_lstoreS hd hm hn k
theorem r_iinc_9 {a0 a1 a2 a3 a4 a5 a6 a7 a8 : Option Value} {l : List (Option Value)} {c0 : Int} {x v : Int32} (hd : decode (mb y) pc = .ok (.iinc 9 c0, 3)) (hv : Int32.ofInt c0 = v) (hm : 9 < ml y) (hn : nl a8 = true) (k : Go G d y (pc + 3) (a0 :: a1 :: a2 :: a3 :: a4 :: a5 :: a6 :: a7 :: a8 :: some (.int (x + v)) :: l) st w n bc bs post) : Go G d y pc (a0 :: a1 :: a2 :: a3 :: a4 :: a5 :: a6 :: a7 :: a8 :: some (.int x) :: l) st w n bc bs post := r_iincS hd rfl hv hm hn k
theorem r_istore_10 {a0 a1 a2 a3 a4 a5 a6 a7 a8 a9 b : Option Value} {l : List (Option Value)} {x : Int32} (hd : decode (mb y) pc = .ok (.istore 10, 2)) (hm : 10 < ml y) (hn : nl a9 = true) (k : Go G d y (pc + 2) (a0 :: a1 :: a2 :: a3 :: a4 :: a5 :: a6 :: a7 :: a8 :: a9 :: some (.int x) :: l) st w n bc bs post) : Go G d y pc (a0 :: a1 :: a2 :: a3 :: a4 :: a5 :: a6 :: a7 :: a8 :: a9 :: b :: l) (.int x :: st) w n bc bs post := r_istoreS hd hm hn k
theorem r_astore_10 {a0 a1 a2 a3 a4 a5 a6 a7 a8 a9 b : Option Value} {l : List (Option Value)} {x : Nat} (hd : decode (mb y) pc = .ok (.astore 10, 2)) (hm : 10 < ml y) (hn : nl a9 = true) (k : Go G d y (pc + 2) (a0 :: a1 :: a2 :: a3 :: a4 :: a5 :: a6 :: a7 :: a8 :: a9 :: some (.ref x) :: l) st w n bc bs post) : Go G d y pc (a0 :: a1 :: a2 :: a3 :: a4 :: a5 :: a6 :: a7 :: a8 :: a9 :: b :: l) (.ref x :: st) w n bc bs post := r_astoreS hd hm hn k
theorem r_lstore_10 {a0 a1 a2 a3 a4 a5 a6 a7 a8 a9 b b2 : Option Value} {l : List (Option Value)} {x : Int64} (hd : decode (mb y) pc = .ok (.lstore 10, 2)) (hm : 10 + 1 < ml y) (hn : nl a9 = true) (k : Go G d y (pc + 2) (a0 :: a1 :: a2 :: a3 :: a4 :: a5 :: a6 :: a7 :: a8 :: a9 :: some (.long x) :: none :: l) st w n bc bs post) : Go G d y pc (a0 :: a1 :: a2 :: a3 :: a4 :: a5 :: a6 :: a7 :: a8 :: a9 :: b :: b2 :: l) (.long x :: st) w n bc bs post := r_lstoreS hd hm hn k
theorem r_iinc_10 {a0 a1 a2 a3 a4 a5 a6 a7 a8 a9 : Option Value} {l : List (Option Value)} {c0 : Int} {x v : Int32} (hd : decode (mb y) pc = .ok (.iinc 10 c0, 3)) (hv : Int32.ofInt c0 = v) (hm : 10 < ml y) (hn : nl a9 = true) (k : Go G d y (pc + 3) (a0 :: a1 :: a2 :: a3 :: a4 :: a5 :: a6 :: a7 :: a8 :: a9 :: some (.int (x + v)) :: l) st w n bc bs post) : Go G d y pc (a0 :: a1 :: a2 :: a3 :: a4 :: a5 :: a6 :: a7 :: a8 :: a9 :: some (.int x) :: l) st w n bc bs post := r_iincS hd rfl hv hm hn k
theorem r_iadd {x z : Int32} (hd : decode (mb y) pc = .ok (.iadd, 1)) (k : Go G d y (pc + 1) ls (.int (x + z) :: st) w n bc bs post) : Go G d y pc ls (.int z :: .int x :: st) w n bc bs post := by
  intro p e R s m args below meth c C H locs cells slots Q la hH hS hl h1 h2 hk
  exact lv_iadd C.1 C.2.1 hd (k p e R s m args below meth c C H locs cells slots Q la hH hS hl h1 h2 hk)
theorem r_isub {x z : Int32} (hd : decode (mb y) pc = .ok (.isub, 1)) (k : Go G d y (pc + 1) ls (.int (x - z) :: st) w n bc bs post) : Go G d y pc ls (.int z :: .int x :: st) w n bc bs post := by
  intro p e R s m args below meth c C H locs cells slots Q la hH hS hl h1 h2 hk
  exact lv_isub C.1 C.2.1 hd (k p e R s m args below meth c C H locs cells slots Q la hH hS hl h1 h2 hk)
theorem r_imul {x z : Int32} (hd : decode (mb y) pc = .ok (.imul, 1)) (k : Go G d y (pc + 1) ls (.int (x * z) :: st) w n bc bs post) : Go G d y pc ls (.int z :: .int x :: st) w n bc bs post := by
  intro p e R s m args below meth c C H locs cells slots Q la hH hS hl h1 h2 hk
  exact lv_imul C.1 C.2.1 hd (k p e R s m args below meth c C H locs cells slots Q la hH hS hl h1 h2 hk)
theorem r_iand {x z : Int32} (hd : decode (mb y) pc = .ok (.iand, 1)) (k : Go G d y (pc + 1) ls (.int (x &&& z) :: st) w n bc bs post) : Go G d y pc ls (.int z :: .int x :: st) w n bc bs post := by
  intro p e R s m args below meth c C H locs cells slots Q la hH hS hl h1 h2 hk
  exact lv_iand C.1 C.2.1 hd (k p e R s m args below meth c C H locs cells slots Q la hH hS hl h1 h2 hk)
theorem r_ior {x z : Int32} (hd : decode (mb y) pc = .ok (.ior, 1)) (k : Go G d y (pc + 1) ls (.int (x ||| z) :: st) w n bc bs post) : Go G d y pc ls (.int z :: .int x :: st) w n bc bs post := by
  intro p e R s m args below meth c C H locs cells slots Q la hH hS hl h1 h2 hk
  exact lv_ior C.1 C.2.1 hd (k p e R s m args below meth c C H locs cells slots Q la hH hS hl h1 h2 hk)
theorem r_ixor {x z : Int32} (hd : decode (mb y) pc = .ok (.ixor, 1)) (k : Go G d y (pc + 1) ls (.int (x ^^^ z) :: st) w n bc bs post) : Go G d y pc ls (.int z :: .int x :: st) w n bc bs post := by
  intro p e R s m args below meth c C H locs cells slots Q la hH hS hl h1 h2 hk
  exact lv_ixor C.1 C.2.1 hd (k p e R s m args below meth c C H locs cells slots Q la hH hS hl h1 h2 hk)
theorem r_ishl {x z : Int32} (hd : decode (mb y) pc = .ok (.ishl, 1)) (k : Go G d y (pc + 1) ls (.int (x <<< (z &&& 31)) :: st) w n bc bs post) : Go G d y pc ls (.int z :: .int x :: st) w n bc bs post := by
  intro p e R s m args below meth c C H locs cells slots Q la hH hS hl h1 h2 hk
  exact lv_ishl C.1 C.2.1 hd (k p e R s m args below meth c C H locs cells slots Q la hH hS hl h1 h2 hk)
theorem r_ishr {x z : Int32} (hd : decode (mb y) pc = .ok (.ishr, 1)) (k : Go G d y (pc + 1) ls (.int (x >>> (z &&& 31)) :: st) w n bc bs post) : Go G d y pc ls (.int z :: .int x :: st) w n bc bs post := by
  intro p e R s m args below meth c C H locs cells slots Q la hH hS hl h1 h2 hk
  exact lv_ishr C.1 C.2.1 hd (k p e R s m args below meth c C H locs cells slots Q la hH hS hl h1 h2 hk)
theorem r_ladd {x z : Int64} (hd : decode (mb y) pc = .ok (.ladd, 1)) (k : Go G d y (pc + 1) ls (.long (x + z) :: st) w n bc bs post) : Go G d y pc ls (.long z :: .long x :: st) w n bc bs post := by
  intro p e R s m args below meth c C H locs cells slots Q la hH hS hl h1 h2 hk
  exact lv_ladd C.1 C.2.1 hd (k p e R s m args below meth c C H locs cells slots Q la hH hS hl h1 h2 hk)
theorem r_lsub {x z : Int64} (hd : decode (mb y) pc = .ok (.lsub, 1)) (k : Go G d y (pc + 1) ls (.long (x - z) :: st) w n bc bs post) : Go G d y pc ls (.long z :: .long x :: st) w n bc bs post := by
  intro p e R s m args below meth c C H locs cells slots Q la hH hS hl h1 h2 hk
  exact lv_lsub C.1 C.2.1 hd (k p e R s m args below meth c C H locs cells slots Q la hH hS hl h1 h2 hk)
theorem r_lmul {x z : Int64} (hd : decode (mb y) pc = .ok (.lmul, 1)) (k : Go G d y (pc + 1) ls (.long (x * z) :: st) w n bc bs post) : Go G d y pc ls (.long z :: .long x :: st) w n bc bs post := by
  intro p e R s m args below meth c C H locs cells slots Q la hH hS hl h1 h2 hk
  exact lv_lmul C.1 C.2.1 hd (k p e R s m args below meth c C H locs cells slots Q la hH hS hl h1 h2 hk)
theorem r_land {x z : Int64} (hd : decode (mb y) pc = .ok (.land, 1)) (k : Go G d y (pc + 1) ls (.long (x &&& z) :: st) w n bc bs post) : Go G d y pc ls (.long z :: .long x :: st) w n bc bs post := by
  intro p e R s m args below meth c C H locs cells slots Q la hH hS hl h1 h2 hk
  exact lv_land C.1 C.2.1 hd (k p e R s m args below meth c C H locs cells slots Q la hH hS hl h1 h2 hk)
theorem r_lor {x z : Int64} (hd : decode (mb y) pc = .ok (.lor, 1)) (k : Go G d y (pc + 1) ls (.long (x ||| z) :: st) w n bc bs post) : Go G d y pc ls (.long z :: .long x :: st) w n bc bs post := by
  intro p e R s m args below meth c C H locs cells slots Q la hH hS hl h1 h2 hk
  exact lv_lor C.1 C.2.1 hd (k p e R s m args below meth c C H locs cells slots Q la hH hS hl h1 h2 hk)
theorem r_lxor {x z : Int64} (hd : decode (mb y) pc = .ok (.lxor, 1)) (k : Go G d y (pc + 1) ls (.long (x ^^^ z) :: st) w n bc bs post) : Go G d y pc ls (.long z :: .long x :: st) w n bc bs post := by
  intro p e R s m args below meth c C H locs cells slots Q la hH hS hl h1 h2 hk
  exact lv_lxor C.1 C.2.1 hd (k p e R s m args below meth c C H locs cells slots Q la hH hS hl h1 h2 hk)
theorem r_idiv {x z : Int32} (hd : decode (mb y) pc = .ok (.idiv, 1)) (hne : ¬ z = 0) (k : Go G d y (pc + 1) ls (.int (x / z) :: st) w n bc bs post) : Go G d y pc ls (.int z :: .int x :: st) w n bc bs post := by
  intro p e R s m args below meth c C H locs cells slots Q la hH hS hl h1 h2 hk
  exact lv_idiv C.1 C.2.1 hd hne (k p e R s m args below meth c C H locs cells slots Q la hH hS hl h1 h2 hk)
theorem r_irem {x z : Int32} (hd : decode (mb y) pc = .ok (.irem, 1)) (hne : ¬ z = 0) (k : Go G d y (pc + 1) ls (.int (x - x / z * z) :: st) w n bc bs post) : Go G d y pc ls (.int z :: .int x :: st) w n bc bs post := by
  intro p e R s m args below meth c C H locs cells slots Q la hH hS hl h1 h2 hk
  exact lv_irem C.1 C.2.1 hd hne (k p e R s m args below meth c C H locs cells slots Q la hH hS hl h1 h2 hk)
theorem r_ldiv {x z : Int64} (hd : decode (mb y) pc = .ok (.ldiv, 1)) (hne : ¬ z = 0) (k : Go G d y (pc + 1) ls (.long (x / z) :: st) w n bc bs post) : Go G d y pc ls (.long z :: .long x :: st) w n bc bs post := by
  intro p e R s m args below meth c C H locs cells slots Q la hH hS hl h1 h2 hk
  exact lv_ldiv C.1 C.2.1 hd hne (k p e R s m args below meth c C H locs cells slots Q la hH hS hl h1 h2 hk)
theorem r_ineg {x : Int32} (hd : decode (mb y) pc = .ok (.ineg, 1)) (k : Go G d y (pc + 1) ls (.int (-x) :: st) w n bc bs post) : Go G d y pc ls (.int x :: st) w n bc bs post := by
  intro p e R s m args below meth c C H locs cells slots Q la hH hS hl h1 h2 hk
  exact lv_ineg C.1 C.2.1 hd (k p e R s m args below meth c C H locs cells slots Q la hH hS hl h1 h2 hk)
theorem r_lneg {x : Int64} (hd : decode (mb y) pc = .ok (.lneg, 1)) (k : Go G d y (pc + 1) ls (.long (-x) :: st) w n bc bs post) : Go G d y pc ls (.long x :: st) w n bc bs post := by
  intro p e R s m args below meth c C H locs cells slots Q la hH hS hl h1 h2 hk
  exact lv_lneg C.1 C.2.1 hd (k p e R s m args below meth c C H locs cells slots Q la hH hS hl h1 h2 hk)
theorem r_i2l {x : Int32} (hd : decode (mb y) pc = .ok (.i2l, 1)) (k : Go G d y (pc + 1) ls (.long (x.toInt64) :: st) w n bc bs post) : Go G d y pc ls (.int x :: st) w n bc bs post := by
  intro p e R s m args below meth c C H locs cells slots Q la hH hS hl h1 h2 hk
  exact lv_i2l C.1 C.2.1 hd rfl (k p e R s m args below meth c C H locs cells slots Q la hH hS hl h1 h2 hk)
theorem r_l2i {x : Int64} (hd : decode (mb y) pc = .ok (.l2i, 1)) (k : Go G d y (pc + 1) ls (.int (x.toInt32) :: st) w n bc bs post) : Go G d y pc ls (.long x :: st) w n bc bs post := by
  intro p e R s m args below meth c C H locs cells slots Q la hH hS hl h1 h2 hk
  exact lv_l2i C.1 C.2.1 hd rfl (k p e R s m args below meth c C H locs cells slots Q la hH hS hl h1 h2 hk)
theorem r_i2b {x : Int32} (hd : decode (mb y) pc = .ok (.i2b, 1)) (k : Go G d y (pc + 1) ls (.int (x.toInt8.toInt32) :: st) w n bc bs post) : Go G d y pc ls (.int x :: st) w n bc bs post := by
  intro p e R s m args below meth c C H locs cells slots Q la hH hS hl h1 h2 hk
  exact lv_i2b C.1 C.2.1 hd rfl (k p e R s m args below meth c C H locs cells slots Q la hH hS hl h1 h2 hk)
theorem r_i2s {x : Int32} (hd : decode (mb y) pc = .ok (.i2s, 1)) (k : Go G d y (pc + 1) ls (.int (x.toInt16.toInt32) :: st) w n bc bs post) : Go G d y pc ls (.int x :: st) w n bc bs post := by
  intro p e R s m args below meth c C H locs cells slots Q la hH hS hl h1 h2 hk
  exact lv_i2s C.1 C.2.1 hd rfl (k p e R s m args below meth c C H locs cells slots Q la hH hS hl h1 h2 hk)
theorem r_i2c {x : Int32} (hd : decode (mb y) pc = .ok (.i2c, 1)) (k : Go G d y (pc + 1) ls (.int ((x.toUInt32 % 65536).toInt32) :: st) w n bc bs post) : Go G d y pc ls (.int x :: st) w n bc bs post := by
  intro p e R s m args below meth c C H locs cells slots Q la hH hS hl h1 h2 hk
  exact lv_i2c C.1 C.2.1 hd rfl (k p e R s m args below meth c C H locs cells slots Q la hH hS hl h1 h2 hk)
theorem r_iushr {x z : Int32} (hd : decode (mb y) pc = .ok (.iushr, 1)) (k : Go G d y (pc + 1) ls (.int ((x.toUInt32 >>> (z.toUInt32 &&& Int32.toUInt32 31)).toInt32) :: st) w n bc bs post) : Go G d y pc ls (.int z :: .int x :: st) w n bc bs post := by
  intro p e R s m args below meth c C H locs cells slots Q la hH hS hl h1 h2 hk
  exact lv_iushr C.1 C.2.1 hd rfl (k p e R s m args below meth c C H locs cells slots Q la hH hS hl h1 h2 hk)
theorem r_lshl {x : Int64} {z : Int32} (hd : decode (mb y) pc = .ok (.lshl, 1)) (k : Go G d y (pc + 1) ls (.long (x <<< (z.toInt64 &&& 63)) :: st) w n bc bs post) : Go G d y pc ls (.int z :: .long x :: st) w n bc bs post := by
  intro p e R s m args below meth c C H locs cells slots Q la hH hS hl h1 h2 hk
  exact lv_lshl C.1 C.2.1 hd rfl (k p e R s m args below meth c C H locs cells slots Q la hH hS hl h1 h2 hk)
theorem r_lshr {x : Int64} {z : Int32} (hd : decode (mb y) pc = .ok (.lshr, 1)) (k : Go G d y (pc + 1) ls (.long (x >>> (z.toInt64 &&& 63)) :: st) w n bc bs post) : Go G d y pc ls (.int z :: .long x :: st) w n bc bs post := by
  intro p e R s m args below meth c C H locs cells slots Q la hH hS hl h1 h2 hk
  exact lv_lshr C.1 C.2.1 hd rfl (k p e R s m args below meth c C H locs cells slots Q la hH hS hl h1 h2 hk)
theorem r_lcmp {x z : Int64} (hd : decode (mb y) pc = .ok (.lcmp, 1)) (k : Go G d y (pc + 1) ls (.int (lg_cmp x z) :: st) w n bc bs post) : Go G d y pc ls (.long z :: .long x :: st) w n bc bs post := by
  intro p e R s m args below meth c C H locs cells slots Q la hH hS hl h1 h2 hk
  exact W.lcmp C.1 C.2.1 hd (k p e R s m args below meth c C H locs cells slots Q la hH hS hl h1 h2 hk)
theorem r_dup {v : Value} (hd : decode (mb y) pc = .ok (.dup, 1)) (hv : v.category = 1) (k : Go G d y (pc + 1) ls (v :: v :: st) w n bc bs post) : Go G d y pc ls (v :: st) w n bc bs post := by
  intro p e R s m args below meth c C H locs cells slots Q la hH hS hl h1 h2 hk
  exact lv_dup C.1 C.2.1 hd (cv_cat.trans hv) (k p e R s m args below meth c C H locs cells slots Q la hH hS hl h1 h2 hk)
theorem r_pop {v : Value} (hd : decode (mb y) pc = .ok (.pop, 1)) (hv : v.category = 1) (k : Go G d y (pc + 1) ls st w n bc bs post) : Go G d y pc ls (v :: st) w n bc bs post := by
  intro p e R s m args below meth c C H locs cells slots Q la hH hS hl h1 h2 hk
  exact lv_pop C.1 C.2.1 hd (cv_cat.trans hv) (k p e R s m args below meth c C H locs cells slots Q la hH hS hl h1 h2 hk)
theorem r_dup_x1 {u v : Value} (hd : decode (mb y) pc = .ok (.dup_x1, 1)) (hu : u.category = 1) (hv : v.category = 1) (k : Go G d y (pc + 1) ls (u :: v :: u :: st) w n bc bs post) : Go G d y pc ls (u :: v :: st) w n bc bs post := by
  intro p e R s m args below meth c C H locs cells slots Q la hH hS hl h1 h2 hk
  exact lv_dup_x1 C.1 C.2.1 hd (cv_cat.trans hu) (cv_cat.trans hv) (k p e R s m args below meth c C H locs cells slots Q la hH hS hl h1 h2 hk)
theorem r_dup2_11 {u v : Value} (hd : decode (mb y) pc = .ok (.dup2, 1)) (hu : u.category = 1) (hv : v.category = 1) (k : Go G d y (pc + 1) ls (u :: v :: u :: v :: st) w n bc bs post) : Go G d y pc ls (u :: v :: st) w n bc bs post := by
  intro p e R s m args below meth c C H locs cells slots Q la hH hS hl h1 h2 hk
  exact lv_dup2_11 C.1 C.2.1 hd (cv_cat.trans hu) (cv_cat.trans hv) (k p e R s m args below meth c C H locs cells slots Q la hH hS hl h1 h2 hk)
theorem r_dup2_2 {v : Value} (hd : decode (mb y) pc = .ok (.dup2, 1)) (hv : v.category = 2) (k : Go G d y (pc + 1) ls (v :: v :: st) w n bc bs post) : Go G d y pc ls (v :: st) w n bc bs post := by
  intro p e R s m args below meth c C H locs cells slots Q la hH hS hl h1 h2 hk
  exact lv_dup2_2 C.1 C.2.1 hd (cv_cat.trans hv) (k p e R s m args below meth c C H locs cells slots Q la hH hS hl h1 h2 hk)
theorem r_if_eq {x : Int32} {off : Int} (tgt : Nat) (hd : decode (mb y) pc = .ok (.ifCond .eq off, 3)) (ht : (pc : Int) + off = (tgt : Int)) (kt : x = 0 → Go G d y tgt ls st w n bc bs post) (kf : ¬ x = 0 → Go G d y (pc + 3) ls st w n bc bs post) : Go G d y pc ls (.int x :: st) w n bc bs post := by
  intro p e R s m args below meth c C H locs cells slots Q la hH hS hl h1 h2 hk
  exact lv_if_eq C.1 C.2.1 hd ht (fun q => kt q p e R s m args below meth c C H locs cells slots Q la hH hS hl h1 h2 hk) (fun q => kf q p e R s m args below meth c C H locs cells slots Q la hH hS hl h1 h2 hk)
theorem r_if_ne {x : Int32} {off : Int} (tgt : Nat) (hd : decode (mb y) pc = .ok (.ifCond .ne off, 3)) (ht : (pc : Int) + off = (tgt : Int)) (kt : ¬ x = 0 → Go G d y tgt ls st w n bc bs post) (kf : x = 0 → Go G d y (pc + 3) ls st w n bc bs post) : Go G d y pc ls (.int x :: st) w n bc bs post := by
  intro p e R s m args below meth c C H locs cells slots Q la hH hS hl h1 h2 hk
  exact lv_if_ne C.1 C.2.1 hd ht (fun q => kt q p e R s m args below meth c C H locs cells slots Q la hH hS hl h1 h2 hk) (fun q => kf q p e R s m args below meth c C H locs cells slots Q la hH hS hl h1 h2 hk)
theorem r_if_lt {x : Int32} {off : Int} (tgt : Nat) (hd : decode (mb y) pc = .ok (.ifCond .lt off, 3)) (ht : (pc : Int) + off = (tgt : Int)) (kt : x < 0 → Go G d y tgt ls st w n bc bs post) (kf : ¬ x < 0 → Go G d y (pc + 3) ls st w n bc bs post) : Go G d y pc ls (.int x :: st) w n bc bs post := by
  intro p e R s m args below meth c C H locs cells slots Q la hH hS hl h1 h2 hk
  exact lv_if_lt C.1 C.2.1 hd ht (fun q => kt q p e R s m args below meth c C H locs cells slots Q la hH hS hl h1 h2 hk) (fun q => kf q p e R s m args below meth c C H locs cells slots Q la hH hS hl h1 h2 hk)
theorem r_if_ge {x : Int32} {off : Int} (tgt : Nat) (hd : decode (mb y) pc = .ok (.ifCond .ge off, 3)) (ht : (pc : Int) + off = (tgt : Int)) (kt : 0 ≤ x → Go G d y tgt ls st w n bc bs post) (kf : ¬ 0 ≤ x → Go G d y (pc + 3) ls st w n bc bs post) : Go G d y pc ls (.int x :: st) w n bc bs post := by
  intro p e R s m args below meth c C H locs cells slots Q la hH hS hl h1 h2 hk
  exact lv_if_ge C.1 C.2.1 hd ht (fun q => kt q p e R s m args below meth c C H locs cells slots Q la hH hS hl h1 h2 hk) (fun q => kf q p e R s m args below meth c C H locs cells slots Q la hH hS hl h1 h2 hk)
theorem r_if_gt {x : Int32} {off : Int} (tgt : Nat) (hd : decode (mb y) pc = .ok (.ifCond .gt off, 3)) (ht : (pc : Int) + off = (tgt : Int)) (kt : 0 < x → Go G d y tgt ls st w n bc bs post) (kf : ¬ 0 < x → Go G d y (pc + 3) ls st w n bc bs post) : Go G d y pc ls (.int x :: st) w n bc bs post := by
  intro p e R s m args below meth c C H locs cells slots Q la hH hS hl h1 h2 hk
  exact lv_if_gt C.1 C.2.1 hd ht (fun q => kt q p e R s m args below meth c C H locs cells slots Q la hH hS hl h1 h2 hk) (fun q => kf q p e R s m args below meth c C H locs cells slots Q la hH hS hl h1 h2 hk)
theorem r_if_le {x : Int32} {off : Int} (tgt : Nat) (hd : decode (mb y) pc = .ok (.ifCond .le off, 3)) (ht : (pc : Int) + off = (tgt : Int)) (kt : x ≤ 0 → Go G d y tgt ls st w n bc bs post) (kf : ¬ x ≤ 0 → Go G d y (pc + 3) ls st w n bc bs post) : Go G d y pc ls (.int x :: st) w n bc bs post := by
  intro p e R s m args below meth c C H locs cells slots Q la hH hS hl h1 h2 hk
  exact lv_if_le C.1 C.2.1 hd ht (fun q => kt q p e R s m args below meth c C H locs cells slots Q la hH hS hl h1 h2 hk) (fun q => kf q p e R s m args below meth c C H locs cells slots Q la hH hS hl h1 h2 hk)
theorem r_icmp_eq {x z : Int32} {off : Int} (tgt : Nat) (hd : decode (mb y) pc = .ok (.if_icmp .eq off, 3)) (ht : (pc : Int) + off = (tgt : Int)) (kt : x = z → Go G d y tgt ls st w n bc bs post) (kf : ¬ x = z → Go G d y (pc + 3) ls st w n bc bs post) : Go G d y pc ls (.int z :: .int x :: st) w n bc bs post := by
  intro p e R s m args below meth c C H locs cells slots Q la hH hS hl h1 h2 hk
  exact lv_icmp_eq C.1 C.2.1 hd ht (fun q => kt q p e R s m args below meth c C H locs cells slots Q la hH hS hl h1 h2 hk) (fun q => kf q p e R s m args below meth c C H locs cells slots Q la hH hS hl h1 h2 hk)
theorem r_icmp_ne {x z : Int32} {off : Int} (tgt : Nat) (hd : decode (mb y) pc = .ok (.if_icmp .ne off, 3)) (ht : (pc : Int) + off = (tgt : Int)) (kt : ¬ x = z → Go G d y tgt ls st w n bc bs post) (kf : x = z → Go G d y (pc + 3) ls st w n bc bs post) : Go G d y pc ls (.int z :: .int x :: st) w n bc bs post := by
  intro p e R s m args below meth c C H locs cells slots Q la hH hS hl h1 h2 hk
  exact lv_icmp_ne C.1 C.2.1 hd ht (fun q => kt q p e R s m args below meth c C H locs cells slots Q la hH hS hl h1 h2 hk) (fun q => kf q p e R s m args below meth c C H locs cells slots Q la hH hS hl h1 h2 hk)
theorem r_icmp_lt {x z : Int32} {off : Int} (tgt : Nat) (hd : decode (mb y) pc = .ok (.if_icmp .lt off, 3)) (ht : (pc : Int) + off = (tgt : Int)) (kt : x < z → Go G d y tgt ls st w n bc bs post) (kf : ¬ x < z → Go G d y (pc + 3) ls st w n bc bs post) : Go G d y pc ls (.int z :: .int x :: st) w n bc bs post := by
  intro p e R s m args below meth c C H locs cells slots Q la hH hS hl h1 h2 hk
  exact lv_icmp_lt C.1 C.2.1 hd ht (fun q => kt q p e R s m args below meth c C H locs cells slots Q la hH hS hl h1 h2 hk) (fun q => kf q p e R s m args below meth c C H locs cells slots Q la hH hS hl h1 h2 hk)
theorem r_icmp_ge {x z : Int32} {off : Int} (tgt : Nat) (hd : decode (mb y) pc = .ok (.if_icmp .ge off, 3)) (ht : (pc : Int) + off = (tgt : Int)) (kt : z ≤ x → Go G d y tgt ls st w n bc bs post) (kf : ¬ z ≤ x → Go G d y (pc + 3) ls st w n bc bs post) : Go G d y pc ls (.int z :: .int x :: st) w n bc bs post := by
  intro p e R s m args below meth c C H locs cells slots Q la hH hS hl h1 h2 hk
  exact lv_icmp_ge C.1 C.2.1 hd ht (fun q => kt q p e R s m args below meth c C H locs cells slots Q la hH hS hl h1 h2 hk) (fun q => kf q p e R s m args below meth c C H locs cells slots Q la hH hS hl h1 h2 hk)
theorem r_icmp_gt {x z : Int32} {off : Int} (tgt : Nat) (hd : decode (mb y) pc = .ok (.if_icmp .gt off, 3)) (ht : (pc : Int) + off = (tgt : Int)) (kt : z < x → Go G d y tgt ls st w n bc bs post) (kf : ¬ z < x → Go G d y (pc + 3) ls st w n bc bs post) : Go G d y pc ls (.int z :: .int x :: st) w n bc bs post := by
  intro p e R s m args below meth c C H locs cells slots Q la hH hS hl h1 h2 hk
  exact lv_icmp_gt C.1 C.2.1 hd ht (fun q => kt q p e R s m args below meth c C H locs cells slots Q la hH hS hl h1 h2 hk) (fun q => kf q p e R s m args below meth c C H locs cells slots Q la hH hS hl h1 h2 hk)
theorem r_icmp_le {x z : Int32} {off : Int} (tgt : Nat) (hd : decode (mb y) pc = .ok (.if_icmp .le off, 3)) (ht : (pc : Int) + off = (tgt : Int)) (kt : x ≤ z → Go G d y tgt ls st w n bc bs post) (kf : ¬ x ≤ z → Go G d y (pc + 3) ls st w n bc bs post) : Go G d y pc ls (.int z :: .int x :: st) w n bc bs post := by
  intro p e R s m args below meth c C H locs cells slots Q la hH hS hl h1 h2 hk
  exact lv_icmp_le C.1 C.2.1 hd ht (fun q => kt q p e R s m args below meth c C H locs cells slots Q la hH hS hl h1 h2 hk) (fun q => kf q p e R s m args below meth c C H locs cells slots Q la hH hS hl h1 h2 hk)
theorem r_goto {off : Int} (tgt : Nat) (hd : decode (mb y) pc = .ok (.goto off, 3)) (ht : (pc : Int) + off = (tgt : Int)) (k : Go G d y tgt ls st w n bc bs post) : Go G d y pc ls st w n bc bs post := by
  intro p e R s m args below meth c C H locs cells slots Q la hH hS hl h1 h2 hk
  exact lv_goto C.1 C.2.1 hd ht (k p e R s m args below meth c C H locs cells slots Q la hH hS hl h1 h2 hk)
theorem r_ifnonnull {x : Nat} {off : Int} (tgt : Nat) (hd : decode (mb y) pc = .ok (.ifnonnull off, 3)) (ht : (pc : Int) + off = (tgt : Int)) (k : Go G d y tgt ls st w n bc bs post) : Go G d y pc ls (.ref x :: st) w n bc bs post := by
  intro p e R s m args below meth c C H locs cells slots Q la hH hS hl h1 h2 hk
  exact lv_ifnonnull C.1 C.2.1 hd ht (k p e R s m args below meth c C H locs cells slots Q la hH hS hl h1 h2 hk)
theorem r_ifnonnullN {off : Int} (hd : decode (mb y) pc = .ok (.ifnonnull off, 3)) (k : Go G d y (pc + 3) ls st w n bc bs post) : Go G d y pc ls (.null :: st) w n bc bs post := by
  intro p e R s m args below meth c C H locs cells slots Q la hH hS hl h1 h2 hk
  exact lv_ifnonnullN C.1 C.2.1 hd (k p e R s m args below meth c C H locs cells slots Q la hH hS hl h1 h2 hk)
theorem r_tableIn {dflt lo hi : Int} {offs : Array Int} {len : Nat} {x : Int32} {off : Int} (tgt : Nat) (hd : decode (mb y) pc = .ok (.tableswitch dflt lo hi offs, len)) (h3 : ¬ x.toInt < lo) (h4 : ¬ hi < x.toInt) (ho : offs[(x.toInt - lo).toNat]? = some off) (ht : (pc : Int) + off = (tgt : Int)) (k : Go G d y tgt ls st w n bc bs post) : Go G d y pc ls (.int x :: st) w n bc bs post := by
  intro p e R s m args below meth c C H locs cells slots Q la hH hS hl h1 h2 hk
  exact lv_tableIn C.1 C.2.1 hd h3 h4 ho ht (k p e R s m args below meth c C H locs cells slots Q la hH hS hl h1 h2 hk)
theorem r_tableOut {dflt lo hi : Int} {offs : Array Int} {len : Nat} {x : Int32} (tgt : Nat) (hd : decode (mb y) pc = .ok (.tableswitch dflt lo hi offs, len)) (h3 : x.toInt < lo ∨ hi < x.toInt) (ht : (pc : Int) + dflt = (tgt : Int)) (k : Go G d y tgt ls st w n bc bs post) : Go G d y pc ls (.int x :: st) w n bc bs post := by
  intro p e R s m args below meth c C H locs cells slots Q la hH hS hl h1 h2 hk
  exact lv_tableOut C.1 C.2.1 hd h3 ht (k p e R s m args below meth c C H locs cells slots Q la hH hS hl h1 h2 hk)
end RULES
end
section
-- FIELDS, ARRAYS, MAKING
theorem cls_ok {ci N : Nat} {C : String} {T : u_T} (hc : classes[ci]? = some (C, T, N)) : (∀ w ∈ u_ws C T N, w ∈ WALL) ∧ (∃ ty : Nat → FieldType, tks[ci]? = some ty ∧ ∀ k, k < N → parseFieldDescriptor (T k).2.2.1 = some (ty k)) ∧ (∀ a, a < N → ∀ b, b < N → a ≠ b → (T a).2.1 ≠ (T b).2.1) ∧ (Cond.instantiable C N ∈ WALL ∧ Cond.initialized C ∈ WALL) := by
  match ci, hc with
  | 0, hc => cases hc; exact ⟨lk0, ⟨tk0, rfl, ok0⟩, nk0, ik0⟩
  | 1, hc => cases hc; exact ⟨lk1, ⟨tk1, rfl, ok1⟩, nk1, ik1⟩
  | 2, hc => cases hc; exact ⟨lk2, ⟨tk2, rfl, ok2⟩, nk2, ik2⟩
  | 3, hc => cases hc; exact ⟨lk3, ⟨tk3, rfl, ok3⟩, nk3, ik3⟩
  | 4, hc => cases hc; exact ⟨lk4, ⟨tk4, rfl, ok4⟩, nk4, ik4⟩
  | 5, hc => cases hc; exact ⟨lk5, ⟨tk5, rfl, ok5⟩, nk5, ik5⟩
  | 6, hc => cases hc; exact ⟨lk6, ⟨tk6, rfl, ok6⟩, nk6, ik6⟩
/-- what a field of a type takes -/
def okf (ty : FieldType) (v : Value) : Bool := match ty, v with
  | .int, .int _ => true
  | .long, .long _ => true
  | .boolean, .int x => x == 0 || x == 1
  | .array _, .ref _ => true
  | .array _, .null => true
  | .object _, .ref _ => true
  | .object _, .null => true
  | _, _ => false
theorem okf_cv {G : gE} {ty : FieldType} {v : Value} (h : okf ty v = true) : okf ty (cv G v) = true := by
  cases v <;> first | exact h | (cases ty <;> exact h)
theorem okf_narrow {ty : FieldType} {v : Value} (h : okf ty v = true) : narrow ty v = v ∧ fits ty v = true := by
  cases ty <;> cases v <;> first | exact ⟨rfl, rfl⟩ | (simp [okf] at h; done) | skip
  all_goals (simp [okf] at h; rcases h with rfl | rfl <;> exact ⟨rfl, rfl⟩)
section MEM
variable {G : gE} {d y pc : Nat} {ls : List (Option Value)} {st : List Value} {w : aW} {n bc bs : Nat} {post : Option Value → aW → Nat → Prop}
theorem r_getf {own C : String} {T : u_T} {ci N a idx k : Nat} {fs : List Value} {v : Value} (ho : (mn y).cls = own) (hd : decode (mb y) pc = .ok (.getfield idx, 3)) (hx : Cond.fieldLink own idx C (T k).2.1 (T k).2.2.1 ∈ WALL) (hc : classes[ci]? = some (C, T, N)) (hk : k < N) (hr : (T k).1 = C) (hw : w a = .inr (ci, fs)) (ha : a < n) (hv : fs[k]? = some v)
    (kk : Go G d y (pc + 3) ls (v :: st) w n bc bs post) : Go G d y pc ls (.ref a :: st) w n bc bs post := by
  intro p e R s m args below meth c C9 H locs cells slots Q la hH hS hl h1 h2 hk9
  have hat := hH.at ha hw
  refine va_get (v := cv G v) C9.1 C9.2.1 C9.2.2.2.2.1 (cls_ok hc).1 (ho ▸ C9.2.2.2.1) C9.2.2.2.2.2.2.2.2.1.1 (va_P1 hat) 0 rfl hc k hk (C9.2.2.2.2.1 _ hx) (fun x9 h9 => by rw [hr] at h9; exact h9) (by rw [List.getElem?_map, hv]; rfl) hd ?_
  exact kk p e R s m args below meth c C9 H locs cells slots Q la hH hS hl h1 h2 hk9
theorem r_getfN {own C host : String} {T : u_T} {ci N a idx k : Nat} {fs : List Value} {v : Value} (ho : (mn y).cls = own) (hd : decode (mb y) pc = .ok (.getfield idx, 3)) (hx : Cond.fieldLinkNest own idx C (T k).2.1 (T k).2.2.1 host ∈ NST) (hc : classes[ci]? = some (C, T, N)) (hk : k < N) (hr : (T k).1 = C) (hw : w a = .inr (ci, fs)) (ha : a < n) (hv : fs[k]? = some v)
    (kk : Go G d y (pc + 3) ls (v :: st) w n bc bs post) : Go G d y pc ls (.ref a :: st) w n bc bs post := by
  intro p e R s m args below meth c C9 H locs cells slots Q la hH hS hl h1 h2 hk9
  have hat := hH.at ha hw
  refine va_getN (v := cv G v) C9.1 C9.2.1 C9.2.2.2.2.1 (cls_ok hc).1 (ho ▸ C9.2.2.2.1) C9.2.2.2.2.2.2.2.2.1.1 (va_P1 hat) 0 rfl hc k hk (va_Nw.use rfl (C9.2.2.2.2.2.2.2.2.1.2.1 _ hx)) (fun x9 h9 => by rw [hr] at h9; exact h9) (by rw [List.getElem?_map, hv]; rfl) hd ?_
  exact kk p e R s m args below meth c C9 H locs cells slots Q la hH hS hl h1 h2 hk9
/-- the object behind a store into it -/
theorem ob_put {args : Array Value} {s : State} {H1 : Heap} {C : String} {T : u_T} {ci N a k : Nat} {fs : List Value} {v : Value} {cell : Cell} (hts : ∀ w ∈ WALL, w.before args s = true) (hK : va_K (gD G) classes (gtys G) s) (hc : classes[ci]? = some (C, T, N)) (hk : k < N) (hl : k < fs.length)
    (q2 : cell.cls = (gD G).1 ci) (q3 : cell.vm = .none) (q4 : ∀ j, j < N → cell.slots[(gD G).2 ci j]? = some (vp_V (fs.map (cv G)) j)) (e1 : H1[gad G a]? = some (cell.setSlot ((gD G).2 ci k) (cv G v))) : va_at (gD G) classes (gad G a, ce G (.inr (ci, fs.set k v))) H1 := by
  obtain ⟨hin, ⟨ty, -, hty⟩, hnm, -⟩ := cls_ok hc
  have hap := va_apart (own := C) hts hin ty hty hnm hK hc
  refine ⟨_, hc, ?_⟩
  show t_OB (gad G a) ((gD G).1 ci) N ((gD G).2 ci) H1 (vp_V ((fs.set k v).map (cv G)))
  rw [List.map_set]
  exact t_OB.to (V := updV (vp_V (fs.map (cv G))) k (cv G v)) ⟨_, e1, q2, q3, t_set q4 hap hk (cv G v)⟩ (fun j _ => vp_updV_set (by rw [List.length_map]; exact hl) (cv G v) j)
theorem r_putf {own C : String} {T : u_T} {ci N a idx k : Nat} {fs : List Value} {v : Value} {ty : FieldType} (ho : (mn y).cls = own) (hd : decode (mb y) pc = .ok (.putfield idx, 3)) (hx : Cond.fieldLink own idx C (T k).2.1 (T k).2.2.1 ∈ WALL) (hc : classes[ci]? = some (C, T, N)) (hk : k < N) (hr : (T k).1 = C) (hf : (T k).2.2.2 = false) (ht : parseFieldDescriptor (T k).2.2.1 = some ty) (hv : okf ty v = true) (hw : w a = .inr (ci, fs)) (ha : a < n) (hl : k < fs.length)
    (kk : Go G d y (pc + 3) ls st (upw w a (.inr (ci, fs.set k v))) n bc bs post) : Go G d y pc ls (v :: .ref a :: st) w n bc bs post := by
  intro p e R s m args below meth c C9 H locs cells slots Q la hH hS hl9 h1 h2 hk9
  have hat := hH.at ha hw
  have hts := C9.2.2.2.2.1
  have hK := C9.2.2.2.2.2.2.2.2.1.1
  obtain ⟨r, e0, cell, q1, q2, q3, q4⟩ := hat
  cases e0.symm.trans hc
  obtain ⟨hin, -, -, -⟩ := cls_ok hc
  obtain ⟨hSl, hfc, kC, hkC, hkind⟩ := hK.1 ci _ hc
  obtain ⟨cf, kf, fi, f, hi, hsl⟩ := hSl k hk
  have hlay := hts _ (hin _ (u_in_lay hk))
  unfold u_lay at hlay
  rw [if_neg (by rw [hf]; decide)] at hlay
  have hst := (u_facts hfc hkC (Or.inl hlay) hi).1
  obtain ⟨hn9, hfit9⟩ := okf_narrow (okf_cv (G := G) hv)
  have h6 := u_store hfc hkC hkind hlay hi ht hn9 hfit9
  have hsame : s.fieldFound? C (T k).2.1 (T k).2.2.1 = some (cf, kf, fi, f) := by rw [← hr]; exact hi
  refine W.putK C9.1 C9.2.1 (f := f) ⟨ho ▸ C9.2.2.2.1, hts _ hx, ⟨_, _, _, hsame⟩, hst⟩ (by rw [q2]; exact h6) q1 q3 (by rw [hsl]; exact k2_hasslot (q4 k hk)) rfl rfl hd fun H' e1 e2 e3 => ?_
  rw [hsl] at e1 ⊢
  exact kk p e R s m args below meth c C9 H' _ cells slots Q la (hH.set ha (ob_put hts hK hc hk hl q2 q3 q4 e1) e2 e3) (hS.put e2 e3 (hH.a ha)) hl9 h1 h2 hk9
theorem r_putfN {own C host : String} {T : u_T} {ci N a idx k : Nat} {fs : List Value} {v : Value} {ty : FieldType} (ho : (mn y).cls = own) (hd : decode (mb y) pc = .ok (.putfield idx, 3)) (hx : Cond.fieldLinkNest own idx C (T k).2.1 (T k).2.2.1 host ∈ NST) (hc : classes[ci]? = some (C, T, N)) (hk : k < N) (hr : (T k).1 = C) (hf : (T k).2.2.2 = false) (ht : parseFieldDescriptor (T k).2.2.1 = some ty) (hv : okf ty v = true) (hw : w a = .inr (ci, fs)) (ha : a < n) (hl : k < fs.length)
    (kk : Go G d y (pc + 3) ls st (upw w a (.inr (ci, fs.set k v))) n bc bs post) : Go G d y pc ls (v :: .ref a :: st) w n bc bs post := by
  intro p e R s m args below meth c C9 H locs cells slots Q la hH hS hl9 h1 h2 hk9
  have hat := hH.at ha hw
  have hts := C9.2.2.2.2.1
  have hK := C9.2.2.2.2.2.2.2.2.1.1
  obtain ⟨r, e0, cell, q1, q2, q3, q4⟩ := hat
  cases e0.symm.trans hc
  obtain ⟨hin, -, -, -⟩ := cls_ok hc
  obtain ⟨hSl, hfc, kC, hkC, hkind⟩ := hK.1 ci _ hc
  obtain ⟨cf, kf, fi, f, hi, hsl⟩ := hSl k hk
  have hlay := hts _ (hin _ (u_in_lay hk))
  unfold u_lay at hlay
  rw [if_neg (by rw [hf]; decide)] at hlay
  have hst := (u_facts hfc hkC (Or.inl hlay) hi).1
  obtain ⟨hn9, hfit9⟩ := okf_narrow (okf_cv (G := G) hv)
  have h6 := u_store hfc hkC hkind hlay hi ht hn9 hfit9
  have hsame : s.fieldFound? C (T k).2.1 (T k).2.2.1 = some (cf, kf, fi, f) := by rw [← hr]; exact hi
  refine va_WputK C9.1 C9.2.1 (f := f) (ho ▸ C9.2.2.2.1) (va_Nw.use rfl (C9.2.2.2.2.2.2.2.2.1.2.1 _ hx)) hsame hst (by rw [q2]; exact h6) q1 q3 (by rw [hsl]; exact k2_hasslot (q4 k hk)) rfl rfl hd fun H' e1 e2 e3 => ?_
  rw [hsl] at e1 ⊢
  exact kk p e R s m args below meth c C9 H' _ cells slots Q la (hH.set ha (ob_put hts hK hc hk hl q2 q3 q4 e1) e2 e3) (hS.put e2 e3 (hH.a ha)) hl9 h1 h2 hk9
theorem r_putfF {own C : String} {T : u_T} {ci N a idx k : Nat} {fs : List Value} {v : Value} {ty : FieldType} (ho : (mn y).cls = own) (hi9 : (mn y).name = "<init>") (hd : decode (mb y) pc = .ok (.putfield idx, 3)) (hx : Cond.fieldLink own idx C (T k).2.1 (T k).2.2.1 ∈ WALL) (hc : classes[ci]? = some (C, T, N)) (hk : k < N) (hr : (T k).1 = C) (hoC : C = own) (hf : (T k).2.2.2 = true) (ht : parseFieldDescriptor (T k).2.2.1 = some ty) (hv : okf ty v = true) (hw : w a = .inr (ci, fs)) (ha : a < n) (hl : k < fs.length)
    (kk : Go G d y (pc + 3) ls st (upw w a (.inr (ci, fs.set k v))) n bc bs post) : Go G d y pc ls (v :: .ref a :: st) w n bc bs post := by
  intro p e R s m args below meth c C9 H locs cells slots Q la hH hS hl9 h1 h2 hk9
  have hat := hH.at ha hw
  have hts := C9.2.2.2.2.1
  have hK := C9.2.2.2.2.2.2.2.2.1.1
  have hown : s.vm.findClass own = some m.cls := ho ▸ C9.2.2.2.1
  obtain ⟨r, e0, cell, q1, q2, q3, q4⟩ := hat
  cases e0.symm.trans hc
  obtain ⟨hin, -, -, -⟩ := cls_ok hc
  obtain ⟨hSl, hfc, kC, hkC, hkind⟩ := hK.1 ci _ hc
  obtain ⟨cf, kf, fi, f, hi, hsl⟩ := hSl k hk
  have hlay := hts _ (hin _ (u_in_lay hk))
  unfold u_lay at hlay
  rw [if_pos hf] at hlay
  have hst := (u_facts hfc hkC (Or.inr hlay) hi).1
  have hcf : m.cls = cf := by
    obtain ⟨_, _, c', _, _, _, -, -, hf', -, -, -, hown2, -⟩ := Cond.laysFinal_spec hlay
    have e1 : c' = cf := by have := hi.symm.trans hf'; simp at this; exact this.1.symm
    rw [hr, hoC] at hown2
    rw [← e1]; exact Option.some.inj (hown.symm.trans hown2)
  obtain ⟨hn9, hfit9⟩ := okf_narrow (okf_cv (G := G) hv)
  have h6 := u_fits hfc hkC hkind (Or.inr hlay) hi ht hn9 hfit9
  have hsame : s.fieldFound? C (T k).2.1 (T k).2.2.1 = some (cf, kf, fi, f) := by rw [← hr]; exact hi
  refine W.putFinK C9.1 C9.2.1 hown (hts _ hx) hsame hst hcf (C9.2.2.2.2.2.1 hi9) (by rw [q2]; exact h6) q1 q3 (by rw [hsl]; exact k2_hasslot (q4 k hk)) rfl rfl hd fun H' e1 e2 e3 => ?_
  rw [hsl] at e1 ⊢
  exact kk p e R s m args below meth c C9 H' _ cells slots Q la (hH.set ha (ob_put hts hK hc hk hl q2 q3 q4 e1) e2 e3) (hS.put e2 e3 (hH.a ha)) hl9 h1 h2 hk9
-- arrays
theorem r_iald {a len : Nat} {f : Nat → Int32} {i : Int32} (hd : decode (mb y) pc = .ok (.iaload, 1)) (hw : w a = .inl (0, (len, .inl f))) (ha : a < n) (hin : vp_in i len) (kk : Go G d y (pc + 1) ls (.int (f i.toNatClampNeg) :: st) w n bc bs post) : Go G d y pc ls (.int i :: .ref a :: st) w n bc bs post := by
  intro p e R s m args below meth c C9 H locs cells slots Q la hH hS hl h1 h2 hk9
  exact va_iald (tys := gtys G) C9.1 C9.2.1 C9.2.2.2.2.2.2.2.2.1.1 (va_P1 (hH.at ha hw)) 0 0 rfl rfl hin hd (kk p e R s m args below meth c C9 H locs cells slots Q la hH hS hl h1 h2 hk9)
theorem r_zald {a len : Nat} {f : Nat → Int32} {i : Int32} (hd : decode (mb y) pc = .ok (.baload, 1)) (hw : w a = .inl (2, (len, .inl f))) (ha : a < n) (hin : vp_in i len) (kk : Go G d y (pc + 1) ls (.int (f i.toNatClampNeg) :: st) w n bc bs post) : Go G d y pc ls (.int i :: .ref a :: st) w n bc bs post := by
  intro p e R s m args below meth c C9 H locs cells slots Q la hH hS hl h1 h2 hk9
  exact va_zald (tys := gtys G) C9.1 C9.2.1 C9.2.2.2.2.2.2.2.2.1.1 (va_P1 (hH.at ha hw)) 0 2 rfl rfl hin hd (kk p e R s m args below meth c C9 H locs cells slots Q la hH hS hl h1 h2 hk9)
theorem r_lald {a len : Nat} {f : Nat → Int64} {i : Int32} (hd : decode (mb y) pc = .ok (.laload, 1)) (hw : w a = .inl (1, (len, .inr (.inl f)))) (ha : a < n) (hin : vp_in i len) (kk : Go G d y (pc + 1) ls (.long (f i.toNatClampNeg) :: st) w n bc bs post) : Go G d y pc ls (.int i :: .ref a :: st) w n bc bs post := by
  intro p e R s m args below meth c C9 H locs cells slots Q la hH hS hl h1 h2 hk9
  exact va_lald (tys := gtys G) C9.1 C9.2.1 C9.2.2.2.2.2.2.2.2.1.1 (va_P1 (hH.at ha hw)) 0 1 rfl rfl hin hd (kk p e R s m args below meth c C9 H locs cells slots Q la hH hS hl h1 h2 hk9)
theorem r_aald {a t len b : Nat} {f : Nat → Option Nat} {i : Int32} (hd : decode (mb y) pc = .ok (.aaload, 1)) (hw : w a = .inl (t, (len, .inr (.inr (.inr (.inr f)))))) (ht : t = 3 ∨ t = 4) (ha : a < n) (hin : vp_in i len) (hf : f i.toNatClampNeg = some b) (kk : Go G d y (pc + 1) ls (.ref b :: st) w n bc bs post) : Go G d y pc ls (.int i :: .ref a :: st) w n bc bs post := by
  intro p e R s m args below meth c C9 H locs cells slots Q la hH hS hl h1 h2 hk9
  have hat := hH.at ha hw
  have hlt : i.toNatClampNeg < len := Nat.not_le.mp fun q => hin (Or.inr q)
  have hcell : H[gad G a]? = some (arrV (gtc G t) len (fun j => va_rf ((f j).map (gad G)))) := hat
  have hA : ∃ ty : FieldType, ty.isReference = true ∧ ArrOfT s (gtc G t) ty := by
    rcases ht with rfl | rfl
    · exact ⟨_, rfl, (C9.2.2.2.2.2.2.2.2.1.1.2 3 _ rfl).1⟩
    · exact ⟨_, rfl, (C9.2.2.2.2.2.2.2.2.1.1.2 4 _ rfl).1⟩
  obtain ⟨ty, hty, hAr⟩ := hA
  refine W.aald (v := .ref (gad G b)) (ty := ty) C9.1 C9.2.1 hcell (hAr _ _) hty (fun q => by cases q) (by rw [arrV_size]; exact hin) (by rw [arrV_read _ _ hlt, hf]; rfl) rfl rfl hd ?_
  exact kk p e R s m args below meth c C9 H locs cells slots Q la hH hS hl h1 h2 hk9
theorem r_alen {a t len : Nat} {x : (Nat → Int32) ⊕ (Nat → Int64) ⊕ (Nat → UInt32) ⊕ (Nat → UInt64) ⊕ (Nat → Option Nat)} (hd : decode (mb y) pc = .ok (.arraylength, 1)) (hw : w a = .inl (t, (len, x))) (ht : t < 5) (ha : a < n) (kk : Go G d y (pc + 1) ls (.int (Int32.ofNat len) :: st) w n bc bs post) : Go G d y pc ls (.ref a :: st) w n bc bs post := by
  intro p e R s m args below meth c C9 H locs cells slots Q la hH hS hl h1 h2 hk9
  have hK := C9.2.2.2.2.2.2.2.2.1.1
  have hat := hH.at ha hw
  obtain ⟨ty, h9⟩ : ∃ ty, (gtys G)[t]? = some (gtc G t, ty) := by
    match t, ht with
    | 0, _ => exact ⟨_, rfl⟩
    | 1, _ => exact ⟨_, rfl⟩
    | 2, _ => exact ⟨_, rfl⟩
    | 3, _ => exact ⟨_, rfl⟩
    | 4, _ => exact ⟨_, rfl⟩
  exact va_alen (tys := gtys G) (x := cx G (len, x)) C9.1 C9.2.1 hK (va_P1 hat) 0 t rfl h9 rfl hd (kk p e R s m args below meth c C9 H locs cells slots Q la hH hS hl h1 h2 hk9)
theorem arr_updI {c : ClassId} {N k : Nat} {f : Nat → Int32} {x : Int32} : (arrV c N (fun j => .int (f j))).setSlot k (.int x) = arrV c N (fun j => .int (upd f k x j)) := by
  rw [arrV_store]
  refine congrArg (arrV c N) (funext fun j => ?_)
  by_cases e : j = k <;> simp [updV, upd, e]
theorem arr_updL {c : ClassId} {N k : Nat} {f : Nat → Int64} {x : Int64} : (arrV c N (fun j => .long (f j))).setSlot k (.long x) = arrV c N (fun j => .long (vp_updL f k x j)) := by
  rw [arrV_store]
  refine congrArg (arrV c N) (funext fun j => ?_)
  by_cases e : j = k <;> simp [updV, vp_updL, e]
theorem r_iast {a len : Nat} {f : Nat → Int32} {i x : Int32} (hd : decode (mb y) pc = .ok (.iastore, 1)) (hw : w a = .inl (0, (len, .inl f))) (ha : a < n) (hin : vp_in i len) (kk : Go G d y (pc + 1) ls st (upw w a (.inl (0, (len, .inl (upd f i.toNatClampNeg x))))) n bc bs post) : Go G d y pc ls (.int x :: .int i :: .ref a :: st) w n bc bs post := by
  intro p e R s m args below meth c C9 H locs cells slots Q la hH hS hl h1 h2 hk9
  have hcell : H[gad G a]? = some (arrV (gtc G 0) len (fun j => .int (f j))) := hH.at ha hw
  refine W.iast C9.1 C9.2.1 hcell ((C9.2.2.2.2.2.2.2.2.1.1.2 0 _ rfl).1 _ _) (fun q => by cases q) (by rw [arrV_size]; exact hin) rfl rfl hd fun H' e1 e2 e3 => ?_
  rw [arr_updI] at e1
  exact kk p e R s m args below meth c C9 H' _ cells slots Q la (hH.set ha e1 e2 e3) (hS.put e2 e3 (hH.a ha)) hl h1 h2 hk9
theorem r_zast {a len : Nat} {f : Nat → Int32} {i x : Int32} (hd : decode (mb y) pc = .ok (.bastore, 1)) (hw : w a = .inl (2, (len, .inl f))) (ha : a < n) (hin : vp_in i len) (hx : narrow .boolean (.int x) = .int x) (kk : Go G d y (pc + 1) ls st (upw w a (.inl (2, (len, .inl (upd f i.toNatClampNeg x))))) n bc bs post) : Go G d y pc ls (.int x :: .int i :: .ref a :: st) w n bc bs post := by
  intro p e R s m args below meth c C9 H locs cells slots Q la hH hS hl h1 h2 hk9
  have hcell : H[gad G a]? = some (arrV (gtc G 2) len (fun j => .int (f j))) := hH.at ha hw
  refine W.zast C9.1 C9.2.1 hcell ((C9.2.2.2.2.2.2.2.2.1.1.2 2 _ rfl).1 _ _) (fun q => by cases q) (by rw [arrV_size]; exact hin) rfl rfl hd fun H' e1 e2 e3 => ?_
  rw [hx, arr_updI] at e1
  exact kk p e R s m args below meth c C9 H' _ cells slots Q la (hH.set ha e1 e2 e3) (hS.put e2 e3 (hH.a ha)) hl h1 h2 hk9
theorem r_last {a len : Nat} {f : Nat → Int64} {i : Int32} {x : Int64} (hd : decode (mb y) pc = .ok (.lastore, 1)) (hw : w a = .inl (1, (len, .inr (.inl f)))) (ha : a < n) (hin : vp_in i len) (kk : Go G d y (pc + 1) ls st (upw w a (.inl (1, (len, .inr (.inl (vp_updL f i.toNatClampNeg x)))))) n bc bs post) : Go G d y pc ls (.long x :: .int i :: .ref a :: st) w n bc bs post := by
  intro p e R s m args below meth c C9 H locs cells slots Q la hH hS hl h1 h2 hk9
  have hcell : H[gad G a]? = some (arrV (gtc G 1) len (fun j => .long (f j))) := hH.at ha hw
  refine W.last C9.1 C9.2.1 hcell ((C9.2.2.2.2.2.2.2.2.1.1.2 1 _ rfl).1 _ _) (fun q => by cases q) (by rw [arrV_size]; exact hin) rfl rfl hd fun H' e1 e2 e3 => ?_
  rw [arr_updL] at e1
  exact kk p e R s m args below meth c C9 H' _ cells slots Q la (hH.set ha e1 e2 e3) (hS.put e2 e3 (hH.a ha)) hl h1 h2 hk9
-- making
theorem cv_dflt {G : gE} (t : FieldType) : cv G (defaultValue t) = defaultValue t := by cases t <;> rfl
theorem r_new {own C : String} {T : u_T} {ci N idx : Nat} {ty : Nat → FieldType} (ho : (mn y).cls = own) (hd : decode (mb y) pc = .ok (.new idx, 3)) (hx : Cond.classLink own idx C ∈ WALL) (hc : classes[ci]? = some (C, T, N)) (ht : tks[ci]? = some ty) (hn : n < gB) (hbc : 1 ≤ bc) (hbs : N ≤ bs) (kk : Go G d y (pc + 3) ls (.ref n :: st) (upw w n (.inr (ci, (List.range N).map (fun k => defaultValue (ty k))))) (n + 1) (bc - 1) (bs - N) post) : Go G d y pc ls st w n bc bs post := by
  intro p e R s m args below meth c C9 H locs cells slots Q la hH hS hl h1 h2 hk9
  have hts := C9.2.2.2.2.1
  have hK := C9.2.2.2.2.2.2.2.2.1.1
  obtain ⟨hin, ⟨ty9, ht9, hty⟩, hnm, hins, hini⟩ := cls_ok hc
  cases ht9.symm.trans ht
  have hKn := hK.1 ci _ hc
  refine W.newcK C9.1 C9.2.1 (ho ▸ C9.2.2.2.1) (hts _ hx) (hts _ hins) (hts _ hini) rfl hd (by omega) (by omega) hKn.2.1 rfl fun H1 kC hkC e1 z1 o1 => ?_
  have hsz := hH.1
  have e9 : H.size = gad G n := by rw [gad_lt hn]; exact hsz
  rw [e9] at e1
  have hOB : va_at (gD G) classes (gad G n, ce G (.inr (ci, (List.range N).map (fun k => defaultValue (ty k))))) H1 := by
    refine ⟨_, hc, (u_born ty hts hin hKn hkC e1 hty).to fun j hj => ?_⟩
    simp [vp_V, hj, cv_dflt]
  have k9 := kk p e R s m args below meth c C9 H1 locs (cells + 1) (slots + N) Q la (hH.push hn hOB z1 o1) ⟨by have := hS.1; omega, fun x q1 q2 => (o1 x (by have := hS.1; omega)).trans (hS.2.1 x q1 q2), hS.2.2⟩ hl (by omega) (by omega) hk9
  rw [List.map_cons, show cv G (.ref n) = .ref H.size by rw [e9]; rfl] at k9
  exact k9
def anyOf (t : Nat) : vp_A → Prop := fun a => match t with
  | 0 => a.2 = .inl (fun _ => 0)
  | 1 => a.2 = .inr (.inl (fun _ => 0))
  | _ => a.2 = .inl (fun _ => 0)
theorem r_newa {at9 : ArrayType} {t : Nat} {i : Int32} {len : Nat} {x : vp_A} (hd : decode (mb y) pc = .ok (.newarray at9, 2)) (ht : (at9 = .int ∧ t = 0) ∨ (at9 = .long ∧ t = 1) ∨ (at9 = .boolean ∧ t = 2)) (hi : i = nI len) (hlen : len ≤ 1000) (hx : x.1 = len ∧ anyOf t x) (hn : n < gB) (hbc : 1 ≤ bc) (hbs : len ≤ bs) (kk : Go G d y (pc + 2) ls (.ref n :: st) (upw w n (.inl (t, x))) (n + 1) (bc - 1) (bs - len) post) : Go G d y pc ls (.int i :: st) w n bc bs post := by
  intro p e R s m args below meth c C9 H locs cells slots Q la hH hS hl h1 h2 hk9
  have hts := C9.2.2.2.2.1
  have hK := C9.2.2.2.2.2.2.2.2.1.1
  have hsz := hH.1
  have e9 : H.size = gad G n := by rw [gad_lt hn]; exact hsz
  have harr : (Cond.arrayClass (newarray.typeOf at9)).before args s = true := by
    rcases ht with ⟨rfl, rfl⟩ | ⟨rfl, rfl⟩ | ⟨rfl, rfl⟩
    · exact hts _ ac_int
    · exact hts _ ac_long
    · exact hts _ ac_boolean
  have hcb : len * componentBytes (newarray.typeOf at9) ≤ 536870912 := by
    have : componentBytes (newarray.typeOf at9) ≤ 8 := by rcases ht with ⟨rfl, rfl⟩ | ⟨rfl, rfl⟩ | ⟨rfl, rfl⟩ <;> decide
    calc len * componentBytes (newarray.typeOf at9) ≤ 1000 * 8 := Nat.mul_le_mul hlen this
      _ ≤ 536870912 := by decide
  subst hi
  refine va_newaK C9.1 C9.2.1 harr rfl hd rfl (nI_pos (by omega)) (nI_clamp (by omega)) hcb (by omega) (by omega) rfl fun H1 cA e1 z1 o1 hAr hNm => ?_
  rw [e9] at e1
  have hcell : va_at (gD G) classes (gad G n, ce G (.inl (t, x))) H1 := by
    obtain ⟨xl, xc⟩ := x
    obtain ⟨rfl, hx2⟩ := hx
    show H1[gad G n]? = some (vp_cell (gtc G t) (cx G (xl, xc)))
    rw [e1]
    rcases ht with ⟨rfl, rfl⟩ | ⟨rfl, rfl⟩ | ⟨rfl, rfl⟩
    · have ec : cA = gtc G 0 := Option.some.inj (hNm.symm.trans (hK.2 0 _ rfl).2)
      rw [ec, show xc = _ from hx2]; rfl
    · have ec : cA = gtc G 1 := Option.some.inj (hNm.symm.trans (hK.2 1 _ rfl).2)
      rw [ec, show xc = _ from hx2]; rfl
    · have ec : cA = gtc G 2 := Option.some.inj (hNm.symm.trans (hK.2 2 _ rfl).2)
      rw [ec, show xc = _ from hx2]; rfl
  have k9 := kk p e R s m args below meth c C9 H1 locs (cells + 1) (slots + len) Q la (hH.push hn hcell z1 o1) ⟨by have := hS.1; omega, fun x q1 q2 => (o1 x (by have := hS.1; omega)).trans (hS.2.1 x q1 q2), hS.2.2⟩ hl (by omega) (by omega) hk9
  rw [List.map_cons, show cv G (.ref n) = .ref H.size by rw [e9]; rfl] at k9
  exact k9
end MEM
end
section
-- WHAT IS OLDER THAN THE LAW; CALLS
theorem gad_old {G : gE} {j : Nat} : gad G (gB + j) = gao G j := by
  unfold gad
  rw [if_neg (by omega), Nat.add_sub_cancel_left]
theorem cv_old {G : gE} {j : Nat} : cv G (.ref (gB + j)) = .ref (gao G j) := by
  show Value.ref (gad G (gB + j)) = _
  rw [gad_old]
section OLD
variable {G : gE} {d y pc : Nat} {ls : List (Option Value)} {st : List Value} {w : aW} {n bc bs : Nat} {post : Option Value → aW → Nat → Prop}
theorem r_aboveAt {i : Int32} (hd : decode (mb y) pc = .ok (.iaload, 1)) (hin : vp_in i 7) (kk : Go G d y (pc + 1) ls (.int (aboveL.getD i.toNatClampNeg 0) :: st) w n bc bs post) : Go G d y pc ls (.int i :: .ref (gB + 200) :: st) w n bc bs post := by
  intro p e R s m args below meth c C9 H locs cells slots Q la hH hS hl h1 h2 hk9
  have hO := C9.2.2.2.2.2.2.2.2.2
  rw [List.map_cons, List.map_cons, cv_old]
  exact va_ti C9.1 C9.2.1 hO.2.2.2.1 hS hin rfl hd (kk p e R s m args below meth c C9 H locs cells slots Q la hH hS hl h1 h2 hk9)
theorem r_aboveLen (hd : decode (mb y) pc = .ok (.arraylength, 1)) (kk : Go G d y (pc + 1) ls (.int 7 :: st) w n bc bs post) : Go G d y pc ls (.ref (gB + 200) :: st) w n bc bs post := by
  intro p e R s m args below meth c C9 H locs cells slots Q la hH hS hl h1 h2 hk9
  have hO := C9.2.2.2.2.2.2.2.2.2
  rw [List.map_cons, cv_old]
  exact va_tlen C9.1 C9.2.1 hO.2.2.2.1 hS rfl hd (kk p e R s m args below meth c C9 H locs cells slots Q la hH hS hl h1 h2 hk9)
theorem r_scriptAt {i : Int32} (hd : decode (mb y) pc = .ok (.iaload, 1)) (hin : vp_in i (gL G)) (kk : Go G d y (pc + 1) ls (.int (gxs G i.toNatClampNeg) :: st) w n bc bs post) : Go G d y pc ls (.int i :: .ref (gB + 201) :: st) w n bc bs post := by
  intro p e R s m args below meth c C9 H locs cells slots Q la hH hS hl h1 h2 hk9
  have hO := C9.2.2.2.2.2.2.2.2.2
  rw [List.map_cons, List.map_cons, cv_old]
  exact va_sld C9.1 C9.2.1 hO.2.2.2.2.2.2.1 (Nat.lt_of_lt_of_le hO.2.2.2.2.2.2.2.1 hO.2.2.2.2.2.2.2.2) (Nat.not_le.mpr hO.2.2.2.2.2.2.2.1) hS hin hd (kk p e R s m args below meth c C9 H locs cells slots Q la hH hS hl h1 h2 hk9)
theorem r_scriptLen (hd : decode (mb y) pc = .ok (.arraylength, 1)) (kk : Go G d y (pc + 1) ls (.int (Int32.ofNat (gL G)) :: st) w n bc bs post) : Go G d y pc ls (.ref (gB + 201) :: st) w n bc bs post := by
  intro p e R s m args below meth c C9 H locs cells slots Q la hH hS hl h1 h2 hk9
  have hO := C9.2.2.2.2.2.2.2.2.2
  rw [List.map_cons, cv_old]
  exact va_slen C9.1 C9.2.1 hO.2.2.2.2.2.2.1 (Nat.lt_of_lt_of_le hO.2.2.2.2.2.2.2.1 hO.2.2.2.2.2.2.2.2) (Nat.not_le.mpr hO.2.2.2.2.2.2.2.1) hS hd (kk p e R s m args below meth c C9 H locs cells slots Q la hH hS hl h1 h2 hk9)
theorem r_strAt {j : Nat} {i : Int32} (hd : decode (mb y) pc = .ok (.baload, 1)) (hj : j < 9) (hin : vp_in i (strL.getD j 0)) (kk : Go G d y (pc + 1) ls (.int ((strB.getD j []).getD i.toNatClampNeg 0) :: st) w n bc bs post) : Go G d y pc ls (.int i :: .ref (gB + (100 + j)) :: st) w n bc bs post := by
  intro p e R s m args below meth c C9 H locs cells slots Q la hH hS hl h1 h2 hk9
  have hO := C9.2.2.2.2.2.2.2.2.2
  rw [List.map_cons, List.map_cons, cv_old]
  exact va_tb C9.1 C9.2.1 (hO.1.1 j hj).2.2.2 hS hin rfl hd (kk p e R s m args below meth c C9 H locs cells slots Q la hH hS hl h1 h2 hk9)
theorem r_strLen {j : Nat} (hd : decode (mb y) pc = .ok (.arraylength, 1)) (hj : j < 9) (kk : Go G d y (pc + 1) ls (.int (Int32.ofNat (strL.getD j 0)) :: st) w n bc bs post) : Go G d y pc ls (.ref (gB + (100 + j)) :: st) w n bc bs post := by
  intro p e R s m args below meth c C9 H locs cells slots Q la hH hS hl h1 h2 hk9
  have hO := C9.2.2.2.2.2.2.2.2.2
  rw [List.map_cons, cv_old]
  exact va_tlen C9.1 C9.2.1 (hO.1.1 j hj).2.2.2 hS rfl hd (kk p e R s m args below meth c C9 H locs cells slots Q la hH hS hl h1 h2 hk9)
theorem r_strVal {own : String} {j idx : Nat} (ho : (mn y).cls = own) (hd : decode (mb y) pc = .ok (.getfield idx, 3)) (hx : Cond.fieldLink own idx "java/lang/String" "value" "[B" ∈ WALL) (hj : j < 9) (kk : Go G d y (pc + 3) ls (.ref (gB + (100 + j)) :: st) w n bc bs post) : Go G d y pc ls (.ref (gB + j) :: st) w n bc bs post := by
  intro p e R s m args below meth c C9 H locs cells slots Q la hH hS hl h1 h2 hk9
  have hO := C9.2.2.2.2.2.2.2.2.2
  have k9 := kk p e R s m args below meth c C9 H locs cells slots Q la hH hS hl h1 h2 hk9
  rw [List.map_cons, cv_old] at k9 ⊢
  exact vk_getf C9.1 C9.2.1 (hO.1.1 j hj).2.2.1 hS (ho ▸ C9.2.2.2.1) (C9.2.2.2.2.1 _ hx) (fun _ h => h) hd k9
theorem r_strCoder {own : String} {j idx : Nat} (ho : (mn y).cls = own) (hd : decode (mb y) pc = .ok (.getfield idx, 3)) (hx : Cond.fieldLink own idx "java/lang/String" "coder" "B" ∈ WALL) (hj : j < 9) (kk : Go G d y (pc + 3) ls (.int 0 :: st) w n bc bs post) : Go G d y pc ls (.ref (gB + j) :: st) w n bc bs post := by
  intro p e R s m args below meth c C9 H locs cells slots Q la hH hS hl h1 h2 hk9
  have hO := C9.2.2.2.2.2.2.2.2.2
  have k9 := kk p e R s m args below meth c C9 H locs cells slots Q la hH hS hl h1 h2 hk9
  rw [List.map_cons, cv_old]
  exact vk_getf C9.1 C9.2.1 (hO.1.1 j hj).2.1 hS (ho ▸ C9.2.2.2.1) (C9.2.2.2.2.1 _ hx) (fun _ h => h) hd k9
theorem r_getsAbove {own : String} {idx : Nat} (ho : (mn y).cls = own) (hd : decode (mb y) pc = .ok (.getstatic idx, 3)) (hx : Cond.fieldLink own idx "NeedsALoser$Rules" "ABOVE" "[I" ∈ WALL) (kk : Go G d y (pc + 3) ls (.ref (gB + 200) :: st) w n bc bs post) : Go G d y pc ls st w n bc bs post := by
  intro p e R s m args below meth c C9 H locs cells slots Q la hH hS hl h1 h2 hk9
  have hO := C9.2.2.2.2.2.2.2.2.2
  have k9 := kk p e R s m args below meth c C9 H locs cells slots Q la hH hS hl h1 h2 hk9
  rw [List.map_cons, cv_old] at k9
  exact va_gets C9.1 C9.2.1 hO.2.2.1 hS (ho ▸ C9.2.2.2.1) (C9.2.2.2.2.1 _ hx) (fun _ h => h) hd k9
theorem r_getsCompact {own : String} {idx : Nat} (ho : (mn y).cls = own) (hd : decode (mb y) pc = .ok (.getstatic idx, 3)) (hx : Cond.fieldLink own idx "java/lang/String" "COMPACT_STRINGS" "Z" ∈ WALL) (kk : Go G d y (pc + 3) ls (.int 1 :: st) w n bc bs post) : Go G d y pc ls st w n bc bs post := by
  intro p e R s m args below meth c C9 H locs cells slots Q la hH hS hl h1 h2 hk9
  have hO := C9.2.2.2.2.2.2.2.2.2
  exact va_gets C9.1 C9.2.1 hO.2.2.2.2.1 hS (ho ▸ C9.2.2.2.1) (C9.2.2.2.2.1 _ hx) (fun _ h => h) hd (kk p e R s m args below meth c C9 H locs cells slots Q la hH hS hl h1 h2 hk9)
theorem r_getsFmt {own : String} {idx : Nat} (ho : (mn y).cls = own) (hd : decode (mb y) pc = .ok (.getstatic idx, 3)) (hx : Cond.fieldLink own idx "jdk/internal/util/Preconditions" "SIOOBE_FORMATTER" "Ljava/util/function/BiFunction;" ∈ WALL) (kk : Go G d y (pc + 3) ls (gfm G :: st) w n bc bs post) : Go G d y pc ls st w n bc bs post := by
  intro p e R s m args below meth c C9 H locs cells slots Q la hH hS hl h1 h2 hk9
  have hO := C9.2.2.2.2.2.2.2.2.2
  exact va_gets C9.1 C9.2.1 hO.2.2.2.2.2.1 hS (ho ▸ C9.2.2.2.1) (C9.2.2.2.2.1 _ hx) (fun _ h => h) hd (kk p e R s m args below meth c C9 H locs cells slots Q la hH hS hl h1 h2 hk9)
end OLD
-- CALLS
theorem ob_inst : Cond.instanceMethod Lib.objectInit ∈ WALL := w_in 94 (by decide +kernel) (by decide +kernel)
theorem ob_code : Cond.code Lib.objectInit ⟨#[0xb1]⟩ 1 none ∈ WALL := w_in 95 (by decide +kernel) (by decide +kernel)
theorem run_k {G : gE} {p : Program} {l : Launch} {e : Env} {R : Room} {s : State} {m : MethodId} {args : Array Value} {below : List Frame} {meth : Method} {c : Code} {H : Heap} {locs : List Loc} {cells slots mc ms pc : Nat} {ls : Array Slot} {st0 rest : List Value} {post : Option Value → aW → Nat → Prop} {a : Array Value} {Q : State → Prop}
    (hr : va_Run p l e R s m args below meth c H locs cells slots mc ms (F0 m pc ls st0) rest (MtQ G post a) (Af G)) (hS : va_S (Af G) s.heap H locs)
    (kk : ∀ (r : Option Value) (w' : aW) (n' : Nat) (H1 : Heap) (locs1 : List Loc), post r w' n' → HR G w' n' H1 → va_S (Af G) s.heap H1 locs1 → W p l e R s m args below meth c H1 locs1 (cells + mc) (slots + ms) Q (F0 m (pc + 3) ls ((r.map (cv G)).toList ++ rest))) : W p l e R s m args below meth c H locs cells slots Q (F0 m pc ls st0) := by
  intro T hT X
  obtain ⟨v, st₀, t, T', L, h0, X', hL, e1, e2, ⟨⟨r, w', n', hv, hp, hH⟩, hz, hk⟩, st⟩ := hr T hT X
  cases hv
  rw [h0] at hz hk
  obtain ⟨t2, a1, b1⟩ := kk r w' n' T'.heap (locs ++ L) hp (by rw [e1]; exact hH)
    ⟨Nat.le_trans hS.1 (by rw [e1]; exact hz), fun q h1 h2 => by rw [e1, hk q (Nat.lt_of_lt_of_le h1 hS.1) h2]; exact hS.2.1 q h1 h2, fun q hq => by
      rcases List.mem_append.mp hq with h | h
      · exact hS.2.2 q h
      · exact hL q h⟩ T' rfl X'
  exact ⟨t2, st t2 a1, b1⟩
theorem good_S {own : String} {idx z na : Nat} (hz : okM z na) (hs : okS z) (hl : Cond.methodLink own idx (mn z) ∈ WALL) : GoodIn WALL (va_wsS own idx (mn z) (ws z)) := by
  intro w hw
  unfold va_wsS at hw
  rcases List.mem_append.mp hw with h | h
  · simp only [List.mem_cons, List.not_mem_nil, or_false] at h
    rcases h with rfl | rfl | rfl
    · exact wall_good1 hl
    · exact wall_good1 hs
    · exact wall_good1 hz.2.1
  · exact wall_z hz w h
theorem good_V {own : String} {idx z na : Nat} (hz : okM z na) (hv : okV z) (hl : Cond.methodLink own idx (mn z) ∈ WALL) : GoodIn WALL (wsV own idx (mn z).cls (mn z) (ws z)) := by
  intro w hw
  unfold wsV at hw
  rcases List.mem_append.mp hw with h | h
  · simp only [List.mem_cons, List.not_mem_nil, or_false] at h
    rcases h with rfl | rfl | rfl | rfl
    · exact wall_good1 hl
    · exact wall_good1 hv.1
    · exact wall_good1 hv.2
    · exact wall_good1 hz.2.1
  · exact wall_z hz w h
/-- the receiver -/
def Rcv (w : aW) (n : Nat) (C : String) (b : Nat) : Prop := (b < n ∧ ∃ (ci : Nat) (fs : List Value) (q : vw_C), w b = .inr (ci, fs) ∧ classes[ci]? = some q ∧ q.1 = C) ∨ (C = "java/lang/String" ∧ ∃ j : Nat, j < 9 ∧ b = gB + j)
theorem rcv_ob {w : aW} {n b ci N : Nat} {C : String} {T : u_T} {fs : List Value} (hw : w b = .inr (ci, fs)) (hc : classes[ci]? = some (C, T, N)) (hb : b < n) : Rcv w n C b := Or.inl ⟨hb, ci, fs, _, hw, hc, rfl⟩
theorem rcv_str {w : aW} {n j : Nat} (hj : j < 9) : Rcv w n "java/lang/String" (gB + j) := Or.inr ⟨rfl, j, hj, rfl⟩
section CALLS
variable {G : gE} {d y pc : Nat} {ls : List (Option Value)} {st : List Value} {w : aW} {n bc bs : Nat} {post : Option Value → aW → Nat → Prop}
theorem pre_U {s : State} {H : Heap} {locs : List Loc} {As : List Value} (hK : Kst G s) (hO : Old G s) (hS : va_S (Af G) s.heap H locs) (hH : HR G w n H) : ∀ U : State, U.heap = H → s.WarmedH U.vm → MtP G w n As (As.map (cv G)).toArray U := fun U hU hW => ⟨rfl, hK.warm hW, hO.warm hW (fun a h1 h2 => by rw [hU]; exact hS.2.1 a h1 h2) (by rw [hU]; exact hS.1), by rw [hU]; exact hH⟩
theorem args_rev {As rest : List Value} : (As.reverse ++ rest).map (cv G) = (As.map (cv G)).reverse ++ rest.map (cv G) := by rw [List.map_append, List.map_reverse]
set_option maxHeartbeats 1000000 in
theorem r_static {own : String} {z na idx d' cc cs : Nat} {As rest : List Value} {post' : Option Value → aW → Nat → Prop} (ho : (mn y).cls = own) (hz : okM z na) (hs : okS z) (hx : Cond.methodLink own idx (mn z) ∈ WALL) (hd : decode (mb y) pc = .ok (.invokestatic idx, 3)) (hM : Mt G d' z As w n cc cs post') (hst : st = As.reverse ++ rest) (hn : As.length = na) (hdd : d' + 1 ≤ d) (hW : (rest.map fun v => v.category).sum ≤ 8) (hcc : cc ≤ bc) (hcs : cs ≤ bs)
    (kk : ∀ (r : Option Value) (w' : aW) (n' : Nat), post' r w' n' → Go G d y (pc + 3) ls (r.toList ++ rest) w' n' (bc - cc) (bs - cs) post) : Go G d y pc ls st w n bc bs post := by
  intro p e R s m args below meth c C9 H locs cells slots Q la hH hS hl h1 h2 hk9
  subst hst
  have hml := ml_le z
  obtain ⟨hx9, hb9, hm9, hc9, hw9, hi9, hf9, hl9, hK9, hO9⟩ := id C9
  rw [args_rev]
  refine run_k (mc := cc) (ms := cs) (va_runS (Ts := WALL) (own := own) ⟨hx9, hb9, hm9, ho ▸ hc9, hw9⟩ hM (va_cwS (ws' := WALL) na hw9 (good_S hz hs hx) rfl rfl rfl hz.2.2.1 ⟨by show d' + 1 ≤ R.frames; omega, by show 8 + (ml z + 11) + 64 * d' ≤ R.locals; omega⟩) ⟨mt_blind, pre_U hK9 hO9 hS hH⟩ rfl (by rw [List.length_map]; exact hn) hl.1 rfl (lv_room (by rw [cat_map]; exact hW)) hd ⟨by omega, by omega⟩) hS ?_
  intro r w' n' H1 locs1 hp hH1 hS1
  have k9 := kk r w' n' hp p e R s m args below meth c C9 H1 locs1 (cells + cc) (slots + cs) Q la hH1 hS1 hl (by omega) (by omega) hk9
  cases r <;> exact k9
set_option maxHeartbeats 1000000 in
theorem r_staticN {own host : String} {z na idx d' cc cs : Nat} {As rest : List Value} {post' : Option Value → aW → Nat → Prop} (ho : (mn y).cls = own) (hz : okM z na) (hs : okS z) (hx : Cond.methodLinkNest own idx (mn z) host ∈ NST) (hd : decode (mb y) pc = .ok (.invokestatic idx, 3)) (hM : Mt G d' z As w n cc cs post') (hst : st = As.reverse ++ rest) (hn : As.length = na) (hdd : d' + 1 ≤ d) (hW : (rest.map fun v => v.category).sum ≤ 8) (hcc : cc ≤ bc) (hcs : cs ≤ bs)
    (kk : ∀ (r : Option Value) (w' : aW) (n' : Nat), post' r w' n' → Go G d y (pc + 3) ls (r.toList ++ rest) w' n' (bc - cc) (bs - cs) post) : Go G d y pc ls st w n bc bs post := by
  intro p e R s m args below meth c C9 H locs cells slots Q la hH hS hl h1 h2 hk9
  subst hst
  have hml := ml_le z
  obtain ⟨hx9, hb9, hm9, hc9, hw9, hi9, hf9, hl9, hK9, hO9⟩ := id C9
  rw [args_rev]
  refine run_k (mc := cc) (ms := cs) (va_runSN (Ts := WALL) (own := own) (host := host) ⟨hx9, hb9, hm9, ho ▸ hc9, hw9⟩ hM ⟨va_cnB (ws' := WALL) na hw9 (wall_z hz) rfl rfl rfl (hK9.2.1 _ hx) (hw9 _ hz.2.1) hz.2.2.1 ⟨by show d' + 1 ≤ R.frames; omega, by show 8 + (ml z + 11) + 64 * d' ≤ R.locals; omega⟩, hw9 _ hs, trivial⟩ ⟨mt_blind, pre_U hK9 hO9 hS hH⟩ rfl (by rw [List.length_map]; exact hn) hl.1 rfl (lv_room (by rw [cat_map]; exact hW)) hd ⟨by omega, by omega⟩) hS ?_
  intro r w' n' H1 locs1 hp hH1 hS1
  have k9 := kk r w' n' hp p e R s m args below meth c C9 H1 locs1 (cells + cc) (slots + cs) Q la hH1 hS1 hl (by omega) (by omega) hk9
  cases r <;> exact k9
set_option maxHeartbeats 1000000 in
theorem r_virtual {own C : String} {z na idx d' cc cs b : Nat} {As rest : List Value} {post' : Option Value → aW → Nat → Prop} (ho : (mn y).cls = own) (hz : okM z na) (hv : okV z) (hx : Cond.methodLink own idx (mn z) ∈ WALL) (hd : decode (mb y) pc = .ok (.invokevirtual idx, 3)) (hC : (mn z).cls = C) (hM : Mt G d' z (.ref b :: As) w n cc cs post') (hst : st = As.reverse ++ .ref b :: rest) (hrc : Rcv w n C b) (hn : As.length = na) (hdd : d' + 1 ≤ d) (hW : (rest.map fun v => v.category).sum ≤ 8) (hcc : cc ≤ bc) (hcs : cs ≤ bs)
    (kk : ∀ (r : Option Value) (w' : aW) (n' : Nat), post' r w' n' → Go G d y (pc + 3) ls (r.toList ++ rest) w' n' (bc - cc) (bs - cs) post) : Go G d y pc ls st w n bc bs post := by
  intro p e R s m args below meth c C9 H locs cells slots Q la hH hS hl h1 h2 hk9
  subst hst
  have hml := ml_le z
  obtain ⟨hx9, hb9, hm9, hc9, hw9, hi9, hf9, hl9, hK9, hO9⟩ := id C9
  rw [args_rev]
  have hcell : ∃ cellB : Cell, H[gad G b]? = some cellB ∧ cellB.vm.isStatics = false ∧ s.vm.findClass (mn z).cls = some cellB.cls := by
    rw [hC]
    rcases hrc with ⟨hb, ci, fs, q, e1, e2, rfl⟩ | ⟨rfl, j, hj, rfl⟩
    · exact va_recv (q0 := 0) (ci := ci) (q := q) hK9.1 (va_P1 (hH.at hb e1)) e2 rfl
    · rw [gad_old]
      exact vk_recv hO9.1 hj hS
  refine run_k (mc := cc) (ms := cs) (va_runV (Ts := WALL) (own := own) (C := (mn z).cls) (As := As.map (cv G)) ⟨hx9, hb9, hm9, ho ▸ hc9, hw9⟩ hM (cwV (ws' := WALL) na hw9 (good_V hz hv hx) rfl rfl rfl ⟨rfl, hz.2.2.1.1, hz.2.2.1.2⟩ ⟨by show d' + 1 ≤ R.frames; omega, by show 8 + (ml z + 11) + 64 * d' ≤ R.locals; omega⟩) ⟨mt_blind, hcell, pre_U (As := .ref b :: As) hK9 hO9 hS hH⟩ rfl (by rw [List.length_map]; exact hn) hl.1 rfl (lv_room (by rw [cat_map]; exact hW)) hd ⟨by omega, by omega⟩) hS ?_
  intro r w' n' H1 locs1 hp hH1 hS1
  have k9 := kk r w' n' hp p e R s m args below meth c C9 H1 locs1 (cells + cc) (slots + cs) Q la hH1 hS1 hl (by omega) (by omega) hk9
  cases r <;> exact k9
set_option maxHeartbeats 1000000 in
theorem r_special {own : String} {z na idx d' cc cs b : Nat} {As rest : List Value} {post' : Option Value → aW → Nat → Prop} (ho : (mn y).cls = own) (hz : okM z na) (hi : okI z) (hx : Cond.methodLink own idx (mn z) ∈ WALL) (hd : decode (mb y) pc = .ok (.invokespecial idx, 3)) (hM : Mt G d' z (.ref b :: As) w n cc cs post') (hst : st = As.reverse ++ .ref b :: rest) (hn : As.length = na) (hdd : d' + 1 ≤ d) (hW : (rest.map fun v => v.category).sum ≤ 8) (hcc : cc ≤ bc) (hcs : cs ≤ bs)
    (kk : ∀ (r : Option Value) (w' : aW) (n' : Nat), post' r w' n' → Go G d y (pc + 3) ls (r.toList ++ rest) w' n' (bc - cc) (bs - cs) post) : Go G d y pc ls st w n bc bs post := by
  intro p e R s m args below meth c C9 H locs cells slots Q la hH hS hl h1 h2 hk9
  subst hst
  have hml := ml_le z
  obtain ⟨hx9, hb9, hm9, hc9, hw9, hi9, hf9, hl9, hK9, hO9⟩ := id C9
  have hws : ws z = .code (mn z) (mb z) (ml z) none :: WALL := by show Cond.code _ _ _ (mr z) :: WALL = _; rw [hi.2.2]
  rw [args_rev]
  refine run_k (mc := cc) (ms := cs) (va_runI (Ts := WALL) (own := own) (As := As.map (cv G)) ⟨hx9, hb9, hm9, ho ▸ hc9, hw9⟩ hM (cwI (ws' := WALL) na hw9 (wall_z hz) hws rfl rfl (hw9 _ hz.2.1) (hw9 _ hx) (hw9 _ hi.1) hi.2.1 hz.2.2.1 ⟨by show d' + 1 ≤ R.frames; omega, by show 8 + (ml z + 11) + 64 * d' ≤ R.locals; omega⟩) ⟨mt_blind, pre_U (As := .ref b :: As) hK9 hO9 hS hH⟩ rfl (by rw [List.length_map]; exact hn) hl.1 rfl (lv_room (by rw [cat_map]; exact hW)) hd ⟨by omega, by omega⟩) hS ?_
  intro r w' n' H1 locs1 hp hH1 hS1
  have k9 := kk r w' n' hp p e R s m args below meth c C9 H1 locs1 (cells + cc) (slots + cs) Q la hH1 hS1 hl (by omega) (by omega) hk9
  cases r <;> exact k9
set_option maxHeartbeats 1000000 in
theorem r_specialN {own host : String} {z na idx d' cc cs b : Nat} {As rest : List Value} {post' : Option Value → aW → Nat → Prop} (ho : (mn y).cls = own) (hz : okM z na) (hi : okI z) (hx : Cond.methodLinkNest own idx (mn z) host ∈ NST) (hd : decode (mb y) pc = .ok (.invokespecial idx, 3)) (hM : Mt G d' z (.ref b :: As) w n cc cs post') (hst : st = As.reverse ++ .ref b :: rest) (hn : As.length = na) (hdd : d' + 1 ≤ d) (hW : (rest.map fun v => v.category).sum ≤ 8) (hcc : cc ≤ bc) (hcs : cs ≤ bs)
    (kk : ∀ (r : Option Value) (w' : aW) (n' : Nat), post' r w' n' → Go G d y (pc + 3) ls (r.toList ++ rest) w' n' (bc - cc) (bs - cs) post) : Go G d y pc ls st w n bc bs post := by
  intro p e R s m args below meth c C9 H locs cells slots Q la hH hS hl h1 h2 hk9
  subst hst
  have hml := ml_le z
  obtain ⟨hx9, hb9, hm9, hc9, hw9, hi9, hf9, hl9, hK9, hO9⟩ := id C9
  have hws : ws z = .code (mn z) (mb z) (ml z) none :: WALL := by show Cond.code _ _ _ (mr z) :: WALL = _; rw [hi.2.2]
  rw [args_rev]
  refine run_k (mc := cc) (ms := cs) (va_runIN (Ts := WALL) (own := own) (host := host) (As := As.map (cv G)) ⟨hx9, hb9, hm9, ho ▸ hc9, hw9⟩ hM ⟨va_cnB (ws' := WALL) na hw9 (wall_z hz) hws rfl rfl (hK9.2.1 _ hx) (hw9 _ hz.2.1) hz.2.2.1 ⟨by show d' + 1 ≤ R.frames; omega, by show 8 + (ml z + 11) + 64 * d' ≤ R.locals; omega⟩, hi.2.1, hw9 _ hi.1⟩ ⟨mt_blind, pre_U (As := .ref b :: As) hK9 hO9 hS hH⟩ rfl (by rw [List.length_map]; exact hn) hl.1 rfl (lv_room (by rw [cat_map]; exact hW)) hd ⟨by omega, by omega⟩) hS ?_
  intro r w' n' H1 locs1 hp hH1 hS1
  have k9 := kk r w' n' hp p e R s m args below meth c C9 H1 locs1 (cells + cc) (slots + cs) Q la hH1 hS1 hl (by omega) (by omega) hk9
  cases r <;> exact k9
theorem r_objInit {own : String} {idx b : Nat} {rest : List Value} (ho : (mn y).cls = own) (hx : Cond.methodLink own idx (mn 1) ∈ WALL) (hd : decode (mb y) pc = .ok (.invokespecial idx, 3)) (hdd : 1 ≤ d) (hW : (rest.map fun v => v.category).sum ≤ 8) (kk : Go G d y (pc + 3) ls rest w n bc bs post) : Go G d y pc ls (.ref b :: rest) w n bc bs post := by
  intro p e R s m args below meth c C9 H locs cells slots Q la hH hS hl h1 h2 hk9
  obtain ⟨hx9, hb9, hm9, hc9, hw9, hi9, hf9, hl9, hK9, hO9⟩ := id C9
  exact W.objInit hx9 hb9 (ho ▸ hc9) (hw9 _ hx) (hw9 _ ob_inst) (hw9 _ ob_code) (g := F0 m pc la (.ref (gad G b) :: rest.map (cv G))) rfl (hl.1.trans hm9.symm) rfl hd (by omega) (by show 2 * 0 + _ + 12 ≤ _; rw [cat_map]; omega) (kk p e R s m args below meth c C9 H locs cells slots Q la hH hS hl h1 h2 hk9)
end CALLS
end
section
-- new T[N][K]
def mnaW (w : aW) (n N : Nat) (out inn : aC) : aW := fun k => if k = n then out else if n < k ∧ k ≤ n + N then inn else w k
theorem mna_outer (c : ClassId) (N h0 : Nat) : ∀ i : Nat, Jvm.Free.Multi.outerC c N h0 i = arrV c N (fun j => va_rf (if j < i then some (h0 + 1 + j) else none))
  | 0 => by
    show ({ cls := c, slots := Array.replicate N .null, vm := .none } : Cell) = _
    rw [arrV_new]
    refine congrArg (arrV c N) (funext fun j => ?_)
    simp [va_rf]
  | i + 1 => by
    show (Jvm.Free.Multi.outerC c N h0 i).setSlot i (.ref (h0 + 1 + i)) = _
    rw [mna_outer c N h0 i, arrV_store]
    refine congrArg (arrV c N) (funext fun j => ?_)
    by_cases e : j = i
    · subst e
      simp [updV, va_rf]
    · by_cases h : j < i
      · simp [updV, e, h, Nat.lt_succ_of_lt h]
      · simp [updV, e, h, show ¬ j < i + 1 by omega]
section MNA
variable {G : gE} {d y pc : Nat} {ls : List (Option Value)} {st : List Value} {w : aW} {n bc bs : Nat} {post : Option Value → aW → Nat → Prop}
set_option maxHeartbeats 2000000 in
theorem r_mna {own : String} {idx N K t : Nat} {ty : FieldType} {inn : vp_A} (ho : (mn y).cls = own) (hd : decode (mb y) pc = .ok (.multianewarray idx 2, 4)) (hx : Cond.classLink own idx ("[" ++ (FieldType.array ty).toString) ∈ WALL)
    (ht : (ty = .int ∧ t = 0 ∧ inn = (K, .inl (fun _ => 0))) ∨ (ty = .long ∧ t = 1 ∧ inn = (K, .inr (.inl (fun _ => 0))))) (hN : N ≤ 100) (hK9 : K ≤ 100) (hn : n + 1 + N < gB) (hbc : 1 + N ≤ bc) (hbs : N + N * K ≤ bs)
    (kk : Go G d y (pc + 4) ls (.ref n :: st) (mnaW w n N (.inl (t + 3, (N, .inr (.inr (.inr (.inr (fun i => if i < N then some (n + 1 + i) else none))))))) (.inl (t, inn))) (n + 1 + N) (bc - (1 + N)) (bs - (N + N * K)) post) : Go G d y pc ls (.int (nI K) :: .int (nI N) :: st) w n bc bs post := by
  intro p e R s m args below meth c C9 H locs cells slots Q la hH hS hl h1 h2 hk9
  obtain ⟨hx9, hb9, hm9, hc9, hw9, hi9, hf9, hl9, hK0, hO9⟩ := id C9
  have hsz := hH.1
  have e9 : H.size = gad G n := by rw [gad_lt (by omega)]; exact hsz
  have cN : (nI N).toNatClampNeg = N := nI_clamp (by omega)
  have cK : (nI K).toNatClampNeg = K := nI_clamp (by omega)
  have hover : (Cond.arrayOver (.array ty)).before args s = true := by
    rcases ht with ⟨rfl, -, -⟩ | ⟨rfl, -, -⟩
    · exact hK0.2.2.1
    · exact hK0.2.2.2
  have harr : (Cond.arrayClass ty).before args s = true := by
    rcases ht with ⟨rfl, -, -⟩ | ⟨rfl, -, -⟩
    · exact hw9 _ ac_int
    · exact hw9 _ ac_long
  have hcb : componentBytes ty ≤ 8 := by rcases ht with ⟨rfl, -, -⟩ | ⟨rfl, -, -⟩ <;> decide
  have hb2 : (nI K).toNatClampNeg * componentBytes ty ≤ 536870912 := by
    rw [cK]
    calc K * componentBytes ty ≤ 100 * 8 := Nat.mul_le_mul hK9 hcb
      _ ≤ 536870912 := by decide
  have hNK : N * K ≤ 10000 := Nat.mul_le_mul hN hK9
  have hdf : fits ty (defaultValue ty) = true := by rcases ht with ⟨rfl, -, -⟩ | ⟨rfl, -, -⟩ <;> rfl
  have hdd : (defaultValue ty).isDefault = true := by rcases ht with ⟨rfl, -, -⟩ | ⟨rfl, -, -⟩ <;> rfl
  intro T hT Xs
  obtain ⟨vm₁, cA, comp, -, fA, fC, hO, -, X', step⟩ := Xs.multianewarray2F hx9 (ho ▸ hc9) (hw9 _ hx) hover harr (g := F0 m pc la (.int (nI K) :: .int (nI N) :: st.map (cv G))) rfl (by rw [hb9]; exact hd) rfl (nI_pos (by omega)) (nI_pos (by omega)) (by rw [cN]; omega) hb2 (by rw [cK]; omega) hdf hdd (by rw [cN]; omega) (by rw [cN, cK]; omega)
  rw [cN, cK] at X' step
  generalize hF : Jvm.Free.Multi.fill (T.setVm vm₁) cA comp N K (defaultValue ty) N = F at X' step
  have hTh : (T.setVm vm₁).heap = H := hT
  obtain ⟨f1, f2, -, -⟩ := Jvm.Free.Multi.fill_facts (T.setVm vm₁) cA comp N K (defaultValue ty) N
  rw [hF, hTh] at f1 f2
  have hold : ∀ x : Nat, x < H.size → F.heap[x]? = H[x]? := fun x hx => by
    have := Jvm.Free.Multi.fill_old (T.setVm vm₁) cA comp N K (defaultValue ty) (a := x) (by rw [hTh]; exact hx) N
    rw [hF, hTh] at this
    exact this
  have hrow : ∀ j : Nat, j < N → F.heap[H.size + 1 + j]? = some (Jvm.Free.Multi.innerC comp K (defaultValue ty)) := fun j hj => by
    have := Jvm.Free.Multi.fill_inner (T.setVm vm₁) cA comp N K (defaultValue ty) N j hj
    rw [hF, hTh] at this
    exact this
  rw [mna_outer] at f2
  have hKt := hK0.1.2
  have ecA : cA = gtc G (t + 3) := by
    rcases ht with ⟨rfl, rfl, -⟩ | ⟨rfl, rfl, -⟩
    · exact Option.some.inj (fA.symm.trans (hKt 3 _ rfl).2)
    · exact Option.some.inj (fA.symm.trans (hKt 4 _ rfl).2)
  have ecp : comp = gtc G t := by
    rcases ht with ⟨rfl, rfl, -⟩ | ⟨rfl, rfl, -⟩
    · exact Option.some.inj (fC.symm.trans (hKt 0 _ rfl).2)
    · exact Option.some.inj (fC.symm.trans (hKt 1 _ rfl).2)
  have hin : Jvm.Free.Multi.innerC comp K (defaultValue ty) = vp_cell (gtc G t) (cx G inn) := by
    rw [ecp]
    rcases ht with ⟨rfl, rfl, rfl⟩ | ⟨rfl, rfl, rfl⟩
    · exact arrV_new _ _ _
    · exact arrV_new _ _ _
  have hHR : HR G (mnaW w n N (.inl (t + 3, (N, .inr (.inr (.inr (.inr (fun i => if i < N then some (n + 1 + i) else none))))))) (.inl (t, inn))) (n + 1 + N) F.heap := by
    refine ⟨by rw [f1]; omega, by omega, fun k hk => ?_⟩
    unfold mnaW
    by_cases e1 : k = n
    · rw [if_pos e1, e1]
      show F.heap[gad G n]? = some (arrV (gtc G (t + 3)) N (fun j => va_rf ((if j < N then some (n + 1 + j) else none).map (gad G))))
      rw [← e9, f2, ecA]
      refine congrArg (fun z => some (arrV (gtc G (t + 3)) N z)) (funext fun j => ?_)
      by_cases e2 : j < N
      · rw [if_pos e2, if_pos e2]
        show Value.ref (H.size + 1 + j) = Value.ref (gad G (n + 1 + j))
        rw [gad_lt (by omega), hsz]
        have e5 : gb G + n + 1 + j = gb G + (n + 1 + j) := by omega
        exact congrArg Value.ref e5
      · rw [if_neg e2, if_neg e2]
        rfl
    · rw [if_neg e1]
      by_cases e2 : n < k ∧ k ≤ n + N
      · rw [if_pos e2]
        show F.heap[gad G k]? = some (vp_cell (gtc G t) (cx G inn))
        rw [← hin, ← hrow (k - n - 1) (by omega), gad_lt (by omega)]
        exact congrArg (fun z => F.heap[z]?) (by omega)
      · rw [if_neg e2]
        refine (hH.2.2 k (by omega)).kept (hold _ ?_)
        show gad G k < H.size
        rw [gad_lt (by omega)]
        omega
  obtain ⟨t9, a1, b1⟩ := kk p e R s m args below meth c C9 F.heap locs (cells + 1 + N) (slots + N + N * K) Q la hHR ⟨by rw [f1]; have := hS.1; omega, fun x q1 q2 => (hold x (by have := hS.1; omega)).trans (hS.2.1 x q1 q2), hS.2.2⟩ hl (by omega) (by omega) hk9 F rfl X'
  refine ⟨t9, step t9 ?_, b1⟩
  have eT : T.heap.size = gad G n := by rw [hT]; exact e9
  rw [eT]
  exact a1
end MNA
end
section
-- THE CLAIM'S OWN NAMES (the skeleton's) AND THE START
def R_law : String := "NeedsALoserLaw"
def lw_P (b : Addr) (xs : List Int32) (args : Array Value) (s : State) : Prop := args = #[.ref b] ∧ s.IntsAt b xs ∧ xs.length ≤ 384 ∧ (Jvm.Cond.and given_1 narrow_1).before args s = true
def lw_Q (_ : Array Value) (s : State) (o : Outcome) (t : State) : Prop := o = .returned (some (.int 1)) ∧ Framed s o t [] 600000 7302250
def lw_Z (below : List Frame) (a : Array Value) (s : State) : State → Prop := fun t => ∃ o, t.status = .running ∧ Ended t below o ∧ lw_Q a s o t
/-- the law's own end, with 1 on the stack, nothing written that was there before, its room as the claim has it -/
theorem lw_ret {p : Program} {l : Launch} {e : Env} {s : State} {m : MethodId} {below : List Frame} {meth : Method} {c : Code} {b : Nat} (hx : p.tables.exec = Jvm.exec) (hb : c.code = code) (hr : meth.sig.returnType = ret) (hlocks : meth.locks = false) {pc : Nat} {H : Heap} {ls : Array Slot} (hdg : decode code pc = .ok (.ireturn, 1)) : W p l e room_1 s m #[Value.ref b] below meth c H [] 600000 7302250 (lw_Z below #[Value.ref b] s) (F0 m pc ls [.int 1]) := by
  intro T hT X
  obtain ⟨fs, hret, hrun, hended, hW, hframe⟩ := X.leave (v := some (.int 1)) (hlocks := hlocks) (fun h => by rw [hr] at h; cases h)
  have hmeth' : T.vm.method? m = some meth := X.method'
  refine ⟨T.setFrames fs, ?_, .returned (some (.int 1)), hrun, hended, rfl, ⟨_, rfl⟩, hW, hframe⟩
  jvm_step X.here [X.here.top, hx, hb, hdg, hmeth', hr, ret, narrow_b1]
  (try refine ⟨rfl, ?_⟩); (try refine ⟨rfl, ?_⟩)
  first | (intro acts; rw [hret _ acts rfl rfl rfl]) | rw [hret _ _ rfl rfl rfl]
  exact Steps.refl _
def lw_At (p : Program) (s : State) (m : MethodId) (meth : Method) (c : Code) (b L : Nat) (xs : Nat → Int32) : Prop :=
  p.tables.exec = Jvm.exec ∧ c.code = code ∧ meth.sig.returnType = ret ∧ c.maxLocals = 4 ∧ s.vm.findClass R_law = some m.cls ∧ (∀ w ∈ lw_tbl, w.before #[Value.ref b] s = true) ∧ va_X b L xs s s.heap ∧ b < s.heap.size ∧ meth.locks = false ∧ (Jvm.Cond.and given_1 narrow_1).before #[Value.ref b] s = true
-- what the Statement gives of the start
def FL : List Cond := flatC (Jvm.Cond.and given_1 narrow_1)
def sidx (i : Nat) : Nat := [45, 54, 101, 59, 64, 69, 77, 79, 81].getD i 0
def tmS (i : Nat) : Term := .string "NeedsALoser$Reader" (sidx i)
theorem fl_ex : ∀ i, i < 9 → Cond.exactly (tmS i) "java/lang/String" ∈ FL := by decide +kernel
theorem fl_co : ∀ i, i < 9 → Cond.eq (.field (tmS i) "java/lang/String" "coder" "B") (.int 0) ∈ FL := by decide +kernel
theorem fl_ar : ∀ i, i < 9 → Cond.arrayOf (.field (tmS i) "java/lang/String" "value" "[B") .byte ∈ FL := by decide +kernel
theorem fl_le : ∀ i, i < 9 → Cond.eq (.length (.field (tmS i) "java/lang/String" "value" "[B")) (.int (Int32.ofNat (strL.getD i 0))) ∈ FL := by decide +kernel
theorem fl_el : ∀ i, i < 9 → ∀ j, j < strL.getD i 0 → Cond.eq (.elem (.field (tmS i) "java/lang/String" "value" "[B") (.int (Int32.ofNat j))) (.int ((strB.getD i []).getD j 0)) ∈ FL := by decide +kernel
theorem fl_ne : ∀ i, i < 9 → ∀ j, j < 9 → i ≠ j → Cond.not (Cond.eq (tmS i) (tmS j)) ∈ FL ∨ Cond.not (Cond.eq (tmS j) (tmS i)) ∈ FL := by decide +kernel
theorem fl_si : ∀ e ∈ sites, e.2.2.1 < 9 ∧ Cond.stringRef e.1 e.2.1 e.2.2.2 ∈ lw_tbl ∧ ((e.1 = "NeedsALoser$Reader" ∧ e.2.1 = sidx e.2.2.1) ∨ Cond.eq (tmS e.2.2.1) (.string e.1 e.2.1) ∈ FL ∨ Cond.eq (.string e.1 e.2.1) (tmS e.2.2.1) ∈ FL) := by decide +kernel
def tmA : Term := .static "NeedsALoser$Rules" "ABOVE" "[I"
theorem fl_ab : Cond.arrayOf tmA .int ∈ FL ∧ Cond.eq (.length tmA) (.int (Int32.ofNat 7)) ∈ FL ∧ (∀ j, j < 7 → Cond.eq (.elem tmA (.int (Int32.ofNat j))) (.int (aboveL.getD j 0)) ∈ FL) ∧ Cond.eq (.static "java/lang/String" "COMPACT_STRINGS" "Z") (.int 1) ∈ FL ∧ Cond.isRef (.static "jdk/internal/util/Preconditions" "SIOOBE_FORMATTER" "Ljava/util/function/BiFunction;") ∈ FL := by decide +kernel
theorem tb_ls : (Cond.laysStatic "NeedsALoser$Rules" "ABOVE" "[I" ∈ lw_tbl ∧ Cond.initialized "NeedsALoser$Rules" ∈ lw_tbl) ∧ (Cond.laysStatic "java/lang/String" "COMPACT_STRINGS" "Z" ∈ lw_tbl ∧ Cond.initialized "java/lang/String" ∈ lw_tbl) ∧ (Cond.laysStatic "jdk/internal/util/Preconditions" "SIOOBE_FORMATTER" "Ljava/util/function/BiFunction;" ∈ lw_tbl ∧ Cond.initialized "jdk/internal/util/Preconditions" ∈ lw_tbl) ∧ Cond.arrayOver (.array .int) ∈ lw_tbl ∧ Cond.arrayOver (.array .long) ∈ lw_tbl := by decide +kernel
theorem wall_tbl {w : Cond} (h : w ∈ WALL) : w ∈ lw_tbl := (List.mem_filter.mp h).1
end
section
theorem kn_of {args : Array Value} {s : State} {ci N : Nat} {C : String} {T : u_T} (hts : ∀ w ∈ lw_tbl, w.before args s = true) (hc : classes[ci]? = some (C, T, N)) : ∃ (cC : ClassId) (iS : Nat → Nat), u_Kn s C T N cC iS := by
  obtain ⟨h1, -, -, h2, -⟩ := cls_ok hc
  exact u_known hts (fun w hw => wall_tbl (h1 w hw)) (hts _ (wall_tbl h2))
theorem arr_of {args : Array Value} {s : State} {ty : FieldType} (h : (Cond.arrayClass ty).before args s = true) : ∃ cA, ArrOfT s cA ty ∧ s.vm.findClass ("[" ++ ty.toString) = some cA := by
  obtain ⟨c, k, comp, h1, h2, h3⟩ := Cond.arrayClass_spec h
  exact ⟨c, fun n z => ⟨(fun q hq => by cases hq), k, h2, comp, h3⟩, h1⟩
theorem arr_ofA {args : Array Value} {s : State} {ty : FieldType} (h : (Cond.arrayOver (.array ty)).before args s = true) : ∃ cA, ArrOfT s cA (.array ty) ∧ s.vm.findClass ("[" ++ (FieldType.array ty).toString) = some cA := by
  obtain ⟨comp, c, k, h1, h2, h3, h4⟩ := Cond.arrayOver_specA h
  exact ⟨c, fun n z => ⟨(fun q hq => by cases hq), k, h2, comp, h3⟩, h4⟩

def aoOf (adK adV : Nat → Nat) (tA b fa : Nat) (k : Nat) : Nat := if k < 9 then adK k else if k < 200 then adV (k - 100) else if k = 200 then tA else if k = 201 then b else fa
def w0 : aW := fun _ => .inl (0, (0, .inl (fun _ => 0)))
set_option maxHeartbeats 4000000 in
/-- THE START, out of the law's walk over the abstract world -/
theorem start_open (hlaw : ∀ G : gE, gL G ≤ 384 → Go G 100 299 0 [some (.ref (gB + 201)), none, none, none] [] w0 0 600000 7302250 (fun r _ _ => r = some (.int 1)))
    {p : Program} {e : Env} {s : State} {m : MethodId} {below : List Frame} {meth : Method} {c : Code} (l : Launch) {b L : Nat} {xs : Nat → Int32} (hL : L ≤ 384) (C0 : lw_At p s m meth c b L xs) : W p l e room_1 s m #[Value.ref b] below meth c s.heap [] 0 0 (lw_Z below #[Value.ref b] s) (entryFrame m ([Value.ref b] : List Value).toArray 4) := by
  obtain ⟨hx, hb, hr, hml, hown, hts, hX, hbl, hlocks, hgv⟩ := id C0
  have hs : ∀ w ∈ FL, w.before #[Value.ref b] s = true := flat_of_before _ hgv
  have hW : ∀ w ∈ WALL, w.before #[Value.ref b] s = true := fun w hw => hts w (wall_tbl hw)
  have hA : ∀ a : Nat, a < s.heap.size → ¬ (fun q => s.heap.size ≤ q) a := fun a h => Nat.not_le.mpr h
  obtain ⟨c0, i0, k0⟩ := kn_of (ci := 0) hts rfl
  obtain ⟨c1, i1, k1⟩ := kn_of (ci := 1) hts rfl
  obtain ⟨c2, i2, k2⟩ := kn_of (ci := 2) hts rfl
  obtain ⟨c3, i3, k3⟩ := kn_of (ci := 3) hts rfl
  obtain ⟨c4, i4, k4⟩ := kn_of (ci := 4) hts rfl
  obtain ⟨c5, i5, k5⟩ := kn_of (ci := 5) hts rfl
  obtain ⟨c6, i6, k6⟩ := kn_of (ci := 6) hts rfl
  obtain ⟨a0, u0, f0⟩ := arr_of (hW _ ac_int)
  obtain ⟨a1, u1, f1⟩ := arr_of (hW _ ac_long)
  obtain ⟨a2, u2, f2⟩ := arr_of (hW _ ac_boolean)
  obtain ⟨a3, u3, f3⟩ := arr_ofA (hts _ tb_ls.2.2.2.1)
  obtain ⟨a4, u4, f4⟩ := arr_ofA (hts _ tb_ls.2.2.2.2)
  obtain ⟨adK, adV, hvS, hev⟩ := vk_Sof (N := 9) (tm := tmS) (len := strL) (byt := strB) (A := fun q => s.heap.size ≤ q) (by decide) (fun i hi => hs _ (fl_ex i hi)) (fun i hi => hs _ (fl_co i hi)) (fun i hi => hs _ (fl_ar i hi)) (fun i hi => hs _ (fl_le i hi)) (fun i hi j hj => hs _ (fl_el i hi j hj)) (fun i j hi hj n => (fl_ne i hi j hj n).elim (fun h => Or.inl (hs _ h)) (fun h => Or.inr (hs _ h))) hA
  obtain ⟨tA, hTe, hT⟩ := va_Tof (tm := tmA) (N := 7) (ty := .int) (f := fun j => .int (aboveL.getD j 0)) (A := fun q => s.heap.size ≤ q) (by decide) (hs _ fl_ab.1) (va_eqt (hs _ fl_ab.2.1)) (fun j hj => va_eqt (hs _ (fl_ab.2.2.1 j hj))) hA
  obtain ⟨fv, hfe, hfr⟩ := Cond.isRef_spec (hs _ fl_ab.2.2.2.2)
  obtain ⟨fm, fa, hfm⟩ : ∃ (fm : Value) (fa : Nat), ∀ G : gE, gao G 202 = fa → cv G fm = fv := by
    cases fv with
    | ref a => exact ⟨.ref (gB + 202), a, fun G h => by rw [cv_old, h]⟩
    | null => exact ⟨.null, 0, fun G _ => rfl⟩
    | _ => cases hfr
  obtain ⟨G, hG⟩ : ∃ G : gE, G = (l, s.heap.size, ((fun k => [c0, c1, c2, c3, c4, c5, c6].getD k c0), (fun k => [i0, i1, i2, i3, i4, i5, i6].getD k i0)), (fun k => [a0, a1, a2, a3, a4].getD k a0), aoOf adK adV tA b fa, fm, L, xs) := ⟨_, rfl⟩
  have hKst : Kst G s := by
    subst hG
    refine ⟨⟨?_, ?_⟩, ?_, hts _ tb_ls.2.2.2.1, hts _ tb_ls.2.2.2.2⟩
    · intro k q hq
      match k, hq with
      | 0, hq => cases hq; exact k0
      | 1, hq => cases hq; exact k1
      | 2, hq => cases hq; exact k2
      | 3, hq => cases hq; exact k3
      | 4, hq => cases hq; exact k4
      | 5, hq => cases hq; exact k5
      | 6, hq => cases hq; exact k6
    · intro k q hq
      match k, hq with
      | 0, hq => cases hq; exact ⟨u0, f0⟩
      | 1, hq => cases hq; exact ⟨u1, f1⟩
      | 2, hq => cases hq; exact ⟨u2, f2⟩
      | 3, hq => cases hq; exact ⟨u3, f3⟩
      | 4, hq => cases hq; exact ⟨u4, f4⟩
    · intro w hw
      obtain ⟨h1, h2⟩ := List.mem_filter.mp hw
      refine va_Nw.of ?_ (hts w h1)
      cases w <;> first | rfl | cases h2
  have hgb : gb G = s.heap.size := by rw [hG]
  have hOld : Old G s := by
    subst hG
    refine ⟨⟨fun i hi => ?_, fun i j hi hj => ?_⟩, fun e9 he => ?_, va_Zref (hts _ tb_ls.1.1) (hts _ tb_ls.1.2) hTe hA, hT, va_Zof (hts _ tb_ls.2.1.1) (hts _ tb_ls.2.1.2) (va_eqi (hs _ fl_ab.2.2.2.1)) hA, ?_, hX, hbl, Nat.le_refl _⟩
    · have e1 : aoOf adK adV tA b fa i = adK i := if_pos hi
      have e2 : aoOf adK adV tA b fa (100 + i) = adV i := by
        unfold aoOf
        rw [if_neg (by omega), if_pos (by omega), Nat.add_sub_cancel_left]
      show va_O _ (aoOf adK adV tA b fa i) _ _ _ ∧ va_OF _ _ _ _ (aoOf adK adV tA b fa i) _ _ _ ∧ va_OF _ _ _ (.ref (aoOf adK adV tA b fa (100 + i))) (aoOf adK adV tA b fa i) _ _ _ ∧ va_T _ (aoOf adK adV tA b fa (100 + i)) _ _ _ _ _
      rw [e1, e2]
      exact hvS.1 i hi
    · have e1 : aoOf adK adV tA b fa i = adK i := if_pos hi
      have e2 : aoOf adK adV tA b fa j = adK j := if_pos hj
      show aoOf adK adV tA b fa i = aoOf adK adV tA b fa j → i = j
      rw [e1, e2]
      exact hvS.2 i j hi hj
    · obtain ⟨g1, g2, g3⟩ := fl_si e9 he
      have e1 : aoOf adK adV tA b fa e9.2.2.1 = adK e9.2.2.1 := if_pos g1
      show vk_R _ _ _ (aoOf adK adV tA b fa e9.2.2.1) s
      rw [e1]
      refine vk_R.of (A := #[Value.ref b]) (hts _ g2) ?_
      rcases g3 with ⟨g4, g5⟩ | g4 | g4
      · rw [g4, g5]; exact hev _ g1
      · exact va_eqR (hs _ g4) (hev _ g1)
      · obtain ⟨y9, h1, h2⟩ := Cond.eq_one (hs _ g4)
        exact h1.trans (h2.symm.trans (hev _ g1))
    · have h9 := va_Zof (hts _ tb_ls.2.2.1.1) (hts _ tb_ls.2.2.1.2) hfe hA
      rw [← hfm (l, s.heap.size, ((fun k => [c0, c1, c2, c3, c4, c5, c6].getD k c0), (fun k => [i0, i1, i2, i3, i4, i5, i6].getD k i0)), (fun k => [a0, a1, a2, a3, a4].getD k a0), aoOf adK adV tA b fa, fm, L, xs) rfl] at h9
      exact h9
  have hl := lv_entry ([.ref b]) (n := 4) (Nat.le_of_ble_eq_true rfl)
  rw [lg_entry_eq]
  generalize (lg_sl ([.ref b]) ++ List.replicate (4 - (lg_sl ([.ref b])).length) Slot.unset).toArray = la at hl ⊢
  have hlv : lvs G la (ml 299) [some (.ref (gB + 201)), none, none, none] := by
    refine ⟨hl.1, hl.2.1, fun q hq => ?_⟩
    obtain ⟨v, h1, h2⟩ := asc_mem.mp hq
    obtain ⟨i, z⟩ := q
    match i, h1 with
    | 0, h1 =>
      cases h1
      cases h2
      have e1 : gad G (gB + 201) = b := by rw [gad_old, hG]; rfl
      rw [e1]
      exact hl.2.2 (0, .ref b) List.mem_cons_self
    | 1, h1 => cases h1
    | 2, h1 => cases h1
    | 3, h1 => cases h1
    | i + 4, h1 => cases h1
  have eL : gL G = L := by rw [hG]
  have el : gl G = l := by rw [hG]
  have hgo := hlaw G (by rw [eL]; exact hL) p e room_1 s m #[Value.ref b] below meth c ⟨hx, hb, hml, hown, hW, fun h => absurd h (by decide +kernel), by decide, by decide, hKst, hOld⟩ s.heap [] 0 0 (lw_Z below #[Value.ref b] s) la ⟨hgb ▸ rfl, Nat.zero_le _, fun k hk => absurd hk (Nat.not_lt_zero _)⟩ va_S.rf hlv (by decide) (by decide) ?_
  · rw [el] at hgo
    exact hgo
  · intro r w' n' H' locs' cells' slots' la' pc' hp hH' hS' h1 h2 hR
    subst hp
    rw [el]
    refine va_forget (fun q hq => by have := hS'.2.2 q hq; rw [← hgb]; exact this) (W.widen h1 h2 ?_)
    exact lw_ret hx hb hr hlocks hR.1
end
