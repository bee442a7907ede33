section
-- ===== PART A: goes FIRST, ahead of the names: the tables' words, and 'selects' of the private methods out of them =====
/-- a private method of a class that the tables say can be made, by its rows of tables_1 -/
def lw_okq (q : MethodName × Nat) : Prop := (q.1.cls ≠ "java/lang/invoke/MethodHandle" ∧ q.1.cls ≠ "java/lang/invoke/VarHandle") ∧ Cond.instantiable q.1.cls q.2 ∈ tables_1 ∧ Cond.privateMethod q.1 ∈ tables_1 ∧ Cond.instanceMethod q.1 ∈ tables_1
theorem lw_p0 : lw_okq (⟨"BreadMap", "refuse", "(I)Z"⟩, 20) := ⟨⟨by decide +kernel, by decide +kernel⟩, List.mem_of_getElem? (i := 23) (by decide +kernel), List.mem_of_getElem? (i := 535) (by decide +kernel), List.mem_of_getElem? (i := 536) (by decide +kernel)⟩
theorem lw_p1 : lw_okq (⟨"BreadMap", "accept", "()Z"⟩, 20) := ⟨⟨by decide +kernel, by decide +kernel⟩, List.mem_of_getElem? (i := 23) (by decide +kernel), List.mem_of_getElem? (i := 546) (by decide +kernel), List.mem_of_getElem? (i := 547) (by decide +kernel)⟩
theorem lw_p2 : lw_okq (⟨"BreadMap", "placeStatus", "(II)I"⟩, 20) := ⟨⟨by decide +kernel, by decide +kernel⟩, List.mem_of_getElem? (i := 23) (by decide +kernel), List.mem_of_getElem? (i := 554) (by decide +kernel), List.mem_of_getElem? (i := 555) (by decide +kernel)⟩
theorem lw_p3 : lw_okq (⟨"BreadMap", "refused", "(I)I"⟩, 20) := ⟨⟨by decide +kernel, by decide +kernel⟩, List.mem_of_getElem? (i := 23) (by decide +kernel), List.mem_of_getElem? (i := 574) (by decide +kernel), List.mem_of_getElem? (i := 575) (by decide +kernel)⟩
theorem lw_p4 : lw_okq (⟨"BreadMap$Tape", "scanToken", "(III)V"⟩, 11) := ⟨⟨by decide +kernel, by decide +kernel⟩, List.mem_of_getElem? (i := 52) (by decide +kernel), List.mem_of_getElem? (i := 616) (by decide +kernel), List.mem_of_getElem? (i := 617) (by decide +kernel)⟩
theorem lw_p5 : lw_okq (⟨"BreadMap$Tape", "scanWord", "(II)V"⟩, 11) := ⟨⟨by decide +kernel, by decide +kernel⟩, List.mem_of_getElem? (i := 52) (by decide +kernel), List.mem_of_getElem? (i := 626) (by decide +kernel), List.mem_of_getElem? (i := 627) (by decide +kernel)⟩
theorem lw_p6 : lw_okq (⟨"BreadMap$Tape", "reservedIndex", "(II)I"⟩, 11) := ⟨⟨by decide +kernel, by decide +kernel⟩, List.mem_of_getElem? (i := 52) (by decide +kernel), List.mem_of_getElem? (i := 630) (by decide +kernel), List.mem_of_getElem? (i := 631) (by decide +kernel)⟩
theorem lw_p7 : lw_okq (⟨"BreadMap$Tape", "scanNumber", "(II)V"⟩, 11) := ⟨⟨by decide +kernel, by decide +kernel⟩, List.mem_of_getElem? (i := 52) (by decide +kernel), List.mem_of_getElem? (i := 686) (by decide +kernel), List.mem_of_getElem? (i := 687) (by decide +kernel)⟩
theorem lw_p8 : lw_okq (⟨"BreadMap$LandReader", "readWide", "()Z"⟩, 3) := ⟨⟨by decide +kernel, by decide +kernel⟩, List.mem_of_getElem? (i := 97) (by decide +kernel), List.mem_of_getElem? (i := 696) (by decide +kernel), List.mem_of_getElem? (i := 697) (by decide +kernel)⟩
theorem lw_p9 : lw_okq (⟨"BreadMap$LandReader", "readRows", "()Z"⟩, 3) := ⟨⟨by decide +kernel, by decide +kernel⟩, List.mem_of_getElem? (i := 97) (by decide +kernel), List.mem_of_getElem? (i := 724) (by decide +kernel), List.mem_of_getElem? (i := 725) (by decide +kernel)⟩
theorem lw_p10 : lw_okq (⟨"BreadMap$LandReader", "readLetters", "()Z"⟩, 3) := ⟨⟨by decide +kernel, by decide +kernel⟩, List.mem_of_getElem? (i := 97) (by decide +kernel), List.mem_of_getElem? (i := 731) (by decide +kernel), List.mem_of_getElem? (i := 732) (by decide +kernel)⟩
theorem lw_p11 : lw_okq (⟨"BreadMap$LandReader", "readPart", "()Z"⟩, 3) := ⟨⟨by decide +kernel, by decide +kernel⟩, List.mem_of_getElem? (i := 97) (by decide +kernel), List.mem_of_getElem? (i := 756) (by decide +kernel), List.mem_of_getElem? (i := 757) (by decide +kernel)⟩
theorem lw_p12 : lw_okq (⟨"BreadMap$LandReader", "readRise", "()Z"⟩, 3) := ⟨⟨by decide +kernel, by decide +kernel⟩, List.mem_of_getElem? (i := 97) (by decide +kernel), List.mem_of_getElem? (i := 760) (by decide +kernel), List.mem_of_getElem? (i := 761) (by decide +kernel)⟩
theorem lw_p13 : lw_okq (⟨"BreadMap$LandReader", "readCopies", "()Z"⟩, 3) := ⟨⟨by decide +kernel, by decide +kernel⟩, List.mem_of_getElem? (i := 97) (by decide +kernel), List.mem_of_getElem? (i := 770) (by decide +kernel), List.mem_of_getElem? (i := 771) (by decide +kernel)⟩
theorem lw_p14 : lw_okq (⟨"BreadMap$LandReader", "readCompany", "()Z"⟩, 3) := ⟨⟨by decide +kernel, by decide +kernel⟩, List.mem_of_getElem? (i := 97) (by decide +kernel), List.mem_of_getElem? (i := 774) (by decide +kernel), List.mem_of_getElem? (i := 775) (by decide +kernel)⟩
theorem lw_p15 : lw_okq (⟨"BreadMap$LandReader", "readBy", "()I"⟩, 3) := ⟨⟨by decide +kernel, by decide +kernel⟩, List.mem_of_getElem? (i := 97) (by decide +kernel), List.mem_of_getElem? (i := 791) (by decide +kernel), List.mem_of_getElem? (i := 792) (by decide +kernel)⟩
def lw_privs_1 : List (MethodName × Nat) := [(⟨"BreadMap", "refuse", "(I)Z"⟩, 20), (⟨"BreadMap", "accept", "()Z"⟩, 20), (⟨"BreadMap", "placeStatus", "(II)I"⟩, 20), (⟨"BreadMap", "refused", "(I)I"⟩, 20), (⟨"BreadMap$Tape", "scanToken", "(III)V"⟩, 11), (⟨"BreadMap$Tape", "scanWord", "(II)V"⟩, 11), (⟨"BreadMap$Tape", "reservedIndex", "(II)I"⟩, 11), (⟨"BreadMap$Tape", "scanNumber", "(II)V"⟩, 11), (⟨"BreadMap$LandReader", "readWide", "()Z"⟩, 3), (⟨"BreadMap$LandReader", "readRows", "()Z"⟩, 3), (⟨"BreadMap$LandReader", "readLetters", "()Z"⟩, 3), (⟨"BreadMap$LandReader", "readPart", "()Z"⟩, 3), (⟨"BreadMap$LandReader", "readRise", "()Z"⟩, 3), (⟨"BreadMap$LandReader", "readCopies", "()Z"⟩, 3), (⟨"BreadMap$LandReader", "readCompany", "()Z"⟩, 3), (⟨"BreadMap$LandReader", "readBy", "()I"⟩, 3)]
theorem lw_r1 : ∀ q ∈ lw_privs_1, lw_okq q := List.forall_mem_cons.mpr ⟨lw_p0, List.forall_mem_cons.mpr ⟨lw_p1, List.forall_mem_cons.mpr ⟨lw_p2, List.forall_mem_cons.mpr ⟨lw_p3, List.forall_mem_cons.mpr ⟨lw_p4, List.forall_mem_cons.mpr ⟨lw_p5, List.forall_mem_cons.mpr ⟨lw_p6, List.forall_mem_cons.mpr ⟨lw_p7, List.forall_mem_cons.mpr ⟨lw_p8, List.forall_mem_cons.mpr ⟨lw_p9, List.forall_mem_cons.mpr ⟨lw_p10, List.forall_mem_cons.mpr ⟨lw_p11, List.forall_mem_cons.mpr ⟨lw_p12, List.forall_mem_cons.mpr ⟨lw_p13, List.forall_mem_cons.mpr ⟨lw_p14, List.forall_mem_cons.mpr ⟨lw_p15, fun _ h => absurd h List.not_mem_nil⟩⟩⟩⟩⟩⟩⟩⟩⟩⟩⟩⟩⟩⟩⟩⟩
theorem lw_p16 : lw_okq (⟨"BreadMap", "answer", "(I)I"⟩, 20) := ⟨⟨by decide +kernel, by decide +kernel⟩, List.mem_of_getElem? (i := 23) (by decide +kernel), List.mem_of_getElem? (i := 803) (by decide +kernel), List.mem_of_getElem? (i := 804) (by decide +kernel)⟩
theorem lw_p17 : lw_okq (⟨"BreadMap$OrdersReader", "readEnd", "()Z"⟩, 5) := ⟨⟨by decide +kernel, by decide +kernel⟩, List.mem_of_getElem? (i := 113) (by decide +kernel), List.mem_of_getElem? (i := 822) (by decide +kernel), List.mem_of_getElem? (i := 823) (by decide +kernel)⟩
theorem lw_p18 : lw_okq (⟨"BreadMap$OrdersReader", "mayBegin", "()Z"⟩, 5) := ⟨⟨by decide +kernel, by decide +kernel⟩, List.mem_of_getElem? (i := 113) (by decide +kernel), List.mem_of_getElem? (i := 836) (by decide +kernel), List.mem_of_getElem? (i := 837) (by decide +kernel)⟩
theorem lw_p19 : lw_okq (⟨"BreadMap$OrdersReader", "beginStep", "()I"⟩, 5) := ⟨⟨by decide +kernel, by decide +kernel⟩, List.mem_of_getElem? (i := 113) (by decide +kernel), List.mem_of_getElem? (i := 844) (by decide +kernel), List.mem_of_getElem? (i := 845) (by decide +kernel)⟩
theorem lw_p20 : lw_okq (⟨"BreadMap$OrdersReader", "readStep", "(I)Z"⟩, 5) := ⟨⟨by decide +kernel, by decide +kernel⟩, List.mem_of_getElem? (i := 113) (by decide +kernel), List.mem_of_getElem? (i := 848) (by decide +kernel), List.mem_of_getElem? (i := 849) (by decide +kernel)⟩
theorem lw_p21 : lw_okq (⟨"BreadMap$OrdersReader", "readCopyCell", "(I)Z"⟩, 5) := ⟨⟨by decide +kernel, by decide +kernel⟩, List.mem_of_getElem? (i := 113) (by decide +kernel), List.mem_of_getElem? (i := 852) (by decide +kernel), List.mem_of_getElem? (i := 853) (by decide +kernel)⟩
theorem lw_p22 : lw_okq (⟨"BreadMap$OrdersReader", "readTwo", "(III)Z"⟩, 5) := ⟨⟨by decide +kernel, by decide +kernel⟩, List.mem_of_getElem? (i := 113) (by decide +kernel), List.mem_of_getElem? (i := 859) (by decide +kernel), List.mem_of_getElem? (i := 860) (by decide +kernel)⟩
theorem lw_p23 : lw_okq (⟨"BreadMap$OrdersReader", "readCopyAnd", "(III)Z"⟩, 5) := ⟨⟨by decide +kernel, by decide +kernel⟩, List.mem_of_getElem? (i := 113) (by decide +kernel), List.mem_of_getElem? (i := 864) (by decide +kernel), List.mem_of_getElem? (i := 865) (by decide +kernel)⟩
theorem lw_p24 : lw_okq (⟨"BreadMap$OrdersReader", "readName", "(I)Z"⟩, 5) := ⟨⟨by decide +kernel, by decide +kernel⟩, List.mem_of_getElem? (i := 113) (by decide +kernel), List.mem_of_getElem? (i := 868) (by decide +kernel), List.mem_of_getElem? (i := 869) (by decide +kernel)⟩
theorem lw_p25 : lw_okq (⟨"BreadMap$OrdersReader", "readCrumbs", "()Z"⟩, 5) := ⟨⟨by decide +kernel, by decide +kernel⟩, List.mem_of_getElem? (i := 113) (by decide +kernel), List.mem_of_getElem? (i := 875) (by decide +kernel), List.mem_of_getElem? (i := 876) (by decide +kernel)⟩
theorem lw_p26 : lw_okq (⟨"BreadMap$Ways", "reachCell", "(II)V"⟩, 9) := ⟨⟨by decide +kernel, by decide +kernel⟩, List.mem_of_getElem? (i := 272) (by decide +kernel), List.mem_of_getElem? (i := 1079) (by decide +kernel), List.mem_of_getElem? (i := 1080) (by decide +kernel)⟩
theorem lw_p27 : lw_okq (⟨"BreadMap$Eater", "consider", "(II)V"⟩, 11) := ⟨⟨by decide +kernel, by decide +kernel⟩, List.mem_of_getElem? (i := 313) (by decide +kernel), List.mem_of_getElem? (i := 1160) (by decide +kernel), List.mem_of_getElem? (i := 1161) (by decide +kernel)⟩
theorem lw_p28 : lw_okq (⟨"BreadMap$Eater", "priceWithout", "(II)I"⟩, 11) := ⟨⟨by decide +kernel, by decide +kernel⟩, List.mem_of_getElem? (i := 313) (by decide +kernel), List.mem_of_getElem? (i := 1164) (by decide +kernel), List.mem_of_getElem? (i := 1165) (by decide +kernel)⟩
theorem lw_p29 : lw_okq (⟨"BreadMap$Eater", "priceWithoutBoth", "(III)I"⟩, 11) := ⟨⟨by decide +kernel, by decide +kernel⟩, List.mem_of_getElem? (i := 313) (by decide +kernel), List.mem_of_getElem? (i := 1171) (by decide +kernel), List.mem_of_getElem? (i := 1172) (by decide +kernel)⟩
theorem lw_p30 : lw_okq (⟨"BreadMap$Cutter", "findRow", "()Z"⟩, 9) := ⟨⟨by decide +kernel, by decide +kernel⟩, List.mem_of_getElem? (i := 357) (by decide +kernel), List.mem_of_getElem? (i := 1189) (by decide +kernel), List.mem_of_getElem? (i := 1190) (by decide +kernel)⟩
theorem lw_p31 : lw_okq (⟨"BreadMap$Cutter", "come", "(II)V"⟩, 9) := ⟨⟨by decide +kernel, by decide +kernel⟩, List.mem_of_getElem? (i := 357) (by decide +kernel), List.mem_of_getElem? (i := 1196) (by decide +kernel), List.mem_of_getElem? (i := 1197) (by decide +kernel)⟩
def lw_privs_2 : List (MethodName × Nat) := [(⟨"BreadMap", "answer", "(I)I"⟩, 20), (⟨"BreadMap$OrdersReader", "readEnd", "()Z"⟩, 5), (⟨"BreadMap$OrdersReader", "mayBegin", "()Z"⟩, 5), (⟨"BreadMap$OrdersReader", "beginStep", "()I"⟩, 5), (⟨"BreadMap$OrdersReader", "readStep", "(I)Z"⟩, 5), (⟨"BreadMap$OrdersReader", "readCopyCell", "(I)Z"⟩, 5), (⟨"BreadMap$OrdersReader", "readTwo", "(III)Z"⟩, 5), (⟨"BreadMap$OrdersReader", "readCopyAnd", "(III)Z"⟩, 5), (⟨"BreadMap$OrdersReader", "readName", "(I)Z"⟩, 5), (⟨"BreadMap$OrdersReader", "readCrumbs", "()Z"⟩, 5), (⟨"BreadMap$Ways", "reachCell", "(II)V"⟩, 9), (⟨"BreadMap$Eater", "consider", "(II)V"⟩, 11), (⟨"BreadMap$Eater", "priceWithout", "(II)I"⟩, 11), (⟨"BreadMap$Eater", "priceWithoutBoth", "(III)I"⟩, 11), (⟨"BreadMap$Cutter", "findRow", "()Z"⟩, 9), (⟨"BreadMap$Cutter", "come", "(II)V"⟩, 9)]
theorem lw_r2 : ∀ q ∈ lw_privs_2, lw_okq q := List.forall_mem_cons.mpr ⟨lw_p16, List.forall_mem_cons.mpr ⟨lw_p17, List.forall_mem_cons.mpr ⟨lw_p18, List.forall_mem_cons.mpr ⟨lw_p19, List.forall_mem_cons.mpr ⟨lw_p20, List.forall_mem_cons.mpr ⟨lw_p21, List.forall_mem_cons.mpr ⟨lw_p22, List.forall_mem_cons.mpr ⟨lw_p23, List.forall_mem_cons.mpr ⟨lw_p24, List.forall_mem_cons.mpr ⟨lw_p25, List.forall_mem_cons.mpr ⟨lw_p26, List.forall_mem_cons.mpr ⟨lw_p27, List.forall_mem_cons.mpr ⟨lw_p28, List.forall_mem_cons.mpr ⟨lw_p29, List.forall_mem_cons.mpr ⟨lw_p30, List.forall_mem_cons.mpr ⟨lw_p31, fun _ h => absurd h List.not_mem_nil⟩⟩⟩⟩⟩⟩⟩⟩⟩⟩⟩⟩⟩⟩⟩⟩
theorem lw_p32 : lw_okq (⟨"BreadMap$Cutter", "goOut", "(I)V"⟩, 9) := ⟨⟨by decide +kernel, by decide +kernel⟩, List.mem_of_getElem? (i := 357) (by decide +kernel), List.mem_of_getElem? (i := 1203) (by decide +kernel), List.mem_of_getElem? (i := 1204) (by decide +kernel)⟩
theorem lw_p33 : lw_okq (⟨"BreadMap$Cutter", "goesOn", "(II)Z"⟩, 9) := ⟨⟨by decide +kernel, by decide +kernel⟩, List.mem_of_getElem? (i := 357) (by decide +kernel), List.mem_of_getElem? (i := 1208) (by decide +kernel), List.mem_of_getElem? (i := 1209) (by decide +kernel)⟩
theorem lw_p34 : lw_okq (⟨"BreadMap$Cutter", "isPassed", "(I)Z"⟩, 9) := ⟨⟨by decide +kernel, by decide +kernel⟩, List.mem_of_getElem? (i := 357) (by decide +kernel), List.mem_of_getElem? (i := 1212) (by decide +kernel), List.mem_of_getElem? (i := 1213) (by decide +kernel)⟩
theorem lw_p35 : lw_okq (⟨"BreadMap$Cutter", "goIn", "(I)V"⟩, 9) := ⟨⟨by decide +kernel, by decide +kernel⟩, List.mem_of_getElem? (i := 357) (by decide +kernel), List.mem_of_getElem? (i := 1216) (by decide +kernel), List.mem_of_getElem? (i := 1217) (by decide +kernel)⟩
theorem lw_p36 : lw_okq (⟨"BreadMap$Cutter", "layRow", "()V"⟩, 9) := ⟨⟨by decide +kernel, by decide +kernel⟩, List.mem_of_getElem? (i := 357) (by decide +kernel), List.mem_of_getElem? (i := 1223) (by decide +kernel), List.mem_of_getElem? (i := 1224) (by decide +kernel)⟩
theorem lw_p37 : lw_okq (⟨"BreadMap$Cutter", "lay", "(II)V"⟩, 9) := ⟨⟨by decide +kernel, by decide +kernel⟩, List.mem_of_getElem? (i := 357) (by decide +kernel), List.mem_of_getElem? (i := 1227) (by decide +kernel), List.mem_of_getElem? (i := 1228) (by decide +kernel)⟩
theorem lw_p38 : lw_okq (⟨"BreadMap$Mouse", "walkOn", "(LBreadMap$Land;I)V"⟩, 2) := ⟨⟨by decide +kernel, by decide +kernel⟩, List.mem_of_getElem? (i := 391) (by decide +kernel), List.mem_of_getElem? (i := 1291) (by decide +kernel), List.mem_of_getElem? (i := 1292) (by decide +kernel)⟩
theorem lw_p39 : lw_okq (⟨"BreadMap", "tellFraction", "(JJ)V"⟩, 20) := ⟨⟨by decide +kernel, by decide +kernel⟩, List.mem_of_getElem? (i := 23) (by decide +kernel), List.mem_of_getElem? (i := 1297) (by decide +kernel), List.mem_of_getElem? (i := 1298) (by decide +kernel)⟩
theorem lw_p40 : lw_okq (⟨"BreadMap$Runner", "comeToEnd", "()V"⟩, 12) := ⟨⟨by decide +kernel, by decide +kernel⟩, List.mem_of_getElem? (i := 404) (by decide +kernel), List.mem_of_getElem? (i := 1326) (by decide +kernel), List.mem_of_getElem? (i := 1327) (by decide +kernel)⟩
theorem lw_p41 : lw_okq (⟨"BreadMap$Runner", "doStep", "()V"⟩, 12) := ⟨⟨by decide +kernel, by decide +kernel⟩, List.mem_of_getElem? (i := 404) (by decide +kernel), List.mem_of_getElem? (i := 1330) (by decide +kernel), List.mem_of_getElem? (i := 1331) (by decide +kernel)⟩
theorem lw_p42 : lw_okq (⟨"BreadMap$Runner", "eatCell", "(II)Z"⟩, 12) := ⟨⟨by decide +kernel, by decide +kernel⟩, List.mem_of_getElem? (i := 404) (by decide +kernel), List.mem_of_getElem? (i := 1334) (by decide +kernel), List.mem_of_getElem? (i := 1335) (by decide +kernel)⟩
theorem lw_p43 : lw_okq (⟨"BreadMap$Runner", "missUnless", "(Z)V"⟩, 12) := ⟨⟨by decide +kernel, by decide +kernel⟩, List.mem_of_getElem? (i := 404) (by decide +kernel), List.mem_of_getElem? (i := 1339) (by decide +kernel), List.mem_of_getElem? (i := 1340) (by decide +kernel)⟩
theorem lw_p44 : lw_okq (⟨"BreadMap$Runner", "drawCell", "()I"⟩, 12) := ⟨⟨by decide +kernel, by decide +kernel⟩, List.mem_of_getElem? (i := 404) (by decide +kernel), List.mem_of_getElem? (i := 1343) (by decide +kernel), List.mem_of_getElem? (i := 1344) (by decide +kernel)⟩
theorem lw_p45 : lw_okq (⟨"BreadMap$Runner", "drawBy", "(I)I"⟩, 12) := ⟨⟨by decide +kernel, by decide +kernel⟩, List.mem_of_getElem? (i := 404) (by decide +kernel), List.mem_of_getElem? (i := 1347) (by decide +kernel), List.mem_of_getElem? (i := 1348) (by decide +kernel)⟩
theorem lw_p46 : lw_okq (⟨"BreadMap$Runner", "letMouseWalk", "(II)V"⟩, 12) := ⟨⟨by decide +kernel, by decide +kernel⟩, List.mem_of_getElem? (i := 404) (by decide +kernel), List.mem_of_getElem? (i := 1356) (by decide +kernel), List.mem_of_getElem? (i := 1357) (by decide +kernel)⟩
theorem lw_p47 : lw_okq (⟨"BreadMap$Runner", "goMarching", "(I)Z"⟩, 12) := ⟨⟨by decide +kernel, by decide +kernel⟩, List.mem_of_getElem? (i := 404) (by decide +kernel), List.mem_of_getElem? (i := 1361) (by decide +kernel), List.mem_of_getElem? (i := 1362) (by decide +kernel)⟩
def lw_privs_3 : List (MethodName × Nat) := [(⟨"BreadMap$Cutter", "goOut", "(I)V"⟩, 9), (⟨"BreadMap$Cutter", "goesOn", "(II)Z"⟩, 9), (⟨"BreadMap$Cutter", "isPassed", "(I)Z"⟩, 9), (⟨"BreadMap$Cutter", "goIn", "(I)V"⟩, 9), (⟨"BreadMap$Cutter", "layRow", "()V"⟩, 9), (⟨"BreadMap$Cutter", "lay", "(II)V"⟩, 9), (⟨"BreadMap$Mouse", "walkOn", "(LBreadMap$Land;I)V"⟩, 2), (⟨"BreadMap", "tellFraction", "(JJ)V"⟩, 20), (⟨"BreadMap$Runner", "comeToEnd", "()V"⟩, 12), (⟨"BreadMap$Runner", "doStep", "()V"⟩, 12), (⟨"BreadMap$Runner", "eatCell", "(II)Z"⟩, 12), (⟨"BreadMap$Runner", "missUnless", "(Z)V"⟩, 12), (⟨"BreadMap$Runner", "drawCell", "()I"⟩, 12), (⟨"BreadMap$Runner", "drawBy", "(I)I"⟩, 12), (⟨"BreadMap$Runner", "letMouseWalk", "(II)V"⟩, 12), (⟨"BreadMap$Runner", "goMarching", "(I)Z"⟩, 12)]
theorem lw_r3 : ∀ q ∈ lw_privs_3, lw_okq q := List.forall_mem_cons.mpr ⟨lw_p32, List.forall_mem_cons.mpr ⟨lw_p33, List.forall_mem_cons.mpr ⟨lw_p34, List.forall_mem_cons.mpr ⟨lw_p35, List.forall_mem_cons.mpr ⟨lw_p36, List.forall_mem_cons.mpr ⟨lw_p37, List.forall_mem_cons.mpr ⟨lw_p38, List.forall_mem_cons.mpr ⟨lw_p39, List.forall_mem_cons.mpr ⟨lw_p40, List.forall_mem_cons.mpr ⟨lw_p41, List.forall_mem_cons.mpr ⟨lw_p42, List.forall_mem_cons.mpr ⟨lw_p43, List.forall_mem_cons.mpr ⟨lw_p44, List.forall_mem_cons.mpr ⟨lw_p45, List.forall_mem_cons.mpr ⟨lw_p46, List.forall_mem_cons.mpr ⟨lw_p47, fun _ h => absurd h List.not_mem_nil⟩⟩⟩⟩⟩⟩⟩⟩⟩⟩⟩⟩⟩⟩⟩⟩
theorem lw_p48 : lw_okq (⟨"BreadMap$Runner", "isSo", "(I)Z"⟩, 12) := ⟨⟨by decide +kernel, by decide +kernel⟩, List.mem_of_getElem? (i := 404) (by decide +kernel), List.mem_of_getElem? (i := 1371) (by decide +kernel), List.mem_of_getElem? (i := 1372) (by decide +kernel)⟩
theorem lw_p49 : lw_okq (⟨"BreadMapModel", "no", "(I)Z"⟩, 48) := ⟨⟨by decide +kernel, by decide +kernel⟩, List.mem_of_getElem? (i := 1402) (by decide +kernel), List.mem_of_getElem? (i := 1570) (by decide +kernel), List.mem_of_getElem? (i := 1571) (by decide +kernel)⟩
theorem lw_p50 : lw_okq (⟨"BreadMapModel", "placed", "(II)I"⟩, 48) := ⟨⟨by decide +kernel, by decide +kernel⟩, List.mem_of_getElem? (i := 1402) (by decide +kernel), List.mem_of_getElem? (i := 1578) (by decide +kernel), List.mem_of_getElem? (i := 1579) (by decide +kernel)⟩
theorem lw_p51 : lw_okq (⟨"BreadMapModel", "trayed", "(I)I"⟩, 48) := ⟨⟨by decide +kernel, by decide +kernel⟩, List.mem_of_getElem? (i := 1402) (by decide +kernel), List.mem_of_getElem? (i := 1582) (by decide +kernel), List.mem_of_getElem? (i := 1583) (by decide +kernel)⟩
theorem lw_p52 : lw_okq (⟨"BreadMapModel", "lay", "(I)V"⟩, 48) := ⟨⟨by decide +kernel, by decide +kernel⟩, List.mem_of_getElem? (i := 1402) (by decide +kernel), List.mem_of_getElem? (i := 1602) (by decide +kernel), List.mem_of_getElem? (i := 1603) (by decide +kernel)⟩
theorem lw_p53 : lw_okq (⟨"BreadMapModel", "opens", "(II)Z"⟩, 48) := ⟨⟨by decide +kernel, by decide +kernel⟩, List.mem_of_getElem? (i := 1402) (by decide +kernel), List.mem_of_getElem? (i := 1614) (by decide +kernel), List.mem_of_getElem? (i := 1615) (by decide +kernel)⟩
theorem lw_p54 : lw_okq (⟨"BreadMapModel", "next", "()V"⟩, 48) := ⟨⟨by decide +kernel, by decide +kernel⟩, List.mem_of_getElem? (i := 1402) (by decide +kernel), List.mem_of_getElem? (i := 1618) (by decide +kernel), List.mem_of_getElem? (i := 1619) (by decide +kernel)⟩
theorem lw_p55 : lw_okq (⟨"BreadMapModel", "look2", "(I)I"⟩, 48) := ⟨⟨by decide +kernel, by decide +kernel⟩, List.mem_of_getElem? (i := 1402) (by decide +kernel), List.mem_of_getElem? (i := 1622) (by decide +kernel), List.mem_of_getElem? (i := 1623) (by decide +kernel)⟩
theorem lw_p56 : lw_okq (⟨"BreadMapModel", "isSignByte", "(I)Z"⟩, 48) := ⟨⟨by decide +kernel, by decide +kernel⟩, List.mem_of_getElem? (i := 1402) (by decide +kernel), List.mem_of_getElem? (i := 1634) (by decide +kernel), List.mem_of_getElem? (i := 1635) (by decide +kernel)⟩
theorem lw_p57 : lw_okq (⟨"BreadMapModel", "isWide", "()Z"⟩, 48) := ⟨⟨by decide +kernel, by decide +kernel⟩, List.mem_of_getElem? (i := 1402) (by decide +kernel), List.mem_of_getElem? (i := 1638) (by decide +kernel), List.mem_of_getElem? (i := 1639) (by decide +kernel)⟩
theorem lw_p58 : lw_okq (⟨"BreadMapModel", "isWord", "(J)Z"⟩, 48) := ⟨⟨by decide +kernel, by decide +kernel⟩, List.mem_of_getElem? (i := 1402) (by decide +kernel), List.mem_of_getElem? (i := 1645) (by decide +kernel), List.mem_of_getElem? (i := 1646) (by decide +kernel)⟩
theorem lw_p59 : lw_okq (⟨"BreadMapModel", "must", "(Z)V"⟩, 48) := ⟨⟨by decide +kernel, by decide +kernel⟩, List.mem_of_getElem? (i := 1402) (by decide +kernel), List.mem_of_getElem? (i := 1649) (by decide +kernel), List.mem_of_getElem? (i := 1650) (by decide +kernel)⟩
theorem lw_p60 : lw_okq (⟨"BreadMapModel", "wrong", "()V"⟩, 48) := ⟨⟨by decide +kernel, by decide +kernel⟩, List.mem_of_getElem? (i := 1402) (by decide +kernel), List.mem_of_getElem? (i := 1653) (by decide +kernel), List.mem_of_getElem? (i := 1654) (by decide +kernel)⟩
theorem lw_p61 : lw_okq (⟨"BreadMapModel", "fail", "(II)V"⟩, 48) := ⟨⟨by decide +kernel, by decide +kernel⟩, List.mem_of_getElem? (i := 1402) (by decide +kernel), List.mem_of_getElem? (i := 1657) (by decide +kernel), List.mem_of_getElem? (i := 1658) (by decide +kernel)⟩
theorem lw_p62 : lw_okq (⟨"BreadMapModel", "readNumber", "(II)I"⟩, 48) := ⟨⟨by decide +kernel, by decide +kernel⟩, List.mem_of_getElem? (i := 1402) (by decide +kernel), List.mem_of_getElem? (i := 1661) (by decide +kernel), List.mem_of_getElem? (i := 1662) (by decide +kernel)⟩
theorem lw_p63 : lw_okq (⟨"BreadMapModel", "isSign", "(I)Z"⟩, 48) := ⟨⟨by decide +kernel, by decide +kernel⟩, List.mem_of_getElem? (i := 1402) (by decide +kernel), List.mem_of_getElem? (i := 1668) (by decide +kernel), List.mem_of_getElem? (i := 1669) (by decide +kernel)⟩
def lw_privs_4 : List (MethodName × Nat) := [(⟨"BreadMap$Runner", "isSo", "(I)Z"⟩, 12), (⟨"BreadMapModel", "no", "(I)Z"⟩, 48), (⟨"BreadMapModel", "placed", "(II)I"⟩, 48), (⟨"BreadMapModel", "trayed", "(I)I"⟩, 48), (⟨"BreadMapModel", "lay", "(I)V"⟩, 48), (⟨"BreadMapModel", "opens", "(II)Z"⟩, 48), (⟨"BreadMapModel", "next", "()V"⟩, 48), (⟨"BreadMapModel", "look2", "(I)I"⟩, 48), (⟨"BreadMapModel", "isSignByte", "(I)Z"⟩, 48), (⟨"BreadMapModel", "isWide", "()Z"⟩, 48), (⟨"BreadMapModel", "isWord", "(J)Z"⟩, 48), (⟨"BreadMapModel", "must", "(Z)V"⟩, 48), (⟨"BreadMapModel", "wrong", "()V"⟩, 48), (⟨"BreadMapModel", "fail", "(II)V"⟩, 48), (⟨"BreadMapModel", "readNumber", "(II)I"⟩, 48), (⟨"BreadMapModel", "isSign", "(I)Z"⟩, 48)]
theorem lw_r4 : ∀ q ∈ lw_privs_4, lw_okq q := List.forall_mem_cons.mpr ⟨lw_p48, List.forall_mem_cons.mpr ⟨lw_p49, List.forall_mem_cons.mpr ⟨lw_p50, List.forall_mem_cons.mpr ⟨lw_p51, List.forall_mem_cons.mpr ⟨lw_p52, List.forall_mem_cons.mpr ⟨lw_p53, List.forall_mem_cons.mpr ⟨lw_p54, List.forall_mem_cons.mpr ⟨lw_p55, List.forall_mem_cons.mpr ⟨lw_p56, List.forall_mem_cons.mpr ⟨lw_p57, List.forall_mem_cons.mpr ⟨lw_p58, List.forall_mem_cons.mpr ⟨lw_p59, List.forall_mem_cons.mpr ⟨lw_p60, List.forall_mem_cons.mpr ⟨lw_p61, List.forall_mem_cons.mpr ⟨lw_p62, List.forall_mem_cons.mpr ⟨lw_p63, fun _ h => absurd h List.not_mem_nil⟩⟩⟩⟩⟩⟩⟩⟩⟩⟩⟩⟩⟩⟩⟩⟩
theorem lw_p64 : lw_okq (⟨"BreadMapModel", "isRow", "()Z"⟩, 48) := ⟨⟨by decide +kernel, by decide +kernel⟩, List.mem_of_getElem? (i := 1402) (by decide +kernel), List.mem_of_getElem? (i := 1672) (by decide +kernel), List.mem_of_getElem? (i := 1673) (by decide +kernel)⟩
theorem lw_p65 : lw_okq (⟨"BreadMapModel", "readRow", "()V"⟩, 48) := ⟨⟨by decide +kernel, by decide +kernel⟩, List.mem_of_getElem? (i := 1402) (by decide +kernel), List.mem_of_getElem? (i := 1676) (by decide +kernel), List.mem_of_getElem? (i := 1677) (by decide +kernel)⟩
theorem lw_p66 : lw_okq (⟨"BreadMapModel", "isRise", "()Z"⟩, 48) := ⟨⟨by decide +kernel, by decide +kernel⟩, List.mem_of_getElem? (i := 1402) (by decide +kernel), List.mem_of_getElem? (i := 1683) (by decide +kernel), List.mem_of_getElem? (i := 1684) (by decide +kernel)⟩
theorem lw_p67 : lw_okq (⟨"BreadMapModel", "readRise", "()V"⟩, 48) := ⟨⟨by decide +kernel, by decide +kernel⟩, List.mem_of_getElem? (i := 1402) (by decide +kernel), List.mem_of_getElem? (i := 1687) (by decide +kernel), List.mem_of_getElem? (i := 1688) (by decide +kernel)⟩
theorem lw_p68 : lw_okq (⟨"BreadMapModel", "readCell", "(I)I"⟩, 48) := ⟨⟨by decide +kernel, by decide +kernel⟩, List.mem_of_getElem? (i := 1402) (by decide +kernel), List.mem_of_getElem? (i := 1691) (by decide +kernel), List.mem_of_getElem? (i := 1692) (by decide +kernel)⟩
theorem lw_p69 : lw_okq (⟨"BreadMapModel", "isBy", "()Z"⟩, 48) := ⟨⟨by decide +kernel, by decide +kernel⟩, List.mem_of_getElem? (i := 1402) (by decide +kernel), List.mem_of_getElem? (i := 1695) (by decide +kernel), List.mem_of_getElem? (i := 1696) (by decide +kernel)⟩
theorem lw_p70 : lw_okq (⟨"BreadMapModel", "isCopies", "()Z"⟩, 48) := ⟨⟨by decide +kernel, by decide +kernel⟩, List.mem_of_getElem? (i := 1402) (by decide +kernel), List.mem_of_getElem? (i := 1699) (by decide +kernel), List.mem_of_getElem? (i := 1700) (by decide +kernel)⟩
theorem lw_p71 : lw_okq (⟨"BreadMapModel", "readCopies", "()V"⟩, 48) := ⟨⟨by decide +kernel, by decide +kernel⟩, List.mem_of_getElem? (i := 1402) (by decide +kernel), List.mem_of_getElem? (i := 1703) (by decide +kernel), List.mem_of_getElem? (i := 1704) (by decide +kernel)⟩
theorem lw_p72 : lw_okq (⟨"BreadMapModel", "isCompany", "()Z"⟩, 48) := ⟨⟨by decide +kernel, by decide +kernel⟩, List.mem_of_getElem? (i := 1402) (by decide +kernel), List.mem_of_getElem? (i := 1707) (by decide +kernel), List.mem_of_getElem? (i := 1708) (by decide +kernel)⟩
theorem lw_p73 : lw_okq (⟨"BreadMapModel", "readCompany", "()V"⟩, 48) := ⟨⟨by decide +kernel, by decide +kernel⟩, List.mem_of_getElem? (i := 1402) (by decide +kernel), List.mem_of_getElem? (i := 1712) (by decide +kernel), List.mem_of_getElem? (i := 1713) (by decide +kernel)⟩
theorem lw_p74 : lw_okq (⟨"BreadMapModel", "isName", "()Z"⟩, 48) := ⟨⟨by decide +kernel, by decide +kernel⟩, List.mem_of_getElem? (i := 1402) (by decide +kernel), List.mem_of_getElem? (i := 1716) (by decide +kernel), List.mem_of_getElem? (i := 1717) (by decide +kernel)⟩
theorem lw_p75 : lw_okq (⟨"BreadMapModel", "isKept", "()Z"⟩, 48) := ⟨⟨by decide +kernel, by decide +kernel⟩, List.mem_of_getElem? (i := 1402) (by decide +kernel), List.mem_of_getElem? (i := 1720) (by decide +kernel), List.mem_of_getElem? (i := 1721) (by decide +kernel)⟩
theorem lw_p76 : lw_okq (⟨"BreadMapModel", "isAtWord", "()Z"⟩, 48) := ⟨⟨by decide +kernel, by decide +kernel⟩, List.mem_of_getElem? (i := 1402) (by decide +kernel), List.mem_of_getElem? (i := 1724) (by decide +kernel), List.mem_of_getElem? (i := 1725) (by decide +kernel)⟩
theorem lw_p77 : lw_okq (⟨"BreadMapModel", "isTo", "()Z"⟩, 48) := ⟨⟨by decide +kernel, by decide +kernel⟩, List.mem_of_getElem? (i := 1402) (by decide +kernel), List.mem_of_getElem? (i := 1728) (by decide +kernel), List.mem_of_getElem? (i := 1729) (by decide +kernel)⟩
theorem lw_p78 : lw_okq (⟨"BreadMapModel", "stepWord", "()I"⟩, 48) := ⟨⟨by decide +kernel, by decide +kernel⟩, List.mem_of_getElem? (i := 1402) (by decide +kernel), List.mem_of_getElem? (i := 1732) (by decide +kernel), List.mem_of_getElem? (i := 1733) (by decide +kernel)⟩
theorem lw_p79 : lw_okq (⟨"BreadMapModel", "testWord", "()I"⟩, 48) := ⟨⟨by decide +kernel, by decide +kernel⟩, List.mem_of_getElem? (i := 1402) (by decide +kernel), List.mem_of_getElem? (i := 1736) (by decide +kernel), List.mem_of_getElem? (i := 1737) (by decide +kernel)⟩
def lw_privs_5 : List (MethodName × Nat) := [(⟨"BreadMapModel", "isRow", "()Z"⟩, 48), (⟨"BreadMapModel", "readRow", "()V"⟩, 48), (⟨"BreadMapModel", "isRise", "()Z"⟩, 48), (⟨"BreadMapModel", "readRise", "()V"⟩, 48), (⟨"BreadMapModel", "readCell", "(I)I"⟩, 48), (⟨"BreadMapModel", "isBy", "()Z"⟩, 48), (⟨"BreadMapModel", "isCopies", "()Z"⟩, 48), (⟨"BreadMapModel", "readCopies", "()V"⟩, 48), (⟨"BreadMapModel", "isCompany", "()Z"⟩, 48), (⟨"BreadMapModel", "readCompany", "()V"⟩, 48), (⟨"BreadMapModel", "isName", "()Z"⟩, 48), (⟨"BreadMapModel", "isKept", "()Z"⟩, 48), (⟨"BreadMapModel", "isAtWord", "()Z"⟩, 48), (⟨"BreadMapModel", "isTo", "()Z"⟩, 48), (⟨"BreadMapModel", "stepWord", "()I"⟩, 48), (⟨"BreadMapModel", "testWord", "()I"⟩, 48)]
theorem lw_r5 : ∀ q ∈ lw_privs_5, lw_okq q := List.forall_mem_cons.mpr ⟨lw_p64, List.forall_mem_cons.mpr ⟨lw_p65, List.forall_mem_cons.mpr ⟨lw_p66, List.forall_mem_cons.mpr ⟨lw_p67, List.forall_mem_cons.mpr ⟨lw_p68, List.forall_mem_cons.mpr ⟨lw_p69, List.forall_mem_cons.mpr ⟨lw_p70, List.forall_mem_cons.mpr ⟨lw_p71, List.forall_mem_cons.mpr ⟨lw_p72, List.forall_mem_cons.mpr ⟨lw_p73, List.forall_mem_cons.mpr ⟨lw_p74, List.forall_mem_cons.mpr ⟨lw_p75, List.forall_mem_cons.mpr ⟨lw_p76, List.forall_mem_cons.mpr ⟨lw_p77, List.forall_mem_cons.mpr ⟨lw_p78, List.forall_mem_cons.mpr ⟨lw_p79, fun _ h => absurd h List.not_mem_nil⟩⟩⟩⟩⟩⟩⟩⟩⟩⟩⟩⟩⟩⟩⟩⟩
theorem lw_p80 : lw_okq (⟨"BreadMapModel", "isEnd", "()Z"⟩, 48) := ⟨⟨by decide +kernel, by decide +kernel⟩, List.mem_of_getElem? (i := 1402) (by decide +kernel), List.mem_of_getElem? (i := 1741) (by decide +kernel), List.mem_of_getElem? (i := 1742) (by decide +kernel)⟩
theorem lw_p81 : lw_okq (⟨"BreadMapModel", "named", "(II)I"⟩, 48) := ⟨⟨by decide +kernel, by decide +kernel⟩, List.mem_of_getElem? (i := 1402) (by decide +kernel), List.mem_of_getElem? (i := 1745) (by decide +kernel), List.mem_of_getElem? (i := 1746) (by decide +kernel)⟩
theorem lw_p82 : lw_okq (⟨"BreadMapModel", "isWell", "()Z"⟩, 48) := ⟨⟨by decide +kernel, by decide +kernel⟩, List.mem_of_getElem? (i := 1402) (by decide +kernel), List.mem_of_getElem? (i := 1749) (by decide +kernel), List.mem_of_getElem? (i := 1750) (by decide +kernel)⟩
theorem lw_p83 : lw_okq (⟨"BreadMapModel", "copy", "(II)V"⟩, 48) := ⟨⟨by decide +kernel, by decide +kernel⟩, List.mem_of_getElem? (i := 1402) (by decide +kernel), List.mem_of_getElem? (i := 1753) (by decide +kernel), List.mem_of_getElem? (i := 1754) (by decide +kernel)⟩
theorem lw_p84 : lw_okq (⟨"BreadMapModel", "readStep", "(I)V"⟩, 48) := ⟨⟨by decide +kernel, by decide +kernel⟩, List.mem_of_getElem? (i := 1402) (by decide +kernel), List.mem_of_getElem? (i := 1761) (by decide +kernel), List.mem_of_getElem? (i := 1762) (by decide +kernel)⟩
theorem lw_p85 : lw_okq (⟨"BreadMapModel", "readRest", "(I)V"⟩, 48) := ⟨⟨by decide +kernel, by decide +kernel⟩, List.mem_of_getElem? (i := 1402) (by decide +kernel), List.mem_of_getElem? (i := 1765) (by decide +kernel), List.mem_of_getElem? (i := 1766) (by decide +kernel)⟩
theorem lw_p86 : lw_okq (⟨"BreadMapModel", "readCopy", "()I"⟩, 48) := ⟨⟨by decide +kernel, by decide +kernel⟩, List.mem_of_getElem? (i := 1402) (by decide +kernel), List.mem_of_getElem? (i := 1769) (by decide +kernel), List.mem_of_getElem? (i := 1770) (by decide +kernel)⟩
theorem lw_p87 : lw_okq (⟨"BreadMapModel", "readCompanyName", "()I"⟩, 48) := ⟨⟨by decide +kernel, by decide +kernel⟩, List.mem_of_getElem? (i := 1402) (by decide +kernel), List.mem_of_getElem? (i := 1773) (by decide +kernel), List.mem_of_getElem? (i := 1774) (by decide +kernel)⟩
theorem lw_p88 : lw_okq (⟨"BreadMapModel", "readTest", "(I)V"⟩, 48) := ⟨⟨by decide +kernel, by decide +kernel⟩, List.mem_of_getElem? (i := 1402) (by decide +kernel), List.mem_of_getElem? (i := 1777) (by decide +kernel), List.mem_of_getElem? (i := 1778) (by decide +kernel)⟩
theorem lw_p89 : lw_okq (⟨"BreadMapModel", "left", "()I"⟩, 48) := ⟨⟨by decide +kernel, by decide +kernel⟩, List.mem_of_getElem? (i := 1402) (by decide +kernel), List.mem_of_getElem? (i := 1785) (by decide +kernel), List.mem_of_getElem? (i := 1786) (by decide +kernel)⟩
theorem lw_p90 : lw_okq (⟨"BreadMapModel", "cells", "()I"⟩, 48) := ⟨⟨by decide +kernel, by decide +kernel⟩, List.mem_of_getElem? (i := 1402) (by decide +kernel), List.mem_of_getElem? (i := 1789) (by decide +kernel), List.mem_of_getElem? (i := 1790) (by decide +kernel)⟩
theorem lw_p91 : lw_okq (⟨"BreadMapModel", "stateOf", "(II)I"⟩, 48) := ⟨⟨by decide +kernel, by decide +kernel⟩, List.mem_of_getElem? (i := 1402) (by decide +kernel), List.mem_of_getElem? (i := 1793) (by decide +kernel), List.mem_of_getElem? (i := 1794) (by decide +kernel)⟩
theorem lw_p92 : lw_okq (⟨"BreadMapModel", "crumbsOf", "(I)I"⟩, 48) := ⟨⟨by decide +kernel, by decide +kernel⟩, List.mem_of_getElem? (i := 1402) (by decide +kernel), List.mem_of_getElem? (i := 1800) (by decide +kernel), List.mem_of_getElem? (i := 1801) (by decide +kernel)⟩
theorem lw_p93 : lw_okq (⟨"BreadMapModel", "refuse", "(I)I"⟩, 48) := ⟨⟨by decide +kernel, by decide +kernel⟩, List.mem_of_getElem? (i := 1402) (by decide +kernel), List.mem_of_getElem? (i := 1807) (by decide +kernel), List.mem_of_getElem? (i := 1808) (by decide +kernel)⟩
theorem lw_p94 : lw_okq (⟨"BreadMapModel", "isCell", "(II)Z"⟩, 48) := ⟨⟨by decide +kernel, by decide +kernel⟩, List.mem_of_getElem? (i := 1402) (by decide +kernel), List.mem_of_getElem? (i := 1815) (by decide +kernel), List.mem_of_getElem? (i := 1816) (by decide +kernel)⟩
theorem lw_p95 : lw_okq (⟨"BreadMapModel", "at2", "(II)I"⟩, 48) := ⟨⟨by decide +kernel, by decide +kernel⟩, List.mem_of_getElem? (i := 1402) (by decide +kernel), List.mem_of_getElem? (i := 1819) (by decide +kernel), List.mem_of_getElem? (i := 1820) (by decide +kernel)⟩
def lw_privs_6 : List (MethodName × Nat) := [(⟨"BreadMapModel", "isEnd", "()Z"⟩, 48), (⟨"BreadMapModel", "named", "(II)I"⟩, 48), (⟨"BreadMapModel", "isWell", "()Z"⟩, 48), (⟨"BreadMapModel", "copy", "(II)V"⟩, 48), (⟨"BreadMapModel", "readStep", "(I)V"⟩, 48), (⟨"BreadMapModel", "readRest", "(I)V"⟩, 48), (⟨"BreadMapModel", "readCopy", "()I"⟩, 48), (⟨"BreadMapModel", "readCompanyName", "()I"⟩, 48), (⟨"BreadMapModel", "readTest", "(I)V"⟩, 48), (⟨"BreadMapModel", "left", "()I"⟩, 48), (⟨"BreadMapModel", "cells", "()I"⟩, 48), (⟨"BreadMapModel", "stateOf", "(II)I"⟩, 48), (⟨"BreadMapModel", "crumbsOf", "(I)I"⟩, 48), (⟨"BreadMapModel", "refuse", "(I)I"⟩, 48), (⟨"BreadMapModel", "isCell", "(II)Z"⟩, 48), (⟨"BreadMapModel", "at2", "(II)I"⟩, 48)]
theorem lw_r6 : ∀ q ∈ lw_privs_6, lw_okq q := List.forall_mem_cons.mpr ⟨lw_p80, List.forall_mem_cons.mpr ⟨lw_p81, List.forall_mem_cons.mpr ⟨lw_p82, List.forall_mem_cons.mpr ⟨lw_p83, List.forall_mem_cons.mpr ⟨lw_p84, List.forall_mem_cons.mpr ⟨lw_p85, List.forall_mem_cons.mpr ⟨lw_p86, List.forall_mem_cons.mpr ⟨lw_p87, List.forall_mem_cons.mpr ⟨lw_p88, List.forall_mem_cons.mpr ⟨lw_p89, List.forall_mem_cons.mpr ⟨lw_p90, List.forall_mem_cons.mpr ⟨lw_p91, List.forall_mem_cons.mpr ⟨lw_p92, List.forall_mem_cons.mpr ⟨lw_p93, List.forall_mem_cons.mpr ⟨lw_p94, List.forall_mem_cons.mpr ⟨lw_p95, fun _ h => absurd h List.not_mem_nil⟩⟩⟩⟩⟩⟩⟩⟩⟩⟩⟩⟩⟩⟩⟩⟩
theorem lw_p96 : lw_okq (⟨"BreadMapModel", "isCopy", "(I)Z"⟩, 48) := ⟨⟨by decide +kernel, by decide +kernel⟩, List.mem_of_getElem? (i := 1402) (by decide +kernel), List.mem_of_getElem? (i := 1827) (by decide +kernel), List.mem_of_getElem? (i := 1828) (by decide +kernel)⟩
theorem lw_p97 : lw_okq (⟨"BreadMapModel", "showsOf", "(II)I"⟩, 48) := ⟨⟨by decide +kernel, by decide +kernel⟩, List.mem_of_getElem? (i := 1402) (by decide +kernel), List.mem_of_getElem? (i := 1835) (by decide +kernel), List.mem_of_getElem? (i := 1836) (by decide +kernel)⟩
theorem lw_p98 : lw_okq (⟨"BreadMapModel", "isCompanyAt", "(I)Z"⟩, 48) := ⟨⟨by decide +kernel, by decide +kernel⟩, List.mem_of_getElem? (i := 1402) (by decide +kernel), List.mem_of_getElem? (i := 1843) (by decide +kernel), List.mem_of_getElem? (i := 1844) (by decide +kernel)⟩
theorem lw_p99 : lw_okq (⟨"BreadMapModel", "bites", "(II)I"⟩, 48) := ⟨⟨by decide +kernel, by decide +kernel⟩, List.mem_of_getElem? (i := 1402) (by decide +kernel), List.mem_of_getElem? (i := 1851) (by decide +kernel), List.mem_of_getElem? (i := 1852) (by decide +kernel)⟩
theorem lw_p100 : lw_okq (⟨"BreadMapModel", "moulds", "(II)Z"⟩, 48) := ⟨⟨by decide +kernel, by decide +kernel⟩, List.mem_of_getElem? (i := 1402) (by decide +kernel), List.mem_of_getElem? (i := 1859) (by decide +kernel), List.mem_of_getElem? (i := 1860) (by decide +kernel)⟩
theorem lw_p101 : lw_okq (⟨"BreadMapModel", "honeys", "(II)Z"⟩, 48) := ⟨⟨by decide +kernel, by decide +kernel⟩, List.mem_of_getElem? (i := 1402) (by decide +kernel), List.mem_of_getElem? (i := 1867) (by decide +kernel), List.mem_of_getElem? (i := 1868) (by decide +kernel)⟩
theorem lw_p102 : lw_okq (⟨"BreadMapModel", "steams", "(II)I"⟩, 48) := ⟨⟨by decide +kernel, by decide +kernel⟩, List.mem_of_getElem? (i := 1402) (by decide +kernel), List.mem_of_getElem? (i := 1879) (by decide +kernel), List.mem_of_getElem? (i := 1880) (by decide +kernel)⟩
theorem lw_p103 : lw_okq (⟨"BreadMapModel", "unlikeOf", "(II)I"⟩, 48) := ⟨⟨by decide +kernel, by decide +kernel⟩, List.mem_of_getElem? (i := 1402) (by decide +kernel), List.mem_of_getElem? (i := 1883) (by decide +kernel), List.mem_of_getElem? (i := 1884) (by decide +kernel)⟩
theorem lw_p104 : lw_okq (⟨"BreadMapModel", "countOf", "(II)I"⟩, 48) := ⟨⟨by decide +kernel, by decide +kernel⟩, List.mem_of_getElem? (i := 1402) (by decide +kernel), List.mem_of_getElem? (i := 1896) (by decide +kernel), List.mem_of_getElem? (i := 1897) (by decide +kernel)⟩
theorem lw_p105 : lw_okq (⟨"BreadMapModel", "heapFrom", "(II)I"⟩, 48) := ⟨⟨by decide +kernel, by decide +kernel⟩, List.mem_of_getElem? (i := 1402) (by decide +kernel), List.mem_of_getElem? (i := 1904) (by decide +kernel), List.mem_of_getElem? (i := 1905) (by decide +kernel)⟩
theorem lw_p106 : lw_okq (⟨"BreadMapModel", "beside", "(II)I"⟩, 48) := ⟨⟨by decide +kernel, by decide +kernel⟩, List.mem_of_getElem? (i := 1402) (by decide +kernel), List.mem_of_getElem? (i := 1908) (by decide +kernel), List.mem_of_getElem? (i := 1909) (by decide +kernel)⟩
theorem lw_p107 : lw_okq (⟨"BreadMapModel", "tellCompany", "(I)I"⟩, 48) := ⟨⟨by decide +kernel, by decide +kernel⟩, List.mem_of_getElem? (i := 1402) (by decide +kernel), List.mem_of_getElem? (i := 1917) (by decide +kernel), List.mem_of_getElem? (i := 1918) (by decide +kernel)⟩
theorem lw_p108 : lw_okq (⟨"BreadMapModel", "tellWay", "(III)I"⟩, 48) := ⟨⟨by decide +kernel, by decide +kernel⟩, List.mem_of_getElem? (i := 1402) (by decide +kernel), List.mem_of_getElem? (i := 1921) (by decide +kernel), List.mem_of_getElem? (i := 1922) (by decide +kernel)⟩
theorem lw_p109 : lw_okq (⟨"BreadMapModel", "wayOf", "(III)I"⟩, 48) := ⟨⟨by decide +kernel, by decide +kernel⟩, List.mem_of_getElem? (i := 1402) (by decide +kernel), List.mem_of_getElem? (i := 1925) (by decide +kernel), List.mem_of_getElem? (i := 1926) (by decide +kernel)⟩
theorem lw_p110 : lw_okq (⟨"BreadMapModel", "goesBy", "(III)I"⟩, 48) := ⟨⟨by decide +kernel, by decide +kernel⟩, List.mem_of_getElem? (i := 1402) (by decide +kernel), List.mem_of_getElem? (i := 1930) (by decide +kernel), List.mem_of_getElem? (i := 1931) (by decide +kernel)⟩
theorem lw_p111 : lw_okq (⟨"BreadMapModel", "costOf", "(II)I"⟩, 48) := ⟨⟨by decide +kernel, by decide +kernel⟩, List.mem_of_getElem? (i := 1402) (by decide +kernel), List.mem_of_getElem? (i := 1934) (by decide +kernel), List.mem_of_getElem? (i := 1935) (by decide +kernel)⟩
def lw_privs_7 : List (MethodName × Nat) := [(⟨"BreadMapModel", "isCopy", "(I)Z"⟩, 48), (⟨"BreadMapModel", "showsOf", "(II)I"⟩, 48), (⟨"BreadMapModel", "isCompanyAt", "(I)Z"⟩, 48), (⟨"BreadMapModel", "bites", "(II)I"⟩, 48), (⟨"BreadMapModel", "moulds", "(II)Z"⟩, 48), (⟨"BreadMapModel", "honeys", "(II)Z"⟩, 48), (⟨"BreadMapModel", "steams", "(II)I"⟩, 48), (⟨"BreadMapModel", "unlikeOf", "(II)I"⟩, 48), (⟨"BreadMapModel", "countOf", "(II)I"⟩, 48), (⟨"BreadMapModel", "heapFrom", "(II)I"⟩, 48), (⟨"BreadMapModel", "beside", "(II)I"⟩, 48), (⟨"BreadMapModel", "tellCompany", "(I)I"⟩, 48), (⟨"BreadMapModel", "tellWay", "(III)I"⟩, 48), (⟨"BreadMapModel", "wayOf", "(III)I"⟩, 48), (⟨"BreadMapModel", "goesBy", "(III)I"⟩, 48), (⟨"BreadMapModel", "costOf", "(II)I"⟩, 48)]
theorem lw_r7 : ∀ q ∈ lw_privs_7, lw_okq q := List.forall_mem_cons.mpr ⟨lw_p96, List.forall_mem_cons.mpr ⟨lw_p97, List.forall_mem_cons.mpr ⟨lw_p98, List.forall_mem_cons.mpr ⟨lw_p99, List.forall_mem_cons.mpr ⟨lw_p100, List.forall_mem_cons.mpr ⟨lw_p101, List.forall_mem_cons.mpr ⟨lw_p102, List.forall_mem_cons.mpr ⟨lw_p103, List.forall_mem_cons.mpr ⟨lw_p104, List.forall_mem_cons.mpr ⟨lw_p105, List.forall_mem_cons.mpr ⟨lw_p106, List.forall_mem_cons.mpr ⟨lw_p107, List.forall_mem_cons.mpr ⟨lw_p108, List.forall_mem_cons.mpr ⟨lw_p109, List.forall_mem_cons.mpr ⟨lw_p110, List.forall_mem_cons.mpr ⟨lw_p111, fun _ h => absurd h List.not_mem_nil⟩⟩⟩⟩⟩⟩⟩⟩⟩⟩⟩⟩⟩⟩⟩⟩
theorem lw_p112 : lw_okq (⟨"BreadMapModel", "marches", "(I)I"⟩, 48) := ⟨⟨by decide +kernel, by decide +kernel⟩, List.mem_of_getElem? (i := 1402) (by decide +kernel), List.mem_of_getElem? (i := 1946) (by decide +kernel), List.mem_of_getElem? (i := 1947) (by decide +kernel)⟩
theorem lw_p113 : lw_okq (⟨"BreadMapModel", "companyWay", "(I)I"⟩, 48) := ⟨⟨by decide +kernel, by decide +kernel⟩, List.mem_of_getElem? (i := 1402) (by decide +kernel), List.mem_of_getElem? (i := 1970) (by decide +kernel), List.mem_of_getElem? (i := 1971) (by decide +kernel)⟩
theorem lw_p114 : lw_okq (⟨"BreadMapModel", "isFood", "(II)Z"⟩, 48) := ⟨⟨by decide +kernel, by decide +kernel⟩, List.mem_of_getElem? (i := 1402) (by decide +kernel), List.mem_of_getElem? (i := 1983) (by decide +kernel), List.mem_of_getElem? (i := 1984) (by decide +kernel)⟩
theorem lw_p115 : lw_okq (⟨"BreadMapModel", "isWanted", "(II)Z"⟩, 48) := ⟨⟨by decide +kernel, by decide +kernel⟩, List.mem_of_getElem? (i := 1402) (by decide +kernel), List.mem_of_getElem? (i := 1987) (by decide +kernel), List.mem_of_getElem? (i := 1988) (by decide +kernel)⟩
theorem lw_p116 : lw_okq (⟨"BreadMapModel", "tastes", "(III)V"⟩, 48) := ⟨⟨by decide +kernel, by decide +kernel⟩, List.mem_of_getElem? (i := 1402) (by decide +kernel), List.mem_of_getElem? (i := 1991) (by decide +kernel), List.mem_of_getElem? (i := 1992) (by decide +kernel)⟩
theorem lw_p117 : lw_okq (⟨"BreadMapModel", "sums", "(I)V"⟩, 48) := ⟨⟨by decide +kernel, by decide +kernel⟩, List.mem_of_getElem? (i := 1402) (by decide +kernel), List.mem_of_getElem? (i := 1995) (by decide +kernel), List.mem_of_getElem? (i := 1996) (by decide +kernel)⟩
theorem lw_p118 : lw_okq (⟨"BreadMapModel", "isBeside", "(II)Z"⟩, 48) := ⟨⟨by decide +kernel, by decide +kernel⟩, List.mem_of_getElem? (i := 1402) (by decide +kernel), List.mem_of_getElem? (i := 2003) (by decide +kernel), List.mem_of_getElem? (i := 2004) (by decide +kernel)⟩
theorem lw_p119 : lw_okq (⟨"BreadMapModel", "cutsOff", "(III)Z"⟩, 48) := ⟨⟨by decide +kernel, by decide +kernel⟩, List.mem_of_getElem? (i := 1402) (by decide +kernel), List.mem_of_getElem? (i := 2007) (by decide +kernel), List.mem_of_getElem? (i := 2008) (by decide +kernel)⟩
theorem lw_p120 : lw_okq (⟨"BreadMapModel", "worthOf", "(II)I"⟩, 48) := ⟨⟨by decide +kernel, by decide +kernel⟩, List.mem_of_getElem? (i := 1402) (by decide +kernel), List.mem_of_getElem? (i := 2015) (by decide +kernel), List.mem_of_getElem? (i := 2016) (by decide +kernel)⟩
theorem lw_p121 : lw_okq (⟨"BreadMapModel", "isTray", "(I)Z"⟩, 48) := ⟨⟨by decide +kernel, by decide +kernel⟩, List.mem_of_getElem? (i := 1402) (by decide +kernel), List.mem_of_getElem? (i := 2027) (by decide +kernel), List.mem_of_getElem? (i := 2028) (by decide +kernel)⟩
theorem lw_p122 : lw_okq (⟨"BreadMapModel", "numberOf", "(II)J"⟩, 48) := ⟨⟨by decide +kernel, by decide +kernel⟩, List.mem_of_getElem? (i := 1402) (by decide +kernel), List.mem_of_getElem? (i := 2031) (by decide +kernel), List.mem_of_getElem? (i := 2032) (by decide +kernel)⟩
theorem lw_p123 : lw_okq (⟨"BreadMapModel", "fitting", "(III)I"⟩, 48) := ⟨⟨by decide +kernel, by decide +kernel⟩, List.mem_of_getElem? (i := 1402) (by decide +kernel), List.mem_of_getElem? (i := 2049) (by decide +kernel), List.mem_of_getElem? (i := 2050) (by decide +kernel)⟩
theorem lw_p124 : lw_okq (⟨"BreadMapModel", "avoids", "(III)J"⟩, 48) := ⟨⟨by decide +kernel, by decide +kernel⟩, List.mem_of_getElem? (i := 1402) (by decide +kernel), List.mem_of_getElem? (i := 2065) (by decide +kernel), List.mem_of_getElem? (i := 2066) (by decide +kernel)⟩
theorem lw_p125 : lw_okq (⟨"BreadMapModel", "fraction", "(JJ)Z"⟩, 48) := ⟨⟨by decide +kernel, by decide +kernel⟩, List.mem_of_getElem? (i := 1402) (by decide +kernel), List.mem_of_getElem? (i := 2069) (by decide +kernel), List.mem_of_getElem? (i := 2070) (by decide +kernel)⟩
theorem lw_p126 : lw_okq (⟨"BreadMapModel", "runs", "(I)V"⟩, 48) := ⟨⟨by decide +kernel, by decide +kernel⟩, List.mem_of_getElem? (i := 1402) (by decide +kernel), List.mem_of_getElem? (i := 2086) (by decide +kernel), List.mem_of_getElem? (i := 2087) (by decide +kernel)⟩
theorem lw_p127 : lw_okq (⟨"BreadMapModel", "doAll", "(II)V"⟩, 48) := ⟨⟨by decide +kernel, by decide +kernel⟩, List.mem_of_getElem? (i := 1402) (by decide +kernel), List.mem_of_getElem? (i := 2090) (by decide +kernel), List.mem_of_getElem? (i := 2091) (by decide +kernel)⟩
def lw_privs_8 : List (MethodName × Nat) := [(⟨"BreadMapModel", "marches", "(I)I"⟩, 48), (⟨"BreadMapModel", "companyWay", "(I)I"⟩, 48), (⟨"BreadMapModel", "isFood", "(II)Z"⟩, 48), (⟨"BreadMapModel", "isWanted", "(II)Z"⟩, 48), (⟨"BreadMapModel", "tastes", "(III)V"⟩, 48), (⟨"BreadMapModel", "sums", "(I)V"⟩, 48), (⟨"BreadMapModel", "isBeside", "(II)Z"⟩, 48), (⟨"BreadMapModel", "cutsOff", "(III)Z"⟩, 48), (⟨"BreadMapModel", "worthOf", "(II)I"⟩, 48), (⟨"BreadMapModel", "isTray", "(I)Z"⟩, 48), (⟨"BreadMapModel", "numberOf", "(II)J"⟩, 48), (⟨"BreadMapModel", "fitting", "(III)I"⟩, 48), (⟨"BreadMapModel", "avoids", "(III)J"⟩, 48), (⟨"BreadMapModel", "fraction", "(JJ)Z"⟩, 48), (⟨"BreadMapModel", "runs", "(I)V"⟩, 48), (⟨"BreadMapModel", "doAll", "(II)V"⟩, 48)]
theorem lw_r8 : ∀ q ∈ lw_privs_8, lw_okq q := List.forall_mem_cons.mpr ⟨lw_p112, List.forall_mem_cons.mpr ⟨lw_p113, List.forall_mem_cons.mpr ⟨lw_p114, List.forall_mem_cons.mpr ⟨lw_p115, List.forall_mem_cons.mpr ⟨lw_p116, List.forall_mem_cons.mpr ⟨lw_p117, List.forall_mem_cons.mpr ⟨lw_p118, List.forall_mem_cons.mpr ⟨lw_p119, List.forall_mem_cons.mpr ⟨lw_p120, List.forall_mem_cons.mpr ⟨lw_p121, List.forall_mem_cons.mpr ⟨lw_p122, List.forall_mem_cons.mpr ⟨lw_p123, List.forall_mem_cons.mpr ⟨lw_p124, List.forall_mem_cons.mpr ⟨lw_p125, List.forall_mem_cons.mpr ⟨lw_p126, List.forall_mem_cons.mpr ⟨lw_p127, fun _ h => absurd h List.not_mem_nil⟩⟩⟩⟩⟩⟩⟩⟩⟩⟩⟩⟩⟩⟩⟩⟩
theorem lw_p128 : lw_okq (⟨"BreadMapModel", "doOne", "(I)V"⟩, 48) := ⟨⟨by decide +kernel, by decide +kernel⟩, List.mem_of_getElem? (i := 1402) (by decide +kernel), List.mem_of_getElem? (i := 2094) (by decide +kernel), List.mem_of_getElem? (i := 2095) (by decide +kernel)⟩
theorem lw_p129 : lw_okq (⟨"BreadMapModel", "does", "(I)Z"⟩, 48) := ⟨⟨by decide +kernel, by decide +kernel⟩, List.mem_of_getElem? (i := 1402) (by decide +kernel), List.mem_of_getElem? (i := 2098) (by decide +kernel), List.mem_of_getElem? (i := 2099) (by decide +kernel)⟩
theorem lw_p130 : lw_okq (⟨"BreadMapModel", "eats", "(II)Z"⟩, 48) := ⟨⟨by decide +kernel, by decide +kernel⟩, List.mem_of_getElem? (i := 1402) (by decide +kernel), List.mem_of_getElem? (i := 2102) (by decide +kernel), List.mem_of_getElem? (i := 2103) (by decide +kernel)⟩
theorem lw_p131 : lw_okq (⟨"BreadMapModel", "drawCell", "()I"⟩, 48) := ⟨⟨by decide +kernel, by decide +kernel⟩, List.mem_of_getElem? (i := 1402) (by decide +kernel), List.mem_of_getElem? (i := 2106) (by decide +kernel), List.mem_of_getElem? (i := 2107) (by decide +kernel)⟩
theorem lw_p132 : lw_okq (⟨"BreadMapModel", "draw", "(I)I"⟩, 48) := ⟨⟨by decide +kernel, by decide +kernel⟩, List.mem_of_getElem? (i := 1402) (by decide +kernel), List.mem_of_getElem? (i := 2110) (by decide +kernel), List.mem_of_getElem? (i := 2111) (by decide +kernel)⟩
theorem lw_p133 : lw_okq (⟨"BreadMapModel", "goes", "(I)Z"⟩, 48) := ⟨⟨by decide +kernel, by decide +kernel⟩, List.mem_of_getElem? (i := 1402) (by decide +kernel), List.mem_of_getElem? (i := 2115) (by decide +kernel), List.mem_of_getElem? (i := 2116) (by decide +kernel)⟩
theorem lw_p134 : lw_okq (⟨"BreadMapModel", "mouse", "(II)V"⟩, 48) := ⟨⟨by decide +kernel, by decide +kernel⟩, List.mem_of_getElem? (i := 1402) (by decide +kernel), List.mem_of_getElem? (i := 2119) (by decide +kernel), List.mem_of_getElem? (i := 2120) (by decide +kernel)⟩
theorem lw_p135 : lw_okq (⟨"BreadMapModel", "isSo", "(I)Z"⟩, 48) := ⟨⟨by decide +kernel, by decide +kernel⟩, List.mem_of_getElem? (i := 1402) (by decide +kernel), List.mem_of_getElem? (i := 2123) (by decide +kernel), List.mem_of_getElem? (i := 2124) (by decide +kernel)⟩
def lw_privs_9 : List (MethodName × Nat) := [(⟨"BreadMapModel", "doOne", "(I)V"⟩, 48), (⟨"BreadMapModel", "does", "(I)Z"⟩, 48), (⟨"BreadMapModel", "eats", "(II)Z"⟩, 48), (⟨"BreadMapModel", "drawCell", "()I"⟩, 48), (⟨"BreadMapModel", "draw", "(I)I"⟩, 48), (⟨"BreadMapModel", "goes", "(I)Z"⟩, 48), (⟨"BreadMapModel", "mouse", "(II)V"⟩, 48), (⟨"BreadMapModel", "isSo", "(I)Z"⟩, 48)]
theorem lw_r9 : ∀ q ∈ lw_privs_9, lw_okq q := List.forall_mem_cons.mpr ⟨lw_p128, List.forall_mem_cons.mpr ⟨lw_p129, List.forall_mem_cons.mpr ⟨lw_p130, List.forall_mem_cons.mpr ⟨lw_p131, List.forall_mem_cons.mpr ⟨lw_p132, List.forall_mem_cons.mpr ⟨lw_p133, List.forall_mem_cons.mpr ⟨lw_p134, List.forall_mem_cons.mpr ⟨lw_p135, fun _ h => absurd h List.not_mem_nil⟩⟩⟩⟩⟩⟩⟩⟩
def lw_privs : List (MethodName × Nat) := lw_privs_1 ++ (lw_privs_2 ++ (lw_privs_3 ++ (lw_privs_4 ++ (lw_privs_5 ++ (lw_privs_6 ++ (lw_privs_7 ++ (lw_privs_8 ++ (lw_privs_9))))))))
def lw_tbl : List Cond := k2_sels lw_privs ++ tables_1
theorem lw_privs_ok : ∀ q ∈ lw_privs, lw_okq q := by
  show ∀ q ∈ lw_privs_1 ++ (lw_privs_2 ++ (lw_privs_3 ++ (lw_privs_4 ++ (lw_privs_5 ++ (lw_privs_6 ++ (lw_privs_7 ++ (lw_privs_8 ++ (lw_privs_9)))))))), lw_okq q
  exact List.forall_mem_append.mpr ⟨lw_r1, List.forall_mem_append.mpr ⟨lw_r2, List.forall_mem_append.mpr ⟨lw_r3, List.forall_mem_append.mpr ⟨lw_r4, List.forall_mem_append.mpr ⟨lw_r5, List.forall_mem_append.mpr ⟨lw_r6, List.forall_mem_append.mpr ⟨lw_r7, List.forall_mem_append.mpr ⟨lw_r8, lw_r9⟩⟩⟩⟩⟩⟩⟩⟩
-- ===== end of PART A; then your names; then what follows =====
end
section
/-! ===== BEGIN words of one list among another's, by their places ===== -/
theorem goodIn_r {big : List Cond} (ws : List Cond) (ps : List Nat) (hp : ws = ps.filterMap (fun i => big[i]?)) (h : ws.all goodWord = true) : GoodIn big ws := by
  intro w hw
  have h1 := List.all_eq_true.mp h w hw
  rw [hp] at hw
  obtain ⟨i, -, hi⟩ := List.mem_filterMap.mp hw
  have hm : w ∈ big := by first | exact List.mem_of_getElem? hi | exact List.getElem?_mem hi
  exact ⟨hm, good_of_word h1⟩
theorem goodIn_app {big a b : List Cond} (ha : GoodIn big a) (hb : GoodIn big b) : GoodIn big (a ++ b) := fun w h => (List.mem_append.mp h).elim (ha w) (hb w)
/-! ===== END ===== -/

/-! ===== BEGIN printed: names, fields, word lists, decode rows ===== -/
def RX0 : String := "BreadMap$Cutter"
def TX0 : u_T := fun k => match k with
  | 0 => ("BreadMap$Cutter", "land", "LBreadMap$Land;", false)
  | 1 => ("BreadMap$Cutter", "cost", "[I", false)
  | 2 => ("BreadMap$Cutter", "from", "I", false)
  | 3 => ("BreadMap$Cutter", "to", "I", false)
  | 4 => ("BreadMap$Cutter", "passed", "J", false)
  | 5 => ("BreadMap$Cutter", "onward", "[I", true)
  | 6 => ("BreadMap$Cutter", "cameFrom", "[I", true)
  | 7 => ("BreadMap$Cutter", "queue", "[I", true)
  | _ => ("BreadMap$Cutter", "queued", "I", false)
def tyX0 : Nat → FieldType := fun k => match k with
  | 0 => .object "BreadMap$Land"
  | 1 => .array .int
  | 2 => .int
  | 3 => .int
  | 4 => .long
  | 5 => .array .int
  | 6 => .array .int
  | 7 => .array .int
  | _ => .int
theorem nmX0 : ∀ a, a < 9 → ∀ b, b < 9 → a ≠ b → (TX0 a).2.1 ≠ (TX0 b).2.1 := by decide +kernel
theorem tyX0_ok : ∀ k, k < 9 → parseFieldDescriptor (TX0 k).2.2.1 = some (tyX0 k) := by decide +kernel
abbrev cX0_init : ByteArray := prog_2_method_1_code
def yX0_init : MethodName := ⟨RX0, "<init>", "()V"⟩
abbrev cX0_fewest : ByteArray := prog_2_method_2_code
def yX0_fewest : MethodName := ⟨RX0, "fewest", "(LBreadMap$Land;[III)I"⟩
abbrev cX0_doorIn : ByteArray := prog_2_method_3_code
def yX0_doorIn : MethodName := ⟨RX0, "doorIn", "(I)I"⟩
abbrev cX0_doorOut : ByteArray := prog_2_method_4_code
def yX0_doorOut : MethodName := ⟨RX0, "doorOut", "(I)I"⟩
abbrev cX0_turned : ByteArray := prog_2_method_5_code
def yX0_turned : MethodName := ⟨RX0, "turned", "(I)I"⟩
abbrev cX0_isPassed : ByteArray := prog_2_method_6_code
def yX0_isPassed : MethodName := ⟨RX0, "isPassed", "(I)Z"⟩
abbrev cX0_goesOn : ByteArray := prog_2_method_7_code
def yX0_goesOn : MethodName := ⟨RX0, "goesOn", "(II)Z"⟩
abbrev cX0_findRow : ByteArray := prog_2_method_8_code
def yX0_findRow : MethodName := ⟨RX0, "findRow", "()Z"⟩
abbrev cX0_come : ByteArray := prog_2_method_9_code
def yX0_come : MethodName := ⟨RX0, "come", "(II)V"⟩
abbrev cX0_goOut : ByteArray := prog_2_method_10_code
def yX0_goOut : MethodName := ⟨RX0, "goOut", "(I)V"⟩
abbrev cX0_goIn : ByteArray := prog_2_method_11_code
def yX0_goIn : MethodName := ⟨RX0, "goIn", "(I)V"⟩
abbrev cX0_layRow : ByteArray := prog_2_method_12_code
def yX0_layRow : MethodName := ⟨RX0, "layRow", "()V"⟩
abbrev cX0_lay : ByteArray := prog_2_method_13_code
def yX0_lay : MethodName := ⟨RX0, "lay", "(II)V"⟩
def RX1 : String := "BreadMap$Eater"
def TX1 : u_T := fun k => match k with
  | 0 => ("BreadMap$Eater", "ways", "LBreadMap$Ways;", true)
  | 1 => ("BreadMap$Eater", "land", "LBreadMap$Land;", false)
  | 2 => ("BreadMap$Eater", "free", "J", false)
  | 3 => ("BreadMap$Eater", "price", "[I", true)
  | 4 => ("BreadMap$Eater", "entered", "[J", true)
  | 5 => ("BreadMap$Eater", "priceWithout", "[I", true)
  | 6 => ("BreadMap$Eater", "enteredWithout", "[J", true)
  | 7 => ("BreadMap$Eater", "mostLeft", "I", false)
  | 8 => ("BreadMap$Eater", "leastCost", "I", false)
  | 9 => ("BreadMap$Eater", "first", "I", false)
  | _ => ("BreadMap$Eater", "second", "I", false)
def tyX1 : Nat → FieldType := fun k => match k with
  | 0 => .object "BreadMap$Ways"
  | 1 => .object "BreadMap$Land"
  | 2 => .long
  | 3 => .array .int
  | 4 => .array .long
  | 5 => .array .int
  | 6 => .array .long
  | 7 => .int
  | 8 => .int
  | 9 => .int
  | _ => .int
theorem nmX1 : ∀ a, a < 11 → ∀ b, b < 11 → a ≠ b → (TX1 a).2.1 ≠ (TX1 b).2.1 := by decide +kernel
theorem tyX1_ok : ∀ k, k < 11 → parseFieldDescriptor (TX1 k).2.2.1 = some (tyX1 k) := by decide +kernel
abbrev cX1_init : ByteArray := prog_3_method_1_code
def yX1_init : MethodName := ⟨RX1, "<init>", "(LBreadMap$Ways;)V"⟩
abbrev cX1_sitDown : ByteArray := prog_3_method_2_code
def yX1_sitDown : MethodName := ⟨RX1, "sitDown", "(LBreadMap$Land;I)V"⟩
abbrev cX1_holds : ByteArray := prog_3_method_3_code
def yX1_holds : MethodName := ⟨RX1, "holds", "(JI)Z"⟩
abbrev cX1_slot : ByteArray := prog_3_method_4_code
def yX1_slot : MethodName := ⟨RX1, "slot", "(II)I"⟩
abbrev cX1_priceWithout : ByteArray := prog_3_method_5_code
def yX1_priceWithout : MethodName := ⟨RX1, "priceWithout", "(II)I"⟩
abbrev cX1_priceWithoutBoth : ByteArray := prog_3_method_6_code
def yX1_priceWithoutBoth : MethodName := ⟨RX1, "priceWithoutBoth", "(III)I"⟩
abbrev cX1_choose : ByteArray := prog_3_method_7_code
def yX1_choose : MethodName := ⟨RX1, "choose", "(I)Z"⟩
abbrev cX1_consider : ByteArray := prog_3_method_8_code
def yX1_consider : MethodName := ⟨RX1, "consider", "(II)V"⟩
abbrev cX1_lossBy : ByteArray := prog_3_method_9_code
def yX1_lossBy : MethodName := ⟨RX1, "lossBy", "(I)I"⟩
abbrev cX1_dearestCell : ByteArray := prog_3_method_10_code
def yX1_dearestCell : MethodName := ⟨RX1, "dearestCell", "()I"⟩
def RX2 : String := "BreadMap$Land"
def TX2 : u_T := fun k => match k with
  | 0 => ("BreadMap$Land", "wide", "I", false)
  | 1 => ("BreadMap$Land", "rows", "I", false)
  | 2 => ("BreadMap$Land", "copies", "I", false)
  | 3 => ("BreadMap$Land", "companies", "I", false)
  | 4 => ("BreadMap$Land", "eaten", "I", false)
  | 5 => ("BreadMap$Land", "letter", "[I", true)
  | 6 => ("BreadMap$Land", "rise", "[I", true)
  | 7 => ("BreadMap$Land", "state", "[I", true)
  | 8 => ("BreadMap$Land", "name", "[J", true)
  | 9 => ("BreadMap$Land", "home", "[I", true)
  | 10 => ("BreadMap$Land", "at", "[I", true)
  | 11 => ("BreadMap$Land", "goal", "[I", true)
  | 12 => ("BreadMap$Land", "by", "[I", true)
  | 13 => ("BreadMap$Land", "spent", "[I", true)
  | _ => ("BreadMap$Land", "orders", "LBreadMap$Orders;", true)
def tyX2 : Nat → FieldType := fun k => match k with
  | 0 => .int
  | 1 => .int
  | 2 => .int
  | 3 => .int
  | 4 => .int
  | 5 => .array .int
  | 6 => .array .int
  | 7 => .array .int
  | 8 => .array .long
  | 9 => .array .int
  | 10 => .array .int
  | 11 => .array .int
  | 12 => .array .int
  | 13 => .array .int
  | _ => .object "BreadMap$Orders"
theorem nmX2 : ∀ a, a < 15 → ∀ b, b < 15 → a ≠ b → (TX2 a).2.1 ≠ (TX2 b).2.1 := by decide +kernel
theorem tyX2_ok : ∀ k, k < 15 → parseFieldDescriptor (TX2 k).2.2.1 = some (tyX2 k) := by decide +kernel
abbrev cX2_init : ByteArray := prog_4_method_1_code
def yX2_init : MethodName := ⟨RX2, "<init>", "()V"⟩
abbrev cX2_clear : ByteArray := prog_4_method_2_code
def yX2_clear : MethodName := ⟨RX2, "clear", "()V"⟩
abbrev cX2_becomePlains : ByteArray := prog_4_method_3_code
def yX2_becomePlains : MethodName := ⟨RX2, "becomePlains", "(II)V"⟩
abbrev cX2_becomeLike : ByteArray := prog_4_method_4_code
def yX2_becomeLike : MethodName := ⟨RX2, "becomeLike", "(LBreadMap$Land;)V"⟩
abbrev cX2_letterOf : ByteArray := prog_4_method_5_code
def yX2_letterOf : MethodName := ⟨RX2, "letterOf", "(I)I"⟩
abbrev cX2_cellAt : ByteArray := prog_4_method_6_code
def yX2_cellAt : MethodName := ⟨RX2, "cellAt", "(II)I"⟩
abbrev cX2_xOf : ByteArray := prog_4_method_7_code
def yX2_xOf : MethodName := ⟨RX2, "xOf", "(I)I"⟩
abbrev cX2_yOf : ByteArray := prog_4_method_8_code
def yX2_yOf : MethodName := ⟨RX2, "yOf", "(I)I"⟩
abbrev cX2_numberOf : ByteArray := prog_4_method_9_code
def yX2_numberOf : MethodName := ⟨RX2, "numberOf", "(I)I"⟩
abbrev cX2_hasCell : ByteArray := prog_4_method_10_code
def yX2_hasCell : MethodName := ⟨RX2, "hasCell", "(II)Z"⟩
abbrev cX2_isCell : ByteArray := prog_4_method_11_code
def yX2_isCell : MethodName := ⟨RX2, "isCell", "(I)Z"⟩
abbrev cX2_hasCopy : ByteArray := prog_4_method_12_code
def yX2_hasCopy : MethodName := ⟨RX2, "hasCopy", "(I)Z"⟩
abbrev cX2_hasCopyCell : ByteArray := prog_4_method_13_code
def yX2_hasCopyCell : MethodName := ⟨RX2, "hasCopyCell", "(III)Z"⟩
abbrev cX2_hasCompany : ByteArray := prog_4_method_14_code
def yX2_hasCompany : MethodName := ⟨RX2, "hasCompany", "(I)Z"⟩
abbrev cX2_beside : ByteArray := prog_4_method_15_code
def yX2_beside : MethodName := ⟨RX2, "beside", "(II)I"⟩
abbrev cX2_companyNamed : ByteArray := prog_4_method_16_code
def yX2_companyNamed : MethodName := ⟨RX2, "companyNamed", "(J)I"⟩
abbrev cX2_addCompany : ByteArray := prog_4_method_17_code
def yX2_addCompany : MethodName := ⟨RX2, "addCompany", "(JIII)V"⟩
abbrev cX2_sendHome : ByteArray := prog_4_method_18_code
def yX2_sendHome : MethodName := ⟨RX2, "sendHome", "()V"⟩
abbrev cX2_hasArrived : ByteArray := prog_4_method_19_code
def yX2_hasArrived : MethodName := ⟨RX2, "hasArrived", "(I)Z"⟩
abbrev cX2_isWater : ByteArray := prog_4_method_20_code
def yX2_isWater : MethodName := ⟨RX2, "isWater", "(I)Z"⟩
abbrev cX2_crumbsOf : ByteArray := prog_4_method_21_code
def yX2_crumbsOf : MethodName := ⟨RX2, "crumbsOf", "(I)I"⟩
abbrev cX2_groundCost : ByteArray := prog_4_method_22_code
def yX2_groundCost : MethodName := ⟨RX2, "groundCost", "(I)I"⟩
abbrev cX2_stateOf : ByteArray := prog_4_method_23_code
def yX2_stateOf : MethodName := ⟨RX2, "stateOf", "(II)I"⟩
abbrev cX2_shownKind : ByteArray := prog_4_method_24_code
def yX2_shownKind : MethodName := ⟨RX2, "shownKind", "(II)I"⟩
abbrev cX2_shownCost : ByteArray := prog_4_method_25_code
def yX2_shownCost : MethodName := ⟨RX2, "shownCost", "(II)I"⟩
abbrev cX2_eat : ByteArray := prog_4_method_26_code
def yX2_eat : MethodName := ⟨RX2, "eat", "(II)Z"⟩
abbrev cX2_growMould : ByteArray := prog_4_method_27_code
def yX2_growMould : MethodName := ⟨RX2, "growMould", "(II)Z"⟩
abbrev cX2_spreadHoney : ByteArray := prog_4_method_28_code
def yX2_spreadHoney : MethodName := ⟨RX2, "spreadHoney", "(II)Z"⟩
abbrev cX2_wipe : ByteArray := prog_4_method_29_code
def yX2_wipe : MethodName := ⟨RX2, "wipe", "(II)Z"⟩
abbrev cX2_steamOff : ByteArray := prog_4_method_30_code
def yX2_steamOff : MethodName := ⟨RX2, "steamOff", "(II)V"⟩
abbrev cX2_differences : ByteArray := prog_4_method_31_code
def yX2_differences : MethodName := ⟨RX2, "differences", "(II)I"⟩
abbrev cX2_cellsThatAre : ByteArray := prog_4_method_32_code
def yX2_cellsThatAre : MethodName := ⟨RX2, "cellsThatAre", "(II)J"⟩
abbrev cX2_crumbsLeft : ByteArray := prog_4_method_33_code
def yX2_crumbsLeft : MethodName := ⟨RX2, "crumbsLeft", "()I"⟩
abbrev cX2_largestHeap : ByteArray := prog_4_method_34_code
def yX2_largestHeap : MethodName := ⟨RX2, "largestHeap", "(J)I"⟩
abbrev cX2_heapFrom : ByteArray := prog_4_method_35_code
def yX2_heapFrom : MethodName := ⟨RX2, "heapFrom", "(JJ)J"⟩
abbrev cX2_fitting : ByteArray := prog_4_method_36_code
def yX2_fitting : MethodName := ⟨RX2, "fitting", "(III)I"⟩
abbrev cX2_fitTogether : ByteArray := prog_4_method_37_code
def yX2_fitTogether : MethodName := ⟨RX2, "fitTogether", "(II)Z"⟩
abbrev cX2_isPassage : ByteArray := prog_4_method_38_code
def yX2_isPassage : MethodName := ⟨RX2, "isPassage", "(I)Z"⟩
def RX3 : String := "BreadMap$LandReader"
def TX3 : u_T := fun k => match k with
  | 0 => ("BreadMap$LandReader", "tape", "LBreadMap$Tape;", true)
  | 1 => ("BreadMap$LandReader", "land", "LBreadMap$Land;", false)
  | _ => ("BreadMap$LandReader", "copiesTold", "Z", false)
def tyX3 : Nat → FieldType := fun k => match k with
  | 0 => .object "BreadMap$Tape"
  | 1 => .object "BreadMap$Land"
  | _ => .boolean
theorem nmX3 : ∀ a, a < 3 → ∀ b, b < 3 → a ≠ b → (TX3 a).2.1 ≠ (TX3 b).2.1 := by decide +kernel
theorem tyX3_ok : ∀ k, k < 3 → parseFieldDescriptor (TX3 k).2.2.1 = some (tyX3 k) := by decide +kernel
abbrev cX3_init : ByteArray := prog_5_method_1_code
def yX3_init : MethodName := ⟨RX3, "<init>", "(LBreadMap$Tape;)V"⟩
abbrev cX3_readText : ByteArray := prog_5_method_2_code
def yX3_readText : MethodName := ⟨RX3, "readText", "(LBreadMap$Land;I)Z"⟩
abbrev cX3_readWide : ByteArray := prog_5_method_3_code
def yX3_readWide : MethodName := ⟨RX3, "readWide", "()Z"⟩
abbrev cX3_readRows : ByteArray := prog_5_method_4_code
def yX3_readRows : MethodName := ⟨RX3, "readRows", "()Z"⟩
abbrev cX3_readLetters : ByteArray := prog_5_method_5_code
def yX3_readLetters : MethodName := ⟨RX3, "readLetters", "()Z"⟩
abbrev cX3_readPart : ByteArray := prog_5_method_6_code
def yX3_readPart : MethodName := ⟨RX3, "readPart", "()Z"⟩
abbrev cX3_readRise : ByteArray := prog_5_method_7_code
def yX3_readRise : MethodName := ⟨RX3, "readRise", "()Z"⟩
abbrev cX3_readCopies : ByteArray := prog_5_method_8_code
def yX3_readCopies : MethodName := ⟨RX3, "readCopies", "()Z"⟩
abbrev cX3_readCompany : ByteArray := prog_5_method_9_code
def yX3_readCompany : MethodName := ⟨RX3, "readCompany", "()Z"⟩
abbrev cX3_readBy : ByteArray := prog_5_method_10_code
def yX3_readBy : MethodName := ⟨RX3, "readBy", "()I"⟩
def RX4 : String := "BreadMap$Mouse"
def TX4 : u_T := fun k => match k with
  | 0 => ("BreadMap$Mouse", "tonight", "[J", false)
  | _ => ("BreadMap$Mouse", "tomorrow", "[J", false)
def tyX4 : Nat → FieldType := fun k => match k with
  | 0 => .array .long
  | _ => .array .long
theorem nmX4 : ∀ a, a < 2 → ∀ b, b < 2 → a ≠ b → (TX4 a).2.1 ≠ (TX4 b).2.1 := by decide +kernel
theorem tyX4_ok : ∀ k, k < 2 → parseFieldDescriptor (TX4 k).2.2.1 = some (tyX4 k) := by decide +kernel
abbrev cX4_init : ByteArray := prog_6_method_1_code
def yX4_init : MethodName := ⟨RX4, "<init>", "()V"⟩
abbrev cX4_allWalks : ByteArray := prog_6_method_2_code
def yX4_allWalks : MethodName := ⟨RX4, "allWalks", "(I)J"⟩
abbrev cX4_walksThrough : ByteArray := prog_6_method_3_code
def yX4_walksThrough : MethodName := ⟨RX4, "walksThrough", "(LBreadMap$Land;III)J"⟩
abbrev cX4_walkOn : ByteArray := prog_6_method_4_code
def yX4_walkOn : MethodName := ⟨RX4, "walkOn", "(LBreadMap$Land;I)V"⟩
abbrev cX4_cellsOnAllWalks : ByteArray := prog_6_method_5_code
def yX4_cellsOnAllWalks : MethodName := ⟨RX4, "cellsOnAllWalks", "(LBreadMap$Land;II)J"⟩
def RX5 : String := "BreadMap$Orders"
def TX5 : u_T := fun k => match k with
  | 0 => ("BreadMap$Orders", "size", "I", false)
  | 1 => ("BreadMap$Orders", "steps", "I", false)
  | 2 => ("BreadMap$Orders", "word", "[I", true)
  | 3 => ("BreadMap$Orders", "first", "[I", true)
  | 4 => ("BreadMap$Orders", "second", "[I", true)
  | _ => ("BreadMap$Orders", "partner", "[I", true)
def tyX5 : Nat → FieldType := fun k => match k with
  | 0 => .int
  | 1 => .int
  | 2 => .array .int
  | 3 => .array .int
  | 4 => .array .int
  | _ => .array .int
theorem nmX5 : ∀ a, a < 6 → ∀ b, b < 6 → a ≠ b → (TX5 a).2.1 ≠ (TX5 b).2.1 := by decide +kernel
theorem tyX5_ok : ∀ k, k < 6 → parseFieldDescriptor (TX5 k).2.2.1 = some (tyX5 k) := by decide +kernel
abbrev cX5_init : ByteArray := prog_7_method_1_code
def yX5_init : MethodName := ⟨RX5, "<init>", "()V"⟩
abbrev cX5_areThere : ByteArray := prog_7_method_2_code
def yX5_areThere : MethodName := ⟨RX5, "areThere", "()Z"⟩
abbrev cX5_forget : ByteArray := prog_7_method_3_code
def yX5_forget : MethodName := ⟨RX5, "forget", "()V"⟩
abbrev cX5_clear : ByteArray := prog_7_method_4_code
def yX5_clear : MethodName := ⟨RX5, "clear", "()V"⟩
abbrev cX5_add : ByteArray := prog_7_method_5_code
def yX5_add : MethodName := ⟨RX5, "add", "(III)Z"⟩
abbrev cX5_addEnd : ByteArray := prog_7_method_6_code
def yX5_addEnd : MethodName := ⟨RX5, "addEnd", "(I)V"⟩
abbrev cX5_becomeLike : ByteArray := prog_7_method_7_code
def yX5_becomeLike : MethodName := ⟨RX5, "becomeLike", "(LBreadMap$Orders;)V"⟩
def RX6 : String := "BreadMap$OrdersReader"
def TX6 : u_T := fun k => match k with
  | 0 => ("BreadMap$OrdersReader", "tape", "LBreadMap$Tape;", true)
  | 1 => ("BreadMap$OrdersReader", "orders", "LBreadMap$Orders;", true)
  | 2 => ("BreadMap$OrdersReader", "land", "LBreadMap$Land;", false)
  | 3 => ("BreadMap$OrdersReader", "open", "[I", true)
  | _ => ("BreadMap$OrdersReader", "depth", "I", false)
def tyX6 : Nat → FieldType := fun k => match k with
  | 0 => .object "BreadMap$Tape"
  | 1 => .object "BreadMap$Orders"
  | 2 => .object "BreadMap$Land"
  | 3 => .array .int
  | _ => .int
theorem nmX6 : ∀ a, a < 5 → ∀ b, b < 5 → a ≠ b → (TX6 a).2.1 ≠ (TX6 b).2.1 := by decide +kernel
theorem tyX6_ok : ∀ k, k < 5 → parseFieldDescriptor (TX6 k).2.2.1 = some (tyX6 k) := by decide +kernel
abbrev cX6_init : ByteArray := prog_8_method_1_code
def yX6_init : MethodName := ⟨RX6, "<init>", "(LBreadMap$Tape;)V"⟩
abbrev cX6_readText : ByteArray := prog_8_method_2_code
def yX6_readText : MethodName := ⟨RX6, "readText", "(LBreadMap$Land;I)Z"⟩
abbrev cX6_readEnd : ByteArray := prog_8_method_3_code
def yX6_readEnd : MethodName := ⟨RX6, "readEnd", "()Z"⟩
abbrev cX6_mayBegin : ByteArray := prog_8_method_4_code
def yX6_mayBegin : MethodName := ⟨RX6, "mayBegin", "()Z"⟩
abbrev cX6_beginStep : ByteArray := prog_8_method_5_code
def yX6_beginStep : MethodName := ⟨RX6, "beginStep", "()I"⟩
abbrev cX6_readStep : ByteArray := prog_8_method_6_code
def yX6_readStep : MethodName := ⟨RX6, "readStep", "(I)Z"⟩
abbrev cX6_readTwo : ByteArray := prog_8_method_7_code
def yX6_readTwo : MethodName := ⟨RX6, "readTwo", "(III)Z"⟩
abbrev cX6_readCopyCell : ByteArray := prog_8_method_8_code
def yX6_readCopyCell : MethodName := ⟨RX6, "readCopyCell", "(I)Z"⟩
abbrev cX6_readCopyAnd : ByteArray := prog_8_method_9_code
def yX6_readCopyAnd : MethodName := ⟨RX6, "readCopyAnd", "(III)Z"⟩
abbrev cX6_readName : ByteArray := prog_8_method_10_code
def yX6_readName : MethodName := ⟨RX6, "readName", "(I)Z"⟩
abbrev cX6_readCrumbs : ByteArray := prog_8_method_11_code
def yX6_readCrumbs : MethodName := ⟨RX6, "readCrumbs", "()Z"⟩
def RX7 : String := "BreadMap$Runner"
def TX7 : u_T := fun k => match k with
  | 0 => ("BreadMap$Runner", "ways", "LBreadMap$Ways;", true)
  | 1 => ("BreadMap$Runner", "turnsLeft", "[I", true)
  | 2 => ("BreadMap$Runner", "land", "LBreadMap$Land;", false)
  | 3 => ("BreadMap$Runner", "orders", "LBreadMap$Orders;", false)
  | 4 => ("BreadMap$Runner", "drawn", "I", false)
  | 5 => ("BreadMap$Runner", "at", "I", false)
  | 6 => ("BreadMap$Runner", "halted", "Z", false)
  | 7 => ("BreadMap$Runner", "done", "I", false)
  | 8 => ("BreadMap$Runner", "missed", "I", false)
  | 9 => ("BreadMap$Runner", "bitten", "I", false)
  | 10 => ("BreadMap$Runner", "stuckMarches", "I", false)
  | _ => ("BreadMap$Runner", "stepLeft", "Z", false)
def tyX7 : Nat → FieldType := fun k => match k with
  | 0 => .object "BreadMap$Ways"
  | 1 => .array .int
  | 2 => .object "BreadMap$Land"
  | 3 => .object "BreadMap$Orders"
  | 4 => .int
  | 5 => .int
  | 6 => .boolean
  | 7 => .int
  | 8 => .int
  | 9 => .int
  | 10 => .int
  | _ => .boolean
theorem nmX7 : ∀ a, a < 12 → ∀ b, b < 12 → a ≠ b → (TX7 a).2.1 ≠ (TX7 b).2.1 := by decide +kernel
theorem tyX7_ok : ∀ k, k < 12 → parseFieldDescriptor (TX7 k).2.2.1 = some (tyX7 k) := by decide +kernel
abbrev cX7_init : ByteArray := prog_9_method_1_code
def yX7_init : MethodName := ⟨RX7, "<init>", "(LBreadMap$Ways;)V"⟩
abbrev cX7_carryOut : ByteArray := prog_9_method_2_code
def yX7_carryOut : MethodName := ⟨RX7, "carryOut", "(LBreadMap$Land;I)I"⟩
abbrev cX7_comeToEnd : ByteArray := prog_9_method_3_code
def yX7_comeToEnd : MethodName := ⟨RX7, "comeToEnd", "()V"⟩
abbrev cX7_doStep : ByteArray := prog_9_method_4_code
def yX7_doStep : MethodName := ⟨RX7, "doStep", "()V"⟩
abbrev cX7_missUnless : ByteArray := prog_9_method_5_code
def yX7_missUnless : MethodName := ⟨RX7, "missUnless", "(Z)V"⟩
abbrev cX7_isSo : ByteArray := prog_9_method_6_code
def yX7_isSo : MethodName := ⟨RX7, "isSo", "(I)Z"⟩
abbrev cX7_eatCell : ByteArray := prog_9_method_7_code
def yX7_eatCell : MethodName := ⟨RX7, "eatCell", "(II)Z"⟩
abbrev cX7_goMarching : ByteArray := prog_9_method_8_code
def yX7_goMarching : MethodName := ⟨RX7, "goMarching", "(I)Z"⟩
abbrev cX7_letMouseWalk : ByteArray := prog_9_method_9_code
def yX7_letMouseWalk : MethodName := ⟨RX7, "letMouseWalk", "(II)V"⟩
abbrev cX7_drawCell : ByteArray := prog_9_method_10_code
def yX7_drawCell : MethodName := ⟨RX7, "drawCell", "()I"⟩
abbrev cX7_drawBy : ByteArray := prog_9_method_11_code
def yX7_drawBy : MethodName := ⟨RX7, "drawBy", "(I)I"⟩
def RX8 : String := "BreadMap$Tape"
def TX8 : u_T := fun k => match k with
  | 0 => ("BreadMap$Tape", "bytes", "[B", true)
  | 1 => ("BreadMap$Tape", "length", "I", false)
  | 2 => ("BreadMap$Tape", "kinds", "[I", true)
  | 3 => ("BreadMap$Tape", "starts", "[I", true)
  | 4 => ("BreadMap$Tape", "ends", "[I", true)
  | 5 => ("BreadMap$Tape", "values", "[I", true)
  | 6 => ("BreadMap$Tape", "at", "I", false)
  | 7 => ("BreadMap$Tape", "fault", "I", false)
  | 8 => ("BreadMap$Tape", "place", "I", false)
  | 9 => ("BreadMap$Tape", "toldFault", "I", false)
  | _ => ("BreadMap$Tape", "toldPlace", "I", false)
def tyX8 : Nat → FieldType := fun k => match k with
  | 0 => .array .byte
  | 1 => .int
  | 2 => .array .int
  | 3 => .array .int
  | 4 => .array .int
  | 5 => .array .int
  | 6 => .int
  | 7 => .int
  | 8 => .int
  | 9 => .int
  | _ => .int
theorem nmX8 : ∀ a, a < 11 → ∀ b, b < 11 → a ≠ b → (TX8 a).2.1 ≠ (TX8 b).2.1 := by decide +kernel
theorem tyX8_ok : ∀ k, k < 11 → parseFieldDescriptor (TX8 k).2.2.1 = some (tyX8 k) := by decide +kernel
abbrev cX8_init : ByteArray := prog_10_method_1_code
def yX8_init : MethodName := ⟨RX8, "<init>", "()V"⟩
abbrev cX8_hasRoom : ByteArray := prog_10_method_2_code
def yX8_hasRoom : MethodName := ⟨RX8, "hasRoom", "()Z"⟩
abbrev cX8_append : ByteArray := prog_10_method_3_code
def yX8_append : MethodName := ⟨RX8, "append", "(I)V"⟩
abbrev cX8_beginText : ByteArray := prog_10_method_4_code
def yX8_beginText : MethodName := ⟨RX8, "beginText", "(I)V"⟩
abbrev cX8_finishText : ByteArray := prog_10_method_5_code
def yX8_finishText : MethodName := ⟨RX8, "finishText", "()V"⟩
abbrev cX8_scanToken : ByteArray := prog_10_method_6_code
def yX8_scanToken : MethodName := ⟨RX8, "scanToken", "(III)V"⟩
abbrev cX8_scanWord : ByteArray := prog_10_method_7_code
def yX8_scanWord : MethodName := ⟨RX8, "scanWord", "(II)V"⟩
abbrev cX8_scanNumber : ByteArray := prog_10_method_8_code
def yX8_scanNumber : MethodName := ⟨RX8, "scanNumber", "(II)V"⟩
abbrev cX8_reservedIndex : ByteArray := prog_10_method_9_code
def yX8_reservedIndex : MethodName := ⟨RX8, "reservedIndex", "(II)I"⟩
abbrev cX8_isBlank : ByteArray := prog_10_method_10_code
def yX8_isBlank : MethodName := ⟨RX8, "isBlank", "(I)Z"⟩
abbrev cX8_isLetter : ByteArray := prog_10_method_11_code
def yX8_isLetter : MethodName := ⟨RX8, "isLetter", "(I)Z"⟩
abbrev cX8_isDigit : ByteArray := prog_10_method_12_code
def yX8_isDigit : MethodName := ⟨RX8, "isDigit", "(I)Z"⟩
abbrev cX8_isSign : ByteArray := prog_10_method_13_code
def yX8_isSign : MethodName := ⟨RX8, "isSign", "(I)Z"⟩
abbrev cX8_isCompare : ByteArray := prog_10_method_14_code
def yX8_isCompare : MethodName := ⟨RX8, "isCompare", "(I)Z"⟩
abbrev cX8_advance : ByteArray := prog_10_method_15_code
def yX8_advance : MethodName := ⟨RX8, "advance", "()V"⟩
abbrev cX8_isEnd : ByteArray := prog_10_method_16_code
def yX8_isEnd : MethodName := ⟨RX8, "isEnd", "()Z"⟩
abbrev cX8_isWord : ByteArray := prog_10_method_17_code
def yX8_isWord : MethodName := ⟨RX8, "isWord", "(I)Z"⟩
abbrev cX8_wordHere : ByteArray := prog_10_method_18_code
def yX8_wordHere : MethodName := ⟨RX8, "wordHere", "()I"⟩
abbrev cX8_isName : ByteArray := prog_10_method_19_code
def yX8_isName : MethodName := ⟨RX8, "isName", "()Z"⟩
abbrev cX8_nameHere : ByteArray := prog_10_method_20_code
def yX8_nameHere : MethodName := ⟨RX8, "nameHere", "()J"⟩
abbrev cX8_isWordOf : ByteArray := prog_10_method_21_code
def yX8_isWordOf : MethodName := ⟨RX8, "isWordOf", "(I)Z"⟩
abbrev cX8_byteHere : ByteArray := prog_10_method_22_code
def yX8_byteHere : MethodName := ⟨RX8, "byteHere", "(I)I"⟩
abbrev cX8_blame : ByteArray := prog_10_method_23_code
def yX8_blame : MethodName := ⟨RX8, "blame", "(I)Z"⟩
abbrev cX8_takeWord : ByteArray := prog_10_method_24_code
def yX8_takeWord : MethodName := ⟨RX8, "takeWord", "(I)Z"⟩
abbrev cX8_takeStop : ByteArray := prog_10_method_25_code
def yX8_takeStop : MethodName := ⟨RX8, "takeStop", "()Z"⟩
abbrev cX8_takeCompare : ByteArray := prog_10_method_26_code
def yX8_takeCompare : MethodName := ⟨RX8, "takeCompare", "()I"⟩
abbrev cX8_takeNumber : ByteArray := prog_10_method_27_code
def yX8_takeNumber : MethodName := ⟨RX8, "takeNumber", "(II)I"⟩
abbrev cX8_takeCell : ByteArray := prog_10_method_28_code
def yX8_takeCell : MethodName := ⟨RX8, "takeCell", "(LBreadMap$Land;)I"⟩
def RX9 : String := "BreadMap$Tray"
def TX9 : u_T := fun k => match k with
  | 0 => ("BreadMap$Tray", "numbers", "[J", true)
  | 1 => ("BreadMap$Tray", "sort", "I", false)
  | _ => ("BreadMap$Tray", "length", "I", false)
def tyX9 : Nat → FieldType := fun k => match k with
  | 0 => .array .long
  | 1 => .int
  | _ => .int
theorem nmX9 : ∀ a, a < 3 → ∀ b, b < 3 → a ≠ b → (TX9 a).2.1 ≠ (TX9 b).2.1 := by decide +kernel
theorem tyX9_ok : ∀ k, k < 3 → parseFieldDescriptor (TX9 k).2.2.1 = some (tyX9 k) := by decide +kernel
abbrev cX9_init : ByteArray := prog_11_method_1_code
def yX9_init : MethodName := ⟨RX9, "<init>", "()V"⟩
abbrev cX9_isSort : ByteArray := prog_11_method_2_code
def yX9_isSort : MethodName := ⟨RX9, "isSort", "(I)Z"⟩
abbrev cX9_isMissing : ByteArray := prog_11_method_3_code
def yX9_isMissing : MethodName := ⟨RX9, "isMissing", "()Z"⟩
abbrev cX9_becomeZeros : ByteArray := prog_11_method_4_code
def yX9_becomeZeros : MethodName := ⟨RX9, "becomeZeros", "(II)V"⟩
abbrev cX9_hasPlaces : ByteArray := prog_11_method_5_code
def yX9_hasPlaces : MethodName := ⟨RX9, "hasPlaces", "(II)Z"⟩
abbrev cX9_cutToSort : ByteArray := prog_11_method_6_code
def yX9_cutToSort : MethodName := ⟨RX9, "cutToSort", "(J)J"⟩
def RX10 : String := "BreadMap$Ways"
def TX10 : u_T := fun k => match k with
  | 0 => ("BreadMap$Ways", "cost", "[I", true)
  | 1 => ("BreadMap$Ways", "far", "[I", true)
  | 2 => ("BreadMap$Ways", "queue", "[I", true)
  | 3 => ("BreadMap$Ways", "waiting", "J", false)
  | 4 => ("BreadMap$Ways", "queueHead", "I", false)
  | 5 => ("BreadMap$Ways", "queueTail", "I", false)
  | 6 => ("BreadMap$Ways", "path", "[I", true)
  | 7 => ("BreadMap$Ways", "steps", "I", false)
  | _ => ("BreadMap$Ways", "entered", "J", false)
def tyX10 : Nat → FieldType := fun k => match k with
  | 0 => .array .int
  | 1 => .array .int
  | 2 => .array .int
  | 3 => .long
  | 4 => .int
  | 5 => .int
  | 6 => .array .int
  | 7 => .int
  | _ => .long
theorem nmX10 : ∀ a, a < 9 → ∀ b, b < 9 → a ≠ b → (TX10 a).2.1 ≠ (TX10 b).2.1 := by decide +kernel
theorem tyX10_ok : ∀ k, k < 9 → parseFieldDescriptor (TX10 k).2.2.1 = some (tyX10 k) := by decide +kernel
abbrev cX10_init : ByteArray := prog_12_method_1_code
def yX10_init : MethodName := ⟨RX10, "<init>", "()V"⟩
abbrev cX10_lookAt : ByteArray := prog_12_method_2_code
def yX10_lookAt : MethodName := ⟨RX10, "lookAt", "(LBreadMap$Land;I)V"⟩
abbrev cX10_lookAtGround : ByteArray := prog_12_method_3_code
def yX10_lookAtGround : MethodName := ⟨RX10, "lookAtGround", "(LBreadMap$Land;)V"⟩
abbrev cX10_findWay : ByteArray := prog_12_method_4_code
def yX10_findWay : MethodName := ⟨RX10, "findWay", "(LBreadMap$Land;I)I"⟩
abbrev cX10_retrace : ByteArray := prog_12_method_5_code
def yX10_retrace : MethodName := ⟨RX10, "retrace", "(LBreadMap$Land;I)I"⟩
abbrev cX10_measure : ByteArray := prog_12_method_6_code
def yX10_measure : MethodName := ⟨RX10, "measure", "(LBreadMap$Land;II)I"⟩
abbrev cX10_reachCell : ByteArray := prog_12_method_7_code
def yX10_reachCell : MethodName := ⟨RX10, "reachCell", "(II)V"⟩
abbrev cX10_trace : ByteArray := prog_12_method_8_code
def yX10_trace : MethodName := ⟨RX10, "trace", "(LBreadMap$Land;II)V"⟩
abbrev cX10_trueCost : ByteArray := prog_12_method_9_code
def yX10_trueCost : MethodName := ⟨RX10, "trueCost", "(LBreadMap$Land;)I"⟩
abbrev cX10_lead : ByteArray := prog_12_method_10_code
def yX10_lead : MethodName := ⟨RX10, "lead", "(LBreadMap$Land;I)I"⟩
def RX11 : String := "BreadMap"
def TX11 : u_T := fun k => match k with
  | 0 => ("BreadMap", "status", "I", false)
  | 1 => ("BreadMap", "top", "J", false)
  | 2 => ("BreadMap", "bottom", "J", false)
  | 3 => ("BreadMap", "trays", "[LBreadMap$Tray;", true)
  | 4 => ("BreadMap", "tape", "LBreadMap$Tape;", true)
  | 5 => ("BreadMap", "landReader", "LBreadMap$LandReader;", true)
  | 6 => ("BreadMap", "ordersReader", "LBreadMap$OrdersReader;", true)
  | 7 => ("BreadMap", "land", "LBreadMap$Land;", false)
  | 8 => ("BreadMap", "spare", "LBreadMap$Land;", false)
  | 9 => ("BreadMap", "marks", "[LBreadMap$Land;", true)
  | 10 => ("BreadMap", "marked", "I", false)
  | 11 => ("BreadMap", "ways", "LBreadMap$Ways;", true)
  | 12 => ("BreadMap", "eater", "LBreadMap$Eater;", true)
  | 13 => ("BreadMap", "cutter", "LBreadMap$Cutter;", true)
  | 14 => ("BreadMap", "mouse", "LBreadMap$Mouse;", true)
  | 15 => ("BreadMap", "runner", "LBreadMap$Runner;", true)
  | 16 => ("BreadMap", "shownWay", "[I", true)
  | 17 => ("BreadMap", "shownCells", "I", false)
  | 18 => ("BreadMap", "stuckLatest", "I", false)
  | _ => ("BreadMap", "ranLatest", "[I", true)
def tyX11 : Nat → FieldType := fun k => match k with
  | 0 => .int
  | 1 => .long
  | 2 => .long
  | 3 => .array (.object "BreadMap$Tray")
  | 4 => .object "BreadMap$Tape"
  | 5 => .object "BreadMap$LandReader"
  | 6 => .object "BreadMap$OrdersReader"
  | 7 => .object "BreadMap$Land"
  | 8 => .object "BreadMap$Land"
  | 9 => .array (.object "BreadMap$Land")
  | 10 => .int
  | 11 => .object "BreadMap$Ways"
  | 12 => .object "BreadMap$Eater"
  | 13 => .object "BreadMap$Cutter"
  | 14 => .object "BreadMap$Mouse"
  | 15 => .object "BreadMap$Runner"
  | 16 => .array .int
  | 17 => .int
  | 18 => .int
  | _ => .array .int
theorem nmX11 : ∀ a, a < 20 → ∀ b, b < 20 → a ≠ b → (TX11 a).2.1 ≠ (TX11 b).2.1 := by decide +kernel
theorem tyX11_ok : ∀ k, k < 20 → parseFieldDescriptor (TX11 k).2.2.1 = some (tyX11 k) := by decide +kernel
abbrev cX11_init : ByteArray := prog_1_method_1_code
def yX11_init : MethodName := ⟨RX11, "<init>", "()V"⟩
abbrev cX11_status : ByteArray := prog_1_method_2_code
def yX11_status : MethodName := ⟨RX11, "status", "()I"⟩
abbrev cX11_top : ByteArray := prog_1_method_3_code
def yX11_top : MethodName := ⟨RX11, "top", "()J"⟩
abbrev cX11_bottom : ByteArray := prog_1_method_4_code
def yX11_bottom : MethodName := ⟨RX11, "bottom", "()J"⟩
abbrev cX11_tray : ByteArray := prog_1_method_5_code
def yX11_tray : MethodName := ⟨RX11, "tray", "(III)Z"⟩
abbrev cX11_write : ByteArray := prog_1_method_6_code
def yX11_write : MethodName := ⟨RX11, "write", "(IIJ)Z"⟩
abbrev cX11_read : ByteArray := prog_1_method_7_code
def yX11_read : MethodName := ⟨RX11, "read", "(II)J"⟩
abbrev cX11_pour : ByteArray := prog_1_method_8_code
def yX11_pour : MethodName := ⟨RX11, "pour", "(IIIII)Z"⟩
abbrev cX11_feed : ByteArray := prog_1_method_9_code
def yX11_feed : MethodName := ⟨RX11, "feed", "(IIIII)I"⟩
abbrev cX11_land : ByteArray := prog_1_method_10_code
def yX11_land : MethodName := ⟨RX11, "land", "(I)I"⟩
abbrev cX11_orders : ByteArray := prog_1_method_11_code
def yX11_orders : MethodName := ⟨RX11, "orders", "(I)I"⟩
abbrev cX11_fault : ByteArray := prog_1_method_12_code
def yX11_fault : MethodName := ⟨RX11, "fault", "(I)I"⟩
abbrev cX11_many : ByteArray := prog_1_method_13_code
def yX11_many : MethodName := ⟨RX11, "many", "(I)I"⟩
abbrev cX11_ground : ByteArray := prog_1_method_14_code
def yX11_ground : MethodName := ⟨RX11, "ground", "(III)I"⟩
abbrev cX11_cell : ByteArray := prog_1_method_15_code
def yX11_cell : MethodName := ⟨RX11, "cell", "(III)I"⟩
abbrev cX11_shows : ByteArray := prog_1_method_16_code
def yX11_shows : MethodName := ⟨RX11, "shows", "(III)I"⟩
abbrev cX11_company : ByteArray := prog_1_method_17_code
def yX11_company : MethodName := ⟨RX11, "company", "(II)I"⟩
abbrev cX11_bite : ByteArray := prog_1_method_18_code
def yX11_bite : MethodName := ⟨RX11, "bite", "(III)I"⟩
abbrev cX11_mould : ByteArray := prog_1_method_19_code
def yX11_mould : MethodName := ⟨RX11, "mould", "(III)Z"⟩
abbrev cX11_honey : ByteArray := prog_1_method_20_code
def yX11_honey : MethodName := ⟨RX11, "honey", "(III)Z"⟩
abbrev cX11_clean : ByteArray := prog_1_method_21_code
def yX11_clean : MethodName := ⟨RX11, "clean", "(III)Z"⟩
abbrev cX11_steam : ByteArray := prog_1_method_22_code
def yX11_steam : MethodName := ⟨RX11, "steam", "(II)I"⟩
abbrev cX11_unlike : ByteArray := prog_1_method_23_code
def yX11_unlike : MethodName := ⟨RX11, "unlike", "(II)I"⟩
abbrev cX11_count : ByteArray := prog_1_method_24_code
def yX11_count : MethodName := ⟨RX11, "count", "(II)I"⟩
abbrev cX11_hole : ByteArray := prog_1_method_25_code
def yX11_hole : MethodName := ⟨RX11, "hole", "(I)I"⟩
abbrev cX11_way : ByteArray := prog_1_method_26_code
def yX11_way : MethodName := ⟨RX11, "way", "(I)I"⟩
abbrev cX11_wayAt : ByteArray := prog_1_method_27_code
def yX11_wayAt : MethodName := ⟨RX11, "wayAt", "(II)I"⟩
abbrev cX11_march : ByteArray := prog_1_method_28_code
def yX11_march : MethodName := ⟨RX11, "march", "(I)I"⟩
abbrev cX11_stuck : ByteArray := prog_1_method_29_code
def yX11_stuck : MethodName := ⟨RX11, "stuck", "()I"⟩
abbrev cX11_truly : ByteArray := prog_1_method_30_code
def yX11_truly : MethodName := ⟨RX11, "truly", "(I)I"⟩
abbrev cX11_best : ByteArray := prog_1_method_31_code
def yX11_best : MethodName := ⟨RX11, "best", "(I)I"⟩
abbrev cX11_hand : ByteArray := prog_1_method_32_code
def yX11_hand : MethodName := ⟨RX11, "hand", "(II)Z"⟩
abbrev cX11_reach : ByteArray := prog_1_method_33_code
def yX11_reach : MethodName := ⟨RX11, "reach", "()I"⟩
abbrev cX11_seen : ByteArray := prog_1_method_34_code
def yX11_seen : MethodName := ⟨RX11, "seen", "(II)I"⟩
abbrev cX11_supper : ByteArray := prog_1_method_35_code
def yX11_supper : MethodName := ⟨RX11, "supper", "(III)I"⟩
abbrev cX11_cut : ByteArray := prog_1_method_36_code
def yX11_cut : MethodName := ⟨RX11, "cut", "(I)I"⟩
abbrev cX11_worth : ByteArray := prog_1_method_37_code
def yX11_worth : MethodName := ⟨RX11, "worth", "(III)I"⟩
abbrev cX11_mostWorth : ByteArray := prog_1_method_38_code
def yX11_mostWorth : MethodName := ⟨RX11, "mostWorth", "(II)I"⟩
abbrev cX11_told : ByteArray := prog_1_method_39_code
def yX11_told : MethodName := ⟨RX11, "told", "(II)J"⟩
abbrev cX11_halves : ByteArray := prog_1_method_40_code
def yX11_halves : MethodName := ⟨RX11, "halves", "(III)I"⟩
abbrev cX11_odds : ByteArray := prog_1_method_41_code
def yX11_odds : MethodName := ⟨RX11, "odds", "(IIIII)Z"⟩
abbrev cX11_mean : ByteArray := prog_1_method_42_code
def yX11_mean : MethodName := ⟨RX11, "mean", "(III)Z"⟩
abbrev cX11_run : ByteArray := prog_1_method_43_code
def yX11_run : MethodName := ⟨RX11, "run", "(I)I"⟩
abbrev cX11_ran : ByteArray := prog_1_method_44_code
def yX11_ran : MethodName := ⟨RX11, "ran", "(I)I"⟩
abbrev cX11_arrivals : ByteArray := prog_1_method_45_code
def yX11_arrivals : MethodName := ⟨RX11, "arrivals", "(III)Z"⟩
abbrev cX11_mark : ByteArray := prog_1_method_46_code
def yX11_mark : MethodName := ⟨RX11, "mark", "()I"⟩
abbrev cX11_back : ByteArray := prog_1_method_47_code
def yX11_back : MethodName := ⟨RX11, "back", "()I"⟩
abbrev cX11_answer : ByteArray := prog_1_method_48_code
def yX11_answer : MethodName := ⟨RX11, "answer", "(I)I"⟩
abbrev cX11_accept : ByteArray := prog_1_method_49_code
def yX11_accept : MethodName := ⟨RX11, "accept", "()Z"⟩
abbrev cX11_refused : ByteArray := prog_1_method_50_code
def yX11_refused : MethodName := ⟨RX11, "refused", "(I)I"⟩
abbrev cX11_refuse : ByteArray := prog_1_method_51_code
def yX11_refuse : MethodName := ⟨RX11, "refuse", "(I)Z"⟩
abbrev cX11_isTray : ByteArray := prog_1_method_52_code
def yX11_isTray : MethodName := ⟨RX11, "isTray", "(I)Z"⟩
abbrev cX11_placeStatus : ByteArray := prog_1_method_53_code
def yX11_placeStatus : MethodName := ⟨RX11, "placeStatus", "(II)I"⟩
abbrev cX11_tellFraction : ByteArray := prog_1_method_54_code
def yX11_tellFraction : MethodName := ⟨RX11, "tellFraction", "(JJ)V"⟩
abbrev cX11_commonDivisor : ByteArray := prog_1_method_55_code
def yX11_commonDivisor : MethodName := ⟨RX11, "commonDivisor", "(JJ)J"⟩
abbrev cX11_waysToLay : ByteArray := prog_1_method_56_code
def yX11_waysToLay : MethodName := ⟨RX11, "waysToLay", "([J)J"⟩
def RX12 : String := "BreadMapModel"
def TX12 : u_T := fun k => match k with
  | 0 => ("BreadMapModel", "status", "I", false)
  | 1 => ("BreadMapModel", "thrown", "I", false)
  | 2 => ("BreadMapModel", "above", "J", false)
  | 3 => ("BreadMapModel", "under", "J", false)
  | 4 => ("BreadMapModel", "traySort", "[I", true)
  | 5 => ("BreadMapModel", "trayMany", "[I", true)
  | 6 => ("BreadMapModel", "numbers", "[J", true)
  | 7 => ("BreadMapModel", "tape", "[B", true)
  | 8 => ("BreadMapModel", "taped", "I", false)
  | 9 => ("BreadMapModel", "textEnd", "I", false)
  | 10 => ("BreadMapModel", "faultKind", "I", false)
  | 11 => ("BreadMapModel", "faultAt", "I", false)
  | 12 => ("BreadMapModel", "bad", "I", false)
  | 13 => ("BreadMapModel", "badAt", "I", false)
  | 14 => ("BreadMapModel", "token", "I", false)
  | 15 => ("BreadMapModel", "at", "I", false)
  | 16 => ("BreadMapModel", "behind", "I", false)
  | 17 => ("BreadMapModel", "number", "I", false)
  | 18 => ("BreadMapModel", "letters", "I", false)
  | 19 => ("BreadMapModel", "word", "J", false)
  | 20 => ("BreadMapModel", "c", "[I", true)
  | 21 => ("BreadMapModel", "kept", "[I", true)
  | 22 => ("BreadMapModel", "words", "[J", true)
  | 23 => ("BreadMapModel", "markMany", "I", false)
  | 24 => ("BreadMapModel", "copiesTold", "Z", false)
  | 25 => ("BreadMapModel", "newSteps", "I", false)
  | 26 => ("BreadMapModel", "seen", "[Z", true)
  | 27 => ("BreadMapModel", "out", "[I", true)
  | 28 => ("BreadMapModel", "wayTold", "[I", true)
  | 29 => ("BreadMapModel", "wayMany", "I", false)
  | 30 => ("BreadMapModel", "row", "[I", true)
  | 31 => ("BreadMapModel", "rowMany", "I", false)
  | 32 => ("BreadMapModel", "stuckLast", "I", false)
  | 33 => ("BreadMapModel", "stuckNow", "I", false)
  | 34 => ("BreadMapModel", "reachBy", "I", false)
  | 35 => ("BreadMapModel", "costBy", "I", false)
  | 36 => ("BreadMapModel", "supperTold", "[I", true)
  | 37 => ("BreadMapModel", "walks", "[J", true)
  | 38 => ("BreadMapModel", "after", "[J", true)
  | 39 => ("BreadMapModel", "ranLast", "[I", true)
  | 40 => ("BreadMapModel", "hasRan", "Z", false)
  | 41 => ("BreadMapModel", "isOver", "Z", false)
  | 42 => ("BreadMapModel", "random", "I", false)
  | 43 => ("BreadMapModel", "done", "I", false)
  | 44 => ("BreadMapModel", "missed", "I", false)
  | 45 => ("BreadMapModel", "bitten", "I", false)
  | 46 => ("BreadMapModel", "stuckMany", "I", false)
  | _ => ("BreadMapModel", "leftOver", "I", false)
def tyX12 : Nat → FieldType := fun k => match k with
  | 0 => .int
  | 1 => .int
  | 2 => .long
  | 3 => .long
  | 4 => .array .int
  | 5 => .array .int
  | 6 => .array .long
  | 7 => .array .byte
  | 8 => .int
  | 9 => .int
  | 10 => .int
  | 11 => .int
  | 12 => .int
  | 13 => .int
  | 14 => .int
  | 15 => .int
  | 16 => .int
  | 17 => .int
  | 18 => .int
  | 19 => .long
  | 20 => .array .int
  | 21 => .array .int
  | 22 => .array .long
  | 23 => .int
  | 24 => .boolean
  | 25 => .int
  | 26 => .array .boolean
  | 27 => .array .int
  | 28 => .array .int
  | 29 => .int
  | 30 => .array .int
  | 31 => .int
  | 32 => .int
  | 33 => .int
  | 34 => .int
  | 35 => .int
  | 36 => .array .int
  | 37 => .array .long
  | 38 => .array .long
  | 39 => .array .int
  | 40 => .boolean
  | 41 => .boolean
  | 42 => .int
  | 43 => .int
  | 44 => .int
  | 45 => .int
  | 46 => .int
  | _ => .int
theorem nmX12 : ∀ a, a < 48 → ∀ b, b < 48 → a ≠ b → (TX12 a).2.1 ≠ (TX12 b).2.1 := by decide +kernel
theorem tyX12_ok : ∀ k, k < 48 → parseFieldDescriptor (TX12 k).2.2.1 = some (tyX12 k) := by decide +kernel
abbrev cX12_init : ByteArray := prog_14_method_1_code
def yX12_init : MethodName := ⟨RX12, "<init>", "()V"⟩
abbrev cX12_status : ByteArray := prog_14_method_3_code
def yX12_status : MethodName := ⟨RX12, "status", "()I"⟩
abbrev cX12_top : ByteArray := prog_14_method_4_code
def yX12_top : MethodName := ⟨RX12, "top", "()J"⟩
abbrev cX12_bottom : ByteArray := prog_14_method_5_code
def yX12_bottom : MethodName := ⟨RX12, "bottom", "()J"⟩
abbrev cX12_refuse : ByteArray := prog_14_method_6_code
def yX12_refuse : MethodName := ⟨RX12, "refuse", "(I)I"⟩
abbrev cX12_no : ByteArray := prog_14_method_7_code
def yX12_no : MethodName := ⟨RX12, "no", "(I)Z"⟩
abbrev cX12_isIn : ByteArray := prog_14_method_8_code
def yX12_isIn : MethodName := ⟨RX12, "isIn", "(JJJ)Z"⟩
abbrev cX12_fraction : ByteArray := prog_14_method_9_code
def yX12_fraction : MethodName := ⟨RX12, "fraction", "(JJ)Z"⟩
abbrev cX12_cut : ByteArray := prog_14_method_10_code
def yX12_cut : MethodName := ⟨RX12, "cut", "(IJ)J"⟩
abbrev cX12_tray : ByteArray := prog_14_method_11_code
def yX12_tray : MethodName := ⟨RX12, "tray", "(III)Z"⟩
abbrev cX12_trayed : ByteArray := prog_14_method_12_code
def yX12_trayed : MethodName := ⟨RX12, "trayed", "(I)I"⟩
abbrev cX12_placed : ByteArray := prog_14_method_13_code
def yX12_placed : MethodName := ⟨RX12, "placed", "(II)I"⟩
abbrev cX12_write : ByteArray := prog_14_method_14_code
def yX12_write : MethodName := ⟨RX12, "write", "(IIJ)Z"⟩
abbrev cX12_read : ByteArray := prog_14_method_15_code
def yX12_read : MethodName := ⟨RX12, "read", "(II)J"⟩
abbrev cX12_pour : ByteArray := prog_14_method_16_code
def yX12_pour : MethodName := ⟨RX12, "pour", "(IIIII)Z"⟩
abbrev cX12_numberOf : ByteArray := prog_14_method_17_code
def yX12_numberOf : MethodName := ⟨RX12, "numberOf", "(II)J"⟩
abbrev cX12_isTray : ByteArray := prog_14_method_18_code
def yX12_isTray : MethodName := ⟨RX12, "isTray", "(I)Z"⟩
abbrev cX12_look2 : ByteArray := prog_14_method_19_code
def yX12_look2 : MethodName := ⟨RX12, "look2", "(I)I"⟩
abbrev cX12_isLetter : ByteArray := prog_14_method_20_code
def yX12_isLetter : MethodName := ⟨RX12, "isLetter", "(I)Z"⟩
abbrev cX12_isDigit : ByteArray := prog_14_method_21_code
def yX12_isDigit : MethodName := ⟨RX12, "isDigit", "(I)Z"⟩
abbrev cX12_isSignByte : ByteArray := prog_14_method_22_code
def yX12_isSignByte : MethodName := ⟨RX12, "isSignByte", "(I)Z"⟩
abbrev cX12_next : ByteArray := prog_14_method_23_code
def yX12_next : MethodName := ⟨RX12, "next", "()V"⟩
abbrev cX12_isSign : ByteArray := prog_14_method_24_code
def yX12_isSign : MethodName := ⟨RX12, "isSign", "(I)Z"⟩
abbrev cX12_spelled : ByteArray := prog_14_method_25_code
def yX12_spelled : MethodName := ⟨RX12, "spelled", "(IIIIII)J"⟩
abbrev cX12_isWord : ByteArray := prog_14_method_26_code
def yX12_isWord : MethodName := ⟨RX12, "isWord", "(J)Z"⟩
abbrev cX12_isWide : ByteArray := prog_14_method_27_code
def yX12_isWide : MethodName := ⟨RX12, "isWide", "()Z"⟩
abbrev cX12_isRow : ByteArray := prog_14_method_28_code
def yX12_isRow : MethodName := ⟨RX12, "isRow", "()Z"⟩
abbrev cX12_isRise : ByteArray := prog_14_method_29_code
def yX12_isRise : MethodName := ⟨RX12, "isRise", "()Z"⟩
abbrev cX12_isBy : ByteArray := prog_14_method_30_code
def yX12_isBy : MethodName := ⟨RX12, "isBy", "()Z"⟩
abbrev cX12_isCopies : ByteArray := prog_14_method_31_code
def yX12_isCopies : MethodName := ⟨RX12, "isCopies", "()Z"⟩
abbrev cX12_isCompany : ByteArray := prog_14_method_32_code
def yX12_isCompany : MethodName := ⟨RX12, "isCompany", "()Z"⟩
abbrev cX12_isAtWord : ByteArray := prog_14_method_33_code
def yX12_isAtWord : MethodName := ⟨RX12, "isAtWord", "()Z"⟩
abbrev cX12_isTo : ByteArray := prog_14_method_34_code
def yX12_isTo : MethodName := ⟨RX12, "isTo", "()Z"⟩
abbrev cX12_stepWord : ByteArray := prog_14_method_35_code
def yX12_stepWord : MethodName := ⟨RX12, "stepWord", "()I"⟩
abbrev cX12_testWord : ByteArray := prog_14_method_36_code
def yX12_testWord : MethodName := ⟨RX12, "testWord", "()I"⟩
abbrev cX12_isEnd : ByteArray := prog_14_method_37_code
def yX12_isEnd : MethodName := ⟨RX12, "isEnd", "()Z"⟩
abbrev cX12_isKept : ByteArray := prog_14_method_38_code
def yX12_isKept : MethodName := ⟨RX12, "isKept", "()Z"⟩
abbrev cX12_isName : ByteArray := prog_14_method_39_code
def yX12_isName : MethodName := ⟨RX12, "isName", "()Z"⟩
abbrev cX12_fail : ByteArray := prog_14_method_40_code
def yX12_fail : MethodName := ⟨RX12, "fail", "(II)V"⟩
abbrev cX12_wrong : ByteArray := prog_14_method_41_code
def yX12_wrong : MethodName := ⟨RX12, "wrong", "()V"⟩
abbrev cX12_must : ByteArray := prog_14_method_42_code
def yX12_must : MethodName := ⟨RX12, "must", "(Z)V"⟩
abbrev cX12_readNumber : ByteArray := prog_14_method_43_code
def yX12_readNumber : MethodName := ⟨RX12, "readNumber", "(II)I"⟩
abbrev cX12_feed : ByteArray := prog_14_method_44_code
def yX12_feed : MethodName := ⟨RX12, "feed", "(IIIII)I"⟩
abbrev cX12_lay : ByteArray := prog_14_method_45_code
def yX12_lay : MethodName := ⟨RX12, "lay", "(I)V"⟩
abbrev cX12_opens : ByteArray := prog_14_method_46_code
def yX12_opens : MethodName := ⟨RX12, "opens", "(II)Z"⟩
abbrev cX12_isWell : ByteArray := prog_14_method_47_code
def yX12_isWell : MethodName := ⟨RX12, "isWell", "()Z"⟩
abbrev cX12_fault : ByteArray := prog_14_method_48_code
def yX12_fault : MethodName := ⟨RX12, "fault", "(I)I"⟩
abbrev cX12_groundOf : ByteArray := prog_14_method_49_code
def yX12_groundOf : MethodName := ⟨RX12, "groundOf", "(I)I"⟩
abbrev cX12_readRow : ByteArray := prog_14_method_50_code
def yX12_readRow : MethodName := ⟨RX12, "readRow", "()V"⟩
abbrev cX12_readCell : ByteArray := prog_14_method_51_code
def yX12_readCell : MethodName := ⟨RX12, "readCell", "(I)I"⟩
abbrev cX12_readRise : ByteArray := prog_14_method_52_code
def yX12_readRise : MethodName := ⟨RX12, "readRise", "()V"⟩
abbrev cX12_readCopies : ByteArray := prog_14_method_53_code
def yX12_readCopies : MethodName := ⟨RX12, "readCopies", "()V"⟩
abbrev cX12_named : ByteArray := prog_14_method_54_code
def yX12_named : MethodName := ⟨RX12, "named", "(II)I"⟩
abbrev cX12_readCompany : ByteArray := prog_14_method_55_code
def yX12_readCompany : MethodName := ⟨RX12, "readCompany", "()V"⟩
abbrev cX12_land : ByteArray := prog_14_method_56_code
def yX12_land : MethodName := ⟨RX12, "land", "(I)I"⟩
abbrev cX12_readCopy : ByteArray := prog_14_method_57_code
def yX12_readCopy : MethodName := ⟨RX12, "readCopy", "()I"⟩
abbrev cX12_readCompanyName : ByteArray := prog_14_method_58_code
def yX12_readCompanyName : MethodName := ⟨RX12, "readCompanyName", "()I"⟩
abbrev cX12_readTest : ByteArray := prog_14_method_59_code
def yX12_readTest : MethodName := ⟨RX12, "readTest", "(I)V"⟩
abbrev cX12_readRest : ByteArray := prog_14_method_60_code
def yX12_readRest : MethodName := ⟨RX12, "readRest", "(I)V"⟩
abbrev cX12_readStep : ByteArray := prog_14_method_61_code
def yX12_readStep : MethodName := ⟨RX12, "readStep", "(I)V"⟩
abbrev cX12_orders : ByteArray := prog_14_method_62_code
def yX12_orders : MethodName := ⟨RX12, "orders", "(I)I"⟩
abbrev cX12_cells : ByteArray := prog_14_method_63_code
def yX12_cells : MethodName := ⟨RX12, "cells", "()I"⟩
abbrev cX12_isCell : ByteArray := prog_14_method_64_code
def yX12_isCell : MethodName := ⟨RX12, "isCell", "(II)Z"⟩
abbrev cX12_at2 : ByteArray := prog_14_method_65_code
def yX12_at2 : MethodName := ⟨RX12, "at2", "(II)I"⟩
abbrev cX12_isCopy : ByteArray := prog_14_method_66_code
def yX12_isCopy : MethodName := ⟨RX12, "isCopy", "(I)Z"⟩
abbrev cX12_isCompanyAt : ByteArray := prog_14_method_67_code
def yX12_isCompanyAt : MethodName := ⟨RX12, "isCompanyAt", "(I)Z"⟩
abbrev cX12_state : ByteArray := prog_14_method_68_code
def yX12_state : MethodName := ⟨RX12, "state", "(II)I"⟩
abbrev cX12_stateOf : ByteArray := prog_14_method_69_code
def yX12_stateOf : MethodName := ⟨RX12, "stateOf", "(II)I"⟩
abbrev cX12_letterCost : ByteArray := prog_14_method_70_code
def yX12_letterCost : MethodName := ⟨RX12, "letterCost", "(I)I"⟩
abbrev cX12_crumbsOf : ByteArray := prog_14_method_71_code
def yX12_crumbsOf : MethodName := ⟨RX12, "crumbsOf", "(I)I"⟩
abbrev cX12_left : ByteArray := prog_14_method_72_code
def yX12_left : MethodName := ⟨RX12, "left", "()I"⟩
abbrev cX12_many : ByteArray := prog_14_method_73_code
def yX12_many : MethodName := ⟨RX12, "many", "(I)I"⟩
abbrev cX12_ground : ByteArray := prog_14_method_74_code
def yX12_ground : MethodName := ⟨RX12, "ground", "(III)I"⟩
abbrev cX12_cell : ByteArray := prog_14_method_75_code
def yX12_cell : MethodName := ⟨RX12, "cell", "(III)I"⟩
abbrev cX12_showsOf : ByteArray := prog_14_method_76_code
def yX12_showsOf : MethodName := ⟨RX12, "showsOf", "(II)I"⟩
abbrev cX12_shows : ByteArray := prog_14_method_77_code
def yX12_shows : MethodName := ⟨RX12, "shows", "(III)I"⟩
abbrev cX12_company : ByteArray := prog_14_method_78_code
def yX12_company : MethodName := ⟨RX12, "company", "(II)I"⟩
abbrev cX12_bites : ByteArray := prog_14_method_79_code
def yX12_bites : MethodName := ⟨RX12, "bites", "(II)I"⟩
abbrev cX12_bite : ByteArray := prog_14_method_80_code
def yX12_bite : MethodName := ⟨RX12, "bite", "(III)I"⟩
abbrev cX12_moulds : ByteArray := prog_14_method_81_code
def yX12_moulds : MethodName := ⟨RX12, "moulds", "(II)Z"⟩
abbrev cX12_mould : ByteArray := prog_14_method_82_code
def yX12_mould : MethodName := ⟨RX12, "mould", "(III)Z"⟩
abbrev cX12_honeys : ByteArray := prog_14_method_83_code
def yX12_honeys : MethodName := ⟨RX12, "honeys", "(II)Z"⟩
abbrev cX12_honey : ByteArray := prog_14_method_84_code
def yX12_honey : MethodName := ⟨RX12, "honey", "(III)Z"⟩
abbrev cX12_clean : ByteArray := prog_14_method_85_code
def yX12_clean : MethodName := ⟨RX12, "clean", "(III)Z"⟩
abbrev cX12_unlikeOf : ByteArray := prog_14_method_86_code
def yX12_unlikeOf : MethodName := ⟨RX12, "unlikeOf", "(II)I"⟩
abbrev cX12_steams : ByteArray := prog_14_method_87_code
def yX12_steams : MethodName := ⟨RX12, "steams", "(II)I"⟩
abbrev cX12_steam : ByteArray := prog_14_method_88_code
def yX12_steam : MethodName := ⟨RX12, "steam", "(II)I"⟩
abbrev cX12_unlike : ByteArray := prog_14_method_89_code
def yX12_unlike : MethodName := ⟨RX12, "unlike", "(II)I"⟩
abbrev cX12_countOf : ByteArray := prog_14_method_90_code
def yX12_countOf : MethodName := ⟨RX12, "countOf", "(II)I"⟩
abbrev cX12_count : ByteArray := prog_14_method_91_code
def yX12_count : MethodName := ⟨RX12, "count", "(II)I"⟩
abbrev cX12_beside : ByteArray := prog_14_method_92_code
def yX12_beside : MethodName := ⟨RX12, "beside", "(II)I"⟩
abbrev cX12_heapFrom : ByteArray := prog_14_method_93_code
def yX12_heapFrom : MethodName := ⟨RX12, "heapFrom", "(II)I"⟩
abbrev cX12_hole : ByteArray := prog_14_method_94_code
def yX12_hole : MethodName := ⟨RX12, "hole", "(I)I"⟩
abbrev cX12_costOf : ByteArray := prog_14_method_95_code
def yX12_costOf : MethodName := ⟨RX12, "costOf", "(II)I"⟩
abbrev cX12_goesBy : ByteArray := prog_14_method_96_code
def yX12_goesBy : MethodName := ⟨RX12, "goesBy", "(III)I"⟩
abbrev cX12_wayOf : ByteArray := prog_14_method_97_code
def yX12_wayOf : MethodName := ⟨RX12, "wayOf", "(III)I"⟩
abbrev cX12_companyWay : ByteArray := prog_14_method_98_code
def yX12_companyWay : MethodName := ⟨RX12, "companyWay", "(I)I"⟩
abbrev cX12_tellWay : ByteArray := prog_14_method_99_code
def yX12_tellWay : MethodName := ⟨RX12, "tellWay", "(III)I"⟩
abbrev cX12_tellCompany : ByteArray := prog_14_method_100_code
def yX12_tellCompany : MethodName := ⟨RX12, "tellCompany", "(I)I"⟩
abbrev cX12_way : ByteArray := prog_14_method_101_code
def yX12_way : MethodName := ⟨RX12, "way", "(I)I"⟩
abbrev cX12_wayAt : ByteArray := prog_14_method_102_code
def yX12_wayAt : MethodName := ⟨RX12, "wayAt", "(II)I"⟩
abbrev cX12_marches : ByteArray := prog_14_method_103_code
def yX12_marches : MethodName := ⟨RX12, "marches", "(I)I"⟩
abbrev cX12_march : ByteArray := prog_14_method_104_code
def yX12_march : MethodName := ⟨RX12, "march", "(I)I"⟩
abbrev cX12_stuck : ByteArray := prog_14_method_105_code
def yX12_stuck : MethodName := ⟨RX12, "stuck", "()I"⟩
abbrev cX12_truly : ByteArray := prog_14_method_106_code
def yX12_truly : MethodName := ⟨RX12, "truly", "(I)I"⟩
abbrev cX12_best : ByteArray := prog_14_method_107_code
def yX12_best : MethodName := ⟨RX12, "best", "(I)I"⟩
abbrev cX12_hand : ByteArray := prog_14_method_108_code
def yX12_hand : MethodName := ⟨RX12, "hand", "(II)Z"⟩
abbrev cX12_reach : ByteArray := prog_14_method_109_code
def yX12_reach : MethodName := ⟨RX12, "reach", "()I"⟩
abbrev cX12_seen : ByteArray := prog_14_method_110_code
def yX12_seen : MethodName := ⟨RX12, "seen", "(II)I"⟩
abbrev cX12_isWanted : ByteArray := prog_14_method_111_code
def yX12_isWanted : MethodName := ⟨RX12, "isWanted", "(II)Z"⟩
abbrev cX12_isFood : ByteArray := prog_14_method_112_code
def yX12_isFood : MethodName := ⟨RX12, "isFood", "(II)Z"⟩
abbrev cX12_sums : ByteArray := prog_14_method_113_code
def yX12_sums : MethodName := ⟨RX12, "sums", "(I)V"⟩
abbrev cX12_tastes : ByteArray := prog_14_method_114_code
def yX12_tastes : MethodName := ⟨RX12, "tastes", "(III)V"⟩
abbrev cX12_supper : ByteArray := prog_14_method_115_code
def yX12_supper : MethodName := ⟨RX12, "supper", "(III)I"⟩
abbrev cX12_cutsOff : ByteArray := prog_14_method_116_code
def yX12_cutsOff : MethodName := ⟨RX12, "cutsOff", "(III)Z"⟩
abbrev cX12_isBeside : ByteArray := prog_14_method_117_code
def yX12_isBeside : MethodName := ⟨RX12, "isBeside", "(II)Z"⟩
abbrev cX12_cut_ : ByteArray := prog_14_method_118_code
def yX12_cut_ : MethodName := ⟨RX12, "cut", "(I)I"⟩
abbrev cX12_worthOf : ByteArray := prog_14_method_119_code
def yX12_worthOf : MethodName := ⟨RX12, "worthOf", "(II)I"⟩
abbrev cX12_worth : ByteArray := prog_14_method_120_code
def yX12_worth : MethodName := ⟨RX12, "worth", "(III)I"⟩
abbrev cX12_mostWorth : ByteArray := prog_14_method_121_code
def yX12_mostWorth : MethodName := ⟨RX12, "mostWorth", "(II)I"⟩
abbrev cX12_times : ByteArray := prog_14_method_122_code
def yX12_times : MethodName := ⟨RX12, "times", "(JJ)J"⟩
abbrev cX12_choose : ByteArray := prog_14_method_123_code
def yX12_choose : MethodName := ⟨RX12, "choose", "(II)J"⟩
abbrev cX12_told : ByteArray := prog_14_method_124_code
def yX12_told : MethodName := ⟨RX12, "told", "(II)J"⟩
abbrev cX12_isPath : ByteArray := prog_14_method_125_code
def yX12_isPath : MethodName := ⟨RX12, "isPath", "(I)Z"⟩
abbrev cX12_fitting : ByteArray := prog_14_method_126_code
def yX12_fitting : MethodName := ⟨RX12, "fitting", "(III)I"⟩
abbrev cX12_halves : ByteArray := prog_14_method_127_code
def yX12_halves : MethodName := ⟨RX12, "halves", "(III)I"⟩
abbrev cX12_fours : ByteArray := prog_14_method_128_code
def yX12_fours : MethodName := ⟨RX12, "fours", "(I)J"⟩
abbrev cX12_avoids : ByteArray := prog_14_method_129_code
def yX12_avoids : MethodName := ⟨RX12, "avoids", "(III)J"⟩
abbrev cX12_odds : ByteArray := prog_14_method_130_code
def yX12_odds : MethodName := ⟨RX12, "odds", "(IIIII)Z"⟩
abbrev cX12_mean : ByteArray := prog_14_method_131_code
def yX12_mean : MethodName := ⟨RX12, "mean", "(III)Z"⟩
abbrev cX12_draw : ByteArray := prog_14_method_132_code
def yX12_draw : MethodName := ⟨RX12, "draw", "(I)I"⟩
abbrev cX12_eats : ByteArray := prog_14_method_133_code
def yX12_eats : MethodName := ⟨RX12, "eats", "(II)Z"⟩
abbrev cX12_drawCell : ByteArray := prog_14_method_134_code
def yX12_drawCell : MethodName := ⟨RX12, "drawCell", "()I"⟩
abbrev cX12_mouse : ByteArray := prog_14_method_135_code
def yX12_mouse : MethodName := ⟨RX12, "mouse", "(II)V"⟩
abbrev cX12_goes : ByteArray := prog_14_method_136_code
def yX12_goes : MethodName := ⟨RX12, "goes", "(I)Z"⟩
abbrev cX12_does : ByteArray := prog_14_method_137_code
def yX12_does : MethodName := ⟨RX12, "does", "(I)Z"⟩
abbrev cX12_isSo : ByteArray := prog_14_method_138_code
def yX12_isSo : MethodName := ⟨RX12, "isSo", "(I)Z"⟩
abbrev cX12_doOne : ByteArray := prog_14_method_139_code
def yX12_doOne : MethodName := ⟨RX12, "doOne", "(I)V"⟩
abbrev cX12_doAll : ByteArray := prog_14_method_140_code
def yX12_doAll : MethodName := ⟨RX12, "doAll", "(II)V"⟩
abbrev cX12_runs : ByteArray := prog_14_method_141_code
def yX12_runs : MethodName := ⟨RX12, "runs", "(I)V"⟩
abbrev cX12_run : ByteArray := prog_14_method_142_code
def yX12_run : MethodName := ⟨RX12, "run", "(I)I"⟩
abbrev cX12_ran : ByteArray := prog_14_method_143_code
def yX12_ran : MethodName := ⟨RX12, "ran", "(I)I"⟩
abbrev cX12_arrivals : ByteArray := prog_14_method_144_code
def yX12_arrivals : MethodName := ⟨RX12, "arrivals", "(III)Z"⟩
abbrev cX12_copy : ByteArray := prog_14_method_145_code
def yX12_copy : MethodName := ⟨RX12, "copy", "(II)V"⟩
abbrev cX12_mark : ByteArray := prog_14_method_146_code
def yX12_mark : MethodName := ⟨RX12, "mark", "()I"⟩
abbrev cX12_back : ByteArray := prog_14_method_147_code
def yX12_back : MethodName := ⟨RX12, "back", "()I"⟩
def RJ13 : String := "java/lang/Long"
abbrev cJ13_bitCount_95d88 : ByteArray := prog_15_method_50_code
def yJ13_bitCount_95d88 : MethodName := ⟨RJ13, "bitCount", "(J)I"⟩
def RJ0 : String := "java/lang/String"
abbrev cJ0_length_8abf5 : ByteArray := prog_17_method_54_code
def yJ0_length_8abf5 : MethodName := ⟨RJ0, "length", "()I"⟩
abbrev cJ0_charAt_5068e : ByteArray := prog_17_method_56_code
def yJ0_charAt_5068e : MethodName := ⟨RJ0, "charAt", "(I)C"⟩
abbrev cJ0_coder_7d493 : ByteArray := prog_17_method_152_code
def yJ0_coder_7d493 : MethodName := ⟨RJ0, "coder", "()B"⟩
abbrev cJ0_isLatin1_aae02 : ByteArray := prog_17_method_154_code
def yJ0_isLatin1_aae02 : MethodName := ⟨RJ0, "isLatin1", "()Z"⟩
abbrev cJ0_checkIndex_df160 : ByteArray := prog_17_method_155_code
def yJ0_checkIndex_df160 : MethodName := ⟨RJ0, "checkIndex", "(II)V"⟩
def RJ1 : String := "java/lang/StringLatin1"
abbrev cJ1_charAt_3b067 : ByteArray := prog_18_method_2_code
def yJ1_charAt_3b067 : MethodName := ⟨RJ1, "charAt", "([BI)C"⟩
def RJ2 : String := "java/lang/StringUTF16"
abbrev cJ2_getChar_3b067 : ByteArray := prog_19_method_5_code
def yJ2_getChar_3b067 : MethodName := ⟨RJ2, "getChar", "([BI)C"⟩
abbrev cJ2_length_9d52b : ByteArray := prog_19_method_6_code
def yJ2_length_9d52b : MethodName := ⟨RJ2, "length", "([B)I"⟩
abbrev cJ2_charAt_3b067 : ByteArray := prog_19_method_83_code
def yJ2_charAt_3b067 : MethodName := ⟨RJ2, "charAt", "([BI)C"⟩
abbrev cJ2_checkIndex_2214a : ByteArray := prog_19_method_91_code
def yJ2_checkIndex_2214a : MethodName := ⟨RJ2, "checkIndex", "(I[B)V"⟩
def RJ7 : String := "java/util/Arrays"
abbrev cJ7_fill_d0a16 : ByteArray := prog_21_method_101_code
def yJ7_fill_d0a16 : MethodName := ⟨RJ7, "fill", "([JJ)V"⟩
abbrev cJ7_fill_53178 : ByteArray := prog_21_method_103_code
def yJ7_fill_53178 : MethodName := ⟨RJ7, "fill", "([II)V"⟩
def RJ3 : String := "jdk/internal/util/Preconditions"
abbrev cJ3_checkIndex_8e157 : ByteArray := prog_22_method_11_code
def yJ3_checkIndex_8e157 : MethodName := ⟨RJ3, "checkIndex", "(IILjava/util/function/BiFunction;)I"⟩
def RL : String := "BreadMapLaw"
abbrev cL_law : ByteArray := code
abbrev vwCl : List vw_C := [(RX0, TX0, 9), (RX1, TX1, 11), (RX2, TX2, 15), (RX3, TX3, 3), (RX4, TX4, 2), (RX5, TX5, 6), (RX6, TX6, 5), (RX7, TX7, 12), (RX8, TX8, 11), (RX9, TX9, 3), (RX10, TX10, 9), (RX11, TX11, 20), (RX12, TX12, 48)]
/-! ===== END printed: names ===== -/
end
section
/-! THE ENGINE: an abstract machine over closed data, whose runs the kernel computes; below (04 ..): what it computes holds of the machine -/
-- values: a value of the machine, its addresses counted from the base; or (0, k): the k-th input; (1, k): it as a long; (2, _): any int; (3, _): any long; (4, j): the j-th array from outside
abbrev xV : Type := Value ⊕ (Nat × Nat)
-- cells: an array (type, length, default, what differs from it by place), or an object (its class's number, its fields)
abbrev xC : Type := (FieldType × Nat × xV × List (Nat × xV)) ⊕ (Nat × List xV)
abbrev xH : Type := List xC
abbrev xE : Type := List (Int × Int)
abbrev xL : Type := List (Nat × xV)
-- inputs' bounds, cells left, slots left, heap, locals, stack
abbrev xS : Type := xE × Nat × Nat × xH × xL × List xV
abbrev xR : Type := xE × xH × Option xV
abbrev xO : Type := xR ⊕ (Nat × xS)
abbrev xF : Type := Nat → xE → xH → List xV → Option (List xR)
abbrev xI : Type := xF → xS → Option (List xO)
-- a method: name, code, locals, answer's type, room
abbrev xY : Type := MethodName × ByteArray × Nat × Option FieldType × Room

noncomputable def x_nth {α : Type} (l : List α) (k : Nat) : Option α := List.rec (motive := fun _ => Nat → Option α) (fun _ => none) (fun a _ ih k => Nat.rec (motive := fun _ => Option α) (some a) (fun j _ => ih j) k) l k
theorem x_nth_eq {α : Type} (l : List α) (k : Nat) : x_nth l k = l[k]? := by
  induction l generalizing k with
  | nil => rfl
  | cons a t ih => cases k with
    | zero => rfl
    | succ j => exact ih j
noncomputable def x_set {α β : Type} (l : List α) (k : Nat) (a : α) (f : List α → Option β) : Option β := List.rec (motive := fun _ => Nat → (List α → Option β) → Option β) (fun _ _ => none) (fun b t ih k f => Nat.rec (motive := fun _ => Option β) (f (a :: t)) (fun j _ => ih j (fun t' => f (b :: t'))) k) l k f
theorem x_set_eq {α β : Type} (l : List α) (k : Nat) (a : α) (f : List α → Option β) {r : β} (h : x_set l k a f = some r) : k < l.length ∧ f (l.set k a) = some r := by
  induction l generalizing k f with
  | nil => cases h
  | cons b t ih => cases k with
    | zero => exact ⟨Nat.zero_lt_succ _, h⟩
    | succ j =>
      obtain ⟨h1, h2⟩ := ih j _ h
      exact ⟨Nat.succ_lt_succ h1, h2⟩
-- behind the last one: with the place
noncomputable def x_push {α β : Type} (l : List α) (a : α) (f : List α → Nat → Option β) : Option β := List.rec (motive := fun _ => (List α → Nat → Option β) → Option β) (fun f => f [a] 0) (fun b _ ih f => ih (fun t' n => f (b :: t') (Nat.succ n))) l f
theorem x_push_eq {α β : Type} (l : List α) (a : α) (f : List α → Nat → Option β) : x_push l a f = f (l ++ [a]) l.length := by
  induction l generalizing f with
  | nil => rfl
  | cons b t ih => exact (ih _).trans rfl
-- a list's spine, made outright
noncomputable def x_spine {α β : Type} (l : List α) (f : List α → Option β) : Option β := List.rec (motive := fun _ => (List α → Option β) → Option β) (fun f => f []) (fun b _ ih f => ih (fun t' => f (b :: t'))) l f
theorem x_spine_eq {α β : Type} (l : List α) (f : List α → Option β) : x_spine l f = f l := by
  induction l generalizing f with
  | nil => rfl
  | cons b t ih => exact ih _
noncomputable def x_k32 {β : Type} (x : Int32) (k : Int32 → Option β) : Option β := Nat.rec (motive := fun _ => Option β) (k (Int32.ofNat 0)) (fun n _ => k (Int32.ofNat (Nat.succ n))) x.toBitVec.toNat
theorem x_i32 (x : Int32) : Int32.ofNat x.toBitVec.toNat = x := by
  apply Int32.toBitVec_inj.mp
  simp
theorem x_k32_eq {β : Type} (x : Int32) (k : Int32 → Option β) : x_k32 x k = k x := by
  have h : x_k32 x k = k (Int32.ofNat x.toBitVec.toNat) := by
    unfold x_k32
    cases x.toBitVec.toNat <;> rfl
  rw [h, x_i32]
theorem x_i64 (x : Int64) : Int64.ofNat x.toBitVec.toNat = x := by
  apply Int64.toBitVec_inj.mp
  simp
-- an input's bounds
noncomputable def x_env (e : xE) (k : Nat) : Int × Int := Option.rec (motive := fun _ => Int × Int) (-2147483648, 2147483647) (fun q => q) (x_nth e k)
noncomputable def x_one (q : Int × Int) (a d : xV) : xV := cond (decide (q.1 = q.2)) a d
noncomputable def x_nm (e : xE) (v : xV) : xV := match v with
  | .inl w => .inl w
  | .inr (0, k) => x_one (x_env e k) (.inl (.int (Int32.ofInt (x_env e k).1))) (.inr (0, k))
  | .inr (1, k) => x_one (x_env e k) (.inl (.long (Int32.ofInt (x_env e k).1).toInt64)) (.inr (1, k))
  | .inr q => .inr q
-- what kind of value, by its head alone
noncomputable def x_isI (v : xV) : Bool := match v with
  | .inl (.int _) => true
  | .inr (0, _) => true
  | .inr (2, _) => true
  | _ => false
noncomputable def x_cat (v : xV) : Nat := match v with
  | .inl (.long _) => 2
  | .inl (.double _) => 2
  | .inr (1, _) => 2
  | .inr (3, _) => 2
  | _ => 1
noncomputable def x_sum (l : List xV) : Nat := List.rec (motive := fun _ => Nat) 0 (fun v _ ih => x_cat v + ih) l
-- locals
noncomputable def x_get (L : xL) (i : Nat) : Option xV := List.rec (motive := fun _ => Option xV) none (fun q _ ih => cond (Nat.beq q.1 i) (some q.2) ih) L
noncomputable def x_keep1 (i : Nat) (q : Nat × xV) : Bool := !(q.1 == i) && !(q.1 + 1 == i && x_cat q.2 == 2)
noncomputable def x_lst (nx : Nat) (e : xE) (cl sl : Nat) (h : xH) (L : xL) (S : List xV) : Option (List xO) := x_spine L (fun L => some [.inr (nx, e, cl, sl, h, L, S)])
-- an array's content
noncomputable def x_lk (o : List (Nat × xV)) (d : xV) (j : Nat) : xV := List.rec (motive := fun _ => xV) d (fun q _ ih => cond (Nat.beq q.1 j) q.2 ih) o
noncomputable def x_eqv (v d : xV) : Bool := match v, d with
  | .inl (.int a), .inl (.int b) => Nat.beq a.toBitVec.toNat b.toBitVec.toNat
  | .inl (.long a), .inl (.long b) => Nat.beq a.toBitVec.toNat b.toBitVec.toNat
  | _, _ => false
noncomputable def x_upd (o : List (Nat × xV)) (j : Nat) (v d : xV) : List (Nat × xV) := List.rec (motive := fun _ => List (Nat × xV)) (cond (x_eqv v d) [] [(j, v)]) (fun q t ih => cond (Nat.beq q.1 j) ((j, v) :: t) (q :: ih)) o
noncomputable def x_kN {β : Type} (n : Nat) (k : Nat → Option β) : Option β := Nat.rec (motive := fun _ => Option β) (k 0) (fun m _ => k (Nat.succ m)) n
theorem x_kN_eq {β : Type} (n : Nat) (k : Nat → Option β) : x_kN n k = k n := by cases n <;> rfl
noncomputable def x_idx {β : Type} (i : Int32) (n : Nat) (f : Nat → Option β) : Option β := cond (Nat.ble n 2147483647 && Nat.blt i.toBitVec.toNat n) (x_kN i.toBitVec.toNat f) none
/-! instructions -/
noncomputable def i_push (v : xV) (nx : Nat) : xI := fun _ (e, cl, sl, h, L, S) => some [.inr (nx, e, cl, sl, h, L, v :: S)]
noncomputable def i_jump (nx : Nat) : xI := fun _ st => some [.inr (nx, st)]
noncomputable def x_frc (v : xV) (f : xV → Option (List xO)) : Option (List xO) := Sum.rec (motive := fun _ => Option (List xO)) (fun w => f (.inl w)) (fun q => f (.inr q)) v
-- a load: k tells the kind that is wanted
noncomputable def i_load (ok : xV → Bool) (i nx : Nat) : xI := fun _ (e, cl, sl, h, L, S) => match x_get L i with
  | some v => x_frc (x_nm e v) (fun v => cond (ok v) (some [.inr (nx, e, cl, sl, h, L, v :: S)]) none)
  | none => none
noncomputable def i_store1 (ok : xV → Bool) (nL i nx : Nat) : xI := fun _ (e, cl, sl, h, L, S) => match S with
  | v :: S => cond (ok v && Nat.blt i nL) (x_lst nx e cl sl h ((i, v) :: L.filter (x_keep1 i)) S) none
  | [] => none
noncomputable def i_iinc (nL i : Nat) (z : Int32) (nx : Nat) : xI := fun _ (e, cl, sl, h, L, S) => match x_get L i with
  | some (.inl (.int x)) => cond (Nat.blt i nL) (x_k32 (x + z) (fun r => x_lst nx e cl sl h ((i, .inl (.int r)) :: L.filter (x_keep1 i)) S)) none
  | _ => none
-- shifts of longs: by an int
noncomputable def i_dup (nx : Nat) : xI := fun _ (e, cl, sl, h, L, S) => match S with
  | x :: S => cond (Nat.beq (x_cat x) 1) (some [.inr (nx, e, cl, sl, h, L, x :: x :: S)]) none
  | [] => none
-- comparing: 0 less, 1 more, 2 equal
noncomputable def x_lit (b : Nat) (x y : Int) : Bool := Nat.rec (motive := fun _ => Bool) (decide (x < y)) (fun j _ => Nat.rec (motive := fun _ => Bool) (decide (y < x)) (fun _ _ => decide (x = y)) j) b
noncomputable def x_min (a b : Int) : Int := cond (decide (a ≤ b)) a b
noncomputable def x_max (a b : Int) : Int := cond (decide (a ≤ b)) b a
noncomputable def x_yes (b : Nat) (q : Int × Int) (y : Int) : Int × Int := Nat.rec (motive := fun _ => Int × Int) (q.1, x_min q.2 (y - 1)) (fun j _ => Nat.rec (motive := fun _ => Int × Int) (x_max q.1 (y + 1), q.2) (fun _ _ => (x_max q.1 y, x_min q.2 y)) j) b
noncomputable def x_no1 (b : Nat) (q : Int × Int) (y : Int) : Int × Int := Nat.rec (motive := fun _ => Int × Int) (x_max q.1 y, q.2) (fun j _ => Nat.rec (motive := fun _ => Int × Int) (q.1, x_min q.2 y) (fun _ _ => (q.1, x_min q.2 (y - 1))) j) b
noncomputable def x_no2 (b : Nat) (q : Int × Int) (y : Int) : Int × Int := Nat.rec (motive := fun _ => Int × Int) (1, 0) (fun j _ => Nat.rec (motive := fun _ => Int × Int) (1, 0) (fun _ _ => (x_max q.1 (y + 1), q.2)) j) b
noncomputable def x_flip (b : Nat) : Nat := Nat.rec (motive := fun _ => Nat) 1 (fun j _ => Nat.rec (motive := fun _ => Nat) 0 (fun _ _ => 2) j) b
-- an input within bounds: its new bounds made outright, nothing where there are none
noncomputable def x_kZ {β : Type} (z : Int) (f : Int → Option β) : Option β := Int.rec (motive := fun _ => Option β) (fun n => x_kN n (fun n => f (Int.ofNat n))) (fun n => x_kN n (fun n => f (Int.negSucc n))) z
theorem x_kZ_eq {β : Type} (z : Int) (f : Int → Option β) : x_kZ z f = f z := by
  cases z with
  | ofNat n => exact x_kN_eq n (fun n => f (Int.ofNat n))
  | negSucc n => exact x_kN_eq n (fun n => f (Int.negSucc n))
noncomputable def x_put (e : xE) (k : Nat) (q : Int × Int) (o : xE → xO) (rest : List xO) : Option (List xO) := cond (decide (q.1 ≤ q.2)) (x_kZ q.1 (fun a => x_kZ q.2 (fun b => x_set e k (a, b) (fun e' => some (o e' :: rest))))) (some rest)
noncomputable def x_fork (b : Nat) (e : xE) (k : Nat) (y : Int) (oT oF : xE → xO) : Option (List xO) := match x_put e k (x_no1 b (x_env e k) y) oF [] with
  | some r => match x_put e k (x_no2 b (x_env e k) y) oF r with
    | some r => x_put e k (x_yes b (x_env e k) y) oT r
    | none => none
  | none => none
-- an input within narrow bounds: each number by itself
noncomputable def x_br (b : Nat) (e : xE) (x y : xV) (oT oF : xE → xO) : Option (List xO) := match x, y with
  | .inl (.int a), .inl (.int c) => cond (x_lit b a.toInt c.toInt) (some [oT e]) (some [oF e])
  | .inr (0, k), .inl (.int c) => x_fork b e k c.toInt oT oF
  | .inl (.int c), .inr (0, k) => x_fork (x_flip b) e k c.toInt oT oF
  | _, _ => none
noncomputable def i_icmp (b pT pF : Nat) : xI := fun _ (e, cl, sl, h, L, S) => match S with
  | y :: x :: S => x_br b e x y (fun e => .inr (pT, e, cl, sl, h, L, S)) (fun e => .inr (pF, e, cl, sl, h, L, S))
  | _ => none
-- switches on written numbers, or on inputs: cases (number, target), rising
noncomputable def x_find (d : Nat) (z : Int) (cs : List (Int × Nat)) : Nat := List.rec (motive := fun _ => Nat) d (fun q _ ih => cond (decide (z = q.1)) q.2 ih) cs
-- fields
noncomputable def i_getf (ci k nx : Nat) : xI := fun _ (e, cl, sl, h, L, S) => match S with
  | .inl (.ref r) :: S => match x_nth h r with
    | some (.inr (cj, fs)) => cond (Nat.beq ci cj) (match x_nth fs k with
      | some v => x_frc (x_nm e v) (fun v => some [.inr (nx, e, cl, sl, h, L, v :: S)])
      | none => none) none
    | _ => none
  | _ => none
noncomputable def x_fit (ty : FieldType) (v : xV) : Bool := match v with
  | .inl (.ref _) => fits ty (.ref 0)
  | .inl w => fits ty w && decide (narrow ty w = w)
  | .inr (0, _) => decide (ty = .int)
  | .inr (1, _) => decide (ty = .long)
  | .inr (2, _) => decide (ty = .int)
  | .inr (3, _) => decide (ty = .long)
  | .inr _ => false
noncomputable def i_putf (ci k : Nat) (ty : FieldType) (nx : Nat) : xI := fun _ (e, cl, sl, h, L, S) => match S with
  | v :: .inl (.ref r) :: S => cond (x_fit ty v) (match x_nth h r with
    | some (.inr (cj, fs)) => cond (Nat.beq ci cj) (x_set fs k v (fun fs => x_set h r (.inr (ci, fs)) (fun h => some [.inr (nx, e, cl, sl, h, L, S)]))) none
    | _ => none) none
  | _ => none
-- arrays
noncomputable def x_sto (ty : FieldType) (v : xV) (f : xV → Option (List xO)) : Option (List xO) := match v with
  | .inl (.int a) => cond (fits ty (.int a) && decide (narrow ty (.int a) = .int a)) (f (.inl (.int a))) none
  | .inl (.long a) => cond (decide (ty = .long)) (f (.inl (.long a))) none
  | .inr (0, k) => cond (decide (ty = .int)) (f (.inr (0, k))) (cond (decide (ty = .byte)) (f (.inr (2, 0))) none)
  | .inr (2, k) => cond (decide (ty = .int)) (f (.inr (2, k))) (cond (decide (ty = .byte)) (f (.inr (2, 0))) none)
  | .inr (1, k) => cond (decide (ty = .long)) (f (.inr (1, k))) none
  | .inr (3, k) => cond (decide (ty = .long)) (f (.inr (3, k))) none
  | _ => none
-- the static tables
def xTab (t : Nat) : List Int32 := match t with
  | 1 => [0, -1, 1, -2, 2]
  | 2 => [2, 1, 4, 5, 3]
  | _ => []
-- iaload also of a static table
noncomputable def i_ast (ty : FieldType) (nx : Nat) : xI := fun _ (e, cl, sl, h, L, S) => match S with
  | v :: .inl (.int i) :: .inl (.ref r) :: S => match x_nth h r with
    | some (.inl (tz, n, d, o)) => cond (decide (tz = ty)) (x_sto ty v (fun v => x_idx i n (fun j => x_spine (x_upd o j v d) (fun o => x_set h r (.inl (ty, n, d, o)) (fun h => some [.inr (nx, e, cl, sl, h, L, S)]))))) none
    | _ => none
  | _ => none
noncomputable def x_cls (h : xH) (ci : Nat) (v : xV) : Bool := match v with
  | .inl (.ref r) => match x_nth h r with
    | some (.inr (cj, _)) => Nat.beq ci cj
    | _ => false
  | _ => false
noncomputable def i_aast (ci : Nat) (C : String) (nx : Nat) : xI := fun _ (e, cl, sl, h, L, S) => match S with
  | .inl (.ref q) :: .inl (.int i) :: .inl (.ref r) :: S => match x_nth h r with
    | some (.inl (tz, n, d, o)) => cond (decide (tz = .object C) && x_cls h ci (.inl (.ref q))) (x_idx i n (fun j => x_spine (x_upd o j (.inl (.ref q)) d) (fun o => x_set h r (.inl (.object C, n, d, o)) (fun h => some [.inr (nx, e, cl, sl, h, L, S)])))) none
    | _ => none
  | _ => none
noncomputable def i_alen (nx : Nat) : xI := fun _ (e, cl, sl, h, L, S) => match S with
  | .inl (.ref r) :: S => match x_nth h r with
    | some (.inl (_, n, _, _)) => x_k32 (Int32.ofNat n) (fun r => some [.inr (nx, e, cl, sl, h, L, .inl (.int r) :: S)])
    | _ => none
  | _ => none
-- the script: L inputs
-- the first input's low bits: the sixth
-- making: an array of N (written in the code just ahead), an object of N fields
noncomputable def i_newa (ty : FieldType) (d : xV) (nx : Nat) : xI := fun _ (e, cl, sl, h, L, S) => match S with
  | .inl (.int i) :: S => x_idx i 1000000 (fun N => cond (Nat.ble 1 cl && Nat.ble N sl) (x_kN (cl - 1) (fun cl => x_kN (sl - N) (fun sl => x_push h (.inl (ty, N, d, [])) (fun h r => x_kN r (fun r => some [.inr (nx, e, cl, sl, h, L, .inl (.ref r) :: S)]))))) none)
  | _ => none
noncomputable def i_new (ci N : Nat) (fs : List xV) (nx : Nat) : xI := fun _ (e, cl, sl, h, L, S) => cond (Nat.ble 1 cl && Nat.ble N sl) (x_kN (cl - 1) (fun cl => x_kN (sl - N) (fun sl => x_push h (.inr (ci, fs)) (fun h r => x_kN r (fun r => some [.inr (nx, e, cl, sl, h, L, .inl (.ref r) :: S)]))))) none
noncomputable def i_objInit (nx : Nat) : xI := fun _ (e, cl, sl, h, L, S) => match S with
  | .inl (.ref _) :: S => cond (Nat.ble (x_sum S) 8) (some [.inr (nx, e, cl, sl, h, L, S)]) none
  | _ => none
-- System.arraycopy, of two arrays of one plain type
-- calls: n arguments (the receiver with them, where there is one)
noncomputable def x_take (n : Nat) (S : List xV) (f : List xV → List xV → Option (List xO)) (acc : List xV) : Option (List xO) := Nat.rec (motive := fun _ => List xV → List xV → Option (List xO)) (fun S acc => f acc S) (fun _ ih S acc => List.rec (motive := fun _ => Option (List xO)) none (fun v S _ => ih S (v :: acc)) S) n S acc
noncomputable def x_back (nx cl sl : Nat) (L : xL) (S : List xV) (r : xR) : xO := .inr (nx, r.1, cl, sl, r.2.1, L, Option.rec (motive := fun _ => List xV) S (fun v => v :: S) r.2.2)
noncomputable def x_map {α β : Type} (f : α → β) (l : List α) : List β := List.rec (motive := fun _ => List β) [] (fun a _ ih => f a :: ih) l
-- virt: some of the receiver's class
noncomputable def i_call (virt : Option Nat) (mi n mc ms nx : Nat) : xI := fun cf (e, cl, sl, h, L, S) => x_take n S (fun as S => cond (Nat.ble (x_sum S) 8 && (Nat.ble mc cl && (Nat.ble ms sl && (match virt with
  | some ci => (match as with
    | v :: _ => x_cls h ci v
    | [] => false)
  | none => true)))) (match cf mi e h as with
  | some rs => x_kN (cl - mc) (fun cl => x_kN (sl - ms) (fun sl => some (x_map (x_back nx cl sl L S) rs)))
  | none => none) none) []
noncomputable def i_ret0 : xI := fun _ (e, _, _, h, _, S) => match S with
  | [] => some [.inl (e, h, none)]
  | _ => none
/-! the run -/
abbrev xT : Type := List (List (Option xI))
noncomputable def x_at (t : xT) (pc : Nat) : Option xI := match x_nth t (Nat.div pc 16) with
  | some l => match x_nth l (Nat.mod pc 16) with
    | some r => r
    | none => none
  | none => none
noncomputable def x_app {α : Type} (a b : Option (List α)) : Option (List α) := match a with
  | some a => match b with
    | some b => some (a ++ b)
    | none => none
  | none => none
noncomputable def x_gath (f : xO → Option (List xR)) (os : List xO) : Option (List xR) := List.rec (motive := fun _ => Option (List xR)) (some []) (fun o os ih => List.rec (motive := fun _ => Option (List xR)) (f o) (fun _ _ _ => x_app (f o) ih) os) os
noncomputable def x_cont (go : Nat → xS → Option (List xR)) (o : xO) : Option (List xR) := Sum.rec (motive := fun _ => Option (List xR)) (fun r => some [r]) (fun q => go q.1 q.2) o
noncomputable def x_args (i : Nat) (vs : List xV) : xL := List.rec (motive := fun _ => Nat → xL) (fun _ => []) (fun v _ ih i => (i, v) :: ih (cond (Nat.beq (x_cat v) 2) (i + 2) (i + 1))) vs i
noncomputable def x_in (go : xT → Nat → xS → Option (List xR)) (M : List (xY × xT)) : xF := fun mi e h as => match x_nth M mi with
  | some (y, t) => cond (Nat.ble (x_sum as) y.2.2.1) (go t 0 (e, y.2.2.2.2.cells, y.2.2.2.2.slots, h, x_args 0 as, [])) none
  | none => none
noncomputable def x_step (M : List (xY × xT)) (ih : xT → Nat → xS → Option (List xR)) (t : xT) (pc : Nat) (st : xS) : Option (List xR) := match x_at t pc with
  | some ri => match ri (x_in ih M) st with
    | some os => x_gath (x_cont (ih t)) os
    | none => none
  | none => none
noncomputable def x_run (M : List (xY × xT)) (n : Nat) : xT → Nat → xS → Option (List xR) := Nat.rec (motive := fun _ => xT → Nat → xS → Option (List xR)) (fun _ _ _ => none) (fun _ ih t pc st => x_step M ih t pc st) n
end
section
/-! WHAT THE ENGINE'S STATES MEAN -/
-- inputs; the base; the arrays from outside; the classes' numbers and slots; the script's length; the methods
abbrev xP : Type := (Nat → Int32) × Nat × (Nat → Nat) × va_G × Nat × List (xY × xT)
def xden (P : xP) (a : xV) (v : Value) : Prop := match a with
  | .inl (.ref k) => v = .ref (P.2.1 + k)
  | .inl w => v = w
  | .inr (0, k) => v = .int (P.1 k)
  | .inr (1, k) => v = .long (P.1 k).toInt64
  | .inr (2, _) => ∃ x : Int32, v = .int x
  | .inr (3, _) => ∃ x : Int64, v = .long x
  | .inr (4, j) => v = .ref (P.2.2.1 j)
  | .inr _ => False
def xdens (P : xP) : List xV → List Value → Prop
  | [], [] => True
  | a :: as, v :: vs => xden P a v ∧ xdens P as vs
  | _, _ => False
def xldens (P : xP) : xL → List (Nat × Value) → Prop
  | [], [] => True
  | a :: as, v :: vs => (a.1 = v.1 ∧ xden P a.2 v.2) ∧ xldens P as vs
  | _, _ => False
def xdenO (P : xP) (a : Option xV) (v : Option Value) : Prop := match a, v with
  | none, none => True
  | some a, some v => xden P a v
  | _, _ => False
def xEnv (P : xP) (e : xE) : Prop := P.1 4000 = P.1 0 &&& 63 ∧ ∀ k q, e[k]? = some q → q.1 ≤ (P.1 k).toInt ∧ (P.1 k).toInt ≤ q.2
-- an array's content
def xarr (P : xP) (ty : FieldType) (g : Nat → xV) (n : Nat) (X : (Nat → Int32) ⊕ (Nat → Int64) ⊕ (Nat → UInt32) ⊕ (Nat → UInt64) ⊕ (Nat → Option Nat)) : Prop := match X with
  | .inl f => (ty = .int ∨ ty = .byte ∨ ty = .boolean) ∧ ∀ j, j < n → xden P (g j) (.int (f j))
  | .inr (.inl f) => ty = .long ∧ ∀ j, j < n → xden P (g j) (.long (f j))
  | .inr (.inr (.inr (.inr f))) => (∃ C, ty = .object C) ∧ ∀ j, j < n → xden P (g j) (va_rf (f j))
  | _ => False
def xcell (P : xP) (U : State) (c : xC) (a : Nat) (H : Heap) : Prop := match c with
  | .inl (ty, n, d, o) => ∃ (cA : ClassId) (X : vp_A), H[a]? = some (vp_cell cA X) ∧ X.1 = n ∧ xarr P ty (x_lk o d) n X.2 ∧ ArrOfT U cA ty ∧ va_RA U cA ty
  | .inr (ci, fs) => ∃ vs, xdens P fs vs ∧ va_at P.2.2.2.1 vwCl (a, .inr (ci, vs)) H
def xG (P : xP) (h : xH) (U : State) (H : Heap) : Prop := H.size = P.2.1 + h.length ∧ ∀ k c, h[k]? = some c → xcell P U c (P.2.1 + k) H
def xNest : List Cond := [.methodLinkNest "BreadMap$OrdersReader" 11 yX5_init "BreadMap", .methodLinkNest "BreadMap$Land" 42 yX5_init "BreadMap", .methodLinkNest "BreadMap" 96 yX4_init "BreadMap", .methodLinkNest "BreadMap" 89 yX0_init "BreadMap", .methodLinkNest "BreadMap" 73 yX10_init "BreadMap", .methodLinkNest "BreadMap" 52 yX2_init "BreadMap", .methodLinkNest "BreadMap" 29 yX8_init "BreadMap", .methodLinkNest "BreadMap" 26 yX9_init "BreadMap"]
def xStat : List (String × String × Nat) := [("BreadMap", "MOVES", 1), ("BreadMap$Land", "LETTER_CRUMBS", 2)]
-- what lies below the base, and what the tables say
def xX (P : xP) (U : State) (H : Heap) : Prop :=
  (∀ w ∈ xNest, va_Nw w U) ∧ (∀ C ∈ (["BreadMap$Tray", "BreadMap$Land"] : List String), va_AO C U) ∧ (∀ q ∈ xStat, va_Z q.1 q.2.1 "[I" (.ref (P.2.2.1 q.2.2)) (fun z => P.2.1 ≤ z) U H ∧ va_T .int (P.2.2.1 q.2.2) 5 (fun j => .int ((xTab q.2.2).getD j 0)) (fun z => P.2.1 ≤ z) U H) ∧
  va_X (P.2.2.1 0) P.2.2.2.2.1 P.1 U H ∧ P.2.2.1 0 < P.2.1 ∧ ∀ q : Nat, q < P.2.1 → H[q]? = U.heap[q]?
theorem xX.kept {P : xP} {U : State} {H H1 : Heap} (h : xX P U H) (hq : ∀ q : Nat, q < P.2.1 → H1[q]? = H[q]?) : xX P U H1 := by
  obtain ⟨h1, h2, h3, h4, h5, h6⟩ := h
  refine ⟨h1, h2, fun q hm => ⟨(h3 q hm).1.kept fun a _ ha => hq a (Nat.not_le.mp ha), (h3 q hm).2.kept fun a _ ha => hq a (Nat.not_le.mp ha)⟩, h4.kept (hq _ h5), h5, fun q hl => (hq q hl).trans (h6 q hl)⟩
theorem xX.moved {P : xP} {s U : State} {H : Heap} (hW : s.WarmedH U.vm) (hU : U.heap = H) (h : xX P s H) : xX P U H := by
  obtain ⟨h1, h2, h3, h4, h5, h6⟩ := h
  refine ⟨fun w hw => ?_, fun C hC => va_AO.moved hW.alike (h2 C hC), fun q hm => ⟨(h3 q hm).1.moved hW.alike, (h3 q hm).2.moved hW.alike⟩, h4.moved hW.alike, h5, fun q _ => by rw [hU]⟩
  have hs := h1 w hw
  simp only [xNest, List.mem_cons, List.not_mem_nil, or_false] at hw
  rcases hw with rfl | rfl | rfl | rfl | rfl | rfl | rfl | rfl <;> exact va_Nw.warmM hW hs
theorem xX.same {P : xP} {s U : State} {H : Heap} (hv : s.vm = U.vm) (hh : U.heap = s.heap) (h : xX P s H) : xX P U H := by
  have ha : s.vm.Alike U.vm := hv ▸ Vm.Alike.refl s.vm
  obtain ⟨h1, h2, h3, h4, h5, h6⟩ := h
  refine ⟨fun w hw => ?_, fun C hC => va_AO.moved ha (h2 C hC), fun q hm => ⟨(h3 q hm).1.moved ha, (h3 q hm).2.moved ha⟩, h4.moved ha, h5, fun q hl => by rw [hh]; exact h6 q hl⟩
  have hs := h1 w hw
  simp only [xNest, List.mem_cons, List.not_mem_nil, or_false] at hw
  rcases hw with rfl | rfl | rfl | rfl | rfl | rfl | rfl | rfl <;> exact va_Nw.same rfl hv hs
theorem xcell.moved {P : xP} {u U : State} {c : xC} {a : Nat} {H : Heap} (hvm : u.vm.Alike U.vm) (h : xcell P u c a H) : xcell P U c a H := by
  match c, h with
  | .inl (ty, n, d, o), ⟨cA, X, h1, h2, h3, h4, h5⟩ => exact ⟨cA, X, h1, h2, h3, arrOfT_moved hvm h4, h5.moved hvm⟩
  | .inr (ci, fs), h => exact h
theorem xcell.kept {P : xP} {U : State} {c : xC} {a : Nat} {H H1 : Heap} (h : xcell P U c a H) (hq : H1[a]? = H[a]?) : xcell P U c a H1 := by
  match c, h with
  | .inl (ty, n, d, o), ⟨cA, X, h1, h2⟩ => exact ⟨cA, X, hq.trans h1, h2⟩
  | .inr (ci, fs), ⟨vs, h1, h2⟩ => exact ⟨vs, h1, h2.kept hq⟩
theorem xG.moved {P : xP} {u U : State} {h : xH} {H : Heap} (hvm : u.vm.Alike U.vm) (g : xG P h u H) : xG P h U H := ⟨g.1, fun k c hk => (g.2 k c hk).moved hvm⟩
-- a cell changed
theorem xG.set {P : xP} {U : State} {h : xH} {H H1 : Heap} {r : Nat} {c : xC} (g : xG P h U H) (hr : r < h.length) (hc : xcell P U c (P.2.1 + r) H1) (hz : H1.size = H.size) (hq : ∀ q : Nat, q ≠ P.2.1 + r → H1[q]? = H[q]?) : xG P (h.set r c) U H1 := by
  refine ⟨by rw [hz, g.1, List.length_set], fun k c' hk => ?_⟩
  by_cases e : k = r
  · subst e
    rw [List.getElem?_set_self hr] at hk
    cases hk
    exact hc
  · rw [List.getElem?_set_ne (Ne.symm e)] at hk
    exact (g.2 k c' hk).kept (hq _ (by omega))
theorem xG.push {P : xP} {U : State} {h : xH} {H H1 : Heap} {c : xC} (g : xG P h U H) (hc : xcell P U c H.size H1) (hz : H1.size = H.size + 1) (hq : ∀ q : Nat, q < H.size → H1[q]? = H[q]?) : xG P (h ++ [c]) U H1 := by
  refine ⟨by rw [hz, g.1, List.length_append]; simp; omega, fun k c' hk => ?_⟩
  by_cases e : k < h.length
  · rw [List.getElem?_append_left e] at hk
    exact (g.2 k c' hk).kept (hq _ (by rw [g.1]; omega))
  · rw [List.getElem?_append_right (by omega)] at hk
    have hl : k - h.length < 1 := (List.getElem?_eq_some_iff.mp hk).1
    have e2 : k = h.length := by omega
    subst e2
    rw [Nat.sub_self] at hk
    cases hk
    rw [← g.1]
    exact hc
/-! values -/
theorem x_isI_den {P : xP} {a : xV} {v : Value} (h : x_isI a = true) (d : xden P a v) : ∃ i : Int32, v = .int i := by
  match a, h, d with
  | .inl (.int i), _, d => exact ⟨i, d⟩
  | .inr (0, k), _, d => exact ⟨P.1 k, d⟩
  | .inr (2, _), _, d => exact d
theorem x_cat_den {P : xP} {a : xV} {v : Value} (d : xden P a v) : v.category = x_cat a := by
  match a, d with
  | .inl (.int i), d => cases d; rfl
  | .inl (.long i), d => cases d; rfl
  | .inl (.float i), d => cases d; rfl
  | .inl (.double i), d => cases d; rfl
  | .inl .null, d => cases d; rfl
  | .inl (.ref i), d => cases d; rfl
  | .inl (.retAddr i), d => cases d; rfl
  | .inr (0, k), d => cases d; rfl
  | .inr (1, k), d => cases d; rfl
  | .inr (2, k), ⟨_, d⟩ => cases d; rfl
  | .inr (3, k), ⟨_, d⟩ => cases d; rfl
  | .inr (4, k), d => cases d; rfl
theorem x_env_den {P : xP} {e : xE} (h : xEnv P e) (k : Nat) : (x_env e k).1 ≤ (P.1 k).toInt ∧ (P.1 k).toInt ≤ (x_env e k).2 := by
  unfold x_env
  rw [x_nth_eq]
  cases hk : e[k]? with
  | none =>
    have h1 := Int32.le_toInt (P.1 k)
    have h2 := Int32.toInt_lt (P.1 k)
    show (-2147483648 : Int) ≤ _ ∧ _ ≤ (2147483647 : Int)
    omega
  | some q => exact h.2 k q hk
theorem x_one_cases (q : Int × Int) (a d : xV) : (q.1 = q.2 ∧ x_one q a d = a) ∨ x_one q a d = d := by
  unfold x_one
  by_cases h : q.1 = q.2
  · exact Or.inl ⟨h, by rw [decide_eq_true h]; rfl⟩
  · exact Or.inr (by rw [decide_eq_false h]; rfl)
theorem x_env_one {P : xP} {e : xE} (h : xEnv P e) {k : Nat} (hq : (x_env e k).1 = (x_env e k).2) : Int32.ofInt (x_env e k).1 = P.1 k := by
  obtain ⟨h1, h2⟩ := x_env_den h k
  have : (x_env e k).1 = (P.1 k).toInt := by omega
  rw [this, Int32.ofInt_toInt]
theorem x_nm_den {P : xP} {e : xE} (h : xEnv P e) {a : xV} {v : Value} (d : xden P a v) : xden P (x_nm e a) v := by
  match a, d with
  | .inl w, d => exact d
  | .inr (0, k), d =>
    show xden P (x_one _ _ _) v
    rcases x_one_cases (x_env e k) (.inl (.int (Int32.ofInt (x_env e k).1))) (.inr (0, k)) with ⟨hq, r⟩ | r
    · rw [r, x_env_one h hq]; exact d
    · rw [r]; exact d
  | .inr (1, k), d =>
    show xden P (x_one _ _ _) v
    rcases x_one_cases (x_env e k) (.inl (.long (Int32.ofInt (x_env e k).1).toInt64)) (.inr (1, k)) with ⟨hq, r⟩ | r
    · rw [r, x_env_one h hq]; exact d
    · rw [r]; exact d
  | .inr (2, k), d => exact d
  | .inr (3, k), d => exact d
  | .inr (4, k), d => exact d
theorem x_frc_eq (v : xV) (f : xV → Option (List xO)) : x_frc v f = f v := by cases v <;> rfl
theorem x_sum_den {P : xP} : ∀ {as : List xV} {vs : List Value}, xdens P as vs → (vs.map fun v => v.category).sum = x_sum as
  | [], [], _ => rfl
  | a :: as, v :: vs, ⟨d, ds⟩ => by
    show (v.category :: vs.map fun v => v.category).sum = x_cat a + x_sum as
    rw [List.sum_cons, x_sum_den ds, x_cat_den d]
theorem x_get_den {P : xP} {i : Nat} {a : xV} : ∀ {L : xL} {lv : List (Nat × Value)}, xldens P L lv → x_get L i = some a → ∃ v, xden P a v ∧ (i, v) ∈ lv
  | [], [], _, h => by cases h
  | q :: L, w :: lv, ⟨⟨e, d⟩, ds⟩, h => by
    change cond (Nat.beq q.1 i) (some q.2) (x_get L i) = some a at h
    cases hb : Nat.beq q.1 i with
    | true =>
      rw [hb] at h
      cases h
      have hi : q.1 = i := Nat.eq_of_beq_eq_true hb
      exact ⟨w.2, d, by rw [← hi, e]; exact List.mem_cons_self⟩
    | false =>
      rw [hb] at h
      obtain ⟨v, h1, h2⟩ := x_get_den ds h
      exact ⟨v, h1, List.mem_cons_of_mem _ h2⟩
theorem x_ldens_filter {P : xP} {f : Nat × xV → Bool} {g : Nat × Value → Bool} (hfg : ∀ i a v, xden P a v → f (i, a) = g (i, v)) : ∀ {L : xL} {lv : List (Nat × Value)}, xldens P L lv → xldens P (L.filter f) (lv.filter g)
  | [], [], _ => trivial
  | q :: L, w :: lv, ⟨⟨e, d⟩, ds⟩ => by
    have hq : f q = g w := by
      have := hfg q.1 q.2 w.2 d
      rw [show (q.1, w.2) = w from by rw [e]] at this
      exact this
    rw [List.filter_cons, List.filter_cons, hq]
    cases g w with
    | true => exact ⟨⟨e, d⟩, x_ldens_filter hfg ds⟩
    | false => exact x_ldens_filter hfg ds
theorem x_keep1_den {P : xP} (n i : Nat) (a : xV) (v : Value) (d : xden P a v) : x_keep1 n (i, a) = (!((i, v).1 == n) && !((i, v).1 + 1 == n && (i, v).2.category == 2)) := by
  show (!(i == n) && !(i + 1 == n && x_cat a == 2)) = (!(i == n) && !(i + 1 == n && v.category == 2))
  rw [x_cat_den d]
end
section
/-! THE ENGINE'S STEPS HOLD OF THE MACHINE -/
abbrev xM : Type := String × ByteArray × Nat × Option FieldType × String × Room
def xTB : List Cond := lw_tbl.filter goodWord
theorem xTB_good {ws : List Cond} (h : ∀ w ∈ ws, w ∈ xTB) : GoodIn xTB ws := fun w hw => ⟨h w hw, good_of_word (List.mem_filter.mp (h w hw)).2⟩
theorem xTB_in {w : Cond} (h : w ∈ lw_tbl) (hg : goodWord w = true) : w ∈ xTB := List.mem_filter.mpr ⟨h, hg⟩
def xCx (μ : xM) (p : Program) (s : State) (m : MethodId) (args : Array Value) (meth : Method) (c : Code) (R : Room) : Prop :=
  p.tables.exec = Jvm.exec ∧ c.code = μ.2.1 ∧ c.maxLocals = μ.2.2.1 ∧ s.vm.findClass μ.1 = some m.cls ∧ (∀ w ∈ xTB, w.before args s = true) ∧ meth.sig.returnType = μ.2.2.2.1 ∧ meth.locks = false ∧ meth.name = μ.2.2.2.2.1 ∧ R = μ.2.2.2.2.2
def xJ (P : xP) (nL : Nat) (R : Room) (s : State) (st : xS) (H : Heap) (locs : List Loc) (cells slots : Nat) (ls : Array Slot) (stk : List Value) : Prop :=
  xEnv P st.1 ∧ cells + st.2.1 ≤ R.cells ∧ slots + st.2.2.1 ≤ R.slots ∧ xG P st.2.2.2.1 s H ∧ (∃ lv, lv_has ls nL lv ∧ xldens P st.2.2.2.2.1 lv) ∧ xdens P st.2.2.2.2.2 stk ∧ xX P s H ∧ (∀ q ∈ locs, P.2.1 ≤ q.base) ∧ va_K P.2.2.2.1 vwCl [] s
def xRet (μ : xM) (pc : Nat) (ov : Option Value) : Prop := match ov with
  | some (.int x) => decode μ.2.1 pc = .ok (.ireturn, 1) ∧ ∃ ty, μ.2.2.2.1 = some ty ∧ narrow ty (.int x) = .int x
  | some (.long _) => decode μ.2.1 pc = .ok (.lreturn, 1) ∧ μ.2.2.2.1 = some .long
  | none => decode μ.2.1 pc = .ok (.return_, 1) ∧ μ.2.2.2.1 = none
  | _ => False
def xKR (P : xP) (μ : xM) (p : Program) (l : Launch) (e : Env) (R : Room) (s : State) (m : MethodId) (args : Array Value) (below : List Frame) (meth : Method) (c : Code) (Q : State → Prop) (r : xR) : Prop :=
  ∀ (H : Heap) (locs : List Loc) (cells slots pc : Nat) (ls : Array Slot) (ov : Option Value), xEnv P r.1 → cells ≤ R.cells → slots ≤ R.slots → xG P r.2.1 s H → xX P s H → (∀ q ∈ locs, P.2.1 ≤ q.base) → xdenO P r.2.2 ov → xRet μ pc ov → W p l e R s m args below meth c H locs cells slots Q (F0 m pc ls ov.toList)
def xKO (P : xP) (μ : xM) (p : Program) (l : Launch) (e : Env) (R : Room) (s : State) (m : MethodId) (args : Array Value) (below : List Frame) (meth : Method) (c : Code) (Q : State → Prop) (o : xO) : Prop := match o with
  | .inl r => xKR P μ p l e R s m args below meth c Q r
  | .inr q => ∀ (H : Heap) (locs : List Loc) (cells slots : Nat) (ls : Array Slot) (stk : List Value), xJ P μ.2.2.1 R s q.2 H locs cells slots ls stk → W p l e R s m args below meth c H locs cells slots Q (F0 m q.1 ls stk)
def xWs (y : xY) : List Cond := Cond.code y.1 y.2.1 y.2.2.1 y.2.2.2.1 :: xTB
def xPc (P : xP) (h : xH) (vs : List Value) : Array Value → State → Prop := fun a U => a = vs.toArray ∧ xG P h U U.heap ∧ xX P U U.heap ∧ va_K P.2.2.2.1 vwCl [] U
def xQc (P : xP) (rs : List xR) : Array Value → State → Outcome → State → Prop := fun _ st oc t => ∃ r ∈ rs, xEnv P r.1 ∧ (∃ ov, xdenO P r.2.2 ov ∧ oc = .returned ov) ∧ xG P r.2.1 t t.heap ∧ ∀ q : Nat, q < P.2.1 → t.heap[q]? = st.heap[q]?
def xMet (l : Launch) (P : xP) (M : List (xY × xT)) (cf : xF) : Prop := ∀ mi y t, M[mi]? = some (y, t) → ∀ e h as rs, cf mi e h as = some rs → xEnv P e → ∀ vs, xdens P as vs → Met l y.1 (xWs y) y.2.2.2.2 (xPc P h vs) (xQc P rs) y.2.2.2.2.cells y.2.2.2.2.slots (fun z => P.2.1 ≤ z)
def xSim (l : Launch) (P : xP) (M : List (xY × xT)) (μ : xM) (pc : Nat) (ri : xI) : Prop :=
  ∀ (p : Program) (e : Env) (s : State) (m : MethodId) (args : Array Value) (below : List Frame) (meth : Method) (c : Code) (R : Room) (Q : State → Prop), xCx μ p s m args meth c R → ∀ cf : xF, xMet l P M cf → ∀ (st : xS) (outs : List xO), ri cf st = some outs →
  ∀ (H : Heap) (locs : List Loc) (cells slots : Nat) (ls : Array Slot) (stk : List Value), xJ P μ.2.2.1 R s st H locs cells slots ls stk → (∀ o ∈ outs, xKO P μ p l e R s m args below meth c Q o) → W p l e R s m args below meth c H locs cells slots Q (F0 m pc ls stk)
theorem x_mem1 {α : Type} (a : α) : a ∈ [a] := List.mem_singleton.mpr rfl
/-! what each shape of step says of the stack -/
section INV
variable {P : xP} {e : xE} {cl sl nx : Nat} {h : xH} {L : xL} {S : List xV} {outs : List xO} {cf : xF} {stk : List Value}
end INV
end
section
/-! comparing -/
theorem x_le_min (z a b : Int) : z ≤ x_min a b ↔ z ≤ a ∧ z ≤ b := by
  unfold x_min
  by_cases h : a ≤ b
  · rw [decide_eq_true h]; show z ≤ a ↔ _; omega
  · rw [decide_eq_false h]; show z ≤ b ↔ _; omega
theorem x_max_le (z a b : Int) : x_max a b ≤ z ↔ a ≤ z ∧ b ≤ z := by
  unfold x_max
  by_cases h : a ≤ b
  · rw [decide_eq_true h]; show b ≤ z ↔ _; omega
  · rw [decide_eq_false h]; show a ≤ z ↔ _; omega
def x_rel (b : Nat) (x y : Int) : Prop := match b with
  | 0 => x < y
  | 1 => y < x
  | _ => x = y
theorem x_lit_rel (b : Nat) (x y : Int) : x_lit b x y = true ↔ x_rel b x y := by
  match b with
  | 0 => exact decide_eq_true_iff
  | 1 => exact decide_eq_true_iff
  | _ + 2 => exact decide_eq_true_iff
theorem x_yes_in {b : Nat} {q : Int × Int} {x y : Int} (h : q.1 ≤ x ∧ x ≤ q.2) (hr : x_rel b x y) : (x_yes b q y).1 ≤ x ∧ x ≤ (x_yes b q y).2 := by
  match b, hr with
  | 0, hr =>
    have hr : x < y := hr
    show q.1 ≤ x ∧ x ≤ x_min q.2 (y - 1)
    rw [x_le_min]; omega
  | 1, hr =>
    have hr : y < x := hr
    show x_max q.1 (y + 1) ≤ x ∧ x ≤ q.2
    rw [x_max_le]; omega
  | _ + 2, hr =>
    have hr : x = y := hr
    show x_max q.1 y ≤ x ∧ x ≤ x_min q.2 y
    rw [x_max_le, x_le_min]; omega
theorem x_no_in {b : Nat} {q : Int × Int} {x y : Int} (h : q.1 ≤ x ∧ x ≤ q.2) (hr : ¬ x_rel b x y) : ((x_no1 b q y).1 ≤ x ∧ x ≤ (x_no1 b q y).2) ∨ ((x_no2 b q y).1 ≤ x ∧ x ≤ (x_no2 b q y).2) := by
  match b, hr with
  | 0, hr =>
    have hr : ¬ x < y := hr
    refine Or.inl ?_
    show x_max q.1 y ≤ x ∧ x ≤ q.2
    rw [x_max_le]; omega
  | 1, hr =>
    have hr : ¬ y < x := hr
    refine Or.inl ?_
    show q.1 ≤ x ∧ x ≤ x_min q.2 y
    rw [x_le_min]; omega
  | _ + 2, hr =>
    have hr : ¬ x = y := hr
    by_cases h1 : x < y
    · refine Or.inl ?_
      show q.1 ≤ x ∧ x ≤ x_min q.2 (y - 1)
      rw [x_le_min]; omega
    · refine Or.inr ?_
      show x_max q.1 (y + 1) ≤ x ∧ x ≤ q.2
      rw [x_max_le]; omega
theorem x_flip_rel (b : Nat) (x y : Int) : x_rel (x_flip b) x y ↔ x_rel b y x := by
  match b with
  | 0 => exact Iff.rfl
  | 1 => exact Iff.rfl
  | _ + 2 => exact eq_comm
theorem x_put_den {P : xP} {e : xE} {k : Nat} {q : Int × Int} {o : xE → xO} {rest outs : List xO} (ho : x_put e k q o rest = some outs) (je : xEnv P e) : (∀ z ∈ rest, z ∈ outs) ∧ (q.1 ≤ (P.1 k).toInt ∧ (P.1 k).toInt ≤ q.2 → ∃ e', xEnv P e' ∧ o e' ∈ outs) := by
  unfold x_put at ho
  by_cases h : q.1 ≤ q.2
  · rw [decide_eq_true h] at ho
    have ho : x_kZ q.1 (fun a => x_kZ q.2 (fun b => x_set e k (a, b) (fun e' => some (o e' :: rest)))) = some outs := ho
    rw [x_kZ_eq, x_kZ_eq] at ho
    obtain ⟨hk, ho⟩ := x_set_eq _ _ _ _ ho
    have ho := Option.some.inj ho
    subst ho
    refine ⟨fun z hz => List.mem_cons_of_mem _ hz, fun hq => ⟨_, ⟨je.1, fun j r hj => ?_⟩, List.mem_cons_self⟩⟩
    by_cases e1 : j = k
    · subst e1
      rw [List.getElem?_set_self hk] at hj
      cases hj
      exact hq
    · rw [List.getElem?_set_ne (Ne.symm e1)] at hj
      exact je.2 j r hj
  · rw [decide_eq_false h] at ho
    have ho : some rest = some outs := ho
    cases ho
    exact ⟨fun z hz => hz, fun hq => absurd (Int.le_trans hq.1 hq.2) h⟩
theorem x_fork_den {P : xP} {b : Nat} {e : xE} {k : Nat} {y : Int} {oT oF : xE → xO} {outs : List xO} (ho : x_fork b e k y oT oF = some outs) (je : xEnv P e) : (x_rel b (P.1 k).toInt y → ∃ e', xEnv P e' ∧ oT e' ∈ outs) ∧ (¬ x_rel b (P.1 k).toInt y → ∃ e', xEnv P e' ∧ oF e' ∈ outs) := by
  unfold x_fork at ho
  cases h1 : x_put e k (x_no1 b (x_env e k) y) oF [] with
  | none => rw [h1] at ho; cases ho
  | some r =>
    rw [h1] at ho
    have ho : (match x_put e k (x_no2 b (x_env e k) y) oF r with
      | some r => x_put e k (x_yes b (x_env e k) y) oT r
      | none => none) = some outs := ho
    cases h2 : x_put e k (x_no2 b (x_env e k) y) oF r with
    | none => rw [h2] at ho; cases ho
    | some r2 =>
      rw [h2] at ho
      have ho : x_put e k (x_yes b (x_env e k) y) oT r2 = some outs := ho
      obtain ⟨a1, a2⟩ := x_put_den h1 je
      obtain ⟨b1, b2⟩ := x_put_den h2 je
      obtain ⟨c1, c2⟩ := x_put_den ho je
      refine ⟨fun hr => c2 (x_yes_in (x_env_den je k) hr), fun hr => ?_⟩
      rcases x_no_in (x_env_den je k) hr with q | q
      · obtain ⟨e', d1, d2⟩ := a2 q
        exact ⟨e', d1, c1 _ (b1 _ d2)⟩
      · obtain ⟨e', d1, d2⟩ := b2 q
        exact ⟨e', d1, c1 _ d2⟩
theorem x_br_den {P : xP} {b : Nat} {e : xE} {x y : xV} {oT oF : xE → xO} {outs : List xO} {v w : Value} (ho : x_br b e x y oT oF = some outs) (je : xEnv P e) (dx : xden P x v) (dy : xden P y w) : ∃ a c : Int32, v = .int a ∧ w = .int c ∧ (x_rel b a.toInt c.toInt → ∃ e', xEnv P e' ∧ oT e' ∈ outs) ∧ (¬ x_rel b a.toInt c.toInt → ∃ e', xEnv P e' ∧ oF e' ∈ outs) := by
  match x, y, dx, dy, ho with
  | .inl (.int a), .inl (.int c), dx, dy, ho =>
    have ho : cond (x_lit b a.toInt c.toInt) (some [oT e]) (some [oF e]) = some outs := ho
    refine ⟨a, c, dx, dy, fun hr => ?_, fun hr => ?_⟩
    · rw [(x_lit_rel _ _ _).mpr hr] at ho
      have ho : some [oT e] = some outs := ho
      cases ho
      exact ⟨e, je, x_mem1 _⟩
    · rw [Bool.eq_false_iff.mpr (fun h => hr ((x_lit_rel _ _ _).mp h))] at ho
      have ho : some [oF e] = some outs := ho
      cases ho
      exact ⟨e, je, x_mem1 _⟩
  | .inr (0, k), .inl (.int c), dx, dy, ho =>
    have ho : x_fork b e k c.toInt oT oF = some outs := ho
    exact ⟨P.1 k, c, dx, dy, x_fork_den ho je⟩
  | .inl (.int c), .inr (0, k), dx, dy, ho =>
    have ho : x_fork (x_flip b) e k c.toInt oT oF = some outs := ho
    obtain ⟨h1, h2⟩ := x_fork_den ho je
    exact ⟨c, P.1 k, dx, dy, fun hr => h1 ((x_flip_rel _ _ _).mpr hr), fun hr => h2 (fun q => hr ((x_flip_rel _ _ _).mp q))⟩
-- a switch: the target of a number
/-! arrays' contents -/
theorem x_eqv_eq {v d : xV} (h : x_eqv v d = true) : v = d := by
  match v, d, h with
  | .inl (.int a), .inl (.int b), h =>
    have h := Nat.eq_of_beq_eq_true h
    rw [← x_i32 a, h, x_i32 b]
  | .inl (.long a), .inl (.long b), h =>
    have h := Nat.eq_of_beq_eq_true h
    rw [← x_i64 a, h, x_i64 b]
theorem x_upd_lk {j : Nat} {v d : xV} (k : Nat) : ∀ o : List (Nat × xV), x_lk (x_upd o j v d) d k = if k = j then v else x_lk o d k
  | [] => by
    show x_lk (cond (x_eqv v d) [] [(j, v)]) d k = if k = j then v else d
    cases h : x_eqv v d with
    | true =>
      have := x_eqv_eq h
      subst this
      show v = _
      split <;> rfl
    | false =>
      show cond (Nat.beq j k) v d = _
      cases hb : Nat.beq j k with
      | true => rw [if_pos (Nat.eq_of_beq_eq_true hb).symm]; rfl
      | false => rw [if_neg (fun q => Nat.ne_of_beq_eq_false hb q.symm)]; rfl
  | q :: t => by
    show x_lk (cond (Nat.beq q.1 j) ((j, v) :: t) (q :: x_upd t j v d)) d k = if k = j then v else cond (Nat.beq q.1 k) q.2 (x_lk t d k)
    cases hj : Nat.beq q.1 j with
    | true =>
      have hj := Nat.eq_of_beq_eq_true hj
      show cond (Nat.beq j k) v (x_lk t d k) = _
      cases hb : Nat.beq j k with
      | true => rw [if_pos (Nat.eq_of_beq_eq_true hb).symm]; rfl
      | false =>
        rw [if_neg (fun q => Nat.ne_of_beq_eq_false hb q.symm), hj, hb]; rfl
    | false =>
      have hj := Nat.ne_of_beq_eq_false hj
      show cond (Nat.beq q.1 k) q.2 (x_lk (x_upd t j v d) d k) = _
      cases hb : Nat.beq q.1 k with
      | true =>
        rw [if_neg (fun z => hj ((Nat.eq_of_beq_eq_true hb).trans z))]; rfl
      | false => exact x_upd_lk k t
theorem x_idx_den {β : Type} {i : Int32} {n : Nat} {f : Nat → Option β} {r : β} (h : x_idx i n f = some r) : vp_in i n ∧ i.toNatClampNeg < n ∧ ¬ i < 0 ∧ f i.toNatClampNeg = some r := by
  unfold x_idx at h
  cases h1 : (Nat.ble n 2147483647 && Nat.blt i.toBitVec.toNat n) with
  | false => rw [h1] at h; cases h
  | true =>
    rw [h1] at h
    have h : x_kN i.toBitVec.toNat f = some r := h
    rw [x_kN_eq] at h
    rw [Bool.and_eq_true] at h1
    have a1 := Nat.le_of_ble_eq_true h1.1
    have a2 : i.toBitVec.toNat < n := Nat.le_of_ble_eq_true h1.2
    have e1 : i.toInt = (i.toBitVec.toNat : Int) := by
      show i.toBitVec.toInt = _
      rw [BitVec.toInt_eq_toNat_of_lt (by omega)]
    have e2 : i.toNatClampNeg = i.toBitVec.toNat := by
      show i.toInt.toNat = _
      rw [e1]; rfl
    have e3 : ¬ i < 0 := by
      rw [Int32.lt_iff_toInt_lt, e1, Int32.toInt_zero]; omega
    rw [e2]
    exact ⟨fun q => q.elim e3 (by rw [e2]; omega), a2, e3, h⟩
theorem x_nth_dens {P : xP} {a : xV} : ∀ {k : Nat} {as : List xV} {vs : List Value}, xdens P as vs → x_nth as k = some a → ∃ v, vs[k]? = some v ∧ xden P a v
  | _, [], [], _, h => by rw [x_nth_eq] at h; simp at h
  | 0, b :: as, v :: vs, ⟨d, _⟩, h => by cases h; exact ⟨v, rfl, d⟩
  | k + 1, b :: as, v :: vs, ⟨_, d⟩, h => x_nth_dens (k := k) d h
theorem x_dens_len {P : xP} : ∀ {as : List xV} {vs : List Value}, xdens P as vs → as.length = vs.length
  | [], [], _ => rfl
  | _ :: as, _ :: vs, ⟨_, d⟩ => by rw [List.length_cons, List.length_cons, x_dens_len d]
theorem x_dens_set {P : xP} {a : xV} {w : Value} (dw : xden P a w) : ∀ {k : Nat} {as : List xV} {vs : List Value}, xdens P as vs → xdens P (as.set k a) (vs.set k w)
  | _, [], [], _ => trivial
  | 0, b :: as, v :: vs, ⟨_, d⟩ => ⟨dw, d⟩
  | k + 1, b :: as, v :: vs, ⟨d0, d⟩ => ⟨d0, x_dens_set dw (k := k) d⟩
theorem x_dens_app {P : xP} : ∀ {as : List xV} {vs : List Value} {bs : List xV} {ws : List Value}, xdens P as vs → xdens P bs ws → xdens P (as ++ bs) (vs ++ ws)
  | [], [], _, _, _, h => h
  | _ :: as, _ :: vs, _, _, ⟨d, ds⟩, h => ⟨d, x_dens_app ds h⟩
-- arguments off the stack
theorem x_take_den {P : xP} {outs : List xO} {f : List xV → List xV → Option (List xO)} : ∀ {n : Nat} {S acc : List xV} {stk accv : List Value}, x_take n S f acc = some outs → xdens P S stk → xdens P acc accv → ∃ (as S' : List xV) (vs stk' : List Value), as.length = n ∧ stk = vs.reverse ++ stk' ∧ xdens P as vs ∧ xdens P S' stk' ∧ f (as ++ acc) S' = some outs
  | 0, S, acc, stk, accv, h, d, da => ⟨[], S, [], stk, rfl, rfl, trivial, d, h⟩
  | n + 1, v :: S, acc, w :: stk, accv, h, ⟨d0, d⟩, da => by
    have h : x_take n S f (v :: acc) = some outs := h
    obtain ⟨as, S', vs, stk', e1, e2, e3, e4, e5⟩ := x_take_den (acc := v :: acc) (accv := w :: accv) h d ⟨d0, da⟩
    refine ⟨as ++ [v], S', vs ++ [w], stk', by simp [e1], by simp [e2], x_dens_app e3 ⟨d0, trivial⟩, e4, by simpa using e5⟩
  | n + 1, [], acc, [], accv, h, d, da => by cases h
theorem x_args_den {P : xP} : ∀ {i : Nat} {as : List xV} {vs : List Value}, xdens P as vs → xldens P (x_args i as) (lv_args i vs)
  | _, [], [], _ => trivial
  | i, a :: as, v :: vs, ⟨d, ds⟩ => by
    show xldens P ((i, a) :: x_args (cond (Nat.beq (x_cat a) 2) (i + 2) (i + 1)) as) ((i, v) :: lv_args (if v.category = 2 then i + 2 else i + 1) vs)
    refine ⟨⟨rfl, d⟩, ?_⟩
    have e : cond (Nat.beq (x_cat a) 2) (i + 2) (i + 1) = if v.category = 2 then i + 2 else i + 1 := by
      rw [x_cat_den d]
      cases hb : Nat.beq (x_cat a) 2 with
      | true => rw [if_pos (Nat.eq_of_beq_eq_true hb)]; rfl
      | false => rw [if_neg (Nat.ne_of_beq_eq_false hb)]; rfl
    rw [e]
    exact x_args_den ds
end
section
/-! THE STEPS, one by one -/
def x_isA (v : xV) : Bool := match v with
  | .inl (.ref _) => true
  | .inr (4, _) => true
  | _ => false
theorem x_isA_den {P : xP} {a : xV} {v : Value} (h : x_isA a = true) (d : xden P a v) : ∃ i : Nat, v = .ref i := by
  match a, h, d with
  | .inl (.ref i), _, d => exact ⟨_, d⟩
  | .inr (4, k), _, d => exact ⟨_, d⟩
theorem x_load {P : xP} {ok : xV → Bool} {i nx cl sl : Nat} {cf : xF} {en : xE} {h : xH} {L : xL} {S : List xV} {outs : List xO} {lv : List (Nat × Value)} (ho : i_load ok i nx cf (en, cl, sl, h, L, S) = some outs) (je : xEnv P en) (jd : xldens P L lv) : ∃ a v, (i, v) ∈ lv ∧ xden P a v ∧ ok a = true ∧ outs = [.inr (nx, en, cl, sl, h, L, a :: S)] := by
  have ho : (match x_get L i with
    | some v => x_frc (x_nm en v) (fun v => cond (ok v) (some [Sum.inr (nx, en, cl, sl, h, L, v :: S)]) none)
    | none => none) = some outs := ho
  cases hg : x_get L i with
  | none => rw [hg] at ho; cases ho
  | some a =>
    rw [hg] at ho
    have ho : x_frc (x_nm en a) (fun v => cond (ok v) (some [Sum.inr (nx, en, cl, sl, h, L, v :: S)]) none) = some outs := ho
    rw [x_frc_eq] at ho
    obtain ⟨v, h1, h2⟩ := x_get_den jd hg
    cases hk : ok (x_nm en a) with
    | false => rw [hk] at ho; cases ho
    | true =>
      rw [hk] at ho
      exact ⟨_, v, h2, x_nm_den je h1, hk, (Option.some.inj ho).symm⟩
theorem x_store1 {P : xP} {ok : xV → Bool} {nL i nx cl sl : Nat} {cf : xF} {en : xE} {h : xH} {L : xL} {S : List xV} {outs : List xO} {stk : List Value} (ho : i_store1 ok nL i nx cf (en, cl, sl, h, L, S) = some outs) (jS : xdens P S stk) : ∃ a v S' stk', stk = v :: stk' ∧ xden P a v ∧ xdens P S' stk' ∧ ok a = true ∧ i < nL ∧ outs = [.inr (nx, en, cl, sl, h, (i, a) :: L.filter (x_keep1 i), S')] := by
  match S, stk, jS, ho with
  | a :: S, v :: stk, ⟨d, ds⟩, ho =>
    have ho : cond (ok a && Nat.blt i nL) (x_lst nx en cl sl h ((i, a) :: L.filter (x_keep1 i)) S) none = some outs := ho
    cases hc : (ok a && Nat.blt i nL) with
    | false => rw [hc] at ho; cases ho
    | true =>
      rw [hc] at ho
      have ho : x_spine ((i, a) :: L.filter (x_keep1 i)) (fun L => some [Sum.inr (nx, en, cl, sl, h, L, S)]) = some outs := ho
      rw [x_spine_eq] at ho
      rw [Bool.and_eq_true] at hc
      exact ⟨a, v, S, stk, rfl, d, ds, hc.1, Nat.le_of_ble_eq_true hc.2, (Option.some.inj ho).symm⟩
section STEPS
variable {l : Launch} {P : xP} {M : List (xY × xT)} {μ : xM} {pc : Nat}

theorem s_iconst {n : Int} (v : Int32) (hd : decode μ.2.1 pc = .ok (.iconst n, 1)) (hv : Int32.ofInt n = v) : xSim l P M μ pc (i_push (.inl (.int v)) (pc + 1)) := by
  intro p e s m args below meth c R Q C cf hcf st outs ho H locs cells slots ls stk J K
  obtain ⟨hx, hb, hml, hown, hts, hr, hlk, hnm, hR⟩ := C
  obtain ⟨en, cl, sl, h, L, S⟩ := st
  obtain ⟨je, jc, js, jg, ⟨lv, jl, jd⟩, jS, jx, jo, jk⟩ := J
  have ho := Option.some.inj ho
  subst ho
  exact lv_iconst hx hb hd hv (K _ (x_mem1 _) _ _ _ _ _ _ ⟨je, jc, js, jg, ⟨lv, jl, jd⟩, ⟨rfl, jS⟩, jx, jo, jk⟩)

theorem s_bipush {n : Int} (v : Int32) (hd : decode μ.2.1 pc = .ok (.bipush n, 2)) (hv : (Int8.ofInt n).toInt32 = v) : xSim l P M μ pc (i_push (.inl (.int v)) (pc + 2)) := by
  intro p e s m args below meth c R Q C cf hcf st outs ho H locs cells slots ls stk J K
  obtain ⟨hx, hb, hml, hown, hts, hr, hlk, hnm, hR⟩ := C
  obtain ⟨en, cl, sl, h, L, S⟩ := st
  obtain ⟨je, jc, js, jg, ⟨lv, jl, jd⟩, jS, jx, jo, jk⟩ := J
  have ho := Option.some.inj ho
  subst ho
  exact lv_bipush hx hb hd hv (K _ (x_mem1 _) _ _ _ _ _ _ ⟨je, jc, js, jg, ⟨lv, jl, jd⟩, ⟨rfl, jS⟩, jx, jo, jk⟩)

theorem s_sipush {n : Int} (v : Int32) (hd : decode μ.2.1 pc = .ok (.sipush n, 3)) (hv : (Int16.ofInt n).toInt32 = v) : xSim l P M μ pc (i_push (.inl (.int v)) (pc + 3)) := by
  intro p e s m args below meth c R Q C cf hcf st outs ho H locs cells slots ls stk J K
  obtain ⟨hx, hb, hml, hown, hts, hr, hlk, hnm, hR⟩ := C
  obtain ⟨en, cl, sl, h, L, S⟩ := st
  obtain ⟨je, jc, js, jg, ⟨lv, jl, jd⟩, jS, jx, jo, jk⟩ := J
  have ho := Option.some.inj ho
  subst ho
  exact lv_sipush hx hb hd hv (K _ (x_mem1 _) _ _ _ _ _ _ ⟨je, jc, js, jg, ⟨lv, jl, jd⟩, ⟨rfl, jS⟩, jx, jo, jk⟩)

theorem s_lconst {n : Fin 2} (v : Int64) (hd : decode μ.2.1 pc = .ok (.lconst n, 1)) (hv : Int64.ofNat (n : Nat) = v) : xSim l P M μ pc (i_push (.inl (.long v)) (pc + 1)) := by
  intro p e s m args below meth c R Q C cf hcf st outs ho H locs cells slots ls stk J K
  obtain ⟨hx, hb, hml, hown, hts, hr, hlk, hnm, hR⟩ := C
  obtain ⟨en, cl, sl, h, L, S⟩ := st
  obtain ⟨je, jc, js, jg, ⟨lv, jl, jd⟩, jS, jx, jo, jk⟩ := J
  have ho := Option.some.inj ho
  subst ho
  exact lv_lconst hx hb hd hv (K _ (x_mem1 _) _ _ _ _ _ _ ⟨je, jc, js, jg, ⟨lv, jl, jd⟩, ⟨rfl, jS⟩, jx, jo, jk⟩)

theorem s_iload_n {k : Fin 4} {i : Nat} (hd : decode μ.2.1 pc = .ok (.iload_n k, 1)) (hi : (k : Nat) = i) : xSim l P M μ pc (i_load x_isI i (pc + 1)) := by
  intro p e s m args below meth c R Q C cf hcf st outs ho H locs cells slots ls stk J K
  obtain ⟨hx, hb, hml, hown, hts, hr, hlk, hnm, hR⟩ := C
  obtain ⟨en, cl, sl, h, L, S⟩ := st
  obtain ⟨je, jc, js, jg, ⟨lv, jl, jd⟩, jS, jx, jo, jk⟩ := J
  obtain ⟨a, v, hm, dv, hok, rfl⟩ := x_load ho je jd
  obtain ⟨x, rfl⟩ := x_isI_den hok dv
  exact lv_iload_n hx hb hd hi (jl.2.2 _ hm) (K _ (x_mem1 _) _ _ _ _ _ _ ⟨je, jc, js, jg, ⟨lv, jl, jd⟩, ⟨dv, jS⟩, jx, jo, jk⟩)

theorem s_aload_n {k : Fin 4} {i : Nat} (hd : decode μ.2.1 pc = .ok (.aload_n k, 1)) (hi : (k : Nat) = i) : xSim l P M μ pc (i_load x_isA i (pc + 1)) := by
  intro p e s m args below meth c R Q C cf hcf st outs ho H locs cells slots ls stk J K
  obtain ⟨hx, hb, hml, hown, hts, hr, hlk, hnm, hR⟩ := C
  obtain ⟨en, cl, sl, h, L, S⟩ := st
  obtain ⟨je, jc, js, jg, ⟨lv, jl, jd⟩, jS, jx, jo, jk⟩ := J
  obtain ⟨a, v, hm, dv, hok, rfl⟩ := x_load ho je jd
  obtain ⟨x, rfl⟩ := x_isA_den hok dv
  exact lv_aload_n hx hb hd hi (jl.2.2 _ hm) (K _ (x_mem1 _) _ _ _ _ _ _ ⟨je, jc, js, jg, ⟨lv, jl, jd⟩, ⟨dv, jS⟩, jx, jo, jk⟩)

theorem s_istore_n {k : Fin 4} {i : Nat} (hd : decode μ.2.1 pc = .ok (.istore_n k, 1)) (hi : (k : Nat) = i) : xSim l P M μ pc (i_store1 x_isI μ.2.2.1 i (pc + 1)) := by
  intro p e s m args below meth c R Q C cf hcf st outs ho H locs cells slots ls stk J K
  obtain ⟨hx, hb, hml, hown, hts, hr, hlk, hnm, hR⟩ := C
  obtain ⟨en, cl, sl, h, L, S⟩ := st
  obtain ⟨je, jc, js, jg, ⟨lv, jl, jd⟩, jS, jx, jo, jk⟩ := J
  obtain ⟨a, v, S, stk, rfl, dv, ds, hok, hn, rfl⟩ := x_store1 ho jS
  obtain ⟨x, rfl⟩ := x_isI_den hok dv
  exact lv_istore_n hx hb hd hi jl hn rfl (fun ls hl => K _ (x_mem1 _) _ _ _ _ _ _ ⟨je, jc, js, jg, ⟨_, hl, ⟨⟨rfl, dv⟩, x_ldens_filter (x_keep1_den i) jd⟩⟩, ds, jx, jo, jk⟩)

theorem s_astore_n {k : Fin 4} {i : Nat} (hd : decode μ.2.1 pc = .ok (.astore_n k, 1)) (hi : (k : Nat) = i) : xSim l P M μ pc (i_store1 x_isA μ.2.2.1 i (pc + 1)) := by
  intro p e s m args below meth c R Q C cf hcf st outs ho H locs cells slots ls stk J K
  obtain ⟨hx, hb, hml, hown, hts, hr, hlk, hnm, hR⟩ := C
  obtain ⟨en, cl, sl, h, L, S⟩ := st
  obtain ⟨je, jc, js, jg, ⟨lv, jl, jd⟩, jS, jx, jo, jk⟩ := J
  obtain ⟨a, v, S, stk, rfl, dv, ds, hok, hn, rfl⟩ := x_store1 ho jS
  obtain ⟨x, rfl⟩ := x_isA_den hok dv
  exact lv_astore_n hx hb hd hi jl hn rfl (fun ls hl => K _ (x_mem1 _) _ _ _ _ _ _ ⟨je, jc, js, jg, ⟨_, hl, ⟨⟨rfl, dv⟩, x_ldens_filter (x_keep1_den i) jd⟩⟩, ds, jx, jo, jk⟩)

theorem s_iinc {n : Int} {i : Nat} (z : Int32) (hd : decode μ.2.1 pc = .ok (.iinc i n, 3)) (hz : Int32.ofInt n = z) : xSim l P M μ pc (i_iinc μ.2.2.1 i z (pc + 3)) := by
  intro p e s m args below meth c R Q C cf hcf st outs ho H locs cells slots ls stk J K
  obtain ⟨hx, hb, hml, hown, hts, hr, hlk, hnm, hR⟩ := C
  obtain ⟨en, cl, sl, h, L, S⟩ := st
  obtain ⟨je, jc, js, jg, ⟨lv, jl, jd⟩, jS, jx, jo, jk⟩ := J
  have ho : (match x_get L i with
    | some (.inl (.int x)) => cond (Nat.blt i μ.2.2.1) (x_k32 (x + z) (fun r => x_lst (pc + 3) en cl sl h ((i, .inl (.int r)) :: L.filter (x_keep1 i)) S)) none
    | _ => none) = some outs := ho
  cases hg : x_get L i with
  | none => rw [hg] at ho; cases ho
  | some a =>
    rw [hg] at ho
    match a, hg, ho with
    | .inl (.int x), hg, ho =>
      have ho : cond (Nat.blt i μ.2.2.1) (x_k32 (x + z) (fun r => x_lst (pc + 3) en cl sl h ((i, .inl (.int r)) :: L.filter (x_keep1 i)) S)) none = some outs := ho
      cases hc : Nat.blt i μ.2.2.1 with
      | false => rw [hc] at ho; cases ho
      | true =>
        rw [hc] at ho
        have ho : x_k32 (x + z) (fun r => x_lst (pc + 3) en cl sl h ((i, .inl (.int r)) :: L.filter (x_keep1 i)) S) = some outs := ho
        rw [x_k32_eq] at ho
        have ho : x_spine ((i, .inl (.int (x + z))) :: L.filter (x_keep1 i)) (fun L => some [Sum.inr (pc + 3, en, cl, sl, h, L, S)]) = some outs := ho
        rw [x_spine_eq] at ho
        have ho := Option.some.inj ho
        subst ho
        obtain ⟨v, dv, hm⟩ := x_get_den jd hg
        have dv : v = .int x := dv
        subst dv
        obtain ⟨k, hk⟩ := List.getElem?_of_mem hm
        exact lv_iinc hx hb hd jl hk (by rw [hz]) (Nat.le_of_ble_eq_true hc) rfl (fun ls hl => K _ (x_mem1 _) _ _ _ _ _ _ ⟨je, jc, js, jg, ⟨_, hl, ⟨⟨rfl, rfl⟩, x_ldens_filter (x_keep1_den i) jd⟩⟩, jS, jx, jo, jk⟩)

end STEPS
end
